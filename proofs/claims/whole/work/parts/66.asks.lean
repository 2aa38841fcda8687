/-! WHO ASKS WHOM for what -/
def asV (M : MS) (n p b j i : Nat) (A : Int32) : Option Nat := if bt (pc M i 3) j = 1 then asM M n p b j i A else none
def asA (M : MS) (n p b j : Nat) : Nat → Int32
  | 0 => 0
  | i + 1 => match asV M n p b j i (asA M n p b j i) with
    | none => asA M n p b j i
    | some k => asA M n p b j i ||| ((1 : Int32) <<< (nI k &&& 31))
def spM (M : MS) (n p b j i : Nat) : Option Nat := asV M n p b j i (asA M n p b j i)
theorem asA_none {M : MS} {n p b j i : Nat} (e : spM M n p b j i = none) : asA M n p b j (i + 1) = asA M n p b j i := by
  show (match asV M n p b j i (asA M n p b j i) with | none => _ | some k => _) = _
  rw [show asV M n p b j i (asA M n p b j i) = none from e]
theorem asA_some {M : MS} {n p b j i k : Nat} (e : spM M n p b j i = some k) : asA M n p b j (i + 1) = asA M n p b j i ||| ((1 : Int32) <<< (nI k &&& 31)) := by
  show (match asV M n p b j i (asA M n p b j i) with | none => _ | some k => _) = _
  rw [show asV M n p b j i (asA M n p b j i) = some k from e]
theorem spM_lt {M : MS} {n p b j i k : Nat} (hb4 : b ≤ 4) (h : spM M n p b j i = some k) : k / 4 < p ∧ k % 4 < b := by
  unfold spM asV at h
  by_cases q : bt (pc M i 3) j = 1
  · rw [if_pos q] at h; exact asM_lt hb4 h
  · rw [if_neg q] at h; cases h
theorem copies_l {h : Hp} {w q n p : Nat} {M : MS} (hd : q + 27 ≤ w) (S : SwR h q M n) (hn : n ≤ 6) (h0 : M.1 0 = nI n) (h1 : M.1 1 = nI p) (hp : p ≤ 8) : ∀ (r k fuel : Nat) (hh : Hp), k + r = p → r < fuel → (∀ z, z ≠ w + 2 → same h hh z) → (∀ x, x < k → hI hh (w + 2) x = cpM M n x) → ∃ h2, f_X2_askForBlocks_l2 w q fuel (nI k) hh = some h2 ∧ (∀ z, z ≠ w + 2 → same h h2 z) ∧ (∀ x, x < p → hI h2 (w + 2) x = cpM M n x) := by
  intro r
  induction r with
  | zero =>
    intro k fuel hh hi hf e1 e2
    obtain ⟨fuel, rfl⟩ : ∃ z, fuel = z + 1 := ⟨fuel - 1, by omega⟩
    have : k = p := by omega
    subst this
    have hs : hI hh q 0 = nI k := by rw [hI_eq (e1 q (by omega)).1]; exact S.1.1.trans h1
    exact ⟨hh, by rw [f_X2_askForBlocks_l2_s, hs, if_pos (Int32.le_refl _)], e1, e2⟩
  | succ r ih =>
    intro k fuel hh hi hf e1 e2
    obtain ⟨fuel, rfl⟩ : ∃ z, fuel = z + 1 := ⟨fuel - 1, by omega⟩
    have hs : hI hh q 0 = nI p := by rw [hI_eq (e1 q (by omega)).1]; exact S.1.1.trans h1
    have S1 : SwR hh q M n := SwR_congr hn (fun a g1 g2 => (e1 a (by omega)).1) (e1 q (by omega)).2.1 (fun a g1 g2 => (e1 a (by omega)).2.2) S
    rw [f_X2_askForBlocks_l2_s, hs, if_neg (nI_ge (by omega) (by omega)), x3_copies S1 hn h0, bn1_some, if_pos (inb_nI (by omega) (by decide)), nI_clamp (by omega), nI_1]
    refine ih (k + 1) fuel _ (by omega) (by omega) (fun z hz => same_tr (e1 z hz) (same_sI hz)) (fun x hx => ?_)
    by_cases e : x = k
    · subst e; rw [hI_sI]
    · rw [hI_sIj _ _ _ e]; exact e2 x (by omega)
theorem c_ask_i {h : Hp} {w q n p b j : Nat} {M : MS} (hd : q + 27 ≤ w) (S : SwR h q M n) (W : WFs M n p b) (hj : j < n) (hc : ∀ x, x < p → hI h (w + 2) x = cpM M n x) : ∀ (r i fuel : Nat) (hh : Hp), i + r = n → r < fuel → (∀ z, z ≠ w + 3 → same h hh z) → (∀ j' i', i' < n → j' < 6 → (j' < j ∨ (j' = j ∧ i' < i)) → hI hh (w + 3) (6 * i' + j') = oI (spM M n p b j' i')) → ∃ h2, f_X2_askForBlocks_l42 w q (nI j) fuel (asA M n p b j i) (nI i) hh = some h2 ∧ (∀ z, z ≠ w + 3 → same h h2 z) ∧ (∀ j' i', i' < n → j' < 6 → (j' < j + 1) → hI h2 (w + 3) (6 * i' + j') = oI (spM M n p b j' i')) := by
  have hn := W.1.2
  intro r
  induction r with
  | zero =>
    intro i fuel hh hi hf e1 e2
    obtain ⟨fuel, rfl⟩ : ∃ z, fuel = z + 1 := ⟨fuel - 1, by omega⟩
    have : i = n := by omega
    subst this
    have hs : hI hh q 4 = nI i := by rw [hI_eq (e1 q (by omega)).1]; exact S.1.2.2.2.2.1.trans W.1.1
    exact ⟨hh, by rw [f_X2_askForBlocks_l42_s, hs, if_pos (Int32.le_refl _)], e1, fun j' i' g1 g2 g3 => e2 j' i' g1 g2 (by omega)⟩
  | succ r ih =>
    intro i fuel hh hi hf e1 e2
    obtain ⟨fuel, rfl⟩ : ∃ z, fuel = z + 1 := ⟨fuel - 1, by omega⟩
    have hs : hI hh q 4 = nI n := by rw [hI_eq (e1 q (by omega)).1]; exact S.1.2.2.2.2.1.trans W.1.1
    have S1 : SwR hh q M n := SwR_congr hn (fun a g1 g2 => (e1 a (by omega)).1) (e1 q (by omega)).2.1 (fun a g1 g2 => (e1 a (by omega)).2.2) S
    have Pi : PeR hh (q + 2 + 1 + 4 * i) i M := S1.2.2.2 i (by omega)
    have hc1 : ∀ x, x < p → hI hh (w + 2) x = cpM M n x := fun x hx => by rw [hI_eq (e1 (w + 2) (by omega)).1]; exact hc x hx
    have step : ∀ v : Option Nat, spM M n p b j i = v → ∃ h2, f_X2_askForBlocks_j82 (f_X2_askForBlocks_l42 w q (nI j) fuel) hh w q (nI j) (asA M n p b j i) (nI i) (oI v) = some h2 ∧ (∀ z, z ≠ w + 3 → same h h2 z) ∧ (∀ j' i', i' < n → j' < 6 → (j' < j + 1) → hI h2 (w + 3) (6 * i' + j') = oI (spM M n p b j' i')) := by
      intro v hv
      unfold f_X2_askForBlocks_j82 f_X2_askForBlocks_j94
      have ix : nI i * (6 : Int32) + nI j = nI (6 * i + j) := by rw [show (6 : Int32) = nI 6 from rfl, nI_mulE, nI_add, Nat.mul_comm]
      rw [ix, if_pos (inb_nI (by omega) (by decide)), if_pos (inb_nI (by omega) (by decide)), nI_clamp (by omega), nI_1]
      have go := ih (i + 1) fuel (sI hh (w + 3) (6 * i + j) (oI v)) (by omega) (by omega) (fun z hz => same_tr (e1 z hz) (same_sI hz)) (fun j' i' g1 g2 g3 => by
        by_cases e : j' = j ∧ i' = i
        · obtain ⟨ea, eb⟩ := e
          subst ea; subst eb
          rw [hI_sI, hv]
        · rw [hI_sIj _ _ _ (by omega)]; exact e2 j' i' g1 g2 (by omega))
      cases v with
      | none =>
        rw [asA_none hv] at go
        rw [oI_none, if_pos (show (-1 : Int32) < 0 by decide)]
        exact go
      | some k =>
        have hk := spM_lt W.2.2.1.2.2 hv
        have hp8 := W.2.1.2.2
        rw [asA_some hv] at go
        rw [oI_some, if_neg (nI_pos (by omega))]
        exact go
    rw [f_X2_askForBlocks_l42_s, hs, if_neg (nI_ge (by omega) (by omega)), if_pos (inb_nI (by omega) (by decide)), nI_clamp (by omega), Pi.1.2.2.2.1, x2_choose (t := 0) S1 W hj (by omega) hc1, bn1_some]
    show ∃ h2, (if bt (pc M i 3) j = 0 then _ else _) = _ ∧ _
    by_cases o1 : bt (pc M i 3) j = 1
    · rw [if_neg (by rw [o1]; decide)]
      exact step _ (by unfold spM asV; rw [if_pos o1])
    · rw [if_pos ((bt_01 _ _).resolve_right o1)]
      exact step none (by unfold spM asV; rw [if_neg o1])
theorem c_ask_j {h : Hp} {w q n p b : Nat} {M : MS} (hd : q + 27 ≤ w) (S : SwR h q M n) (W : WFs M n p b) (hc : ∀ x, x < p → hI h (w + 2) x = cpM M n x) : ∀ (r j fuel : Nat) (hh : Hp), j + r = n → r < fuel → (∀ z, z ≠ w + 3 → same h hh z) → (∀ j' i', i' < n → j' < 6 → j' < j → hI hh (w + 3) (6 * i' + j') = oI (spM M n p b j' i')) → ∃ h2, f_X2_askForBlocks_l29 w q fuel (nI j) hh = some h2 ∧ (∀ z, z ≠ w + 3 → same h h2 z) ∧ (∀ j' i', i' < n → j' < 6 → j' < n → hI h2 (w + 3) (6 * i' + j') = oI (spM M n p b j' i')) := by
  have hn := W.1.2
  intro r
  induction r with
  | zero =>
    intro j fuel hh hi hf e1 e2
    obtain ⟨fuel, rfl⟩ : ∃ z, fuel = z + 1 := ⟨fuel - 1, by omega⟩
    have : j = n := by omega
    subst this
    have hs : hI hh q 4 = nI j := by rw [hI_eq (e1 q (by omega)).1]; exact S.1.2.2.2.2.1.trans W.1.1
    exact ⟨hh, by rw [f_X2_askForBlocks_l29_s, hs, if_pos (Int32.le_refl _)], e1, e2⟩
  | succ r ih =>
    intro j fuel hh hi hf e1 e2
    obtain ⟨fuel, rfl⟩ : ∃ z, fuel = z + 1 := ⟨fuel - 1, by omega⟩
    have hs : hI hh q 4 = nI n := by rw [hI_eq (e1 q (by omega)).1]; exact S.1.2.2.2.2.1.trans W.1.1
    obtain ⟨h2, c1, c2, c3⟩ := c_ask_i (h := h) hd S W (show j < n by omega) hc n 0 fu hh (by omega) (by show n < 5000; omega) e1 (fun j' i' g1 g2 g3 => e2 j' i' g1 g2 (by omega))
    rw [f_X2_askForBlocks_l29_s, hs, if_neg (nI_ge (by omega) (by omega)), show f_X2_askForBlocks_l42 w q (nI j) fu 0 0 hh = _ from c1, bn1_some, nI_1]
    exact ih (j + 1) fuel h2 (by omega) (by omega) c2 c3
theorem c_asks {h : Hp} {w q n p b : Nat} {M : MS} (hd : q + 27 ≤ w) (S : SwR h q M n) (W : WFs M n p b) : ∃ h2, f_X2_askForBlocks h w q = some h2 ∧ (∀ z, z ≠ w + 2 → z ≠ w + 3 → same h h2 z) ∧ (∀ j i, j < n → i < n → hI h2 (w + 3) (6 * i + j) = oI (spM M n p b j i)) := by
  have hn := W.1.2
  have hp := W.2.1.2.2
  obtain ⟨h1, a1, a2, a3⟩ := copies_l hd S hn W.1.1 W.2.1.1 hp p 0 fu h (by omega) (by show p < 5000; omega) (fun _ _ => same_rfl _ _) (fun x hx => absurd hx (Nat.not_lt_zero x))
  have S1 : SwR h1 q M n := SwR_congr hn (fun a g1 g2 => (a2 a (by omega)).1) (a2 q (by omega)).2.1 (fun a g1 g2 => (a2 a (by omega)).2.2) S
  obtain ⟨h2, b1, b2, b3⟩ := c_ask_j (h := h1) hd S1 W a3 n 0 fu h1 (by omega) (by show n < 5000; omega) (fun _ _ => same_rfl _ _) (fun j' i' _ _ hx => absurd hx (Nat.not_lt_zero j'))
  refine ⟨h2, ?_, fun z g1 g2 => same_tr (a2 z g1) (b2 z g2), fun j i g1 g2 => b3 j i g2 (by omega) g1⟩
  unfold f_X2_askForBlocks
  rw [show f_X2_askForBlocks_l2 w q fu 0 h = _ from a1, bn1_some, show f_X2_askForBlocks_l29 w q fu 0 h1 = _ from b1]; rfl
/-! the reference's -/
theorem r_clear_l {h : Hp} {m : Nat} {v : Int32} : ∀ (r k fuel : Nat) (hh : Hp), k + r = 32 → r < fuel → (∀ z, z ≠ m + 8 → same h hh z) → (∀ x, x < k → hI hh (m + 8) x = 0) → ∃ h2, f_X6_asks_l2 m v fuel (nI k) hh = some h2 ∧ (∀ z, z ≠ m + 8 → same h h2 z) ∧ (∀ x, x < 32 → hI h2 (m + 8) x = 0) := by
  intro r
  induction r with
  | zero =>
    intro k fuel hh hi hf e1 e2
    obtain ⟨fuel, rfl⟩ : ∃ z, fuel = z + 1 := ⟨fuel - 1, by omega⟩
    have : k = 32 := by omega
    subst this
    exact ⟨hh, by rw [f_X6_asks_l2_s, if_pos (by decide)], e1, e2⟩
  | succ r ih =>
    intro k fuel hh hi hf e1 e2
    obtain ⟨fuel, rfl⟩ : ∃ z, fuel = z + 1 := ⟨fuel - 1, by omega⟩
    rw [f_X6_asks_l2_s, if_neg (show ¬ (32 : Int32) ≤ nI k from nI_ge (b := 32) (by omega) (by decide)), if_pos (inb_nI (by omega) (by decide)), if_pos (show isBb 0 = true from rfl), nI_clamp (by omega), nI_1]
    refine ih (k + 1) fuel _ (by omega) (by omega) (fun z hz => same_tr (e1 z hz) (same_sI hz)) (fun x hx => ?_)
    by_cases e : x = k
    · subst e; rw [hI_sI]
    · rw [hI_sIj _ _ _ e]; exact e2 x (by omega)
theorem r_ask_i {h : Hp} {m n p b j : Nat} (W : WFs (rv h m) n p b) (hj : j < n) : ∀ (r i fuel : Nat) (hh : Hp), i + r = n → r < fuel → (∀ z, z ≠ m + 7 → z ≠ m + 8 → same h hh z) → (∀ k, k < 32 → hI hh (m + 8) k = b01 (bitb (asA (rv h m) n p b j i) k)) → (∀ i', i' < i → hI hh (m + 7) (6 * j + i') = oI (spM (rv h m) n p b j i')) → (∀ x, x < 6 * j ∨ 6 * j + 6 ≤ x → hI hh (m + 7) x = hI h (m + 7) x) → ∃ h2, f_X6_asks_l23 m (nI j) fuel (nI i) hh = some h2 ∧ (∀ z, z ≠ m + 7 → z ≠ m + 8 → same h h2 z) ∧ (∀ i', i' < n → hI h2 (m + 7) (6 * j + i') = oI (spM (rv h m) n p b j i')) ∧ (∀ x, x < 6 * j ∨ 6 * j + 6 ≤ x → hI h2 (m + 7) x = hI h (m + 7) x) := by
  have hn := W.1.2
  have rvE : ∀ hh : Hp, (∀ z, z ≠ m + 7 → z ≠ m + 8 → same h hh z) → rv hh m = rv h m := fun hh e => by
    unfold rv hI hF hL
    rw [(e (m + 2) (by omega) (by omega)).1, (e (m + 3) (by omega) (by omega)).2.2, (e m (by omega) (by omega)).2.1]
  intro r
  induction r with
  | zero =>
    intro i fuel hh hi hf e1 e2 e3 e4
    obtain ⟨fuel, rfl⟩ : ∃ z, fuel = z + 1 := ⟨fuel - 1, by omega⟩
    have : i = n := by omega
    subst this
    have hs : hI hh (m + 2) (0 : Int32).toNatClampNeg = nI i := by rw [hI_eq (e1 (m + 2) (by omega) (by omega)).1]; exact W.1.1
    exact ⟨hh, by rw [f_X6_asks_l23_s, hs, if_pos (Int32.le_refl _)], e1, e3, e4⟩
  | succ r ih =>
    intro i fuel hh hi hf e1 e2 e3 e4
    obtain ⟨fuel, rfl⟩ : ∃ z, fuel = z + 1 := ⟨fuel - 1, by omega⟩
    have hs : hI hh (m + 2) (0 : Int32).toNatClampNeg = nI n := by rw [hI_eq (e1 (m + 2) (by omega) (by omega)).1]; exact W.1.1
    have rE := rvE hh e1
    have step : ∀ v : Option Nat, spM (rv h m) n p b j i = v → ∃ h2, f_X6_asks_j56 (f_X6_asks_l23 m (nI j) fuel) hh m (nI j) (nI i) (oI v) = some h2 ∧ (∀ z, z ≠ m + 7 → z ≠ m + 8 → same h h2 z) ∧ (∀ i', i' < n → hI h2 (m + 7) (6 * j + i') = oI (spM (rv h m) n p b j i')) ∧ (∀ x, x < 6 * j ∨ 6 * j + 6 ≤ x → hI h2 (m + 7) x = hI h (m + 7) x) := by
      intro v hv
      unfold f_X6_asks_j56 f_X6_asks_j80
      have ix : (6 : Int32) * nI j + nI i = nI (6 * j + i) := by rw [show (6 : Int32) = nI 6 from rfl, nI_mulE, nI_add]
      rw [ix, if_pos (inb_nI (by omega) (by decide)), nI_clamp (by omega), nI_1]
      cases v with
      | none =>
        rw [oI_none, if_pos (show (-1 : Int32) = -1 from rfl)]
        refine ih (i + 1) fuel _ (by omega) (by omega) (fun z g1 g2 => same_tr (e1 z g1 g2) (same_sI g1)) (fun k hk => ?_) (fun i' hi' => ?_) (fun x hx => ?_)
        · rw [asA_none hv, hI_sIb _ _ _ _ (by omega)]; exact e2 k hk
        · by_cases e : i' = i
          · subst e; rw [hI_sI, hv]; rfl
          · rw [hI_sIj _ _ _ (by omega)]; exact e3 i' (by omega)
        · rw [hI_sIj _ _ _ (by omega)]; exact e4 x hx
      | some k =>
        have hk := spM_lt W.2.2.1.2.2 hv
        have hp8 := W.2.1.2.2
        rw [oI_some, if_neg (nI_nm1 (by omega)), if_pos (inb_nI (by omega) (by decide)), if_pos (show isBb 1 = true from rfl), nI_clamp (by omega)]
        refine ih (i + 1) fuel _ (by omega) (by omega) (fun z g1 g2 => same_tr (e1 z g1 g2) (same_tr (same_sI g1) (same_sI g2))) (fun x hx => ?_) (fun i' hi' => ?_) (fun x hx => ?_)
        · rw [asA_some hv, bitb_or1 (by omega) hx]
          by_cases e : x = k
          · subst e; rw [hI_sI]; simp [b01]
          · rw [hI_sIj _ _ _ e, hI_sIb _ _ _ _ (by omega), e2 x hx]; simp [e]
        · rw [hI_sIb _ _ _ _ (by omega)]
          by_cases e : i' = i
          · subst e; rw [hI_sI, hv]; rfl
          · rw [hI_sIj _ _ _ (by omega)]; exact e3 i' (by omega)
        · rw [hI_sIb _ _ _ _ (by omega), hI_sIj _ _ _ (by omega)]; exact e4 x hx
    have W1 : WFs (rv hh m) n p b := by rw [rE]; exact W
    rw [f_X6_asks_l23_s, hs, if_neg (nI_ge (by omega) (by omega)), show f_X6_cellOf hh m (nI i) 3 = _ from x6_cell (c := 3) (by omega) (by decide), bn1_some, x6_askedOf (j := j) (i := i) W1 (by omega) (by omega) e2, bn1_some, rE]
    show ∃ h2, (if bt (pc (rv h m) i 3) j = 1 then _ else _) = _ ∧ _
    by_cases o1 : bt (pc (rv h m) i 3) j = 1
    · rw [if_pos o1]
      exact step _ (by unfold spM asV; rw [if_pos o1])
    · rw [if_neg o1]
      exact step none (by unfold spM asV; rw [if_neg o1])
theorem r_ask {h : Hp} {m n p b j : Nat} (W : WFs (rv h m) n p b) (hj : j < n) : ∃ h2, f_X6_asks h m (nI j) = some h2 ∧ (∀ z, z ≠ m + 7 → z ≠ m + 8 → same h h2 z) ∧ (∀ i', i' < n → hI h2 (m + 7) (6 * j + i') = oI (spM (rv h m) n p b j i')) ∧ (∀ x, x < 6 * j ∨ 6 * j + 6 ≤ x → hI h2 (m + 7) x = hI h (m + 7) x) := by
  have hn := W.1.2
  obtain ⟨h1, a1, a2, a3⟩ := r_clear_l (h := h) (m := m) (v := nI j) 32 0 fu h (by omega) (by decide) (fun _ _ => same_rfl _ _) (fun x hx => absurd hx (Nat.not_lt_zero x))
  obtain ⟨h2, b1, b2, b3, b4⟩ := r_ask_i (h := h) (m := m) W hj n 0 fu h1 (by omega) (by show n < 5000; omega) (fun z g1 g2 => a2 z g2) (fun k hk => by rw [a3 k hk, show asA (rv h m) n p b j 0 = 0 from rfl, bitb_0 hk]; rfl) (fun i' hi' => absurd hi' (Nat.not_lt_zero i')) (fun x hx => hI_eq (a2 _ (by omega)).1 x)
  refine ⟨h2, ?_, b2, b3, b4⟩
  unfold f_X6_asks
  rw [show f_X6_asks_l2 m (nI j) fu 0 h = _ from a1, bn1_some, show f_X6_asks_l23 m (nI j) fu 0 h1 = _ from b1]; rfl
theorem r_asks_l {h : Hp} {m n p b : Nat} (W : WFs (rv h m) n p b) : ∀ (r j fuel : Nat) (hh : Hp), j + r = n → r < fuel → (∀ z, z ≠ m + 7 → z ≠ m + 8 → same h hh z) → (∀ j' i', j' < j → i' < n → hI hh (m + 7) (6 * j' + i') = oI (spM (rv h m) n p b j' i')) → ∃ h2, f_X6_round_l47 m fuel (nI j) hh = some h2 ∧ (∀ z, z ≠ m + 7 → z ≠ m + 8 → same h h2 z) ∧ (∀ j' i', j' < n → i' < n → hI h2 (m + 7) (6 * j' + i') = oI (spM (rv h m) n p b j' i')) := by
  have hn := W.1.2
  have rvE : ∀ hh : Hp, (∀ z, z ≠ m + 7 → z ≠ m + 8 → same h hh z) → rv hh m = rv h m := fun hh e => by
    unfold rv hI hF hL
    rw [(e (m + 2) (by omega) (by omega)).1, (e (m + 3) (by omega) (by omega)).2.2, (e m (by omega) (by omega)).2.1]
  intro r
  induction r with
  | zero =>
    intro j fuel hh hi hf e1 e2
    obtain ⟨fuel, rfl⟩ : ∃ z, fuel = z + 1 := ⟨fuel - 1, by omega⟩
    have : j = n := by omega
    subst this
    have hs : hI hh (m + 2) (0 : Int32).toNatClampNeg = nI j := by rw [hI_eq (e1 (m + 2) (by omega) (by omega)).1]; exact W.1.1
    exact ⟨hh, by rw [f_X6_round_l47_s, hs, if_pos (Int32.le_refl _)], e1, e2⟩
  | succ r ih =>
    intro j fuel hh hi hf e1 e2
    obtain ⟨fuel, rfl⟩ : ∃ z, fuel = z + 1 := ⟨fuel - 1, by omega⟩
    have hs : hI hh (m + 2) (0 : Int32).toNatClampNeg = nI n := by rw [hI_eq (e1 (m + 2) (by omega) (by omega)).1]; exact W.1.1
    have rE := rvE hh e1
    obtain ⟨h2, c1, c2, c3, c4⟩ := r_ask (h := hh) (m := m) (n := n) (p := p) (b := b) (by rw [rE]; exact W) (show j < n by omega)
    rw [rE] at c3
    rw [f_X6_round_l47_s, hs, if_neg (nI_ge (by omega) (by omega)), c1, bn1_some, nI_1]
    refine ih (j + 1) fuel h2 (by omega) (by omega) (fun z g1 g2 => same_tr (e1 z g1 g2) (c2 z g1 g2)) (fun j' i' g1 g2 => ?_)
    by_cases e : j' = j
    · subst e; exact c3 i' g2
    · rw [c4 _ (by omega)]; exact e2 j' i' (by omega) g2
