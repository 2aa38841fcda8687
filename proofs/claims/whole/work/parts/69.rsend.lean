/-! BLOCKS ARE SENT: the reference -/
theorem al_t : ∀ a, a < 64 → ∀ i, i < 6 → bt (nI a) i = 1 → (nI a = (1 : Int32) <<< (nI i &&& 31) ↔ nI a &&& (nI a - 1) = 0) := by decide +kernel
theorem se_nI {M : MS} {n b j k : Nat} (hn : n ≤ 6) (F : fulM M n b j k) : ∀ z, z ≤ b → ∃ a, a < 64 ∧ seM M j k z = nI a
  | 0, _ => ⟨0, by decide, rfl⟩
  | z + 1, hz => by
    obtain ⟨a, ha, e⟩ := se_nI hn F z (by omega)
    obtain ⟨x, hx, ex⟩ := F z (by omega)
    refine ⟨a ||| 2 ^ x, Nat.or_lt_two_pow (n := 6) ha (Nat.pow_lt_pow_right (by decide) (by omega)), ?_⟩
    show seM M j k z ||| ((1 : Int32) <<< (pc M j (15 + (4 * k + z)) &&& 31)) = _
    rw [e, ex, or_nI a (by omega)]
theorem r_susp_l {h : Hp} {m n j a : Nat} {M : MS} (hj : j < 6) (hn : n ≤ 6) (ha : a < 64) (h0 : M.1 0 = nI n) : ∀ (r i fuel : Nat) (hh : Hp), i + r = n → r < fuel → (∀ z, z ≠ m + 2 → same h hh z) → rv hh m = suM M j (nI a) i → ∃ h2, f_X6_drops_l49 m (nI j) (nI a) fuel (nI i) hh = some h2 ∧ (∀ z, z ≠ m + 2 → same h h2 z) ∧ rv h2 m = suM M j (nI a) n := by
  intro r
  induction r with
  | zero =>
    intro i fuel hh hi hf e1 e2
    obtain ⟨fuel, rfl⟩ : ∃ z, fuel = z + 1 := ⟨fuel - 1, by omega⟩
    have : i = n := by omega
    subst this
    have hs : hI hh (m + 2) (0 : Int32).toNatClampNeg = nI i := (congrArg (fun z : MS => z.1 0) e2).trans ((suM_N (by decide) i).trans h0)
    exact ⟨hh, by rw [f_X6_drops_l49_s, hs, if_pos (Int32.le_refl _)], e1, e2⟩
  | succ r ih =>
    intro i fuel hh hi hf e1 e2
    obtain ⟨fuel, rfl⟩ : ∃ z, fuel = z + 1 := ⟨fuel - 1, by omega⟩
    have hs : hI hh (m + 2) (0 : Int32).toNatClampNeg = nI n := (congrArg (fun z : MS => z.1 0) e2).trans ((suM_N (by decide) i).trans h0)
    have ih1 := fun h3 => ih (i + 1) fuel h3 (by omega) (by omega)
    rw [suM_s] at ih1
    rw [f_X6_drops_l49_s, hs, if_neg (nI_ge (by omega) (by omega))]
    unfold f_X6_drops_j111 f_X6_drops_j116 f_X6_drops_j143 f_X6_drops_j145
    rw [nI_1]
    show ∃ h2, (if bt (nI a) i = 1 then _ else _) = _ ∧ _
    by_cases c1 : bt (nI a) i = 1
    · rw [if_pos c1]
      rw [if_pos c1] at ih1
      have ek : nI (14 + 48 * j) + 8 + nI i = nI (14 + 48 * j + (8 + i)) := by
        rw [show (8 : Int32) = nI 8 from rfl, nI_add, nI_add, show 14 + 48 * j + 8 + i = 14 + 48 * j + (8 + i) by omega]
      obtain ⟨d1, d2, d3⟩ := rv_cell (h := hh) (m := m) (v := pc (suM M j (nI a) i) j (8 + i) + 1) hj (show 8 + i < 48 by omega) _ ek
      rw [e2] at d2 d3
      rw [x6_at, bn1_some, if_pos d1, if_pos d1, d3]
      generalize hg : sI hh (m + 2) (nI (14 + 48 * j) + 8 + nI i).toNatClampNeg (pc (suM M j (nI a) i) j (8 + i) + 1) = g at d2 ⊢
      have fg : ∀ z, z ≠ m + 2 → same h g z := fun z hz => by rw [← hg]; exact same_tr (e1 z hz) (same_sI hz)
      have ce : f_X6_cellOf g m (nI j) (8 + nI i) = some (pc (suM M j (nI a) i) j (8 + i) + 1) := by
        rw [show (8 : Int32) + nI i = nI (8 + i) from nI_add 8 i, x6_cell hj (by omega), d2, setP_same]
      rw [ce, bn1_some]
      have c5 := rv_cell (h := g) (m := m) (i := j) (c := 5) (v := pc (suM M j (nI a) i) j 5 ||| ((1 : Int32) <<< (nI i &&& 31))) hj (by decide) (nI (14 + 48 * j) + 5) (nI_add _ 5)
      have c5b := rv_cell (h := g) (m := m) (i := j) (c := 5) (v := pc (suM M j (nI a) i) j 5) hj (by decide) (nI (14 + 48 * j) + 5) (nI_add _ 5)
      have p5 : pc (rv g m) j 5 = pc (suM M j (nI a) i) j 5 := by rw [d2, setP_c _ _ (by omega) (by decide) (by omega)]
      simp only [x6_at, bn1_some, c5.2.2, p5, or_0, c5.1, eq_self, if_true, one_ne_zero32, if_false]
      have go1 : ∃ h2, f_X6_drops_l49 m (nI j) (nI a) fuel (nI (i + 1)) (sI g (m + 2) (nI (14 + 48 * j) + 5).toNatClampNeg (pc (suM M j (nI a) i) j 5 ||| ((1 : Int32) <<< (nI i &&& 31)))) = some h2 ∧ (∀ z, z ≠ m + 2 → same h h2 z) ∧ rv h2 m = suM M j (nI a) n ∨ ¬ (nI a &&& (nI a - 1) = 0 ∨ ¬ pc (suM M j (nI a) i) j (8 + i) + 1 ≤ 1) := by
        by_cases c2 : nI a &&& (nI a - 1) = 0 ∨ ¬ pc (suM M j (nI a) i) j (8 + i) + 1 ≤ 1
        · rw [if_pos c2] at ih1
          obtain ⟨h2, q⟩ := ih1 (sI g (m + 2) (nI (14 + 48 * j) + 5).toNatClampNeg (pc (suM M j (nI a) i) j 5 ||| ((1 : Int32) <<< (nI i &&& 31)))) (fun z hz => same_tr (fg z hz) (same_sI hz)) (by rw [c5.2.1, d2])
          exact ⟨h2, Or.inl q⟩
        · exact ⟨h, Or.inr c2⟩
      by_cases al : nI a = (1 : Int32) <<< (nI i &&& 31)
      · rw [if_pos al]
        obtain ⟨h2, q | q⟩ := go1
        · exact ⟨h2, q⟩
        · exact absurd (Or.inl ((al_t a ha i (by omega) c1).mp al)) q
      · rw [if_neg al]
        by_cases c2 : pc (suM M j (nI a) i) j (8 + i) + 1 ≤ 1
        · rw [if_pos c2]
          rw [if_neg (fun z => z.elim (fun y => al ((al_t a ha i (by omega) c1).mpr y)) (fun y => y c2))] at ih1
          refine ih1 _ (fun z hz => same_tr (fg z hz) (same_sI hz)) ?_
          rw [c5b.2.1, d2, setP_id _ (by rw [setP_c _ _ (by omega) (by decide) (by omega)])]
        · rw [if_neg c2]
          obtain ⟨h2, q | q⟩ := go1
          · exact ⟨h2, q⟩
          · exact absurd (Or.inr c2) q
    · rw [if_neg c1]
      rw [if_neg c1] at ih1
      exact ih1 hh e1 e2
theorem r_se_l {h : Hp} {m n b j k : Nat} (hj : j < 6) (hk : k < 8) (h2 : (rv h m).1 2 = nI b) (hb : b ≤ 4) : ∀ (r z fuel : Nat), z + r = b → r < fuel → f_X6_drops_l5 h m (nI j) (nI k) fuel (seM (rv h m) j k z) (nI z) = some (seM (rv h m) j k b) := by
  have e2 : hI h (m + 2) (2 : Int32).toNatClampNeg = nI b := h2
  intro r
  induction r with
  | zero =>
    intro z fuel hz hf
    obtain ⟨fuel, rfl⟩ : ∃ z, fuel = z + 1 := ⟨fuel - 1, by omega⟩
    have : z = b := by omega
    subst this
    rw [f_X6_drops_l5_s, e2, if_pos (Int32.le_refl _)]
  | succ r ih =>
    intro z fuel hz hf
    obtain ⟨fuel, rfl⟩ : ∃ z, fuel = z + 1 := ⟨fuel - 1, by omega⟩
    rw [f_X6_drops_l5_s, e2, if_neg (nI_ge (by omega) (by omega)), x6_source hj hk (by omega), bn1_some, nI_1]
    exact ih (z + 1) fuel (by omega) (by omega)
theorem r_wl_l {h : Hp} {m n b j k : Nat} (hj : j < 6) (hk : k < 8) (hn : n ≤ 6) (h2 : (rv h m).1 2 = nI b) (hb : b ≤ 4) (F : fulM (rv h m) n b j k) : ∀ (r z fuel : Nat), z + r = b → r < fuel → f_X6_looksAt_l5 h m (nI j) (nI k) fuel (b01 (wlM (rv h m) j k z)) (nI z) = some (b01 (wlM (rv h m) j k b)) := by
  have e2 : hI h (m + 2) (2 : Int32).toNatClampNeg = nI b := h2
  intro r
  induction r with
  | zero =>
    intro z fuel hz hf
    obtain ⟨fuel, rfl⟩ : ∃ z, fuel = z + 1 := ⟨fuel - 1, by omega⟩
    have : z = b := by omega
    subst this
    rw [f_X6_looksAt_l5_s, e2, if_pos (Int32.le_refl _)]
  | succ r ih =>
    intro z fuel hz hf
    obtain ⟨fuel, rfl⟩ : ∃ z, fuel = z + 1 := ⟨fuel - 1, by omega⟩
    have ih1 := ih (z + 1) fuel (by omega) (by omega)
    obtain ⟨x, hx, ex⟩ := F z (by omega)
    rw [f_X6_looksAt_l5_s, e2, if_neg (nI_ge (by omega) (by omega)), x6_source hj hk (by omega), bn1_some, ex, show f_X6_cellOf h m (nI x) 0 = _ from x6_cell (c := 0) (by omega) (by decide), bn1_some]
    unfold f_X6_looksAt_j41 f_X6_looksAt_j42
    rw [nI_1]
    rw [show wlM (rv h m) j k (z + 1) = (wlM (rv h m) j k z && decide (pc (rv h m) (pc (rv h m) j (15 + (4 * k + z))).toNatClampNeg 0 ≠ 2)) from rfl, ex, nI_clamp (by omega)] at ih1
    generalize wlM (rv h m) j k z = X at ih1 ⊢
    cases X
    · rw [if_pos (show b01 false = 0 from rfl)]
      rw [Bool.false_and] at ih1
      exact ih1
    · rw [if_neg (show ¬ b01 true = 0 by decide)]
      rw [Bool.true_and] at ih1
      by_cases c : pc (rv h m) x 0 = 2
      · rw [if_pos c]
        rw [show decide (pc (rv h m) x 0 ≠ 2) = false by simp [c]] at ih1
        exact ih1
      · rw [if_neg c]
        rw [show decide (pc (rv h m) x 0 ≠ 2) = true by simp [c]] at ih1
        exact ih1
theorem r_clr_l {h : Hp} {m i k : Nat} (hi : i < 6) (hk : k < 8) : ∀ (r z fuel : Nat) (hh : Hp), z + r = 4 → r < fuel → (∀ x, x ≠ m + 2 → same h hh x) → rv hh m = clrP (rv h m) i k z → ∃ h2, f_X6_looksAt_l82 m (nI i) (nI k) fuel (nI z) hh = some h2 ∧ (∀ x, x ≠ m + 2 → same h h2 x) ∧ rv h2 m = clrP (rv h m) i k 4 := by
  intro r
  induction r with
  | zero =>
    intro z fuel hh hz hf e1 e2
    obtain ⟨fuel, rfl⟩ : ∃ z, fuel = z + 1 := ⟨fuel - 1, by omega⟩
    have : z = 4 := by omega
    subst this
    exact ⟨hh, by rw [f_X6_looksAt_l82_s, if_pos (by decide)], e1, e2⟩
  | succ r ih =>
    intro z fuel hh hz hf e1 e2
    obtain ⟨fuel, rfl⟩ : ∃ z, fuel = z + 1 := ⟨fuel - 1, by omega⟩
    have ek : nI (14 + 48 * i) + 15 + 4 * nI k + nI z = nI (14 + 48 * i + (15 + (4 * k + z))) := by
      rw [show (15 : Int32) = nI 15 from rfl, show (4 : Int32) = nI 4 from rfl, nI_mulE, nI_add, nI_add, nI_add, show 14 + 48 * i + 15 + 4 * k + z = 14 + 48 * i + (15 + (4 * k + z)) by omega]
    obtain ⟨c1, c2, -⟩ := rv_cell (h := hh) (m := m) (v := -1) hi (show 15 + (4 * k + z) < 48 by omega) _ ek
    rw [f_X6_looksAt_l82_s, if_neg (show ¬ (4 : Int32) ≤ nI z from nI_ge (b := 4) (by omega) (by decide)), x6_at, bn1_some, if_pos c1, nI_1]
    refine ih (z + 1) fuel _ (by omega) (by omega) (fun x hx => same_tr (e1 x hx) (same_sI hx)) ?_
    rw [c2, e2]; rfl
theorem r_look {h : Hp} {m n p b j k : Nat} (W : WFs (rv h m) n p b) (hj : j < n) (hk : k < p) (F : fulM (rv h m) n b j k) : ∃ h2, f_X6_looksAt h m (nI j) (nI k) = some h2 ∧ (∀ x, x ≠ m + 2 → same h h2 x) ∧ rv h2 m = lkM (rv h m) n b j k := by
  obtain ⟨w0, w1, w2, -⟩ := id W
  have hn := w0.2
  have hp := w1.2.2
  have L := r_wl_l (h := h) (m := m) (show j < 6 by omega) (show k < 8 by omega) hn w2.1 w2.2.2 F b 0 fu (by omega) (by show b < 5000; omega)
  have fin : ∀ g : Hp, (∀ x, x ≠ m + 2 → same h g x) → ∃ h2, f_X6_looksAt_j79 g m (nI j) (nI k) = some h2 ∧ (∀ x, x ≠ m + 2 → same h h2 x) ∧ rv h2 m = clrP (rv g m) j k 4 := by
    intro g fg
    obtain ⟨h2, d1, d2, d3⟩ := r_clr_l (h := g) (m := m) (i := j) (k := k) (by omega) (by omega) 4 0 fu g (by omega) (by decide) (fun _ _ => same_rfl _ _) rfl
    refine ⟨h2, ?_, fun x hx => same_tr (fg x hx) (d2 x hx), d3⟩
    unfold f_X6_looksAt_j79
    rw [show f_X6_looksAt_l82 m (nI j) (nI k) fu 0 g = _ from d1]; rfl
  unfold f_X6_looksAt
  rw [show f_X6_looksAt_l5 h m (nI j) (nI k) fu 1 0 = _ from L, bn1_some]
  unfold lkM
  cases hw : wlM (rv h m) j k b
  · rw [if_pos (show b01 false = 0 from rfl), if_neg (show ¬ false = true by decide)]
    obtain ⟨a, ha, ea⟩ := se_nI hn F b (Nat.le_refl _)
    have e7 : hI h (m + 2) (7 : Int32).toNatClampNeg = (rv h m).1 7 := rfl
    obtain ⟨h2, d1, d2, d3⟩ := r_susp_l (h := sI h (m + 2) 7 ((rv h m).1 7 + 1)) (m := m) (j := j) (M := updN (rv h m) 7 ((rv h m).1 7 + 1)) (by omega) hn ha (by rw [updN_ne _ _ (by decide)]; exact w0.1) n 0 fu (sI h (m + 2) 7 ((rv h m).1 7 + 1)) (by omega) (by show n < 5000; omega) (fun _ _ => same_rfl _ _) (rv_sI _ _ _ _)
    obtain ⟨h3, c1, c2, c3⟩ := fin h2 (fun x hx => same_tr (same_sI hx) (d2 x hx))
    refine ⟨h3, ?_, c2, by rw [c3, d3, ea]⟩
    unfold f_X6_drops
    rw [show f_X6_drops_l5 h m (nI j) (nI k) fu 0 0 = _ from r_se_l (n := n) (show j < 6 by omega) (show k < 8 by omega) w2.1 w2.2.2 b 0 fu (by omega) (by show b < 5000; omega), bn1_some, ea, e7]
    rw [show f_X6_drops_l49 m (nI j) (nI a) fu 0 (sI h (m + 2) (7 : Int32).toNatClampNeg ((rv h m).1 7 + 1)) = _ from d1, bn1_some, bn1_some]
    exact c1
  · rw [if_neg (show ¬ b01 true = 0 by decide), if_pos rfl]
    obtain ⟨c1, c2, c3⟩ := rv_cell (h := h) (m := m) (i := j) (c := 2) (v := pc (rv h m) j 2 ||| ((1 : Int32) <<< (nI k &&& 31))) (by omega) (by decide) (nI (14 + 48 * j) + 2) (nI_add _ 2)
    rw [x6_at, bn1_some, if_pos c1, if_pos c1, c3]
    obtain ⟨h3, d1, d2, d3⟩ := fin (sI h (m + 2) (nI (14 + 48 * j) + 2).toNatClampNeg (pc (rv h m) j 2 ||| ((1 : Int32) <<< (nI k &&& 31)))) (fun x hx => same_sI hx)
    exact ⟨h3, d1, d2, by rw [d3, c2]; rfl⟩
theorem r_all_l {h : Hp} {m n b j k : Nat} (hj : j < 6) (hk : k < 8) (h2 : (rv h m).1 2 = nI b) (hb : b ≤ 4) : ∀ (r z fuel : Nat), z + r = b → r < fuel → f_X6_sends_l107 h m (nI j) (nI k) fuel (b01 (!anyN (fun z => !hdM (rv h m) j (4 * k + z)) z)) (nI z) = some (b01 (!anyN (fun z => !hdM (rv h m) j (4 * k + z)) b)) := by
  have e2 : hI h (m + 2) (2 : Int32).toNatClampNeg = nI b := h2
  intro r
  induction r with
  | zero =>
    intro z fuel hz hf
    obtain ⟨fuel, rfl⟩ : ∃ z, fuel = z + 1 := ⟨fuel - 1, by omega⟩
    have : z = b := by omega
    subst this
    rw [f_X6_sends_l107_s, e2, if_pos (Int32.le_refl _)]
  | succ r ih =>
    intro z fuel hz hf
    obtain ⟨fuel, rfl⟩ : ∃ z, fuel = z + 1 := ⟨fuel - 1, by omega⟩
    have ih1 := ih (z + 1) fuel (by omega) (by omega)
    rw [f_X6_sends_l107_s, e2, if_neg (nI_ge (by omega) (by omega)), x6_source hj hk (by omega), bn1_some]
    unfold f_X6_sends_j140 f_X6_sends_j141
    rw [nI_1]
    rw [show anyN (fun z => !hdM (rv h m) j (4 * k + z)) (z + 1) = (anyN (fun z => !hdM (rv h m) j (4 * k + z)) z || !hdM (rv h m) j (4 * k + z)) from rfl] at ih1
    generalize anyN (fun z => !hdM (rv h m) j (4 * k + z)) z = X at ih1 ⊢
    unfold hdM at ih1
    cases X
    · rw [if_neg (show ¬ b01 (!false) = 0 by decide)]
      rw [Bool.false_or, Bool.not_not] at ih1
      by_cases c : pc (rv h m) j (15 + (4 * k + z)) = -1
      · rw [if_pos c]
        rw [show decide (pc (rv h m) j (15 + (4 * k + z)) ≠ -1) = false by simp [c]] at ih1
        exact ih1
      · rw [if_neg c]
        rw [show decide (pc (rv h m) j (15 + (4 * k + z)) ≠ -1) = true by simp [c]] at ih1
        exact ih1
    · rw [if_pos (show b01 (!true) = 0 from rfl)]
      rw [Bool.true_or] at ih1
      exact ih1
theorem all_fb {T : Nat → Bool} {b k : Nat} : (anyN (fun z => !T (4 * k + z)) b = false) ↔ fbT T b k = none := by
  unfold fbT
  rw [lsF_none, anyN_false]
  constructor
  · intro h z _ hz; exact h z (by omega)
  · intro h z hz; exact h z (by omega) (by omega)
theorem r_send3 {g : Hp} {m n p b i j k : Nat} {M : MS} (W : WFs M n p b) (hi : i < n) (hj : j < n) (hk1 : k / 4 < p) (hk2 : k % 4 < b) (s3 : Int32) (h3 : s3 = if pc M i 0 = 2 then 1 else 0) (hg : rv g m = updN (setP (setP (setP M j (15 + k) (nI i)) j 7 (pc M j 7 + 1)) i 6 (pc M i 6 + 1)) 4 (M.1 4 + 1)) : ∃ h2, f_X6_sends_j84 g (m + 2) 5 (hI g (m + 2) (5 : Int32).toNatClampNeg) s3 m (nI i) (nI j) (nI (k / 4)) = some h2 ∧ (∀ x, x ≠ m + 2 → x ≠ m + 9 → same g h2 x) ∧ rv h2 m = sdM M n b i j k ∧ hI h2 (m + 9) = upd (hI g (m + 9)) (6 * j + i) (hI g (m + 9) (6 * j + i) + 1) := by
  obtain ⟨w0, w1, w2, -⟩ := id W
  have hn := w0.2
  have hp := w1.2.2
  have hb := w2.2.2
  have W1 := snM_WFs hi hj hk1 hk2 W
  have e5 : hI g (m + 2) (5 : Int32).toNatClampNeg = M.1 5 := by
    have := congrArg (fun z : MS => z.1 5) hg
    rw [updN_ne _ _ (by decide), setP_N _ _ _ _ (by decide), setP_N _ _ _ _ (by decide), setP_N _ _ _ _ (by decide)] at this
    exact this
  have ix : (6 : Int32) * nI j + nI i = nI (6 * j + i) := by rw [show (6 : Int32) = nI 6 from rfl, nI_mulE, nI_add]
  unfold f_X6_sends_j84 f_X6_sends_j161
  rw [ix, if_pos (show inb 5 320 = true from rfl), if_pos (inb_nI (by omega) (by decide)), if_pos (inb_nI (by omega) (by decide)), nI_clamp (by omega), e5]
  generalize hg2 : sI g (m + 2) (5 : Int32).toNatClampNeg (M.1 5 + s3) = g2
  have r2 : rv g2 m = snM M i j k := by
    rw [← hg2, show (5 : Int32).toNatClampNeg = 5 from rfl, rv_sI, hg, h3, snM_ref (by omega) (by omega) (by omega)]
  have f2 : ∀ x, x ≠ m + 2 → same g g2 x := fun x hx => by rw [← hg2]; exact same_sI hx
  have ec : hI g2 (m + 9) = hI g (m + 9) := funext fun x => hI_eq (f2 _ (by omega)).1 x
  rw [ec]
  generalize hg3 : sI g2 (m + 9) (6 * j + i) (hI g (m + 9) (6 * j + i) + 1) = g3
  have r3 : rv g3 m = snM M i j k := by rw [← hg3, rv_sI_o (by omega), r2]
  have f3 : ∀ x, x ≠ m + 9 → same g2 g3 x := fun x hx => by rw [← hg3]; exact same_sI hx
  have cE : hI g3 (m + 9) = upd (hI g (m + 9)) (6 * j + i) (hI g (m + 9) (6 * j + i) + 1) := by rw [← hg3, hI_sIr, ec]
  have L := r_all_l (h := g3) (m := m) (n := n) (b := b) (j := j) (k := k / 4) (by omega) (by omega) (by rw [r3]; exact W1.2.2.1.1) hb b 0 fu (by omega) (by show b < 5000; omega)
  rw [r3] at L
  rw [show f_X6_sends_l107 g3 m (nI j) (nI (k / 4)) fu 1 0 = _ from L, bn1_some]
  unfold sdM
  cases hfb : anyN (fun z => !hdM (snM M i j k) j (4 * (k / 4) + z)) b
  · have hno := all_fb.mp hfb
    rw [if_neg (show ¬ b01 (!false) = 0 by decide), if_pos hno]
    obtain ⟨h2, d1, d2, d3⟩ := r_look (h := g3) (m := m) (n := n) (p := p) (b := b) (j := j) (k := k / 4) (by rw [r3]; exact W1) hj hk1 (by rw [r3]; exact ful_of W1 hj (by omega) hno)
    rw [d1, bn1_some]
    refine ⟨h2, rfl, fun x g1 g4 => same_tr (f2 x g1) (same_tr (f3 x g4) (d2 x g1)), by rw [d3, r3], ?_⟩
    rw [← cE]
    exact funext fun x => hI_eq (d2 _ (by omega)).1 x
  · rw [if_pos (show b01 (!true) = 0 from rfl), if_neg (fun z => by have := all_fb.mpr z; rw [hfb] at this; cases this)]
    exact ⟨g3, rfl, fun x g1 g4 => same_tr (f2 x g1) (f3 x g4), r3, cE⟩
theorem r_send {h : Hp} {m n p b i j k : Nat} (W : WFs (rv h m) n p b) (hi : i < n) (hj : j < n) (hk1 : k / 4 < p) (hk2 : k % 4 < b) : ∃ h2, f_X6_sends h m (nI i) (nI j) (nI k) = some h2 ∧ (∀ x, x ≠ m + 2 → x ≠ m + 9 → same h h2 x) ∧ rv h2 m = sdM (rv h m) n b i j k ∧ hI h2 (m + 9) = upd (hI h (m + 9)) (6 * j + i) (hI h (m + 9) (6 * j + i) + 1) := by
  obtain ⟨w0, w1, w2, -⟩ := id W
  have hn := w0.2
  have hp := w1.2.2
  have hb := w2.2.2
  have hk : k < 32 := by omega
  have ek : nI (14 + 48 * j) + 15 + nI k = nI (14 + 48 * j + (15 + k)) := by
    rw [show (15 : Int32) = nI 15 from rfl, nI_add, nI_add, show 14 + 48 * j + 15 + k = 14 + 48 * j + (15 + k) by omega]
  obtain ⟨a1, a2, -⟩ := rv_cell (h := h) (m := m) (i := j) (c := 15 + k) (v := nI i) (by omega) (by omega) _ ek
  unfold f_X6_sends
  rw [x6_at, bn1_some, if_pos a1, (div4 k (by omega)).1]
  generalize hg1 : sI h (m + 2) (nI (14 + 48 * j) + 15 + nI k).toNatClampNeg (nI i) = g1 at a2 ⊢
  have f1 : ∀ x, x ≠ m + 2 → same h g1 x := fun x hx => by rw [← hg1]; exact same_sI hx
  obtain ⟨b1, b2, b3⟩ := rv_cell (h := g1) (m := m) (i := j) (c := 7) (v := pc (rv h m) j 7 + 1) (by omega) (by decide) (nI (14 + 48 * j) + 7) (nI_add _ 7)
  rw [a2, setP_c _ _ (by omega) (by decide) (by omega)] at b3
  rw [x6_at, bn1_some, if_pos b1, if_pos b1, b3]
  generalize hg2 : sI g1 (m + 2) (nI (14 + 48 * j) + 7).toNatClampNeg (pc (rv h m) j 7 + 1) = g2 at b2 ⊢
  have f2 : ∀ x, x ≠ m + 2 → same h g2 x := fun x hx => by rw [← hg2]; exact same_tr (f1 x hx) (same_sI hx)
  obtain ⟨c1, c2, c3⟩ := rv_cell (h := g2) (m := m) (i := i) (c := 6) (v := pc (rv h m) i 6 + 1) (by omega) (by decide) (nI (14 + 48 * i) + 6) (nI_add _ 6)
  rw [b2, a2, setP_c _ _ (by omega) (by decide) (by omega), setP_c _ _ (by omega) (by decide) (by omega)] at c3
  rw [x6_at, bn1_some, if_pos c1, if_pos c1, c3]
  generalize hg3 : sI g2 (m + 2) (nI (14 + 48 * i) + 6).toNatClampNeg (pc (rv h m) i 6 + 1) = g3 at c2 ⊢
  have f3 : ∀ x, x ≠ m + 2 → same h g3 x := fun x hx => by rw [← hg3]; exact same_tr (f2 x hx) (same_sI hx)
  rw [b2, a2] at c2
  have e4 : hI g3 (m + 2) (4 : Int32).toNatClampNeg = (rv h m).1 4 := by
    have := congrArg (fun z : MS => z.1 4) c2
    rw [setP_N _ _ _ _ (by decide), setP_N _ _ _ _ (by decide), setP_N _ _ _ _ (by decide)] at this
    exact this
  rw [e4]
  generalize hg4 : sI g3 (m + 2) (4 : Int32).toNatClampNeg ((rv h m).1 4 + 1) = g4
  have f4 : ∀ x, x ≠ m + 2 → same h g4 x := fun x hx => by rw [← hg4]; exact same_tr (f3 x hx) (same_sI hx)
  have r4 : rv g4 m = updN (setP (setP (setP (rv h m) j (15 + k) (nI i)) j 7 (pc (rv h m) j 7 + 1)) i 6 (pc (rv h m) i 6 + 1)) 4 ((rv h m).1 4 + 1) := by
    rw [← hg4, show (4 : Int32).toNatClampNeg = 4 from rfl, rv_sI, c2]
  have ek0 : f_X6_cellOf g4 m (nI i) 0 = some (pc (rv h m) i 0) := by
    rw [show f_X6_cellOf g4 m (nI i) 0 = _ from x6_cell (c := 0) (by omega) (by decide), r4, pc_updN (by decide), setP_c _ _ (by omega) (by decide) (by omega), setP_c _ _ (by omega) (by decide) (by omega), setP_c _ _ (by omega) (by decide) (by omega)]
  rw [ek0, bn1_some]
  have ec : hI g4 (m + 9) = hI h (m + 9) := funext fun x => hI_eq (f4 _ (by omega)).1 x
  by_cases c : pc (rv h m) i 0 = 2
  · rw [if_pos c]
    obtain ⟨h2, d1, d2, d3, d4⟩ := r_send3 (g := g4) W hi hj hk1 hk2 1 (by rw [if_pos c]) r4
    exact ⟨h2, d1, fun x g1 g5 => same_tr (f4 x g1) (d2 x g1 g5), d3, by rw [d4, ec]⟩
  · rw [if_neg c]
    obtain ⟨h2, d1, d2, d3, d4⟩ := r_send3 (g := g4) W hi hj hk1 hk2 0 (by rw [if_neg c]) r4
    exact ⟨h2, d1, fun x g1 g5 => same_tr (f4 x g1) (d2 x g1 g5), d3, by rw [d4, ec]⟩
