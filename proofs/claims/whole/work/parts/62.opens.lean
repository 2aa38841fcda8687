/-! REGULAR slots and the lucky one -/
def reM (M : MS) (n i : Nat) (w : Int32) : Nat → Int32
  | 0 => 0
  | k + 1 => match beM M i (w &&& (reM M n i w k ^^^ (-1))) n with
    | none => reM M n i w k
    | some j => reM M n i w k ||| ((1 : Int32) <<< (nI j &&& 31))
theorem reM_none {M : MS} {n i k : Nat} {w : Int32} (e : beM M i (w &&& (reM M n i w k ^^^ (-1))) n = none) : reM M n i w (k + 1) = reM M n i w k := by
  show (match beM M i (w &&& (reM M n i w k ^^^ (-1))) n with | none => _ | some j => _) = _
  rw [e]
theorem reM_some {M : MS} {n i k j : Nat} {w : Int32} (e : beM M i (w &&& (reM M n i w k ^^^ (-1))) n = some j) : reM M n i w (k + 1) = reM M n i w k ||| ((1 : Int32) <<< (nI j &&& 31)) := by
  show (match beM M i (w &&& (reM M n i w k ^^^ (-1))) n with | none => _ | some j => _) = _
  rw [e]
theorem x6_reg_l {h : Hp} {m n i s : Nat} {w : Int32} (hn : n ≤ 6) (hi : i < 6) (h0 : (rv h m).1 0 = nI n) (h8 : (rv h m).1 8 = nI s) (hs : s ≤ 4) : ∀ (r k fuel : Nat), k + r + 1 = s → r < fuel → f_X6_opens_l44 h m (nI i) w fuel (reM (rv h m) n i w k) (nI (k + 1)) = some (reM (rv h m) n i w (s - 1)) := by
  have e0 : hI h (m + 2) (8 : Int32).toNatClampNeg = nI s := h8
  intro r
  induction r with
  | zero =>
    intro k fuel hk hf
    obtain ⟨fuel, rfl⟩ : ∃ z, fuel = z + 1 := ⟨fuel - 1, by omega⟩
    have : s = k + 1 := by omega
    subst this
    rw [f_X6_opens_l44_s, e0, if_pos (Int32.le_refl _)]; rfl
  | succ r ih =>
    intro k fuel hk hf
    obtain ⟨fuel, rfl⟩ : ∃ z, fuel = z + 1 := ⟨fuel - 1, by omega⟩
    have ih1 := ih (k + 1) fuel (by omega) (by omega)
    rw [f_X6_opens_l44_s, e0, if_neg (nI_ge (by omega) (by omega)), x6_best hn hi h0, bn1_some]
    unfold f_X6_opens_j83
    rw [nI_1, or_0]
    cases hb : beM (rv h m) i (w &&& (reM (rv h m) n i w k ^^^ (-1))) n with
    | none =>
      rw [reM_none hb] at ih1
      rw [oI_none, if_pos (show (-1 : Int32) = -1 from rfl)]
      exact ih1
    | some b =>
      have hlt : b < n := bst_lt hb
      rw [reM_some hb] at ih1
      rw [oI_some, if_neg (nI_nm1 (by omega))]
      exact ih1
theorem x2_reg_l {h : Hp} {wa q n i s : Nat} {M : MS} {w : Int32} (S : SwR h q M n) (hn : n ≤ 6) (h0 : M.1 0 = nI n) (hi : i < n) (hw : hI h (wa + 1) i = w) (hwi : bitb w i = false) (h8 : M.1 8 = nI s) (hs : s ≤ 4) : ∀ (r k fuel : Nat), k + r + 1 = s → r < fuel → f_X2_pickRegular_l5 h wa q (nI i) fuel (reM M n i w k) (nI (k + 1)) = some (reM M n i w (s - 1)) := by
  have e0 : hI h (q + 1) (0 : Int32).toNatClampNeg = nI s := (S.2.2.1 0 (by decide)).trans h8
  intro r
  induction r with
  | zero =>
    intro k fuel hk hf
    obtain ⟨fuel, rfl⟩ : ∃ z, fuel = z + 1 := ⟨fuel - 1, by omega⟩
    have : s = k + 1 := by omega
    subst this
    rw [f_X2_pickRegular_l5_s, e0, if_pos (Int32.le_refl _)]; rfl
  | succ r ih =>
    intro k fuel hk hf
    obtain ⟨fuel, rfl⟩ : ∃ z, fuel = z + 1 := ⟨fuel - 1, by omega⟩
    have ih1 := ih (k + 1) fuel (by omega) (by omega)
    have nb : ¬ bt (w &&& (reM M n i w k ^^^ (-1))) i = 1 := by
      rw [bt1 _ (by omega), bitb_and, hwi]; simp
    rw [f_X2_pickRegular_l5_s, e0, if_neg (nI_ge (by omega) (by omega)), if_pos (inb_nI (by omega) (by decide)), nI_clamp (by omega), hw, x2_best S hn h0 hi nb, bn1_some]
    unfold f_X2_pickRegular_j45
    rw [nI_1]
    cases hb : beM M i (w &&& (reM M n i w k ^^^ (-1))) n with
    | none =>
      rw [reM_none hb] at ih1
      rw [oI_none, if_pos (show (-1 : Int32) < 0 by decide)]
      exact ih1
    | some b =>
      have hlt : b < n := bst_lt hb
      rw [reM_some hb] at ih1
      rw [oI_some, if_neg (nI_pos (by omega))]
      exact ih1
/-- the z-th of a set -/
def pkR (s : Int32) : Nat → Nat → Int32 → Int32
  | 0, _, _ => -1
  | r + 1, k, l => if bt s k = 1 then (if l = 0 then nI k else pkR s r (k + 1) (l - 1)) else pkR s r (k + 1) l
theorem pkR_r {s : Int32} : ∀ r k l, pkR s r k l = -1 ∨ ∃ j, j < k + r ∧ pkR s r k l = nI j
  | 0, _, _ => Or.inl rfl
  | r + 1, k, l => by
    show (if _ then _ else _) = _ ∨ _
    by_cases q : bt s k = 1
    · by_cases q2 : l = 0
      · exact Or.inr ⟨k, by omega, by show (if _ then _ else _) = _; rw [if_pos q, if_pos q2]⟩
      · have e : pkR s (r + 1) k l = pkR s r (k + 1) (l - 1) := by show (if _ then _ else _) = _; rw [if_pos q, if_neg q2]
        rw [if_pos q, if_neg q2, e]
        rcases pkR_r (s := s) r (k + 1) (l - 1) with z | ⟨j, z1, z2⟩
        · exact Or.inl z
        · exact Or.inr ⟨j, by omega, z2⟩
    · have e : pkR s (r + 1) k l = pkR s r (k + 1) l := by show (if _ then _ else _) = _; rw [if_neg q]
      rw [if_neg q, e]
      rcases pkR_r (s := s) r (k + 1) l with z | ⟨j, z1, z2⟩
      · exact Or.inl z
      · exact Or.inr ⟨j, by omega, z2⟩
theorem x6_bitAt_l {h : Hp} {s : Int32} : ∀ (r k fuel : Nat) (l : Int32), k + r = 6 → r + 1 < fuel → f_X6_bitAt_l7 h s fuel l (-1) (nI k) = some (pkR s r k l) := by
  intro r
  induction r with
  | zero =>
    intro k fuel l hk hf
    obtain ⟨fuel, rfl⟩ : ∃ z, fuel = z + 1 := ⟨fuel - 1, by omega⟩
    have : k = 6 := by omega
    subst this
    rw [f_X6_bitAt_l7_s, if_pos (by decide)]; rfl
  | succ r ih =>
    intro k fuel l hk hf
    obtain ⟨fuel, rfl⟩ : ∃ z, fuel = z + 1 := ⟨fuel - 1, by omega⟩
    rw [f_X6_bitAt_l7_s, if_neg (show ¬ (6 : Int32) ≤ nI k from nI_ge (b := 6) (by omega) (by decide)), if_pos (show (-1 : Int32) = -1 from rfl)]
    unfold f_X6_bitAt_j34 f_X6_bitAt_j50 f_X6_bitAt_j51 f_X6_bitAt_j63
    rw [if_neg (show ¬ (1 : Int32) = 0 by decide), if_neg (show ¬ (1 : Int32) = 0 by decide), if_pos (show (0 : Int32) = 0 from rfl), if_pos (show (0 : Int32) = 0 from rfl), nI_1, Int32.sub_zero]
    show (if bt s k = 1 then _ else _) = some (if bt s k = 1 then _ else _)
    by_cases q : bt s k = 1
    · rw [if_pos q, if_pos q]
      by_cases q2 : l = 0
      · rw [if_pos q2, if_pos q2]
        obtain ⟨fuel, rfl⟩ : ∃ z, fuel = z + 1 := ⟨fuel - 1, by omega⟩
        rw [f_X6_bitAt_l7_s]
        by_cases q3 : (6 : Int32) ≤ nI (k + 1)
        · rw [if_pos q3]
        · rw [if_neg q3, if_neg (nI_nm1 (by omega))]
      · rw [if_neg q2, if_neg q2]
        exact ih (k + 1) fuel _ (by omega) (by omega)
    · rw [if_neg q, if_neg q]
      exact ih (k + 1) fuel _ (by omega) (by omega)
theorem x6_bitAt {h : Hp} {s l : Int32} : f_X6_bitAt h s l = some (pkR s 6 0 l) := by
  unfold f_X6_bitAt f_X6_bitAt_j71
  rw [show f_X6_bitAt_l7 h s fu l (-1) 0 = _ from x6_bitAt_l 6 0 fu l (by omega) (by decide)]; rfl
theorem x2_pick_l {h : Hp} {s v : Int32} : ∀ (r k fuel : Nat) (p : Int32), k + r = 6 → r < fuel → bn2 (f_X2_pickNumber_l4 h s v fuel p (nI k)) (fun tg4 w3_1 => (if tg4 = 0 then (some w3_1) else (some (-1 : Int32)))) = some (pkR s r k (v - p)) := by
  intro r
  induction r with
  | zero =>
    intro k fuel p hk hf
    obtain ⟨fuel, rfl⟩ : ∃ z, fuel = z + 1 := ⟨fuel - 1, by omega⟩
    have : k = 6 := by omega
    subst this
    rw [f_X2_pickNumber_l4_s, if_pos (by decide)]; rfl
  | succ r ih =>
    intro k fuel p hk hf
    obtain ⟨fuel, rfl⟩ : ∃ z, fuel = z + 1 := ⟨fuel - 1, by omega⟩
    rw [f_X2_pickNumber_l4_s, if_neg (show ¬ (6 : Int32) ≤ nI k from nI_ge (b := 6) (by omega) (by decide))]
    unfold f_X2_pickNumber_j28
    rw [nI_1]
    show bn2 (if bt s k = 0 then _ else _) _ = some (if bt s k = 1 then _ else _)
    by_cases q : bt s k = 1
    · rw [if_neg (by rw [q]; decide), if_pos q]
      by_cases q2 : p = v
      · subst q2
        rw [if_pos rfl, if_pos (Int32.sub_self p)]; rfl
      · rw [if_neg q2, if_neg (fun z => q2 (by
          have : v = p := by
            have h1 : v - p + p = 0 + p := by rw [z]
            rw [Int32.sub_add_cancel, Int32.zero_add] at h1
            exact h1
          exact this.symm))]
        have := ih (k + 1) fuel (p + 1) (by omega) (by omega)
        rw [this, show v - (p + 1) = v - p - 1 by rw [Int32.sub_eq_add_neg, Int32.neg_add, Int32.sub_eq_add_neg (v - p), Int32.sub_eq_add_neg v p, Int32.add_assoc, Int32.sub_eq_add_neg (-p) 1]]
    · rw [if_pos ((bt_01 s k).resolve_right q), if_neg q]
      exact ih (k + 1) fuel p (by omega) (by omega)
theorem x2_pick {h : Hp} {s v : Int32} : f_X2_pickNumber h s v = some (pkR s 6 0 v) := by
  unfold f_X2_pickNumber
  have := x2_pick_l (h := h) (s := s) (v := v) 6 0 fu 0 (by omega) (by decide)
  rw [Int32.sub_zero] at this
  exact this
def dsM (D : Int64) : Int64 := (D * 1103515245 + 12345) - (D * 1103515245 + 12345) / 2147483648 * 2147483648
def nbM (D : Int64) (c : Int32) : Int32 := ((D / 65536) - (D / 65536) / c.toInt64 * c.toInt64).toInt32
def bsM (s : Int32) : Int32 := sumN (fun k => bt s k) 6
/-- who is lucky, and what the drawing is then -/
def luM (M : MS) (i : Nat) (s : Int32) : Int32 × Int64 :=
  if pc M i 4 ≠ -1 ∧ M.1 3 - M.1 3 / M.1 11 * M.1 11 ≠ 0 ∧ (s >>> (pc M i 4 &&& 31)) &&& 1 = 1 then (pc M i 4, M.2.2)
  else if s = 0 then (-1, M.2.2) else (pkR s 6 0 (nbM (dsM M.2.2) (bsM s)), dsM M.2.2)
theorem luM_r {M : MS} {i : Nat} {s : Int32} (h : pc M i 4 = -1 ∨ ∃ j, j < 6 ∧ pc M i 4 = nI j) : (luM M i s).1 = -1 ∨ ∃ j, j < 6 ∧ (luM M i s).1 = nI j := by
  unfold luM
  split
  · exact h
  · split
    · exact Or.inl rfl
    · exact pkR_r 6 0 _
theorem bsM_pos : ∀ a, a < 64 → a ≠ 0 → (1 : Int32) ≤ bsM (nI a) ∧ ¬ (bsM (nI a)).toInt64 = 0 := by decide +kernel
/-- peer i opens its slots -/
def opM (M : MS) (n i s : Nat) : MS := if pc M i 0 = 1 then M else
  setP (setP (M.1, M.2.1, (luM M i (wgM M n i &&& (reM M n i (wgM M n i) (s - 1) ^^^ (-1)))).2) i 4 (luM M i (wgM M n i &&& (reM M n i (wgM M n i) (s - 1) ^^^ (-1)))).1) i 3
    (if (luM M i (wgM M n i &&& (reM M n i (wgM M n i) (s - 1) ^^^ (-1)))).1 = -1 then reM M n i (wgM M n i) (s - 1) else reM M n i (wgM M n i) (s - 1) ||| ((1 : Int32) <<< ((luM M i (wgM M n i &&& (reM M n i (wgM M n i) (s - 1) ^^^ (-1)))).1 &&& 31)))
theorem x2_lucky2 {h : Hp} {q n i P a : Nat} {M : MS} (S : SwR h q M n) (hn : n ≤ 6) (hi : i < n) (hP : M.1 11 = nI P) (hP1 : 1 ≤ P) (hP9 : P ≤ 9) (hl : pc M i 4 = -1 ∨ ∃ j, j < 6 ∧ pc M i 4 = nI j) (ha : a < 64) : ∃ h2, f_X2_pickLucky h q (q + 3 + 4 * i) (nI a) = some ((luM M i (nI a)).1, h2) ∧ (∀ z, z ≠ q → same h h2 z) ∧ SwR h2 q (M.1, M.2.1, (luM M i (nI a)).2) n := by
  have e11 : hI h (q + 1) (3 : Int32).toNatClampNeg = nI P := (S.2.2.1 3 (by decide)).trans hP
  have e5 : hI h q 5 = M.1 3 := S.1.2.2.2.2.2.1
  have el : hI h (q + 3 + 4 * i) 5 = pc M i 4 := (S.2.2.2 i hi).1.2.2.2.2.1
  have eD : hL h q 9 = M.2.2 := S.2.1
  have j55 : (¬ (pc M i 4 ≠ -1 ∧ M.1 3 - M.1 3 / M.1 11 * M.1 11 ≠ 0 ∧ (nI a >>> (pc M i 4 &&& 31)) &&& 1 = 1)) → ∃ h2, f_X2_pickLucky_j55 h q (nI a) = some ((luM M i (nI a)).1, h2) ∧ (∀ z, z ≠ q → same h h2 z) ∧ SwR h2 q (M.1, M.2.1, (luM M i (nI a)).2) n := by
    intro hno
    unfold f_X2_pickLucky_j55 luM
    rw [if_neg hno]
    by_cases a0 : a = 0
    · subst a0
      rw [if_pos (show nI 0 = 0 from rfl), if_pos (show nI 0 = 0 from rfl)]
      exact ⟨h, rfl, fun _ _ => same_rfl _ _, S⟩
    · have hne : ¬ nI a = 0 := fun z => a0 ((nI_eq (b := 0) (by omega) (by decide)).mp z)
      obtain ⟨b1, b2⟩ := bsM_pos a ha a0
      rw [if_neg hne, if_neg hne, bc6 ha, bn1_some]
      refine ⟨sL h q 9 (dsM M.2.2), ?_, fun z hz => same_sL hz, SwR_d _ S⟩
      unfold f_X3_drawBelow
      rw [if_pos (show (1 : Int32) ≤ sumN (fun k => bt (nI a) k) 6 from b1), if_pos (show ¬ (sumN (fun k => bt (nI a) k) 6).toInt64 = 0 from b2), eD]
      show bn2 (some (((hL (sL h q 9 (dsM M.2.2)) q 9) / 65536 - (hL (sL h q 9 (dsM M.2.2)) q 9) / 65536 / (bsM (nI a)).toInt64 * (bsM (nI a)).toInt64).toInt32, sL h q 9 (dsM M.2.2))) _ = _
      rw [bn2_some, hL_sLs, x2_pick]; rfl
  unfold f_X2_pickLucky f_X2_pickLucky_j24 f_X2_pickLucky_j25
  rw [e11, e5, el, if_neg (show ¬ nI P ≤ 0 from fun z => by have := (nI_leI (b := 0) (by omega) (by decide)).mp z; omega), if_pos (show ¬ nI P = 0 from fun z => by have := (nI_eq (b := 0) (by omega) (by decide)).mp z; omega), if_pos (show (0 : Int32) = 0 from rfl), if_neg (show ¬ (1 : Int32) = 0 by decide)]
  by_cases t0 : M.1 3 - M.1 3 / nI P * nI P = 0
  · rw [if_pos t0]
    exact j55 (fun z => z.2.1 (by rw [hP]; exact t0))
  · rw [if_neg t0]
    rcases hl with hl | ⟨j, hj, hl⟩
    · rw [hl, if_pos (show (-1 : Int32) < 0 by decide)]
      exact j55 (fun z => z.1 hl)
    · rw [hl, if_neg (nI_pos (by omega))]
      show ∃ h2, (if bt (nI a) j = 0 then _ else _) = _ ∧ _
      by_cases b0 : bt (nI a) j = 0
      · rw [if_pos b0]
        exact j55 (fun z => by
          have z2 := z.2.2
          rw [hl] at z2
          have z3 : bt (nI a) j = 1 := z2
          rw [b0] at z3
          exact absurd z3 (by decide))
      · rw [if_neg b0]
        have yes : pc M i 4 ≠ -1 ∧ M.1 3 - M.1 3 / M.1 11 * M.1 11 ≠ 0 ∧ (nI a >>> (pc M i 4 &&& 31)) &&& 1 = 1 := ⟨by rw [hl]; exact nI_nm1 (by omega), by rw [hP]; exact t0, by rw [hl]; exact (bt_01 (nI a) j).resolve_left b0⟩
        unfold luM
        rw [if_pos yes]
        exact ⟨h, by rw [hl], fun _ _ => same_rfl _ _, S⟩
