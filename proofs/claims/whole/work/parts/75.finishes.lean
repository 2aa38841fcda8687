/-! FINISHES -/
def hoM (M : MS) (n : Nat) : Bool := anyN (fun i => decide (pc M i 0 = 0)) n
theorem x3_honest_l {h : Hp} {q n : Nat} {M : MS} (S : SwR h q M n) (hn : n ≤ 6) (h0 : M.1 0 = nI n) : ∀ (r i fuel : Nat), i + r = n → r < fuel → anyN (fun i => decide (pc M i 0 = 0)) i = false → bn1 (f_X3_hasHonest_l2 h q fuel (nI i)) (fun tg2 => (if tg2 = 0 then (some (1 : Int32)) else (some (0 : Int32)))) = some (b01 (hoM M n)) := by
  have hs : hI h q 4 = nI n := S.1.2.2.2.2.1.trans h0
  intro r
  induction r with
  | zero =>
    intro i fuel hi hf hd
    obtain ⟨fuel, rfl⟩ : ∃ z, fuel = z + 1 := ⟨fuel - 1, by omega⟩
    have : i = n := by omega
    subst this
    rw [f_X3_hasHonest_l2_s, hs, if_pos (Int32.le_refl _), show hoM M i = false from hd]; rfl
  | succ r ih =>
    intro i fuel hi hf hd
    obtain ⟨fuel, rfl⟩ : ∃ z, fuel = z + 1 := ⟨fuel - 1, by omega⟩
    have P : PeR h (q + 2 + 1 + 4 * i) i M := S.2.2.2 i (by omega)
    rw [f_X3_hasHonest_l2_s, hs, if_neg (nI_ge (by omega) (by omega)), if_pos (inb_nI (by omega) (by decide)), nI_clamp (by omega), P.1.1, nI_1]
    by_cases c : pc M i 0 = 0
    · rw [if_pos c]
      have : hoM M n = true := by
        cases hq : hoM M n
        · have := (anyN_false.mp hq) i (by omega)
          simp [c] at this
        · rfl
      rw [this]; rfl
    · rw [if_neg c]
      exact ih (i + 1) fuel (by omega) (by omega) (by show (anyN _ i || _) = false; rw [hd]; simp [c])
theorem x3_honest {h : Hp} {q n : Nat} {M : MS} (S : SwR h q M n) (hn : n ≤ 6) (h0 : M.1 0 = nI n) : f_X3_hasHonest h q = some (b01 (hoM M n)) := by
  unfold f_X3_hasHonest
  exact x3_honest_l S hn h0 n 0 fu (by omega) (by show n < 5000; omega) rfl
theorem x6_honest_l {h : Hp} {m n : Nat} (hn : n ≤ 6) (h0 : (rv h m).1 0 = nI n) : ∀ (r i fuel c : Nat), i + r = n → r < fuel → c ≤ i → (c = 0 ↔ anyN (fun i => decide (pc (rv h m) i 0 = 0)) i = false) → ∃ c2, c2 ≤ n ∧ f_X6_honest_l4 h m fuel (nI c) (nI i) = some (nI c2) ∧ (c2 = 0 ↔ hoM (rv h m) n = false) := by
  have hs : hI h (m + 2) (0 : Int32).toNatClampNeg = nI n := h0
  intro r
  induction r with
  | zero =>
    intro i fuel c hi hf hc hd
    obtain ⟨fuel, rfl⟩ : ∃ z, fuel = z + 1 := ⟨fuel - 1, by omega⟩
    have : i = n := by omega
    subst this
    exact ⟨c, hc, by rw [f_X6_honest_l4_s, hs, if_pos (Int32.le_refl _)], hd⟩
  | succ r ih =>
    intro i fuel c hi hf hc hd
    obtain ⟨fuel, rfl⟩ : ∃ z, fuel = z + 1 := ⟨fuel - 1, by omega⟩
    rw [f_X6_honest_l4_s, hs, if_neg (nI_ge (by omega) (by omega)), show f_X6_cellOf h m (nI i) 0 = _ from x6_cell (c := 0) (by omega) (by decide), bn1_some]
    unfold f_X6_honest_j29
    rw [nI_1, nI_1, Int32.add_zero]
    by_cases e : pc (rv h m) i 0 = 0
    · rw [if_pos e]
      refine ih (i + 1) fuel (c + 1) (by omega) (by omega) (by omega) ⟨fun z => by omega, fun z => ?_⟩
      have : (anyN (fun i => decide (pc (rv h m) i 0 = 0)) i || decide (pc (rv h m) i 0 = 0)) = false := z
      simp [e] at this
    · rw [if_neg e]
      refine ih (i + 1) fuel c (by omega) (by omega) (by omega) ?_
      rw [hd]
      show _ ↔ (anyN (fun i => decide (pc (rv h m) i 0 = 0)) i || decide (pc (rv h m) i 0 = 0)) = false
      simp [e]
theorem x6_honest {h : Hp} {m n : Nat} (hn : n ≤ 6) (h0 : (rv h m).1 0 = nI n) : ∃ c, c ≤ n ∧ f_X6_honest h m = some (nI c) ∧ (c = 0 ↔ hoM (rv h m) n = false) := by
  obtain ⟨c, h1, h2, h3⟩ := x6_honest_l hn h0 n 0 fu 0 (by omega) (by show n < 5000; omega) (Nat.le_refl _) ⟨fun _ => rfl, fun _ => rfl⟩
  refine ⟨c, h1, ?_, h3⟩
  unfold f_X6_honest
  rw [show f_X6_honest_l4 h m fu 0 0 = _ from h2]; rfl
/-- how many rounds are done -/
def fnD (M : MS) (n p b : Nat) : Nat → Nat → Nat
  | 0, k => k
  | r + 1, k => if dnM (rdsM M n p b k) n then k else fnD M n p b r (k + 1)
theorem fnD_le {M : MS} {n p b : Nat} : ∀ r k, fnD M n p b r k ≤ k + r
  | 0, k => Nat.le_refl _
  | r + 1, k => by
    show (if _ then _ else _) ≤ _
    split
    · omega
    · have := fnD_le (M := M) (n := n) (p := p) (b := b) r (k + 1)
      omega
theorem c_fin_l {h : Hp} {o n p b t N : Nat} {M : MS} (H : WFn M n p b t) (hN : N ≤ 90) : ∀ (r k fuel : Nat) (hh : Hp), k + r = N → r < fuel → FrC (o + 1) (o + 164) h hh → SwR hh (o + 1) (rdsM M n p b k) n → ∃ h2, f_X5_finishes_l43 o (nI N) fuel (nI k) (nI k) hh = some (nI (fnD M n p b r k), h2) ∧ FrC (o + 1) (o + 164) h h2 ∧ SwR h2 (o + 1) (rdsM M n p b (fnD M n p b r k)) n := by
  intro r
  induction r with
  | zero =>
    intro k fuel hh hk hf e1 e2
    obtain ⟨fuel, rfl⟩ : ∃ z, fuel = z + 1 := ⟨fuel - 1, by omega⟩
    have : k = N := by omega
    subst this
    exact ⟨hh, by rw [f_X5_finishes_l43_s, if_pos (Int32.le_refl _)]; rfl, e1, e2⟩
  | succ r ih =>
    intro k fuel hh hk hf e1 e2
    obtain ⟨fuel, rfl⟩ : ∃ z, fuel = z + 1 := ⟨fuel - 1, by omega⟩
    have Wk := rds_WF H k
    rw [f_X5_finishes_l43_s, if_neg (nI_ge (by omega) (by omega)), x3_done e2 Wk.1.2 Wk.1.1, bn1_some]
    show ∃ h2, _ = some (nI (if dnM (rdsM M n p b k) n then k else fnD M n p b r (k + 1)), h2) ∧ _ ∧ SwR h2 (o + 1) (rdsM M n p b (if dnM (rdsM M n p b k) n then k else fnD M n p b r (k + 1))) n
    cases hdn : dnM (rdsM M n p b k) n
    · rw [if_pos (show b01 false = 0 from rfl), if_neg (show ¬ false = true by decide)]
      obtain ⟨h2, a, f, S⟩ := c_run (w := o + 164) (N := 1) (by omega) Wk (by decide) e2
      rw [show f_X2_runSome hh (o + 164) (o + 1) 1 = _ from a, bn1_some, nI_1]
      exact ih (k + 1) fuel h2 (by omega) (by omega) (FrC_tr e1 f) S
    · rw [if_neg (show ¬ b01 true = 0 by decide), if_pos rfl]
      exact ⟨hh, rfl, e1, e2⟩
theorem r_fin_l {h : Hp} {m n p b t N : Nat} {M : MS} (H : WFn M n p b t) (hN : N ≤ 90) : ∀ (r k fuel : Nat) (hh : Hp), k + r = N → r < fuel → FrR m h hh → rv hh m = rdsM M n p b k → ∃ h2, f_X6_finishes_l33 m (nI N) fuel (nI k) hh = some (nI (fnD M n p b r k), h2) ∧ FrR m h h2 ∧ rv h2 m = rdsM M n p b (fnD M n p b r k) := by
  intro r
  induction r with
  | zero =>
    intro k fuel hh hk hf e1 e2
    obtain ⟨fuel, rfl⟩ : ∃ z, fuel = z + 1 := ⟨fuel - 1, by omega⟩
    have : k = N := by omega
    subst this
    exact ⟨hh, by rw [f_X6_finishes_l33_s, if_pos (Int32.le_refl _)]; rfl, e1, e2⟩
  | succ r ih =>
    intro k fuel hh hk hf e1 e2
    obtain ⟨fuel, rfl⟩ : ∃ z, fuel = z + 1 := ⟨fuel - 1, by omega⟩
    have Wk := rds_WF H k
    rw [f_X6_finishes_l33_s, if_neg (nI_ge (by omega) (by omega)), x6_done (n := n) Wk.1.2 (by rw [e2]; exact Wk.1.1), bn1_some, e2]
    show ∃ h2, _ = some (nI (if dnM (rdsM M n p b k) n then k else fnD M n p b r (k + 1)), h2) ∧ _ ∧ rv h2 m = rdsM M n p b (if dnM (rdsM M n p b k) n then k else fnD M n p b r (k + 1))
    cases hdn : dnM (rdsM M n p b k) n
    · rw [if_pos (show b01 false = 0 from rfl), if_neg (show ¬ false = true by decide)]
      obtain ⟨h2, a, f, S⟩ := r_round (h := hh) (m := m) (n := n) (p := p) (b := b) (by rw [e2]; exact WFn_s Wk)
      rw [a, bn1_some, nI_1]
      exact ih (k + 1) fuel h2 (by omega) (by omega) (FrR_tr e1 f) (by rw [S, e2]; rfl)
    · rw [if_neg (show ¬ b01 true = 0 by decide), if_pos rfl]
      exact ⟨hh, rfl, e1, e2⟩
theorem op_finishes (o : Nat) : Op_finishes o (Inv o) := by
  intro c h _ H v
  obtain ⟨n, p, b, S, Wf⟩ := id H.1
  have hn := Wf.1.2
  rcases rng_or v (a := 1) (b := 90) (by decide) (by decide) with ⟨N, x1, x2, rfl⟩ | hv0
  · have R : inr (nI N) 1 90 := rng_in (a := 1) (b := 90) (by decide) x1 x2
    have c1 := x3_honest S hn Wf.1.1
    have r1 := fun (g : Hp) (hg : rv g (o + 174) = rv h (o + 174)) => x6_honest (h := g) (m := o + 174) hn (by rw [hg]; exact Wf.1.1)
    cases hh : hoM (rv h (o + 174)) n
    · refine no_pair H (G := fun g => f_X6_finishes g (o + 174) (nI N)) ?_ (fun g hg => ?_)
      · unfold f_X5_finishes
        rw [if_neg R.1, if_pos (Int32.not_lt.mp R.2), c1, hh, bn1_some, if_pos (show b01 false = 0 from rfl)]
      · show f_X6_finishes g (o + 174) (nI N) = _
        obtain ⟨z, z1, z2, z3⟩ := r1 g hg
        rw [hg, hh] at z3
        have : z = 0 := z3.mpr rfl
        subst this
        unfold f_X6_finishes
        rw [x6_in_t R, bn1_some, if_neg (by decide), z2, bn1_some, if_pos (show nI 0 = 0 from rfl)]
    · obtain ⟨h1, h2, e1, e2, e3, e4⟩ := mut_pair2 H (F := fun h6 => bn2 (f_X5_finishes_l43 o (nI N) fu 0 0 h6) (fun w2_12 h13 => f_X5_finishes_j79 h13 o w2_12)) (G := fun h5 => bn2 (f_X6_finishes_l33 (o + 174) (nI N) fu 0 h5) (fun w2_11 h12 => f_X6_finishes_j55 h12 (o + 174) w2_11)) (v := if dnM (rdsM (rv h (o + 174)) n p b (fnD (rv h (o + 174)) n p b N 0)) n then nI (fnD (rv h (o + 174)) n p b N 0) else -1) S Wf (rdsM (rv h (o + 174)) n p b (fnD (rv h (o + 174)) n p b N 0))
        (fun h1 S1 => by
          obtain ⟨h2, q1, q2, q3⟩ := c_fin_l (h := h1) (o := o) Wf x2 N 0 fu h1 (by omega) (by show N < 5000; omega) (fun _ _ _ => same_rfl _ _) S1
          have Wk := rds_WF Wf (fnD (rv h (o + 174)) n p b N 0)
          have le := fnD_le (M := rv h (o + 174)) (n := n) (p := p) (b := b) N 0
          refine ⟨h2, ?_, fun b g1 g2 => q2 b (by omega) (by omega), Sim_up (by omega) q3 Wk⟩
          rw [show f_X5_finishes_l43 o (nI N) fu 0 0 h1 = _ from q1, bn2_some]
          unfold f_X5_finishes_j79
          rw [x3_done q3 Wk.1.2 Wk.1.1, bn1_some]
          cases dnM (rdsM (rv h (o + 174)) n p b (fnD (rv h (o + 174)) n p b N 0)) n
          · rw [if_pos (show b01 false = 0 from rfl), if_neg (show ¬ false = true by decide)]
          · rw [if_neg (show ¬ b01 true = 0 by decide), if_pos rfl])
        (fun h3 r3 => by
          obtain ⟨h4, q1, q2, q3⟩ := r_fin_l (h := h3) (m := o + 174) Wf x2 N 0 fu h3 (by omega) (by show N < 5000; omega) (FrR_rfl _ _) r3
          have Wk := rds_WF Wf (fnD (rv h (o + 174)) n p b N 0)
          refine ⟨h4, ?_, fun b g1 g2 g3 g4 g5 g6 => q2.1 b (by omega) (by omega) (by omega) (by omega) (by omega) (by omega), q2.2, eqv_of q3⟩
          rw [show f_X6_finishes_l33 (o + 174) (nI N) fu 0 h3 = _ from q1, bn2_some]
          unfold f_X6_finishes_j55
          rw [x6_done (n := n) Wk.1.2 (by rw [q3]; exact Wk.1.1), bn1_some, q3]
          cases dnM (rdsM (rv h (o + 174)) n p b (fnD (rv h (o + 174)) n p b N 0)) n
          · rw [if_pos (show b01 false = 0 from rfl), if_neg (show ¬ false = true by decide)]
          · rw [if_neg (show ¬ b01 true = 0 by decide), if_pos rfl])
      refine ⟨(if dnM (rdsM (rv h (o + 174)) n p b (fnD (rv h (o + 174)) n p b N 0)) n then nI (fnD (rv h (o + 174)) n p b N 0) else -1), h1, h2, ?_, ?_, e3⟩
      · unfold f_X5_finishes
        rw [if_neg R.1, if_pos (Int32.not_lt.mp R.2), c1, hh, bn1_some, if_neg (show ¬ b01 true = 0 by decide)]
        exact e1
      · obtain ⟨z, z1, z2, z3⟩ := r1 h1 e4
        rw [e4, hh] at z3
        have hz : z ≠ 0 := fun q => by have := z3.mp q; cases this
        unfold f_X6_finishes
        rw [x6_in_t R, bn1_some, if_neg (by decide), z2, bn1_some, if_neg (show ¬ nI z = 0 from fun q => hz ((nI_eq (b := 0) (by omega) (by decide)).mp q))]
        exact e2
  · have hv : ¬ inr v 1 90 := hv0
    refine bad_pair H (G := fun g => f_X6_finishes g (o + 174) v) ?_ (fun g hg => ?_)
    · unfold f_X5_finishes f_X5_finishes_j11
      by_cases q1 : v < 1
      · rw [if_pos q1]
      · rw [if_neg q1, if_neg (fun q2 => hv ⟨q1, Int32.not_lt.mpr q2⟩)]
    · show f_X6_finishes g (o + 174) v = _
      unfold f_X6_finishes
      rw [x6_in_f hv, bn1_some, if_pos rfl]
