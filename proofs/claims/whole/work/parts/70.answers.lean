/-! ALL ANSWER -/
def anM (A : Nat → Nat → Option Nat) (n b i : Nat) (M : MS) (C : Nat → Int32) : Nat → MS × Nat × (Nat → Int32)
  | 0 => (M, 0, C)
  | j + 1 => match A j i with
    | none => anM A n b i M C j
    | some k => if bt (pc (anM A n b i M C j).1 j 2) (k / 4) = 1 ∨ pc (anM A n b i M C j).1 j (15 + k) ≠ -1 then (updN (anM A n b i M C j).1 6 ((anM A n b i M C j).1.1 6 + 1), (anM A n b i M C j).2)
      else if pc (anM A n b i M C j).1 i 1 ≤ nI (anM A n b i M C j).2.1 then anM A n b i M C j
      else (sdM (anM A n b i M C j).1 n b i j k, (anM A n b i M C j).2.1 + 1, upd (anM A n b i M C j).2.2 (6 * j + i) ((anM A n b i M C j).2.2 (6 * j + i) + 1))
theorem anM_none {A : Nat → Nat → Option Nat} {n b i j : Nat} {M : MS} {C : Nat → Int32} (e : A j i = none) : anM A n b i M C (j + 1) = anM A n b i M C j := by
  show (match A j i with | none => _ | some k => _) = _
  rw [e]
theorem anM_some {A : Nat → Nat → Option Nat} {n b i j k : Nat} {M : MS} {C : Nat → Int32} (e : A j i = some k) : anM A n b i M C (j + 1) = if bt (pc (anM A n b i M C j).1 j 2) (k / 4) = 1 ∨ pc (anM A n b i M C j).1 j (15 + k) ≠ -1 then (updN (anM A n b i M C j).1 6 ((anM A n b i M C j).1.1 6 + 1), (anM A n b i M C j).2)
      else if pc (anM A n b i M C j).1 i 1 ≤ nI (anM A n b i M C j).2.1 then anM A n b i M C j
      else (sdM (anM A n b i M C j).1 n b i j k, (anM A n b i M C j).2.1 + 1, upd (anM A n b i M C j).2.2 (6 * j + i) ((anM A n b i M C j).2.2 (6 * j + i) + 1)) := by
  show (match A j i with | none => _ | some k => _) = _
  rw [e]
def alM (A : Nat → Nat → Option Nat) (n b : Nat) (M : MS) (C : Nat → Int32) : Nat → MS × (Nat → Int32)
  | 0 => (M, C)
  | i + 1 => ((anM A n b i (alM A n b M C i).1 (alM A n b M C i).2 n).1, (anM A n b i (alM A n b M C i).1 (alM A n b M C i).2 n).2.2)
def okA (A : Nat → Nat → Option Nat) (p b : Nat) : Prop := ∀ j i k, A j i = some k → k / 4 < p ∧ k % 4 < b
def anI (s : MS × Nat × (Nat → Int32)) (n p b i j : Nat) (M : MS) (C : Nat → Int32) : Prop :=
  WFs s.1 n p b ∧ s.1.2 = M.2 ∧ s.1.1 3 = M.1 3 ∧ s.2.1 ≤ 4 ∧ (∀ z, pc s.1 z 6 = if z = i then pc M z 6 + nI s.2.1 else pc M z 6) ∧ (∀ z, ∃ d, d ≤ (if z < j then 1 else 0) ∧ pc s.1 z 7 = pc M z 7 + nI d) ∧ (∀ c, s.2.2 c = C c ∨ ((∃ j', j' < j ∧ c = 6 * j' + i) ∧ s.2.2 c = C c + 1))
theorem add_00 (x : Int32) : x + nI 0 = x := Int32.add_zero x
theorem an_ok {A : Nat → Nat → Option Nat} {n p b i : Nat} {M : MS} {C : Nat → Int32} (W : WFs M n p b) (hA : okA A p b) (hi : i < n) : ∀ j, j ≤ n → anI (anM A n b i M C j) n p b i j M C
  | 0, _ => ⟨W, rfl, rfl, Nat.zero_le _, fun z => by
      show pc M z 6 = _
      split
      · exact (add_00 _).symm
      · rfl, fun z => ⟨0, Nat.zero_le _, (add_00 _).symm⟩, fun c => Or.inl rfl⟩
  | j + 1, hj => by
    have ih := an_ok (C := C) W hA hi j (by omega)
    have hn := W.1.2
    have hp := W.2.1.2.2
    have hb := W.2.2.1.2.2
    cases hk : A j i with
    | none =>
      rw [anM_none hk]
      obtain ⟨g1, g2, g3, g4, g5, g6, g7⟩ := ih
      refine ⟨g1, g2, g3, g4, g5, fun z => ?_, fun c => ?_⟩
      · obtain ⟨d, d1, d2⟩ := g6 z
        refine ⟨d, ?_, d2⟩
        by_cases q : z < j
        · rw [if_pos q] at d1; rw [if_pos (by omega)]; exact d1
        · rw [if_neg q] at d1; split <;> omega
      · rcases g7 c with q | ⟨⟨j', q1, q2⟩, q3⟩
        · exact Or.inl q
        · exact Or.inr ⟨⟨j', by omega, q2⟩, q3⟩
    | some k =>
      obtain ⟨k1, k2⟩ := hA j i k hk
      rw [anM_some hk]
      generalize anM A n b i M C j = s at ih ⊢
      obtain ⟨g1, g2, g3, g4, g5, g6, g7⟩ := ih
      have mono6 : ∀ z, ∃ d, d ≤ (if z < j + 1 then 1 else 0) ∧ pc s.1 z 7 = pc M z 7 + nI d := fun z => by
        obtain ⟨d, d1, d2⟩ := g6 z
        refine ⟨d, ?_, d2⟩
        by_cases q : z < j
        · rw [if_pos q] at d1; rw [if_pos (by omega)]; exact d1
        · rw [if_neg q] at d1; split <;> omega
      have mono7 : ∀ c, s.2.2 c = C c ∨ ((∃ j', j' < j + 1 ∧ c = 6 * j' + i) ∧ s.2.2 c = C c + 1) := fun c => by
        rcases g7 c with q | ⟨⟨j', q1, q2⟩, q3⟩
        · exact Or.inl q
        · exact Or.inr ⟨⟨j', by omega, q2⟩, q3⟩
      split
      · refine ⟨up_WFs (by omega) g1, g2, ?_, g4, fun z => ?_, fun z => ?_, mono7⟩
        · exact (updN_ne _ _ (by decide)).trans g3
        · exact (pc_updN (by decide)).trans (g5 z)
        · obtain ⟨d, d1, d2⟩ := mono6 z
          exact ⟨d, d1, (pc_updN (by decide)).trans d2⟩
      · split
        · exact ⟨g1, g2, g3, g4, g5, mono6, mono7⟩
        · rename_i hcap
          obtain ⟨cc, c1, c4, ec⟩ := (g1.2.2.2.2.2.1 i hi).2.1
          have hlt : s.2.1 < 4 := by
            rw [ec] at hcap
            have : ¬ cc ≤ s.2.1 := fun z => hcap (nI_le z (by omega))
            omega
          have q67 := fun z => sd_67 (M := s.1) (b := b) (i := i) (j := j) (k := k) (z := z) hn (by omega)
          refine ⟨sd_WFs hi (by omega) k1 k2 g1, sd_2.trans g2, sd_3.trans g3, by show s.2.1 + 1 ≤ 4; omega, fun z => ?_, fun z => ?_, fun c => ?_⟩
          · show pc (sdM s.1 n b i j k) z 6 = (if z = i then pc M z 6 + nI (s.2.1 + 1) else pc M z 6)
            rw [(q67 z).1, g5 z]
            by_cases e : z = i
            · rw [if_pos e, if_pos e, if_pos e, Int32.add_assoc, nI_1]
            · rw [if_neg e, if_neg e, if_neg e]
          · show ∃ d, d ≤ (if z < j + 1 then 1 else 0) ∧ pc (sdM s.1 n b i j k) z 7 = pc M z 7 + nI d
            rw [(q67 z).2]
            obtain ⟨d, d1, d2⟩ := g6 z
            by_cases e : z = j
            · rw [if_pos e, d2]
              rw [if_neg (by omega)] at d1
              have : d = 0 := by omega
              subst this
              exact ⟨1, by rw [if_pos (by omega)]; exact Nat.le_refl _, by rw [add_00]; rfl⟩
            · rw [if_neg e, d2]
              refine ⟨d, ?_, rfl⟩
              by_cases q : z < j
              · rw [if_pos q] at d1; rw [if_pos (by omega)]; exact d1
              · rw [if_neg q] at d1; split <;> omega
          · show upd s.2.2 (6 * j + i) (s.2.2 (6 * j + i) + 1) c = C c ∨ ((∃ j', j' < j + 1 ∧ c = 6 * j' + i) ∧ upd s.2.2 (6 * j + i) (s.2.2 (6 * j + i) + 1) c = C c + 1)
            unfold upd
            by_cases e : c = 6 * j + i
            · rw [if_pos e]
              right
              refine ⟨⟨j, by omega, e⟩, ?_⟩
              rcases g7 (6 * j + i) with q | ⟨⟨j', q1, q2⟩, q3⟩
              · rw [q, e]
              · omega
            · rw [if_neg e]
              exact mono7 c
theorem al_ok {A : Nat → Nat → Option Nat} {n p b : Nat} {M : MS} {C : Nat → Int32} (W : WFs M n p b) (hA : okA A p b) : ∀ i, i ≤ n → WFs (alM A n b M C i).1 n p b ∧ (alM A n b M C i).1.2 = M.2 ∧ (alM A n b M C i).1.1 3 = M.1 3 ∧ (∀ z, ∃ d, d ≤ 4 ∧ (i ≤ z → d = 0) ∧ pc (alM A n b M C i).1 z 6 = pc M z 6 + nI d) ∧ (∀ z, ∃ d, d ≤ i ∧ pc (alM A n b M C i).1 z 7 = pc M z 7 + nI d) ∧ (∀ c, (alM A n b M C i).2 c = C c ∨ ((∃ i' j', i' < i ∧ j' < n ∧ c = 6 * j' + i') ∧ (alM A n b M C i).2 c = C c + 1))
  | 0, _ => ⟨W, rfl, rfl, fun z => ⟨0, by omega, fun _ => rfl, (add_00 _).symm⟩, fun z => ⟨0, Nat.le_refl _, (add_00 _).symm⟩, fun c => Or.inl rfl⟩
  | i + 1, hi => by
    obtain ⟨a1, a2, a3, a4, a5, a6⟩ := al_ok (C := C) W hA i (by omega)
    obtain ⟨g1, g2, g3, g4, g5, g6, g7⟩ := an_ok (C := (alM A n b M C i).2) a1 hA (show i < n by omega) n (Nat.le_refl _)
    have hn := W.1.2
    show WFs (anM A n b i (alM A n b M C i).1 (alM A n b M C i).2 n).1 n p b ∧ (anM A n b i (alM A n b M C i).1 (alM A n b M C i).2 n).1.2 = M.2 ∧ (anM A n b i (alM A n b M C i).1 (alM A n b M C i).2 n).1.1 3 = M.1 3 ∧ (∀ z, ∃ d, d ≤ 4 ∧ (i + 1 ≤ z → d = 0) ∧ pc (anM A n b i (alM A n b M C i).1 (alM A n b M C i).2 n).1 z 6 = pc M z 6 + nI d) ∧ (∀ z, ∃ d, d ≤ i + 1 ∧ pc (anM A n b i (alM A n b M C i).1 (alM A n b M C i).2 n).1 z 7 = pc M z 7 + nI d) ∧ (∀ c, (anM A n b i (alM A n b M C i).1 (alM A n b M C i).2 n).2.2 c = C c ∨ ((∃ i' j', i' < i + 1 ∧ j' < n ∧ c = 6 * j' + i') ∧ (anM A n b i (alM A n b M C i).1 (alM A n b M C i).2 n).2.2 c = C c + 1))
    generalize anM A n b i (alM A n b M C i).1 (alM A n b M C i).2 n = s at g1 g2 g3 g4 g5 g6 g7 ⊢
    generalize alM A n b M C i = t at a1 a2 a3 a4 a5 a6 g1 g2 g3 g4 g5 g6 g7
    refine ⟨g1, g2.trans a2, g3.trans a3, fun z => ?_, fun z => ?_, fun c => ?_⟩
    · obtain ⟨d, d1, d2, d3⟩ := a4 z
      have q := g5 z
      by_cases e : z = i
      · rw [if_pos e] at q
        have : d = 0 := d2 (by omega)
        subst this
        exact ⟨s.2.1, g4, fun h => by omega, by rw [q, d3, add_00]⟩
      · rw [if_neg e] at q
        exact ⟨d, d1, fun h => d2 (by omega), by rw [q, d3]⟩
    · obtain ⟨d, d1, d2⟩ := a5 z
      obtain ⟨e, e1, e2⟩ := g6 z
      refine ⟨d + e, ?_, by rw [e2, d2, Int32.add_assoc, nI_add]⟩
      have : e ≤ 1 := by
        by_cases q : z < n
        · rw [if_pos q] at e1; exact e1
        · rw [if_neg q] at e1; omega
      omega
    · rcases g7 c with q | ⟨⟨j', q1, q2⟩, q3⟩
      · rw [q]
        rcases a6 c with r | ⟨⟨i', j', r1, r2, r3⟩, r4⟩
        · exact Or.inl r
        · exact Or.inr ⟨⟨i', j', by omega, r2, r3⟩, r4⟩
      · rw [q3]
        right
        refine ⟨⟨i, j', by omega, q1, q2⟩, ?_⟩
        rcases a6 c with r | ⟨⟨i', j2, r1, r2, r3⟩, r4⟩
        · rw [r]
        · omega
theorem c_ans_l {h : Hp} {w q n p b i : Nat} {M : MS} {C : Nat → Int32} {A : Nat → Nat → Option Nat} (hd : q + 27 ≤ w) (W : WFs M n p b) (hA : okA A p b) (hi : i < n) (ha : ∀ j, j < n → hI h (w + 3) (6 * i + j) = oI (A j i)) : ∀ (r j fuel : Nat) (hh : Hp), j + r = n → r < fuel → (∀ z, z < q ∨ q + 27 ≤ z → z ≠ w + 4 → same h hh z) → SwR hh q (anM A n b i M C j).1 n → (∀ c, c < 36 → hI hh (w + 4) c = (anM A n b i M C j).2.2 c) → ∃ h2, f_X2_sendBlocks_l39 w q (nI i) fuel (nI (anM A n b i M C j).2.1) (nI j) hh = some h2 ∧ (∀ z, z < q ∨ q + 27 ≤ z → z ≠ w + 4 → same h h2 z) ∧ SwR h2 q (anM A n b i M C n).1 n ∧ (∀ c, c < 36 → hI h2 (w + 4) c = (anM A n b i M C n).2.2 c) := by
  have hn := W.1.2
  have hp := W.2.1.2.2
  have hb := W.2.2.1.2.2
  intro r
  induction r with
  | zero =>
    intro j fuel hh hj hf e1 e2 e3
    obtain ⟨fuel, rfl⟩ : ∃ z, fuel = z + 1 := ⟨fuel - 1, by omega⟩
    have : j = n := by omega
    subst this
    have Ok := an_ok (C := C) W hA hi j (Nat.le_refl _)
    have hs : hI hh q 4 = nI j := e2.1.2.2.2.2.1.trans Ok.1.1.1
    exact ⟨hh, by rw [f_X2_sendBlocks_l39_s, hs, if_pos (Int32.le_refl _)], e1, e2, e3⟩
  | succ r ih =>
    intro j fuel hh hj hf e1 e2 e3
    obtain ⟨fuel, rfl⟩ : ∃ z, fuel = z + 1 := ⟨fuel - 1, by omega⟩
    have Ok := an_ok (C := C) W hA hi j (by omega)
    have hs : hI hh q 4 = nI n := e2.1.2.2.2.2.1.trans Ok.1.1.1
    have ih1 := fun h3 => ih (j + 1) fuel h3 (by omega) (by omega)
    have ix : nI i * (6 : Int32) + nI j = nI (6 * i + j) := by rw [show (6 : Int32) = nI 6 from rfl, nI_mulE, nI_add, Nat.mul_comm]
    have ea : hI hh (w + 3) (6 * i + j) = oI (A j i) := by rw [hI_eq (e1 _ (by omega) (by omega)).1]; exact ha j (by omega)
    rw [f_X2_sendBlocks_l39_s, hs, if_neg (nI_ge (by omega) (by omega)), ix, if_pos (inb_nI (by omega) (by decide)), nI_clamp (show 6 * i + j < 2 ^ 31 by omega), ea]
    unfold f_X2_sendBlocks_j101 f_X2_sendBlocks_j140
    rw [nI_1]
    cases hk : A j i with
    | none =>
      rw [anM_none hk] at ih1
      rw [oI_none, if_neg (show ¬ (0 : Int32) ≤ -1 by decide)]
      exact ih1 hh e1 e2 e3
    | some k =>
      obtain ⟨k1, k2⟩ := hA j i k hk
      rw [anM_some hk] at ih1
      generalize anM A n b i M C j = s at ih1 e2 e3 Ok ⊢
      have Pj : PeR hh (q + 2 + 1 + 4 * j) j s.1 := e2.2.2.2 j (by omega)
      have Pi : PeR hh (q + 2 + 1 + 4 * i) i s.1 := e2.2.2.2 i (by omega)
      rw [oI_some, if_pos (show (0 : Int32) ≤ nI k from nI_le (a := 0) (by omega) (by omega)), if_pos (inb_nI (by omega) (by decide)), nI_clamp (by omega), (div4 k (by omega)).1, x1_has, bn1_some, Pj.1.2.2.1, x1_holds (by omega), bn1_some, (Pj.2.2.1 k (by omega)).1, if_pos (inb_nI (by omega) (by decide)), nI_clamp (by omega), Pi.1.2.1]
      have can : (bt (pc s.1 j 2) (k / 4) = 1 ∨ pc s.1 j (15 + k) ≠ -1) → ∃ h2, f_X2_sendBlocks_l39 w q (nI i) fuel (nI s.2.1) (nI (j + 1)) (sI hh q 7 (hI hh q 7 + 1)) = some h2 ∧ (∀ z, z < q ∨ q + 27 ≤ z → z ≠ w + 4 → same h h2 z) ∧ SwR h2 q (anM A n b i M C n).1 n ∧ (∀ c, c < 36 → hI h2 (w + 4) c = (anM A n b i M C n).2.2 c) := by
        intro hc
        rw [if_pos hc] at ih1
        have e7 : hI hh q 7 = s.1.1 6 := e2.1.2.2.2.2.2.2.2.1
        rw [e7]
        exact ih1 _ (fun z g1 g2 => same_tr (e1 z g1 g2) (same_sI (by omega))) (SwR_sf (f := 7) _ hn (by decide) (by decide) e2) (fun c hc => by rw [hI_sIb _ _ _ _ (by omega)]; exact e3 c hc)
      by_cases c1 : bt (pc s.1 j 2) (k / 4) = 0
      · rw [if_pos c1]
        by_cases c2 : pc s.1 j (15 + k) = -1
        · rw [show decide (pc s.1 j (15 + k) ≠ -1) = false by simp [c2], show (if false = true then (1 : Int32) else 0) = 0 from rfl, if_pos rfl]
          have hno : ¬ (bt (pc s.1 j 2) (k / 4) = 1 ∨ pc s.1 j (15 + k) ≠ -1) := fun z => z.elim (fun y => by rw [c1] at y; exact absurd y (by decide)) (fun y => y c2)
          rw [if_neg hno] at ih1
          by_cases c3 : pc s.1 i 1 ≤ nI s.2.1
          · rw [if_pos c3]
            rw [if_pos c3] at ih1
            exact ih1 hh e1 e2 e3
          · rw [if_neg c3]
            rw [if_neg c3] at ih1
            obtain ⟨h2, d1, d2, d3, d4⟩ := c_send hd e2 Ok.1 hi (show j < n by omega) k1 k2
            rw [d1, bn1_some, nI_1]
            exact ih1 h2 (fun z g1 g2 => same_tr (e1 z g1 g2) (d2 z g1 g2)) d3 (fun c hc => by
              rw [d4]
              unfold upd
              dsimp only
              by_cases e : c = 6 * j + i
              · rw [if_pos e, if_pos e, e3 _ (by omega)]
              · rw [if_neg e, if_neg e, e3 c hc])
        · rw [show decide (pc s.1 j (15 + k) ≠ -1) = true by simp [c2], show (if true = true then (1 : Int32) else 0) = 1 from rfl, if_neg one_ne_zero32]
          exact can (Or.inr c2)
      · rw [if_neg c1]
        exact can (Or.inl ((bt_01 _ _).resolve_left c1))
theorem r_ans_l {h : Hp} {m n p b i : Nat} {M : MS} {C : Nat → Int32} {A : Nat → Nat → Option Nat} (W : WFs M n p b) (hA : okA A p b) (hi : i < n) (ha : ∀ j, j < n → hI h (m + 7) (6 * j + i) = oI (A j i)) : ∀ (r j fuel : Nat) (hh : Hp), j + r = n → r < fuel → (∀ z, z ≠ m + 2 → z ≠ m + 9 → same h hh z) → rv hh m = (anM A n b i M C j).1 → (∀ c, c < 36 → hI hh (m + 9) c = (anM A n b i M C j).2.2 c) → ∃ h2, f_X6_answers_l4 m (nI i) fuel (nI (anM A n b i M C j).2.1) (nI j) hh = some h2 ∧ (∀ z, z ≠ m + 2 → z ≠ m + 9 → same h h2 z) ∧ rv h2 m = (anM A n b i M C n).1 ∧ (∀ c, c < 36 → hI h2 (m + 9) c = (anM A n b i M C n).2.2 c) := by
  have hn := W.1.2
  have hp := W.2.1.2.2
  have hb := W.2.2.1.2.2
  intro r
  induction r with
  | zero =>
    intro j fuel hh hj hf e1 e2 e3
    obtain ⟨fuel, rfl⟩ : ∃ z, fuel = z + 1 := ⟨fuel - 1, by omega⟩
    have : j = n := by omega
    subst this
    have Ok := an_ok (C := C) W hA hi j (Nat.le_refl _)
    have hs : hI hh (m + 2) (0 : Int32).toNatClampNeg = nI j := (congrArg (fun z : MS => z.1 0) e2).trans Ok.1.1.1
    exact ⟨hh, by rw [f_X6_answers_l4_s, hs, if_pos (Int32.le_refl _)], e1, e2, e3⟩
  | succ r ih =>
    intro j fuel hh hj hf e1 e2 e3
    obtain ⟨fuel, rfl⟩ : ∃ z, fuel = z + 1 := ⟨fuel - 1, by omega⟩
    have Ok := an_ok (C := C) W hA hi j (by omega)
    have hs : hI hh (m + 2) (0 : Int32).toNatClampNeg = nI n := (congrArg (fun z : MS => z.1 0) e2).trans Ok.1.1.1
    have ih1 := fun h3 => ih (j + 1) fuel h3 (by omega) (by omega)
    have ix : (6 : Int32) * nI j + nI i = nI (6 * j + i) := by rw [show (6 : Int32) = nI 6 from rfl, nI_mulE, nI_add]
    have ea : hI hh (m + 7) (6 * j + i) = oI (A j i) := by rw [hI_eq (e1 _ (by omega) (by omega)).1]; exact ha j (by omega)
    rw [f_X6_answers_l4_s, hs, if_neg (nI_ge (by omega) (by omega)), ix, if_pos (inb_nI (by omega) (by decide)), nI_clamp (show 6 * j + i < 2 ^ 31 by omega), ea]
    unfold f_X6_answers_j67 f_X6_answers_j102
    rw [nI_1]
    cases hk : A j i with
    | none =>
      rw [anM_none hk] at ih1
      rw [oI_none, if_pos (show (-1 : Int32) = -1 from rfl)]
      exact ih1 hh e1 e2 e3
    | some k =>
      obtain ⟨k1, k2⟩ := hA j i k hk
      rw [anM_some hk] at ih1
      generalize anM A n b i M C j = s at ih1 e2 e3 Ok ⊢
      have ek : nI (14 + 48 * j) + 15 + nI k = nI (14 + 48 * j + (15 + k)) := by
        rw [show (15 : Int32) = nI 15 from rfl, nI_add, nI_add, show 14 + 48 * j + 15 + k = 14 + 48 * j + (15 + k) by omega]
      obtain ⟨a1, -, a3⟩ := rv_cell (h := hh) (m := m) (i := j) (c := 15 + k) (v := 0) (by omega) (by omega) _ ek
      rw [e2] at a3
      rw [oI_some, if_neg (nI_nm1 (by omega)), (div4 k (by omega)).1, x6_has (by omega), bn1_some, x6_at, bn1_some, if_pos a1, a3, show f_X6_cellOf hh m (nI i) 1 = _ from x6_cell (c := 1) (by omega) (by decide), bn1_some, e2]
      have can : (bt (pc s.1 j 2) (k / 4) = 1 ∨ pc s.1 j (15 + k) ≠ -1) → ∃ h2, f_X6_answers_l4 m (nI i) fuel (nI s.2.1) (nI (j + 1)) (sI hh (m + 2) (6 : Int32).toNatClampNeg (hI hh (m + 2) (6 : Int32).toNatClampNeg + 1)) = some h2 ∧ (∀ z, z ≠ m + 2 → z ≠ m + 9 → same h h2 z) ∧ rv h2 m = (anM A n b i M C n).1 ∧ (∀ c, c < 36 → hI h2 (m + 9) c = (anM A n b i M C n).2.2 c) := by
        intro hc
        rw [if_pos hc] at ih1
        have e6 : hI hh (m + 2) (6 : Int32).toNatClampNeg = s.1.1 6 := congrArg (fun z : MS => z.1 6) e2
        rw [e6]
        exact ih1 _ (fun z g1 g2 => same_tr (e1 z g1 g2) (same_sI g1)) (by rw [show (6 : Int32).toNatClampNeg = 6 from rfl, rv_sI, e2]) (fun c hc => by rw [hI_sIb _ _ _ _ (by omega)]; exact e3 c hc)
      by_cases c1 : bt (pc s.1 j 2) (k / 4) = 0
      · rw [if_pos c1]
        by_cases c2 : pc s.1 j (15 + k) = -1
        · rw [if_pos c2]
          have hno : ¬ (bt (pc s.1 j 2) (k / 4) = 1 ∨ pc s.1 j (15 + k) ≠ -1) := fun z => z.elim (fun y => by rw [c1] at y; exact absurd y (by decide)) (fun y => y c2)
          rw [if_neg hno] at ih1
          by_cases c3 : pc s.1 i 1 ≤ nI s.2.1
          · rw [if_pos c3]
            rw [if_pos c3] at ih1
            exact ih1 hh e1 e2 e3
          · rw [if_neg c3]
            rw [if_neg c3] at ih1
            obtain ⟨h2, d1, d2, d3, d4⟩ := r_send (h := hh) (m := m) (n := n) (p := p) (b := b) (by rw [e2]; exact Ok.1) hi (show j < n by omega) k1 k2
            rw [d1, bn1_some, nI_1]
            rw [e2] at d3
            exact ih1 h2 (fun z g1 g2 => same_tr (e1 z g1 g2) (d2 z g1 g2)) d3 (fun c hc => by
              rw [d4]
              unfold upd
              dsimp only
              by_cases e : c = 6 * j + i
              · rw [if_pos e, if_pos e, e3 _ (by omega)]
              · rw [if_neg e, if_neg e, e3 c hc])
        · rw [if_neg c2]
          exact can (Or.inr c2)
      · rw [if_neg c1]
        exact can (Or.inl ((bt_01 _ _).resolve_left c1))
theorem c_al_l {h : Hp} {w q n p b : Nat} {M : MS} {C : Nat → Int32} {A : Nat → Nat → Option Nat} (hd : q + 27 ≤ w) (W : WFs M n p b) (hA : okA A p b) (ha : ∀ j i, j < n → i < n → hI h (w + 3) (6 * i + j) = oI (A j i)) : ∀ (r i fuel : Nat) (hh : Hp), i + r = n → r < fuel → (∀ z, z < q ∨ q + 27 ≤ z → z ≠ w + 4 → same h hh z) → SwR hh q (alM A n b M C i).1 n → (∀ c, c < 36 → hI hh (w + 4) c = (alM A n b M C i).2 c) → ∃ h2, f_X2_sendBlocks_l26 w q fuel (nI i) hh = some h2 ∧ (∀ z, z < q ∨ q + 27 ≤ z → z ≠ w + 4 → same h h2 z) ∧ SwR h2 q (alM A n b M C n).1 n ∧ (∀ c, c < 36 → hI h2 (w + 4) c = (alM A n b M C n).2 c) := by
  have hn := W.1.2
  intro r
  induction r with
  | zero =>
    intro i fuel hh hi hf e1 e2 e3
    obtain ⟨fuel, rfl⟩ : ∃ z, fuel = z + 1 := ⟨fuel - 1, by omega⟩
    have : i = n := by omega
    subst this
    have hs : hI hh q 4 = nI i := e2.1.2.2.2.2.1.trans (al_ok (C := C) W hA i (Nat.le_refl _)).1.1.1
    exact ⟨hh, by rw [f_X2_sendBlocks_l26_s, hs, if_pos (Int32.le_refl _)], e1, e2, e3⟩
  | succ r ih =>
    intro i fuel hh hi hf e1 e2 e3
    obtain ⟨fuel, rfl⟩ : ∃ z, fuel = z + 1 := ⟨fuel - 1, by omega⟩
    have Ok := al_ok (C := C) W hA i (by omega)
    have hs : hI hh q 4 = nI n := e2.1.2.2.2.2.1.trans Ok.1.1.1
    obtain ⟨h2, d1, d2, d3, d4⟩ := c_ans_l (h := hh) (C := (alM A n b M C i).2) hd Ok.1 hA (show i < n by omega) (fun j hj => by rw [hI_eq (e1 _ (by omega) (by omega)).1]; exact ha j i hj (by omega)) n 0 fu hh (by omega) (by show n < 5000; omega) (fun _ _ _ => same_rfl _ _) e2 e3
    rw [f_X2_sendBlocks_l26_s, hs, if_neg (nI_ge (by omega) (by omega)), show f_X2_sendBlocks_l39 w q (nI i) fu 0 0 hh = _ from d1, bn1_some, nI_1]
    exact ih (i + 1) fuel h2 (by omega) (by omega) (fun z g1 g2 => same_tr (e1 z g1 g2) (d2 z g1 g2)) d3 d4
theorem c_zero_l {h : Hp} {w q : Nat} : ∀ (r k fuel : Nat) (hh : Hp), k + r = 36 → r < fuel → (∀ z, z ≠ w + 4 → same h hh z) → (∀ x, x < k → hI hh (w + 4) x = 0) → ∃ h2, f_X2_sendBlocks_l2 w q fuel (nI k) hh = some h2 ∧ (∀ z, z ≠ w + 4 → same h h2 z) ∧ (∀ x, x < 36 → hI h2 (w + 4) x = 0) := by
  intro r
  induction r with
  | zero =>
    intro k fuel hh hi hf e1 e2
    obtain ⟨fuel, rfl⟩ : ∃ z, fuel = z + 1 := ⟨fuel - 1, by omega⟩
    have : k = 36 := by omega
    subst this
    exact ⟨hh, by rw [f_X2_sendBlocks_l2_s, if_pos (by decide)], e1, e2⟩
  | succ r ih =>
    intro k fuel hh hi hf e1 e2
    obtain ⟨fuel, rfl⟩ : ∃ z, fuel = z + 1 := ⟨fuel - 1, by omega⟩
    rw [f_X2_sendBlocks_l2_s, if_neg (show ¬ (36 : Int32) ≤ nI k from nI_ge (b := 36) (by omega) (by decide)), if_pos (inb_nI (by omega) (by decide)), nI_clamp (by omega), nI_1]
    refine ih (k + 1) fuel _ (by omega) (by omega) (fun z hz => same_tr (e1 z hz) (same_sI hz)) (fun x hx => ?_)
    by_cases e : x = k
    · subst e; rw [hI_sI]
    · rw [hI_sIj _ _ _ e]; exact e2 x (by omega)
theorem r_zero_l {h : Hp} {m : Nat} : ∀ (r k fuel : Nat) (hh : Hp), k + r = 36 → r < fuel → (∀ z, z ≠ m + 9 → same h hh z) → (∀ x, x < k → hI hh (m + 9) x = 0) → ∃ h2, f_X6_round_l70 m fuel (nI k) hh = some h2 ∧ (∀ z, z ≠ m + 9 → same h h2 z) ∧ (∀ x, x < 36 → hI h2 (m + 9) x = 0) := by
  intro r
  induction r with
  | zero =>
    intro k fuel hh hi hf e1 e2
    obtain ⟨fuel, rfl⟩ : ∃ z, fuel = z + 1 := ⟨fuel - 1, by omega⟩
    have : k = 36 := by omega
    subst this
    exact ⟨hh, by rw [f_X6_round_l70_s, if_pos (by decide)], e1, e2⟩
  | succ r ih =>
    intro k fuel hh hi hf e1 e2
    obtain ⟨fuel, rfl⟩ : ∃ z, fuel = z + 1 := ⟨fuel - 1, by omega⟩
    rw [f_X6_round_l70_s, if_neg (show ¬ (36 : Int32) ≤ nI k from nI_ge (b := 36) (by omega) (by decide)), if_pos (inb_nI (by omega) (by decide)), nI_clamp (by omega), nI_1]
    refine ih (k + 1) fuel _ (by omega) (by omega) (fun z hz => same_tr (e1 z hz) (same_sI hz)) (fun x hx => ?_)
    by_cases e : x = k
    · subst e; rw [hI_sI]
    · rw [hI_sIj _ _ _ e]; exact e2 x (by omega)
theorem r_al_l {h : Hp} {m n p b : Nat} {M : MS} {C : Nat → Int32} {A : Nat → Nat → Option Nat} (W : WFs M n p b) (hA : okA A p b) (ha : ∀ j i, j < n → i < n → hI h (m + 7) (6 * j + i) = oI (A j i)) : ∀ (r i fuel : Nat) (hh : Hp), i + r = n → r < fuel → (∀ z, z ≠ m + 2 → z ≠ m + 9 → same h hh z) → rv hh m = (alM A n b M C i).1 → (∀ c, c < 36 → hI hh (m + 9) c = (alM A n b M C i).2 c) → ∃ h2, f_X6_round_l91 m fuel (nI i) hh = some h2 ∧ (∀ z, z ≠ m + 2 → z ≠ m + 9 → same h h2 z) ∧ rv h2 m = (alM A n b M C n).1 ∧ (∀ c, c < 36 → hI h2 (m + 9) c = (alM A n b M C n).2 c) := by
  have hn := W.1.2
  intro r
  induction r with
  | zero =>
    intro i fuel hh hi hf e1 e2 e3
    obtain ⟨fuel, rfl⟩ : ∃ z, fuel = z + 1 := ⟨fuel - 1, by omega⟩
    have : i = n := by omega
    subst this
    have hs : hI hh (m + 2) (0 : Int32).toNatClampNeg = nI i := (congrArg (fun z : MS => z.1 0) e2).trans (al_ok (C := C) W hA i (Nat.le_refl _)).1.1.1
    exact ⟨hh, by rw [f_X6_round_l91_s, hs, if_pos (Int32.le_refl _)], e1, e2, e3⟩
  | succ r ih =>
    intro i fuel hh hi hf e1 e2 e3
    obtain ⟨fuel, rfl⟩ : ∃ z, fuel = z + 1 := ⟨fuel - 1, by omega⟩
    have Ok := al_ok (C := C) W hA i (by omega)
    have hs : hI hh (m + 2) (0 : Int32).toNatClampNeg = nI n := (congrArg (fun z : MS => z.1 0) e2).trans Ok.1.1.1
    obtain ⟨h2, d1, d2, d3, d4⟩ := r_ans_l (h := hh) (C := (alM A n b M C i).2) Ok.1 hA (show i < n by omega) (fun j hj => by rw [hI_eq (e1 _ (by omega) (by omega)).1]; exact ha j i hj (by omega)) n 0 fu hh (by omega) (by show n < 5000; omega) (fun _ _ _ => same_rfl _ _) e2 e3
    rw [f_X6_round_l91_s, hs, if_neg (nI_ge (by omega) (by omega))]
    unfold f_X6_answers
    rw [show f_X6_answers_l4 m (nI i) fu 0 0 hh = _ from d1, bn1_some, bn1_some, nI_1]
    exact ih (i + 1) fuel h2 (by omega) (by omega) (fun z g1 g2 => same_tr (e1 z g1 g2) (d2 z g1 g2)) d3 d4
