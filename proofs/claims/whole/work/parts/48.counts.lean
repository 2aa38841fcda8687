theorem bc_h (h : Hp) (x : Int32) : f_J6_bitCount_0f7a4 h x = f_J6_bitCount_0f7a4 hz0 x := rfl
theorem bc6_t : ∀ a, a < 64 → f_J6_bitCount_0f7a4 hz0 (nI a) = some (sumN (fun k => bt (nI a) k) 6) := by decide +kernel
theorem bc6 {h : Hp} {a : Nat} (ha : a < 64) : f_J6_bitCount_0f7a4 h (nI a) = some (sumN (fun k => bt (nI a) k) 6) := by rw [bc_h]; exact bc6_t a ha
theorem x6_bits_l {h : Hp} {x : Int32} : ∀ (r i fuel : Nat), i + r = 6 → r < fuel → f_X6_bits_l4 h x fuel (sumN (fun k => bt x k) i) (nI i) = some (sumN (fun k => bt x k) 6) := by
  intro r
  induction r with
  | zero =>
    intro i fuel hi hf
    obtain ⟨fuel, rfl⟩ : ∃ z, fuel = z + 1 := ⟨fuel - 1, by omega⟩
    have : i = 6 := by omega
    subst this
    rw [f_X6_bits_l4_s, if_pos (by decide)]
  | succ r ih =>
    intro i fuel hi hf
    obtain ⟨fuel, rfl⟩ : ∃ z, fuel = z + 1 := ⟨fuel - 1, by omega⟩
    rw [f_X6_bits_l4_s, if_neg (show ¬ (6 : Int32) ≤ nI i from nI_ge (b := 6) (by omega) (by decide)), nI_1]
    exact ih (i + 1) fuel (by omega) (by omega)
theorem x6_bits {h : Hp} {x : Int32} : f_X6_bits h x = some (sumN (fun k => bt x k) 6) := by
  unfold f_X6_bits
  rw [show f_X6_bits_l4 h x fu 0 0 = some (sumN (fun k => bt x k) 6) from x6_bits_l 6 0 fu (by omega) (by decide)]; rfl
def prM (M : MS) (n : Nat) : Int32 := sumN (fun i => sumN (fun k => bt (pc M i 5) k) 6) n
theorem x6_pairs_l {h : Hp} {m n : Nat} (hn : n ≤ 6) (h0 : (rv h m).1 0 = nI n) : ∀ (r i fuel : Nat), i + r = n → r < fuel → f_X6_pairs_l4 h m fuel (prM (rv h m) i) (nI i) = some (prM (rv h m) n) := by
  have e0 : hI h (m + 2) (0 : Int32).toNatClampNeg = nI n := h0
  intro r
  induction r with
  | zero =>
    intro i fuel hi hf
    obtain ⟨fuel, rfl⟩ : ∃ z, fuel = z + 1 := ⟨fuel - 1, by omega⟩
    have : i = n := by omega
    subst this
    rw [f_X6_pairs_l4_s, e0, if_pos (Int32.le_refl _)]
  | succ r ih =>
    intro i fuel hi hf
    obtain ⟨fuel, rfl⟩ : ∃ z, fuel = z + 1 := ⟨fuel - 1, by omega⟩
    rw [f_X6_pairs_l4_s, e0, if_neg (nI_ge (by omega) (by omega)), show (5 : Int32) = nI 5 from rfl, x6_cell (by omega) (by decide), bn1_some, x6_bits, bn1_some, nI_1]
    exact ih (i + 1) fuel (by omega) (by omega)
theorem x6_pairs {h : Hp} {m n : Nat} (hn : n ≤ 6) (h0 : (rv h m).1 0 = nI n) : f_X6_pairs h m = some (prM (rv h m) n) := by
  unfold f_X6_pairs
  rw [show f_X6_pairs_l4 h m fu 0 0 = some (prM (rv h m) n) from x6_pairs_l hn h0 n 0 fu (by omega) (by show n < 5000; omega)]; rfl
def dnM (M : MS) : Nat → Bool
  | 0 => true
  | i + 1 => dnM M i && (decide (pc M i 0 ≠ 0) || decide (pc M i 2 = (1 <<< (M.1 1 &&& 31)) - 1))
theorem dnM_mono {M : MS} {i : Nat} (h : dnM M i = false) : ∀ r, dnM M (i + r) = false
  | 0 => h
  | r + 1 => by show (dnM M (i + r) && _) = false; rw [dnM_mono h r]; rfl
def b01 (x : Bool) : Int32 := if x then 1 else 0
theorem x6_done_l {h : Hp} {m n : Nat} (hn : n ≤ 6) (h0 : (rv h m).1 0 = nI n) : ∀ (r i fuel : Nat), i + r = n → r < fuel → f_X6_areDone_l4 h m fuel (b01 (dnM (rv h m) i)) (nI i) = some (b01 (dnM (rv h m) n)) := by
  have e0 : hI h (m + 2) (0 : Int32).toNatClampNeg = nI n := h0
  intro r
  induction r with
  | zero =>
    intro i fuel hi hf
    obtain ⟨fuel, rfl⟩ : ∃ z, fuel = z + 1 := ⟨fuel - 1, by omega⟩
    have : i = n := by omega
    subst this
    rw [f_X6_areDone_l4_s, e0, if_pos (Int32.le_refl _)]
  | succ r ih =>
    intro i fuel hi hf
    obtain ⟨fuel, rfl⟩ : ∃ z, fuel = z + 1 := ⟨fuel - 1, by omega⟩
    have ih1 := ih (i + 1) fuel (by omega) (by omega)
    rw [f_X6_areDone_l4_s, e0, if_neg (nI_ge (by omega) (by omega))]
    by_cases hd : dnM (rv h m) i
    · rw [hd, if_neg (by decide), show f_X6_cellOf h m (nI i) 0 = _ from x6_cell (c := 0) (by omega) (by decide), bn1_some]
      by_cases hk : pc (rv h m) i 0 = 0
      · rw [if_pos hk, show f_X6_cellOf h m (nI i) 2 = _ from x6_cell (c := 2) (by omega) (by decide), bn1_some]
        unfold f_X6_allPieces f_X6_areDone_j40 f_X6_areDone_j44 f_X6_areDone_j45
        rw [bn1_some, nI_1, show hI h (m + 2) (1 : Int32).toNatClampNeg = (rv h m).1 1 from rfl]
        by_cases hh : pc (rv h m) i 2 = (1 <<< ((rv h m).1 1 &&& 31)) - 1
        · rw [if_pos hh]
          have : dnM (rv h m) (i + 1) = true := by
            show (dnM (rv h m) i && _) = true
            rw [hd]; simp [hh]
          rw [this] at ih1
          exact ih1
        · rw [if_neg hh]
          have : dnM (rv h m) (i + 1) = false := by
            show (dnM (rv h m) i && _) = false
            rw [hd]; simp [hk, hh]
          rw [this] at ih1
          exact ih1
      · rw [if_neg hk]
        unfold f_X6_areDone_j40 f_X6_areDone_j45
        rw [nI_1]
        have : dnM (rv h m) (i + 1) = true := by
          show (dnM (rv h m) i && _) = true
          rw [hd]; simp [hk]
        rw [this] at ih1
        exact ih1
    · have hd : dnM (rv h m) i = false := Bool.eq_false_iff.mpr hd
      rw [hd, if_pos (show b01 false = 0 from rfl)]
      unfold f_X6_areDone_j44 f_X6_areDone_j45
      rw [nI_1]
      have : dnM (rv h m) (i + 1) = false := dnM_mono hd 1
      rw [this] at ih1
      exact ih1
theorem isBb_b01 (x : Bool) : isBb (b01 x) = true := by cases x <;> rfl
theorem x6_done {h : Hp} {m n : Nat} (hn : n ≤ 6) (h0 : (rv h m).1 0 = nI n) : f_X6_areDone h m = some (b01 (dnM (rv h m) n)) := by
  unfold f_X6_areDone
  rw [show f_X6_areDone_l4 h m fu 1 0 = some (b01 (dnM (rv h m) n)) from x6_done_l hn h0 n 0 fu (by omega) (by show n < 5000; omega), bn1_some, if_pos (isBb_b01 _)]
section CCount
variable {h : Hp} {q n : Nat} {M : MS}
theorem x3_done_l (H : SwR h q M n) (hn : n ≤ 6) (h0 : M.1 0 = nI n) : ∀ (r i fuel : Nat), i + r = n → r < fuel → dnM M i = true → f_X3_isFinished_l2 h q fuel (nI i) = some (if dnM M n then 1 else 0) := by
  have hs : hI h q 4 = nI n := H.1.2.2.2.2.1.trans h0
  intro r
  induction r with
  | zero =>
    intro i fuel hi hf hd
    obtain ⟨fuel, rfl⟩ : ∃ z, fuel = z + 1 := ⟨fuel - 1, by omega⟩
    have : i = n := by omega
    subst this
    rw [f_X3_isFinished_l2_s, hs, if_pos (Int32.le_refl _), hd]; rfl
  | succ r ih =>
    intro i fuel hi hf hd
    obtain ⟨fuel, rfl⟩ : ∃ z, fuel = z + 1 := ⟨fuel - 1, by omega⟩
    have P := H.2.2.2 i (by omega)
    have e0 : hI h (q + 2 + 1 + 4 * i) 0 = pc M i 0 := P.1.1
    have e2 : hI h (q + 2 + 1 + 4 * i) 2 = pc M i 2 := P.1.2.2.1
    rw [f_X3_isFinished_l2_s, hs, if_neg (nI_ge (by omega) (by omega)), if_pos (inb_nI (by omega) (by decide)), if_pos (inb_nI (by omega) (by decide)), nI_clamp (by omega), e0, e2, H.1.2.2.1]
    unfold f_X3_isFinished_j40
    rw [nI_1]
    have st : dnM M (i + 1) = (dnM M i && (decide (pc M i 0 ≠ 0) || decide (pc M i 2 = (1 <<< (M.1 1 &&& 31)) - 1))) := rfl
    by_cases hk : pc M i 0 = 0
    · rw [if_pos hk]
      by_cases hh : pc M i 2 = (1 <<< (M.1 1 &&& 31)) - 1
      · rw [if_pos hh]
        exact ih (i + 1) fuel (by omega) (by omega) (by rw [st, hd]; simp [hh])
      · rw [if_neg hh]
        have f1 : dnM M (i + 1) = false := by rw [st, hd]; simp [hk, hh]
        have := dnM_mono f1 r
        rw [show i + 1 + r = n by omega] at this
        rw [this]; rfl
    · rw [if_neg hk]
      exact ih (i + 1) fuel (by omega) (by omega) (by rw [st, hd]; simp [hk])
theorem x3_done (H : SwR h q M n) (hn : n ≤ 6) (h0 : M.1 0 = nI n) : f_X3_isFinished h q = some (b01 (dnM M n)) := by
  unfold f_X3_isFinished
  rw [show f_X3_isFinished_l2 h q fu 0 = some (if dnM M n then 1 else 0) from x3_done_l H hn h0 n 0 fu (by omega) (by show n < 5000; omega) rfl, bn1_some]
  cases dnM M n <;> rfl
theorem x3_sent_l (H : SwR h q M n) (hn : n ≤ 6) (h0 : M.1 0 = nI n) : ∀ (r i fuel : Nat), i + r = n → r < fuel → f_X3_sentByAll_l4 h q fuel (sumN (fun i => pc M i 6) i) (nI i) = some (sumN (fun i => pc M i 6) n) := by
  have hs : hI h q 4 = nI n := H.1.2.2.2.2.1.trans h0
  intro r
  induction r with
  | zero =>
    intro i fuel hi hf
    obtain ⟨fuel, rfl⟩ : ∃ z, fuel = z + 1 := ⟨fuel - 1, by omega⟩
    have : i = n := by omega
    subst this
    rw [f_X3_sentByAll_l4_s, hs, if_pos (Int32.le_refl _)]
  | succ r ih =>
    intro i fuel hi hf
    obtain ⟨fuel, rfl⟩ : ∃ z, fuel = z + 1 := ⟨fuel - 1, by omega⟩
    have P := H.2.2.2 i (by omega)
    have e0 : hI h (q + 2 + 1 + 4 * i) 7 = pc M i 6 := P.1.2.2.2.2.2.2.1
    rw [f_X3_sentByAll_l4_s, hs, if_neg (nI_ge (by omega) (by omega)), if_pos (inb_nI (by omega) (by decide)), nI_clamp (by omega), e0, nI_1]
    exact ih (i + 1) fuel (by omega) (by omega)
theorem x3_sent (H : SwR h q M n) (hn : n ≤ 6) (h0 : M.1 0 = nI n) : f_X3_sentByAll h q = some (sumN (fun i => pc M i 6) n) := by
  unfold f_X3_sentByAll
  rw [show f_X3_sentByAll_l4 h q fu 0 0 = _ from x3_sent_l H hn h0 n 0 fu (by omega) (by show n < 5000; omega)]; rfl
theorem x3_pairs_l (H : SwR h q M n) (hn : n ≤ 6) (h0 : M.1 0 = nI n) (hb : ∀ i, i < n → ∃ a, a < 64 ∧ pc M i 5 = nI a) : ∀ (r i fuel : Nat), i + r = n → r < fuel → f_X3_pairsThatBar_l4 h q fuel (prM M i) (nI i) = some (prM M n) := by
  have hs : hI h q 4 = nI n := H.1.2.2.2.2.1.trans h0
  intro r
  induction r with
  | zero =>
    intro i fuel hi hf
    obtain ⟨fuel, rfl⟩ : ∃ z, fuel = z + 1 := ⟨fuel - 1, by omega⟩
    have : i = n := by omega
    subst this
    rw [f_X3_pairsThatBar_l4_s, hs, if_pos (Int32.le_refl _)]
  | succ r ih =>
    intro i fuel hi hf
    obtain ⟨fuel, rfl⟩ : ∃ z, fuel = z + 1 := ⟨fuel - 1, by omega⟩
    have P := H.2.2.2 i (by omega)
    have e0 : hI h (q + 2 + 1 + 4 * i) 6 = pc M i 5 := P.1.2.2.2.2.2.1
    obtain ⟨a, ha, ea⟩ := hb i (by omega)
    rw [f_X3_pairsThatBar_l4_s, hs, if_neg (nI_ge (by omega) (by omega)), if_pos (inb_nI (by omega) (by decide)), nI_clamp (by omega), e0, ea, bc6 ha, bn1_some, nI_1, ← ea]
    exact ih (i + 1) fuel (by omega) (by omega)
theorem x3_pairs (H : SwR h q M n) (hn : n ≤ 6) (h0 : M.1 0 = nI n) (hb : ∀ i, i < n → ∃ a, a < 64 ∧ pc M i 5 = nI a) : f_X3_pairsThatBar h q = some (prM M n) := by
  unfold f_X3_pairsThatBar
  rw [show f_X3_pairsThatBar_l4 h q fu 0 0 = _ from x3_pairs_l H hn h0 hb n 0 fu (by omega) (by show n < 5000; omega)]; rfl
end CCount
/-- what count() answers -/
def ctM (M : MS) (n k : Nat) : Int32 := if k < 8 then M.1 k else if k = 8 then prM M n else b01 (dnM M n)
theorem x6_countOf {h : Hp} {m n k : Nat} (hn : n ≤ 6) (h0 : (rv h m).1 0 = nI n) (hk : k < 10) : f_X6_countOf h m (nI k) = some (ctM (rv h m) n k) := by
  unfold f_X6_countOf
  rcases (show k = 0 ∨ k = 1 ∨ k = 2 ∨ k = 3 ∨ k = 4 ∨ k = 5 ∨ k = 6 ∨ k = 7 ∨ k = 8 ∨ k = 9 by omega) with rfl | rfl | rfl | rfl | rfl | rfl | rfl | rfl | rfl | rfl
  · rfl
  · rfl
  · rfl
  · rfl
  · rfl
  · rfl
  · rfl
  · rfl
  · rw [x6_pairs hn h0]; rfl
  · rw [x6_done hn h0]
    unfold ctM
    cases dnM (rv h m) n <;> rfl
theorem x3_tellCount {h : Hp} {q n p b t k : Nat} {M : MS} (H : SwR h q M n) (Wf : WFn M n p b t) (hk : k < 10) : f_X3_tellCount h q (nI k) = some (ctM M n k) := by
  obtain ⟨w0, w1, w2, w3, ws, wf, we, wd, wt, wP, wR, wr⟩ := Wf
  obtain ⟨⟨a0, a1, a2, a3, a4, a5, a6, a7, a8⟩, a9, b1, b2⟩ := id H
  unfold f_X3_tellCount
  rcases (show k = 0 ∨ k = 1 ∨ k = 2 ∨ k = 3 ∨ k = 4 ∨ k = 5 ∨ k = 6 ∨ k = 7 ∨ k = 8 ∨ k = 9 by omega) with rfl | rfl | rfl | rfl | rfl | rfl | rfl | rfl | rfl | rfl
  · rw [a4]; rfl
  · rw [a0]; rfl
  · rw [a1]; rfl
  · rw [a5]; rfl
  · rw [x3_sent H w0.2 w0.1, ← wt]; rfl
  · rw [a6]; rfl
  · rw [a7]; rfl
  · rw [a8]; rfl
  · rw [x3_pairs H w0.2 w0.1 (fun i hi => (wP i hi).2.2.2.2.2.1)]; rfl
  · rw [x3_done H w0.2 w0.1]
    unfold ctM
    cases dnM M n <;> rfl
theorem op_count (o : Nat) : Op_count o (Inv o) := by
  intro c h _ H v
  obtain ⟨n, p, b, S, Wf⟩ := id H.1
  have w0 := Wf.1
  rcases idx_or v (n := 10) (by decide) with ⟨k, hk, rfl⟩ | hv
  · refine read_pair H (v := ctM (rv h (o + 174)) n k) ?_ ?_
    · unfold f_X5_count
      rw [if_neg (nI_pos (by omega)), if_pos (show nI k ≤ 9 from nI_le (b := 9) (by omega) (by decide)), x3_tellCount S Wf hk]; rfl
    · unfold f_X6_count
      rw [x6_in_t (show inr (nI k) 0 9 from inr_t (n := 10) hk (by decide)), bn1_some, if_neg (by decide), x6_countOf w0.2 w0.1 hk]; rfl
  · refine bad_pair H ?_ (fun q hq => ?_)
    · unfold f_X5_count f_X5_count_j10
      by_cases h1 : v < 0
      · rw [if_pos h1]
      · rw [if_neg h1, if_neg]
        intro h2
        exact absurd (Int32.le_trans (hv.resolve_left h1) h2) (by decide)
    · unfold f_X6_count
      rw [x6_in_f (show ¬ inr v 0 9 from inr_f (n := 10) (by decide) hv), bn1_some, if_pos rfl]
