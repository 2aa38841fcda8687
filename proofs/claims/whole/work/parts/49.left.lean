/-! rarest, left, of -/
theorem oI_none : oI none = -1 := rfl
theorem oI_some (k : Nat) : oI (some k) = nI k := rfl
theorem nI_nm1 {k : Nat} (h : k < 2 ^ 31) : ¬ nI k = -1 := by
  intro q
  have := congrArg Int32.toInt q
  rw [nI_toInt h] at this
  have e : (-1 : Int32).toInt = -1 := by decide
  rw [e] at this
  omega
def raM (M : MS) (n : Nat) : Nat → Option Nat := bst (fun k => decide (¬ cpM M n k ≤ 0)) (fun k b => decide (¬ cpM M n b ≤ cpM M n k))
theorem raM_none {M : MS} {n k : Nat} (e : raM M n k = none) : raM M n (k + 1) = if ¬ cpM M n k ≤ 0 then some k else none := by
  unfold raM at e ⊢
  show (match bst _ _ k with | none => _ | some b => _) = _
  rw [e]
  by_cases q : cpM M n k ≤ 0 <;> simp [q]
theorem raM_some {M : MS} {n k b : Nat} (e : raM M n k = some b) : raM M n (k + 1) = if ¬ cpM M n k ≤ 0 ∧ ¬ cpM M n b ≤ cpM M n k then some k else some b := by
  unfold raM at e ⊢
  show (match bst _ _ k with | none => _ | some b => _) = _
  rw [e]
  by_cases q : cpM M n k ≤ 0 <;> by_cases q2 : cpM M n b ≤ cpM M n k <;> simp [q, q2]
theorem x6_rarest_l {h : Hp} {m n p : Nat} (hn : n ≤ 6) (hp : p ≤ 8) (h0 : (rv h m).1 0 = nI n) (h1 : (rv h m).1 1 = nI p) : ∀ (r i fuel : Nat), i + r = p → r < fuel → f_X6_rarest_l4 h m fuel (oI (raM (rv h m) n i)) (nI i) = some (oI (raM (rv h m) n p)) := by
  have e0 : hI h (m + 2) (1 : Int32).toNatClampNeg = nI p := h1
  intro r
  induction r with
  | zero =>
    intro i fuel hi hf
    obtain ⟨fuel, rfl⟩ : ∃ z, fuel = z + 1 := ⟨fuel - 1, by omega⟩
    have : i = p := by omega
    subst this
    rw [f_X6_rarest_l4_s, e0, if_pos (Int32.le_refl _)]
  | succ r ih =>
    intro i fuel hi hf
    obtain ⟨fuel, rfl⟩ : ∃ z, fuel = z + 1 := ⟨fuel - 1, by omega⟩
    have ih1 := ih (i + 1) fuel (by omega) (by omega)
    rw [f_X6_rarest_l4_s, e0, if_neg (nI_ge (by omega) (by omega)), x6_copies hn h0, bn1_some]
    unfold f_X6_rarest_j40 f_X6_rarest_j42
    rw [nI_1]
    cases hb : raM (rv h m) n i with
    | none =>
      rw [raM_none hb] at ih1
      rw [oI_none, if_pos (show (-1 : Int32) = -1 from rfl)]
      by_cases hk : cpM (rv h m) n i ≤ 0
      · rw [if_pos hk]
        rw [if_neg (fun q => q hk)] at ih1
        exact ih1
      · rw [if_neg hk]
        rw [if_pos hk] at ih1
        exact ih1
    | some b =>
      have hlt : b < i := bst_lt hb
      rw [raM_some hb] at ih1
      rw [oI_some, if_neg (nI_nm1 (by omega)), bn1_some, x6_copies hn h0, bn1_some]
      by_cases hk : cpM (rv h m) n i ≤ 0
      · rw [if_pos hk]
        rw [if_neg (fun q => q.1 hk)] at ih1
        exact ih1
      · rw [if_neg hk]
        by_cases h2 : cpM (rv h m) n b ≤ cpM (rv h m) n i
        · rw [if_pos h2]
          rw [if_neg (fun q => q.2 h2)] at ih1
          exact ih1
        · rw [if_neg h2]
          rw [if_pos ⟨hk, h2⟩] at ih1
          exact ih1
theorem x5_rarest_l {h : Hp} {o n p : Nat} {M : MS} (H : SwR h (o + 1) M n) (hn : n ≤ 6) (hp : p ≤ 8) (h0 : M.1 0 = nI n) (h1 : M.1 1 = nI p) : ∀ (r i fuel : Nat), i + r = p → r < fuel → f_X5_rarest_l7 h o fuel (oI (raM M n i)) (match raM M n i with | none => 7 | some b => cpM M n b) (nI i) = some (oI (raM M n p)) := by
  have e0 : hI h (o + 1) 0 = nI p := H.1.1.trans h1
  intro r
  induction r with
  | zero =>
    intro i fuel hi hf
    obtain ⟨fuel, rfl⟩ : ∃ z, fuel = z + 1 := ⟨fuel - 1, by omega⟩
    have : i = p := by omega
    subst this
    rw [f_X5_rarest_l7_s, e0, if_pos (Int32.le_refl _)]
  | succ r ih =>
    intro i fuel hi hf
    obtain ⟨fuel, rfl⟩ : ∃ z, fuel = z + 1 := ⟨fuel - 1, by omega⟩
    have ih1 := ih (i + 1) fuel (by omega) (by omega)
    rw [f_X5_rarest_l7_s, e0, if_neg (nI_ge (by omega) (by omega)), x3_copies H hn h0, bn1_some]
    unfold f_X5_rarest_j45
    rw [nI_1]
    obtain ⟨c, hc, ec⟩ := cp_nat M n i
    have hlt1 : cpM M n i < 1 ↔ cpM M n i ≤ 0 := by
      rw [ec, show (1 : Int32) = nI 1 from rfl, show (0 : Int32) = nI 0 from rfl, nI_ltI (by omega) (by decide), nI_leI (by omega) (by decide)]
      omega
    cases hb : raM M n i with
    | none =>
      rw [raM_none hb] at ih1
      by_cases hk : cpM M n i ≤ 0
      · rw [if_pos (hlt1.mpr hk)]
        rw [if_neg (fun q => q hk)] at ih1
        exact ih1
      · rw [if_neg (fun q => hk (hlt1.mp q))]
        rw [if_pos hk] at ih1
        rw [if_neg (show ¬ (7 : Int32) ≤ cpM M n i by rw [ec]; exact nI_ge (b := 7) (by omega) (by decide))]
        exact ih1
    | some b =>
      rw [raM_some hb] at ih1
      by_cases hk : cpM M n i ≤ 0
      · rw [if_pos (hlt1.mpr hk)]
        rw [if_neg (fun q => q.1 hk)] at ih1
        exact ih1
      · rw [if_neg (fun q => hk (hlt1.mp q))]
        by_cases h2 : cpM M n b ≤ cpM M n i
        · rw [if_pos h2]
          rw [if_neg (fun q => q.2 h2)] at ih1
          exact ih1
        · rw [if_neg h2]
          rw [if_pos ⟨hk, h2⟩] at ih1
          exact ih1
theorem op_rarest (o : Nat) : Op_rarest o (Inv o) := by
  intro c h _ H
  obtain ⟨n, p, b, S, w0, w1, w2, -⟩ := id H.1
  refine ⟨oI (raM (rv h (o + 174)) n p), ?_, ?_, Inv_same H⟩
  · unfold f_X5_rarest
    rw [show f_X5_rarest_l7 h o fu (-1) 7 0 = _ from x5_rarest_l S w0.2 w1.2.2 w0.1 w1.1 p 0 fu (by omega) (by show p < 5000; omega)]; rfl
  · unfold f_X6_rarest
    rw [show f_X6_rarest_l4 h (o + 174) fu (-1) 0 = _ from x6_rarest_l w0.2 w1.2.2 w0.1 w1.1 p 0 fu (by omega) (by show p < 5000; omega)]; rfl
/-- a block that is left -/
def lfK (M : MS) (i b k : Nat) : Int32 := if bt (pc M i 2) (k / 4) = 0 ∧ k % 4 < b ∧ pc M i (15 + k) = -1 then 1 else 0
def lfM (M : MS) (i p b : Nat) : Int32 := sumN (lfK M i b) (4 * p)
theorem div4 : ∀ k, k < 64 → nI k / 4 = nI (k / 4) ∧ nI k - nI k / 4 * 4 = nI (k % 4) := by decide
theorem x6_left_l {h : Hp} {m i p b : Nat} (hi6 : i < 6) (hp : p ≤ 8) (hb : b ≤ 4) (h1 : (rv h m).1 1 = nI p) (h2 : (rv h m).1 2 = nI b) : ∀ (r k fuel : Nat), k + r = 4 * p → r < fuel → f_X6_left_l4 h m (nI i) fuel (sumN (lfK (rv h m) i b) k) (nI k) = some (lfM (rv h m) i p b) := by
  have e0 : hI h (m + 2) (1 : Int32).toNatClampNeg = nI p := h1
  have e2 : hI h (m + 2) (2 : Int32).toNatClampNeg = nI b := h2
  have e4 : (4 : Int32) * nI p = nI (4 * p) := by rw [show (4 : Int32) = nI 4 from rfl, nI_mulE]
  intro r
  induction r with
  | zero =>
    intro k fuel hi hf
    obtain ⟨fuel, rfl⟩ : ∃ z, fuel = z + 1 := ⟨fuel - 1, by omega⟩
    have : k = 4 * p := by omega
    subst this
    rw [f_X6_left_l4_s, e0, e4, if_pos (Int32.le_refl _)]; rfl
  | succ r ih =>
    intro k fuel hi hf
    obtain ⟨fuel, rfl⟩ : ∃ z, fuel = z + 1 := ⟨fuel - 1, by omega⟩
    have ih1 := ih (k + 1) fuel (by omega) (by omega)
    obtain ⟨d1, d2⟩ := div4 k (by omega)
    rw [f_X6_left_l4_s, e0, e4, if_neg (nI_ge (by omega) (by omega)), d2, d1, x6_has hi6, bn1_some, e2, x6_source hi6 (by omega) (by omega)]
    unfold f_X6_left_j65 f_X6_left_j66
    rw [nI_1]
    have es : sumN (lfK (rv h m) i b) (k + 1) = sumN (lfK (rv h m) i b) k + lfK (rv h m) i b k := rfl
    rw [es] at ih1
    unfold lfK at ih1
    rw [show 4 * (k / 4) + k % 4 = k by omega]
    by_cases c1 : bt (pc (rv h m) i 2) (k / 4) = 0
    · rw [if_pos c1]
      by_cases c2 : k % 4 < b
      · rw [if_neg (nI_ge c2 (by omega)), bn1_some]
        by_cases c3 : pc (rv h m) i (15 + k) = -1
        · rw [if_pos c3]
          rw [if_pos ⟨c1, c2, c3⟩] at ih1
          exact ih1
        · rw [if_neg c3]
          rw [if_neg (fun q => c3 q.2.2)] at ih1
          exact ih1
      · rw [if_pos (nI_le (by omega) (by omega))]
        rw [if_neg (fun q => c2 q.2.1)] at ih1
        exact ih1
    · rw [if_neg c1]
      rw [if_neg (fun q => c1 q.1)] at ih1
      exact ih1
theorem x6_left {h : Hp} {m i p b : Nat} (hi6 : i < 6) (hp : p ≤ 8) (hb : b ≤ 4) (h1 : (rv h m).1 1 = nI p) (h2 : (rv h m).1 2 = nI b) : f_X6_left h m (nI i) = some (lfM (rv h m) i p b) := by
  unfold f_X6_left
  rw [show f_X6_left_l4 h m (nI i) fu 0 0 = _ from x6_left_l hi6 hp hb h1 h2 (4 * p) 0 fu (by omega) (by show 4 * p < 5000; omega)]; rfl
def mk4 (a b c d : Bool) : Nat := a.toNat + 2 * b.toNat + 4 * c.toNat + 8 * d.toNat
theorem mk4_bit : ∀ (a b c d : Bool) (j : Nat), j < 32 → (mk4 a b c d).testBit j = (if j = 0 then a else if j = 1 then b else if j = 2 then c else if j = 3 then d else false) := by decide
theorem low4 (x : Int32) (hx : ∀ j, 4 ≤ j → j < 32 → bitb x j = false) : x = nI (mk4 (bitb x 0) (bitb x 1) (bitb x 2) (bitb x 3)) := by
  apply bit_ext
  intro j hj
  rw [bitb_nI _ hj, mk4_bit _ _ _ _ j hj]
  by_cases h0 : j = 0
  · rw [if_pos h0, h0]
  by_cases h1 : j = 1
  · rw [if_neg h0, if_pos h1, h1]
  by_cases h2 : j = 2
  · rw [if_neg h0, if_neg h1, if_pos h2, h2]
  by_cases h3 : j = 3
  · rw [if_neg h0, if_neg h1, if_neg h2, if_pos h3, h3]
  · rw [if_neg h0, if_neg h1, if_neg h2, if_neg h3]
    exact hx j (by omega) hj
theorem allB_t0 : ∀ b, b < 5 → 1 ≤ b → ∀ j, j < 32 → bitb ((1 <<< (nI b &&& 31)) - 1) j = decide (j < b) := by decide +kernel
theorem allB_t (b : Nat) (h1 : 1 ≤ b) (h4 : b ≤ 4) (j : Nat) (hj : j < 32) : bitb ((1 <<< (nI b &&& 31)) - 1) j = decide (j < b) := allB_t0 b (by omega) h1 j hj
/-- four blocks of a piece, as the class has them -/
def q4 (x : Int32) (n b : Nat) : Int32 := ush x (4 * n) &&& ((1 <<< (nI b &&& 31)) - 1)
theorem q4_bit {x : Int32} {n b j : Nat} (hn : n < 8) (h1 : 1 ≤ b) (h4 : b ≤ 4) (hj : j < 32) : bitb (q4 x n b) j = (bitb x (4 * n + j) && decide (j < b)) := by
  unfold q4
  rw [bitb_and, bitb_ush _ _ (by omega), allB_t b h1 h4 j hj]
theorem q4_nI {x : Int32} {n b : Nat} (hn : n < 8) (h1 : 1 ≤ b) (h4 : b ≤ 4) : q4 x n b = nI (mk4 (bitb x (4 * n) && decide (0 < b)) (bitb x (4 * n + 1) && decide (1 < b)) (bitb x (4 * n + 2) && decide (2 < b)) (bitb x (4 * n + 3) && decide (3 < b))) := by
  have e := low4 (q4 x n b) (fun j h5 h6 => by rw [q4_bit hn h1 h4 h6]; simp; omega)
  rw [q4_bit hn h1 h4 (by decide), q4_bit hn h1 h4 (by decide), q4_bit hn h1 h4 (by decide), q4_bit hn h1 h4 (by decide)] at e
  exact e
theorem bc4_t0 : ∀ k, k < 5 → 1 ≤ k → ∀ (a b c d : Bool), (f_J6_bitCount_0f7a4 hz0 (nI (mk4 (a && decide (0 < k)) (b && decide (1 < k)) (c && decide (2 < k)) (d && decide (3 < k))))).map (fun z => nI k - z) = some ((b01 (!a && decide (0 < k)) + b01 (!b && decide (1 < k))) + b01 (!c && decide (2 < k)) + b01 (!d && decide (3 < k))) := by decide +kernel
theorem bc4_t (a b c d : Bool) (k : Nat) (h1 : 1 ≤ k) (h4 : k ≤ 4) : (f_J6_bitCount_0f7a4 hz0 (nI (mk4 (a && decide (0 < k)) (b && decide (1 < k)) (c && decide (2 < k)) (d && decide (3 < k))))).map (fun z => nI k - z) = some ((b01 (!a && decide (0 < k)) + b01 (!b && decide (1 < k))) + b01 (!c && decide (2 < k)) + b01 (!d && decide (3 < k))) := bc4_t0 k (by omega) h1 a b c d
theorem lf4 {M : MS} {i b n : Nat} : sumN (lfK M i b) (4 * (n + 1)) = sumN (lfK M i b) (4 * n) + lfK M i b (4 * n) + lfK M i b (4 * n + 1) + lfK M i b (4 * n + 2) + lfK M i b (4 * n + 3) := rfl
theorem x3_left_l {h : Hp} {q i n p b a : Nat} {M : MS} (H : SwR h q M n) (P : PeR h a i M) (hp : p ≤ 8) (hb1 : 1 ≤ b) (hb : b ≤ 4) (h1 : M.1 1 = nI p) (h2 : M.1 2 = nI b) : ∀ (r k fuel : Nat), k + r = p → r < fuel → f_X3_leftOf_l4 h q a fuel (sumN (lfK M i b) (4 * k)) (nI k) = some (lfM M i p b) := by
  have e0 : hI h q 0 = nI p := H.1.1.trans h1
  have e1 : hI h q 1 = nI b := H.1.2.1.trans h2
  have e3 : hI h q 3 = (1 <<< (nI b &&& 31)) - 1 := by rw [← h2]; exact H.1.2.2.2.1
  obtain ⟨⟨c0, c1, c2, -⟩, d1, d2, d3⟩ := P
  intro r
  induction r with
  | zero =>
    intro k fuel hi hf
    obtain ⟨fuel, rfl⟩ : ∃ z, fuel = z + 1 := ⟨fuel - 1, by omega⟩
    have : k = p := by omega
    subst this
    rw [f_X3_leftOf_l4_s, e0, if_pos (Int32.le_refl _)]; rfl
  | succ r ih =>
    intro k fuel hi hf
    obtain ⟨fuel, rfl⟩ : ∃ z, fuel = z + 1 := ⟨fuel - 1, by omega⟩
    have ih1 := ih (k + 1) fuel (by omega) (by omega)
    rw [lf4] at ih1
    rw [f_X3_leftOf_l4_s, e0, if_neg (nI_ge (by omega) (by omega)), x1_has, bn1_some, c2, e1, e3]
    unfold f_X3_leftOf_j44
    rw [nI_1]
    have hk : ∀ j, j < 4 → lfK M i b (4 * k + j) = if bt (pc M i 2) k = 0 ∧ j < b ∧ pc M i (15 + (4 * k + j)) = -1 then 1 else 0 := by
      intro j hj
      unfold lfK
      rw [show (4 * k + j) / 4 = k by omega, show (4 * k + j) % 4 = j by omega]
    by_cases z : bt (pc M i 2) k = 0
    · rw [if_pos z, show nI k * 4 = nI (4 * k) by rw [show (4 : Int32) = nI 4 from rfl, nI_mulE, Nat.mul_comm]]
      show bn1 (f_J6_bitCount_0f7a4 h (q4 (hI h a 3) k b)) _ = _
      have hj : ∀ j, j < 4 → lfK M i b (4 * k + j) = b01 (!bitb (hI h a 3) (4 * k + j) && decide (j < b)) := by
        intro j hj
        rw [hk j hj, (d2 (4 * k + j) (by omega)).1]
        by_cases y1 : j < b <;> by_cases y2 : pc M i (15 + (4 * k + j)) = -1 <;> simp [y1, y2, z, b01]
      rw [q4_nI (by omega) hb1 hb, bc_h]
      have T := bc4_t (bitb (hI h a 3) (4 * k)) (bitb (hI h a 3) (4 * k + 1)) (bitb (hI h a 3) (4 * k + 2)) (bitb (hI h a 3) (4 * k + 3)) b hb1 hb
      obtain ⟨w, hw, hw2⟩ := Option.map_eq_some_iff.mp T
      rw [hw, bn1_some, hw2]
      have j0 := hj 0 (by decide)
      have j1 := hj 1 (by decide)
      have j2 := hj 2 (by decide)
      have j3 := hj 3 (by decide)
      rw [Nat.add_zero] at j0
      rw [j0, j1, j2, j3] at ih1
      rw [← Int32.add_assoc, ← Int32.add_assoc, ← Int32.add_assoc]
      exact ih1
    · rw [if_neg z]
      have hz : ∀ j, j < 4 → lfK M i b (4 * k + j) = 0 := fun j hj => by rw [hk j hj, if_neg (fun q => z q.1)]
      have j0 := hz 0 (by decide)
      rw [Nat.add_zero] at j0
      rw [j0, hz 1 (by decide), hz 2 (by decide), hz 3 (by decide)] at ih1
      rw [Int32.add_zero, Int32.add_zero, Int32.add_zero, Int32.add_zero] at ih1
      exact ih1
theorem x3_left {h : Hp} {q i n p b a : Nat} {M : MS} (H : SwR h q M n) (P : PeR h a i M) (hp : p ≤ 8) (hb1 : 1 ≤ b) (hb : b ≤ 4) (h1 : M.1 1 = nI p) (h2 : M.1 2 = nI b) : f_X3_leftOf h q a = some (lfM M i p b) := by
  unfold f_X3_leftOf
  rw [show f_X3_leftOf_l4 h q a fu 0 0 = _ from x3_left_l H P hp hb1 hb h1 h2 p 0 fu (by omega) (by show p < 5000; omega)]; rfl
