theorem nI_mulE (a b : Nat) : nI a * nI b = nI (a * b) := (Int32.ofNat_mul a b).symm
theorem nI_subE {a b : Nat} (h : b ≤ a) : nI a - nI b = nI (a - b) := by
  have : nI a = nI (a - b) + nI b := by rw [nI_add, Nat.sub_add_cancel h]
  rw [this, Int32.add_sub_cancel]
/-- an int is a number below n, or it is outside -/
theorem idx_or (v : Int32) {n : Nat} (hn : n < 2 ^ 31) : (∃ i, i < n ∧ v = nI i) ∨ (v < 0 ∨ nI n ≤ v) := by
  by_cases h : v < 0
  · exact Or.inr (Or.inl h)
  · obtain ⟨j, hj, rfl⟩ := nI_of h
    by_cases hjn : j < n
    · exact Or.inl ⟨j, hjn, rfl⟩
    · exact Or.inr (Or.inr (nI_le (by omega) hj))
theorem nI_m1 {n : Nat} (hn : n < 2 ^ 31) : (nI n - 1).toInt = (n : Int) - 1 := by
  rw [Int32.toInt_sub, nI_toInt hn]
  show ((n : Int) - 1).bmod (2 ^ 32) = _
  rw [Int.bmod_eq_of_le (by omega) (by omega)]
theorem inr_t {i n : Nat} (h : i < n) (hn : n < 2 ^ 31) : inr (nI i) 0 (nI n - 1) := by
  refine ⟨nI_pos (by omega), fun q => ?_⟩
  have := Int32.lt_iff_toInt_lt.mp q
  rw [nI_m1 hn, nI_toInt (by omega)] at this
  omega
theorem inr_f {v : Int32} {n : Nat} (hn : n < 2 ^ 31) (h : v < 0 ∨ nI n ≤ v) : ¬ inr v 0 (nI n - 1) := by
  rintro ⟨a, b⟩
  rcases h with h | h
  · exact a h
  · refine b ?_
    rw [Int32.lt_iff_toInt_lt, nI_m1 hn]
    have := Int32.le_iff_toInt_le.mp h
    rw [nI_toInt hn] at this
    omega
/-- bit k of x, as the programs ask for it -/
def bt (x : Int32) (k : Nat) : Int32 := (x >>> (nI k &&& 31)) &&& 1
theorem bt_01 (x : Int32) (k : Nat) : bt x k = 0 ∨ bt x k = 1 := by
  have h : ∀ z : Int32, z &&& 1 = 0 ∨ z &&& 1 = 1 := by
    intro z
    have hb : ∀ w : BitVec 32, w &&& 1#32 = 0#32 ∨ w &&& 1#32 = 1#32 := by
      intro w
      by_cases hw : w.getLsbD 0
      · right
        apply BitVec.eq_of_getLsbD_eq
        intro i hi
        by_cases h0 : i = 0
        · subst h0; simp [hw]
        · simp [h0]
      · left
        apply BitVec.eq_of_getLsbD_eq
        intro i hi
        by_cases h0 : i = 0
        · subst h0; simp; simpa using hw
        · simp [h0]
    rcases hb z.toBitVec with q | q
    · left; exact Int32.toBitVec_inj.mp q
    · right; exact Int32.toBitVec_inj.mp q
  exact h _
theorem bt_ne {x : Int32} {k : Nat} (h : ¬ bt x k = 0) : bt x k = 1 := (bt_01 x k).resolve_left h
theorem one_ne_zero32 : ¬ (1 : Int32) = 0 := by decide
