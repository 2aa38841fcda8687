/-! BITS of ints -/
theorem bit_ext {x z : Int32} (h : ∀ j, j < 32 → bitb x j = bitb z j) : x = z := Int32.toBitVec_inj.mp (BitVec.eq_of_getLsbD_eq (fun i hi => h i hi))
theorem bitb_and (x z : Int32) (j : Nat) : bitb (x &&& z) j = (bitb x j && bitb z j) := by unfold bitb; rw [Int32.toBitVec_and, BitVec.getLsbD_and]
theorem bitb_or (x z : Int32) (j : Nat) : bitb (x ||| z) j = (bitb x j || bitb z j) := by unfold bitb; rw [Int32.toBitVec_or, BitVec.getLsbD_or]
theorem bitb_xor (x z : Int32) (j : Nat) : bitb (x ^^^ z) j = (bitb x j ^^ bitb z j) := by unfold bitb; rw [Int32.toBitVec_xor, BitVec.getLsbD_xor]
theorem bitb_m1 {j : Nat} (h : j < 32) : bitb (-1) j = true := by
  have : ∀ j, j < 32 → bitb (-1) j = true := by decide
  exact this j h
theorem bitb_nI (a : Nat) {j : Nat} (h : j < 32) : bitb (nI a) j = a.testBit j := by
  unfold bitb
  show (BitVec.ofNat 32 a).getLsbD j = _
  rw [BitVec.getLsbD_ofNat]
  simp [h]
theorem bitb_big (x : Int32) {j : Nat} (h : 32 ≤ j) : bitb x j = false := BitVec.getLsbD_of_ge _ _ h
theorem sh31 {k : Nat} (hk : k < 32) : nI k &&& 31 = nI k := by
  have : ∀ k, k < 32 → nI k &&& 31 = nI k := by decide
  exact this k hk
theorem ush_bv {x : Int32} {k : Nat} (hk : k < 32) : ((x.toUInt32 >>> ((nI k).toUInt32 &&& Int32.toUInt32 31)).toInt32).toBitVec = x.toBitVec >>> k := by
  have hs : ((nI k).toUInt32 &&& Int32.toUInt32 31).toNat = k := by
    have : ∀ k, k < 32 → ((nI k).toUInt32 &&& Int32.toUInt32 31).toNat = k := by decide
    exact this k hk
  apply BitVec.eq_of_toNat_eq
  show (x.toUInt32 >>> _).toNat = _
  rw [UInt32.toNat_shiftRight, hs, Nat.mod_eq_of_lt hk, BitVec.toNat_ushiftRight]
  rfl
def ush (x : Int32) (k : Nat) : Int32 := (x.toUInt32 >>> ((nI k).toUInt32 &&& Int32.toUInt32 31)).toInt32
theorem bitb_ush (x : Int32) {k : Nat} (j : Nat) (hk : k < 32) : bitb (ush x k) j = bitb x (k + j) := by
  unfold bitb ush
  rw [ush_bv hk, BitVec.getLsbD_ushiftRight]
theorem shl_bv (x : Int32) {k : Nat} (hk : k < 32) : (x <<< (nI k &&& 31)).toBitVec = x.toBitVec <<< k := by
  rw [sh31 hk, Int32.toBitVec_shiftLeft]
  have : ∀ k, k < 32 → (nI k).toBitVec.smod 32 = BitVec.ofNat 32 k := by decide
  rw [this k hk]
  show x.toBitVec <<< (BitVec.ofNat 32 k).toNat = _
  rw [BitVec.toNat_ofNat, Nat.mod_eq_of_lt (by omega)]
theorem bitb_shl (x : Int32) {k j : Nat} (hk : k < 32) (hj : j < 32) : bitb (x <<< (nI k &&& 31)) j = (decide (k ≤ j) && bitb x (j - k)) := by
  unfold bitb
  rw [shl_bv x hk, BitVec.getLsbD_shiftLeft]
  by_cases h : k ≤ j
  · simp [h, hj, Nat.not_lt.mpr h]
  · simp [h, hj, Nat.lt_of_not_le h]
theorem sshr_bv (x : Int32) {k : Nat} (hk : k < 32) : (x >>> (nI k &&& 31)).toBitVec = x.toBitVec.sshiftRight k := by
  rw [sh31 hk, Int32.toBitVec_shiftRight]
  have : ∀ k, k < 32 → ((nI k).toBitVec.smod 32) = BitVec.ofNat 32 k := by decide
  rw [this k hk]
  show x.toBitVec.sshiftRight (BitVec.ofNat 32 k).toNat = _
  rw [BitVec.toNat_ofNat, Nat.mod_eq_of_lt (by omega)]
theorem bitb_1 {j : Nat} (h : j < 32) : bitb 1 j = decide (j = 0) := by
  have : ∀ j, j < 32 → bitb 1 j = decide (j = 0) := by decide
  exact this j h
theorem and1 (x : Int32) : x &&& 1 = if bitb x 0 then 1 else 0 := by
  apply bit_ext
  intro j hj
  rw [bitb_and, bitb_1 hj]
  by_cases h0 : j = 0
  · subst h0
    by_cases hb : bitb x 0
    · rw [if_pos hb, hb]; rfl
    · rw [if_neg hb, Bool.not_eq_true _ |>.mp hb]; rfl
  · have e0 : bitb 0 j = false := by
      have : ∀ j, j < 32 → bitb 0 j = false := by decide
      exact this j hj
    simp only [h0, decide_false, Bool.and_false]
    by_cases hb : bitb x 0
    · rw [if_pos hb, bitb_1 hj]; simp [h0]
    · rw [if_neg hb, e0]
theorem bt_bit (x : Int32) {k : Nat} (hk : k < 32) : bt x k = if bitb x k then 1 else 0 := by
  unfold bt
  rw [and1]
  have : bitb (x >>> (nI k &&& 31)) 0 = bitb x k := by
    unfold bitb
    rw [sshr_bv x hk, BitVec.getLsbD_sshiftRight]
    simp [hk]
  rw [this]
theorem ush_and1 (x : Int32) {k : Nat} (hk : k < 32) : ush x k &&& 1 = if bitb x k then 1 else 0 := by
  rw [and1, bitb_ush x 0 hk]; rfl
theorem x1_holds {h : Hp} {a k : Nat} (hk : k < 32) : f_X1_holds h a (nI k) = some (if bitb (hI h a 3) k then 1 else 0) := by
  unfold f_X1_holds
  show (if ush (hI h a 3) k &&& 1 = 0 then some 0 else some 1) = _
  rw [ush_and1 _ hk]
  by_cases hb : bitb (hI h a 3) k
  · rw [if_pos hb, if_neg (by decide)]
  · rw [if_neg hb, if_pos rfl]
theorem nI_4b (n b : Nat) : nI n * 4 + nI b = nI (4 * n + b) := by
  rw [show (4 : Int32) = nI 4 from rfl, nI_mulE, nI_add, Nat.mul_comm]
/-- what block() answers -/
def bkM (M : MS) (i n b : Nat) : Int32 := if bt (pc M i 2) n = 0 then pc M i (15 + (4 * n + b)) else 100
theorem x1_source {h : Hp} {a i n b : Nat} {M : MS} (P : PeR h a i M) (hn : n < 8) (hb : b < 4) : f_X1_sourceOf h a (nI n) (nI b) = some (bkM M i n b) := by
  obtain ⟨⟨c0, c1, c2, -⟩, d1, d2, d3⟩ := P
  unfold f_X1_sourceOf bkM
  rw [x1_has, bn1_some, c2, nI_4b, x1_holds (by omega)]
  by_cases h0 : bt (pc M i 2) n = 0
  · rw [if_pos h0, if_pos h0, bn1_some]
    obtain ⟨e1, e2⟩ := d2 (4 * n + b) (by omega)
    rw [e1]
    by_cases hne : pc M i (15 + (4 * n + b)) = -1
    · rw [show decide (pc M i (15 + (4 * n + b)) ≠ -1) = false from decide_eq_false (fun q => q hne), if_pos (by decide), hne]
    · rw [show decide (pc M i (15 + (4 * n + b)) ≠ -1) = true from decide_eq_true hne, if_pos rfl, if_neg (by decide), if_pos (inb_nI (by omega) (by decide)), nI_clamp (by omega), e2 hne]
  · rw [if_neg h0, if_neg h0]
theorem x6_blockOf {h : Hp} {m i n b : Nat} (hi : i < 6) (hn : n < 8) (hb : b < 4) : f_X6_blockOf h m (nI i) (nI n) (nI b) = some (bkM (rv h m) i n b) := by
  unfold f_X6_blockOf bkM
  rw [x6_has hi, bn1_some, x6_source hi hn hb]
  by_cases h0 : bt (pc (rv h m) i 2) n = 0
  · rw [if_pos h0, if_pos h0]; rfl
  · rw [if_neg h0, if_neg h0]
theorem op_block (o : Nat) : Op_block o (Inv o) := by
  intro c h _ H u v w
  obtain ⟨n, p, b, S, w0, w1, w2, -⟩ := id H.1
  have hs : hI h (o + 1) 4 = nI n := S.1.2.2.2.2.1.trans w0.1
  have hp : hI h (o + 1) 0 = nI p := S.1.1.trans w1.1
  have hb : hI h (o + 1) 1 = nI b := S.1.2.1.trans w2.1
  have bad : (∀ q, rv q (o + 174) = rv h (o + 174) → f_X6_block q (o + 174) u v w = bn2 (f_X6_bad q (o + 174)) (fun v h => some (v, h))) → f_X5_block h o u v w = bn2 (f_X5_refuse h o (-2)) (fun v h => some (v, h)) → ∃ z h1 h2, f_X5_block h o u v w = some (z, h1) ∧ f_X6_block h1 (o + 174) u v w = some (z, h2) ∧ Inv o (c + 1) h2 := fun e2 e1 => bad_pair H (G := fun q => f_X6_block q (o + 174) u v w) e1 e2
  rcases idx_or u (n := n) (by omega) with ⟨i, hi, rfl⟩ | hu
  · rcases idx_or v (n := p) (by omega) with ⟨j, hj, rfl⟩ | hv
    · rcases idx_or w (n := b) (by omega) with ⟨k, hk, rfl⟩ | hw
      · refine read_pair H (G := fun q => f_X6_block q (o + 174) (nI i) (nI j) (nI k)) (v := bkM (rv h (o + 174)) i j k) ?_ ?_
        · unfold f_X5_block
          rw [x3_isPeer_t hs w0.2 hi, bn1_some, if_neg (by decide), x3_isPiece_t hp w1.2.2 hj, bn1_some, if_neg (by decide), if_neg (nI_pos (by omega)), hb, if_pos (nI_lt hk (by omega)), if_pos (inb_nI (by omega) (by decide)), nI_clamp (by omega), x1_source (S.2.2.2 i hi) (by omega) (by omega)]; rfl
        · show f_X6_block h (o + 174) (nI i) (nI j) (nI k) = _
          unfold f_X6_block
          rw [x6_isPeer_t w0.2 w0.1 hi, bn1_some, if_neg (by decide), show hI h (o + 174 + 2) (1 : Int32).toNatClampNeg = nI p from w1.1, x6_in_t (inr_t hj (by omega)), bn1_some, if_neg (by decide), show hI h (o + 174 + 2) (2 : Int32).toNatClampNeg = nI b from w2.1, x6_in_t (inr_t hk (by omega)), bn1_some, if_neg (by decide), x6_blockOf (by omega) (by omega) (by omega)]; rfl
      · refine bad (fun q hq => ?_) ?_
        · unfold f_X6_block f_X6_block_j50
          rw [x6_isPeer_t w0.2 (by rw [hq]; exact w0.1) hi, bn1_some, if_neg (by decide), show hI q (o + 174 + 2) (1 : Int32).toNatClampNeg = nI p from (congrArg (fun z : MS => z.1 1) hq).trans w1.1, x6_in_t (inr_t hj (by omega)), bn1_some, if_neg (by decide), show hI q (o + 174 + 2) (2 : Int32).toNatClampNeg = nI b from (congrArg (fun z : MS => z.1 2) hq).trans w2.1, x6_in_f (inr_f (by omega) hw), bn1_some, if_pos rfl]
        · unfold f_X5_block f_X5_block_j37
          rw [x3_isPeer_t hs w0.2 hi, bn1_some, if_neg (by decide), x3_isPiece_t hp w1.2.2 hj, bn1_some, if_neg (by decide), hb]
          by_cases h1 : w < 0
          · rw [if_pos h1]
          · rw [if_neg h1, if_neg (Int32.not_lt.mpr (hw.resolve_left h1))]
    · refine bad (fun q hq => ?_) ?_
      · unfold f_X6_block f_X6_block_j50
        rw [x6_isPeer_t w0.2 (by rw [hq]; exact w0.1) hi, bn1_some, if_neg (by decide), show hI q (o + 174 + 2) (1 : Int32).toNatClampNeg = nI p from (congrArg (fun z : MS => z.1 1) hq).trans w1.1, x6_in_f (inr_f (by omega) hv), bn1_some, if_pos rfl]
      · unfold f_X5_block f_X5_block_j37
        rw [x3_isPeer_t hs w0.2 hi, bn1_some, if_neg (by decide), x3_isPiece_f hp hv, bn1_some, if_pos rfl]
  · refine bad (fun q hq => ?_) ?_
    · unfold f_X6_block f_X6_block_j50
      rw [x6_isPeer_f w0.2 (by rw [hq]; exact w0.1) hu, bn1_some, if_pos rfl]
    · unfold f_X5_block f_X5_block_j37
      rw [x3_isPeer_f hs hu, bn1_some, if_pos rfl]
