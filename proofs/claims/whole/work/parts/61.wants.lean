/-! WHO WANTS, who is best -/
theorem b01_t {x : Bool} (h : x = true) : b01 x = 1 := by rw [h]; rfl
theorem b01_f {x : Bool} (h : x = false) : b01 x = 0 := by rw [h]; rfl
def wnM (M : MS) (j i : Nat) : Bool := decide (i ≠ j) && (decide (pc M j 0 ≠ 2) && (decide (bt (pc M j 5) i = 0) && (decide (bt (pc M i 5) j = 0) && decide (clM M i &&& (pc M j 2 ^^^ (-1)) ≠ 0))))
theorem x6_barred {h : Hp} {m i j : Nat} (hj : j < 6) : f_X6_isBarred h m (nI j) (nI i) = some (bt (pc (rv h m) j 5) i) := by
  unfold f_X6_isBarred
  rw [show f_X6_cellOf h m (nI j) 5 = _ from x6_cell (c := 5) hj (by decide), bn1_some]
  show (if bt (pc (rv h m) j 5) i = 1 then some 1 else some 0) = _
  rcases bt_01 (pc (rv h m) j 5) i with z | z
  · rw [z, if_neg (by decide)]
  · rw [z, if_pos rfl]
theorem x6_wants {h : Hp} {m i j : Nat} (hi : i < 6) (hj : j < 6) : f_X6_wants h m (nI j) (nI i) = some (b01 (wnM (rv h m) j i)) := by
  unfold f_X6_wants f_X6_wants_j54 wnM
  rw [show f_X6_cellOf h m (nI j) 0 = _ from x6_cell (c := 0) hj (by decide), bn1_some, x6_barred hj, bn1_some, x6_barred hi, bn1_some, x6_claims hi, bn1_some, show f_X6_cellOf h m (nI j) 2 = _ from x6_cell (c := 2) hj (by decide), bn1_some]
  generalize clM (rv h m) i &&& (pc (rv h m) j 2 ^^^ (-1)) = X
  by_cases e1 : i = j
  · rw [if_pos (by rw [e1])]; simp [e1, b01]
  rw [if_neg (fun z => e1 ((nI_eq (by omega) (by omega)).mp z))]
  by_cases e2 : pc (rv h m) j 0 = 2
  · rw [if_pos e2]; simp [e2, b01]
  rw [if_neg e2]
  by_cases e3 : bt (pc (rv h m) j 5) i = 0
  · rw [if_pos e3]
    by_cases e4 : bt (pc (rv h m) i 5) j = 0
    · rw [if_pos e4]
      by_cases e5 : X = 0
      · rw [if_pos e5]; simp [e5, b01]
      · rw [if_neg e5]; simp [e1, e2, e3, e4, e5, b01]
    · rw [if_neg e4]; simp [e4, b01]
  · rw [if_neg e3]; simp [e3, b01]
theorem x2_wants {h : Hp} {q n i j : Nat} {M : MS} (S : SwR h q M n) (hn : n ≤ 6) (hi : i < n) (hj : j < n) : f_X2_wants h q (nI j) (nI i) = some (b01 (wnM M j i)) := by
  have Pi : PeR h (q + 2 + 1 + 4 * i) i M := S.2.2.2 i hi
  have Pj : PeR h (q + 2 + 1 + 4 * j) j M := S.2.2.2 j hj
  unfold f_X2_wants f_X2_wants_j20 f_X2_wants_j49 wnM
  rw [if_pos (inb_nI (by omega) (by decide)), nI_clamp (by omega), nI_clamp (by omega), Pj.1.1, Pj.1.2.2.2.2.2.1, Pi.1.2.2.2.2.2.1, Pj.1.2.2.1, x3_claims S hn hi, bn1_some]
  generalize clM M i &&& (pc M j 2 ^^^ (-1)) = X
  by_cases e1 : i = j
  · rw [if_pos (by rw [e1])]; simp [e1, b01]
  rw [if_neg (fun z => e1 ((nI_eq (by omega) (by omega)).mp z))]
  by_cases e2 : pc M j 0 = 2
  · rw [if_pos e2]; simp [e2, b01]
  rw [if_neg e2]
  by_cases e3 : bt (pc M j 5) i = 0
  · rw [if_pos (show ((pc M j 5) >>> (nI i &&& 31)) &&& 1 = 0 from e3), if_pos (inb_nI (by omega) (by decide))]
    by_cases e4 : bt (pc M i 5) j = 0
    · rw [if_pos (show ((pc M i 5) >>> (nI j &&& 31)) &&& 1 = 0 from e4)]
      by_cases e5 : X = 0
      · rw [if_pos e5]; simp [e5, b01]
      · rw [if_neg e5]; simp [e1, e2, e3, e4, e5, b01]
    · rw [if_neg (show ¬ ((pc M i 5) >>> (nI j &&& 31)) &&& 1 = 0 from e4)]; simp [e4, b01]
  · rw [if_neg (show ¬ ((pc M j 5) >>> (nI i &&& 31)) &&& 1 = 0 from e3)]; simp [e3, b01]
/-- a set of numbers, as bits -/
def orN (f : Nat → Bool) : Nat → Int32
  | 0 => 0
  | j + 1 => if f j then orN f j ||| ((1 : Int32) <<< (nI j &&& 31)) else orN f j
theorem orN_bit {f : Nat → Bool} : ∀ {n : Nat}, n ≤ 32 → ∀ j, j < 32 → bitb (orN f n) j = (decide (j < n) && f j)
  | 0, _, j, hj => by rw [show orN f 0 = 0 from rfl, bitb_0 hj]; simp
  | n + 1, hn, j, hj => by
    have ih := orN_bit (f := f) (n := n) (by omega) j hj
    show bitb (if f n then _ else _) j = _
    by_cases q : f n = true
    · rw [if_pos q, bitb_or1 (by omega) hj, ih]
      by_cases e : j = n
      · subst e; simp [q]
      · by_cases e2 : j < n
        · simp [e, e2, Nat.lt_succ_of_lt e2]
        · simp [e, e2, show ¬ j < n + 1 by omega]
    · rw [if_neg q, ih]
      by_cases e : j = n
      · subst e; simp [q]
      · by_cases e2 : j < n
        · simp [e2, Nat.lt_succ_of_lt e2]
        · simp [e2, show ¬ j < n + 1 by omega]
theorem or_0 (x : Int32) : x ||| 0 = x := by
  apply bit_ext
  intro j hj
  rw [bitb_or, bitb_0 hj, Bool.or_false]
theorem low_nI {x : Int32} {k : Nat} (hx : ∀ j, k ≤ j → j < 32 → bitb x j = false) : ∃ a, a < 2 ^ k ∧ x = nI a := by
  refine ⟨x.toBitVec.toNat, Nat.lt_pow_two_of_testBit _ (fun j hj => ?_), ?_⟩
  · by_cases h32 : j < 32
    · have := hx j hj h32
      unfold bitb at this
      rw [BitVec.testBit_toNat]
      exact this
    · rw [BitVec.testBit_toNat]
      exact BitVec.getLsbD_of_ge _ _ (by omega)
  · apply Int32.toBitVec_inj.mp
    show _ = BitVec.ofNat 32 _
    rw [BitVec.ofNat_toNat, BitVec.setWidth_eq]
theorem bitb_not (x : Int32) {j : Nat} (hj : j < 32) : bitb (x ^^^ (-1)) j = !bitb x j := by rw [bitb_xor, bitb_m1 hj, Bool.xor_true]
theorem bt1 (x : Int32) {k : Nat} (hk : k < 32) : bt x k = 1 ↔ bitb x k = true := by
  rw [bt_bit x hk]
  by_cases h : bitb x k = true
  · rw [if_pos h]; simp [h]
  · rw [if_neg h]; simp [h]
theorem bt0 (x : Int32) {k : Nat} (hk : k < 32) : bt x k = 0 ↔ bitb x k = false := by
  rw [bt_bit x hk]
  by_cases h : bitb x k = true
  · rw [if_pos h]; simp [h]
  · rw [if_neg h]; simp [h]
def wgM (M : MS) (n i : Nat) : Int32 := orN (fun j => wnM M j i) n
theorem x6_wanting_l {h : Hp} {m n i : Nat} (hn : n ≤ 6) (hi : i < 6) (h0 : (rv h m).1 0 = nI n) : ∀ (r j fuel : Nat), j + r = n → r < fuel → f_X6_opens_l4 h m (nI i) fuel (orN (fun j => wnM (rv h m) j i) j) (nI j) = some (wgM (rv h m) n i) := by
  have e0 : hI h (m + 2) (0 : Int32).toNatClampNeg = nI n := h0
  intro r
  induction r with
  | zero =>
    intro j fuel hj hf
    obtain ⟨fuel, rfl⟩ : ∃ z, fuel = z + 1 := ⟨fuel - 1, by omega⟩
    have : j = n := by omega
    subst this
    rw [f_X6_opens_l4_s, e0, if_pos (Int32.le_refl _)]; rfl
  | succ r ih =>
    intro j fuel hj hf
    obtain ⟨fuel, rfl⟩ : ∃ z, fuel = z + 1 := ⟨fuel - 1, by omega⟩
    have ih1 := ih (j + 1) fuel (by omega) (by omega)
    rw [show orN (fun j => wnM (rv h m) j i) (j + 1) = (if wnM (rv h m) j i then orN (fun j => wnM (rv h m) j i) j ||| ((1 : Int32) <<< (nI j &&& 31)) else orN (fun j => wnM (rv h m) j i) j) from rfl] at ih1
    rw [f_X6_opens_l4_s, e0, if_neg (nI_ge (by omega) (by omega)), x6_wants hi (by omega), bn1_some]
    unfold f_X6_opens_j31
    rw [nI_1, or_0]
    cases hw : wnM (rv h m) j i
    · rw [hw, if_neg (by decide)] at ih1
      rw [if_pos (show b01 false = 0 from rfl)]
      exact ih1
    · rw [hw, if_pos rfl] at ih1
      rw [if_neg (by decide)]
      exact ih1
theorem x2_wanting_l {h : Hp} {w q n i : Nat} {M : MS} (S : SwR h q M n) (hn : n ≤ 6) (h0 : M.1 0 = nI n) (hi : i < n) : ∀ (r j fuel : Nat), j + r = n → r < fuel → f_X2_findWanters_l15 h w q (nI i) fuel (orN (fun j => wnM M j i) j) (nI j) = some (wgM M n i) := by
  have hs : hI h q 4 = nI n := S.1.2.2.2.2.1.trans h0
  intro r
  induction r with
  | zero =>
    intro j fuel hj hf
    obtain ⟨fuel, rfl⟩ : ∃ z, fuel = z + 1 := ⟨fuel - 1, by omega⟩
    have : j = n := by omega
    subst this
    rw [f_X2_findWanters_l15_s, hs, if_pos (Int32.le_refl _)]; rfl
  | succ r ih =>
    intro j fuel hj hf
    obtain ⟨fuel, rfl⟩ : ∃ z, fuel = z + 1 := ⟨fuel - 1, by omega⟩
    have ih1 := ih (j + 1) fuel (by omega) (by omega)
    rw [show orN (fun j => wnM M j i) (j + 1) = (if wnM M j i then orN (fun j => wnM M j i) j ||| ((1 : Int32) <<< (nI j &&& 31)) else orN (fun j => wnM M j i) j) from rfl] at ih1
    rw [f_X2_findWanters_l15_s, hs, if_neg (nI_ge (by omega) (by omega)), x2_wants S hn hi (by omega), bn1_some]
    unfold f_X2_findWanters_j41
    rw [nI_1]
    cases hw : wnM M j i
    · rw [hw, if_neg (by decide)] at ih1
      rw [if_pos (show b01 false = 0 from rfl)]
      exact ih1
    · rw [hw, if_pos rfl] at ih1
      rw [if_neg (by decide)]
      exact ih1
theorem c_wanters_l {h : Hp} {w q n : Nat} {M : MS} (hd : q + 27 ≤ w) (S : SwR h q M n) (hn : n ≤ 6) (h0 : M.1 0 = nI n) : ∀ (r i fuel : Nat) (hh : Hp), i + r = n → r < fuel → (∀ z, z ≠ w + 1 → same h hh z) → (∀ k, k < i → hI hh (w + 1) k = wgM M n k) → ∃ h2, f_X2_findWanters_l2 w q fuel (nI i) hh = some h2 ∧ (∀ z, z ≠ w + 1 → same h h2 z) ∧ (∀ k, k < n → hI h2 (w + 1) k = wgM M n k) := by
  intro r
  induction r with
  | zero =>
    intro i fuel hh hi hf e1 e2
    obtain ⟨fuel, rfl⟩ : ∃ z, fuel = z + 1 := ⟨fuel - 1, by omega⟩
    have : i = n := by omega
    subst this
    have hs : hI hh q 4 = nI i := by rw [hI_eq (e1 q (by omega)).1]; exact S.1.2.2.2.2.1.trans h0
    exact ⟨hh, by rw [f_X2_findWanters_l2_s, hs, if_pos (Int32.le_refl _)], e1, e2⟩
  | succ r ih =>
    intro i fuel hh hi hf e1 e2
    obtain ⟨fuel, rfl⟩ : ∃ z, fuel = z + 1 := ⟨fuel - 1, by omega⟩
    have hs : hI hh q 4 = nI n := by rw [hI_eq (e1 q (by omega)).1]; exact S.1.2.2.2.2.1.trans h0
    have S1 : SwR hh q M n := SwR_congr hn (fun a g1 g2 => (e1 a (by omega)).1) (e1 q (by omega)).2.1 (fun a g1 g2 => (e1 a (by omega)).2.2) S
    rw [f_X2_findWanters_l2_s, hs, if_neg (nI_ge (by omega) (by omega)), show f_X2_findWanters_l15 hh w q (nI i) fu 0 0 = _ from x2_wanting_l S1 hn h0 (by omega) n 0 fu (by omega) (by show n < 5000; omega), bn1_some, if_pos (inb_nI (by omega) (by decide)), nI_clamp (by omega), nI_1]
    refine ih (i + 1) fuel _ (by omega) (by omega) (fun z hz => same_tr (e1 z hz) (same_sI hz)) (fun k hk => ?_)
    by_cases e : k = i
    · subst e; rw [hI_sI]
    · rw [hI_sIj _ _ _ e]; exact e2 k (by omega)
theorem c_wanters {h : Hp} {w q n : Nat} {M : MS} (hd : q + 27 ≤ w) (S : SwR h q M n) (hn : n ≤ 6) (h0 : M.1 0 = nI n) : ∃ h2, f_X2_findWanters h w q = some h2 ∧ (∀ z, z ≠ w + 1 → same h h2 z) ∧ (∀ k, k < n → hI h2 (w + 1) k = wgM M n k) := by
  obtain ⟨h2, e1, e2, e3⟩ := c_wanters_l hd S hn h0 n 0 fu h (by omega) (by show n < 5000; omega) (fun _ _ => same_rfl _ _) (fun k hk => absurd hk (Nat.not_lt_zero k))
  refine ⟨h2, ?_, e2, e3⟩
  unfold f_X2_findWanters
  rw [show (0 : Int32) = nI 0 from rfl, e1]; rfl
/-- what j is worth to i -/
def woM (M : MS) (i j : Nat) : UInt32 := if pc M i 2 = (1 <<< (M.1 1 &&& 31)) - 1 ∨ pc M i 0 = 2 then M.2.1 (6 * j + i) else M.2.1 (6 * i + j)
theorem x6_worth {h : Hp} {m i j : Nat} (hi : i < 6) (hj : j < 6) : f_X6_worth h m (nI i) (nI j) = some (woM (rv h m) i j) := by
  have a1 : (6 : Int32) * nI j + nI i = nI (6 * j + i) := by rw [show (6 : Int32) = nI 6 from rfl, nI_mulE, nI_add]
  have a2 : (6 : Int32) * nI i + nI j = nI (6 * i + j) := by rw [show (6 : Int32) = nI 6 from rfl, nI_mulE, nI_add]
  unfold f_X6_worth f_X6_worth_j23 f_X6_worth_j28 f_X6_allPieces woM
  rw [show f_X6_cellOf h m (nI i) 2 = _ from x6_cell (c := 2) hi (by decide), bn1_some, bn1_some, show f_X6_cellOf h m (nI i) 0 = _ from x6_cell (c := 0) hi (by decide), bn1_some, a1, a2, if_neg (show ¬ (1 : Int32) = 0 by decide), if_pos (show (0 : Int32) = 0 from rfl), if_pos (inb_nI (by omega) (by decide)), if_pos (inb_nI (by omega) (by decide)), nI_clamp (by omega), nI_clamp (by omega), show hI h (m + 2) (1 : Int32).toNatClampNeg = (rv h m).1 1 from rfl]
  by_cases e1 : pc (rv h m) i 2 = (1 <<< ((rv h m).1 1 &&& 31)) - 1
  · rw [if_pos e1, if_pos (Or.inl e1)]; rfl
  · rw [if_neg e1]
    by_cases e2 : pc (rv h m) i 0 = 2
    · rw [if_pos e2, if_pos (Or.inr e2)]; rfl
    · rw [if_neg e2, if_neg (fun z => z.elim e1 e2)]; rfl
theorem x2_worth {h : Hp} {q n i j : Nat} {M : MS} (S : SwR h q M n) (hn : n ≤ 6) (hi : i < n) (hj : j < n) (hne : j ≠ i) : f_X2_worthOf h q (nI i) (nI j) = some (woM M i j) := by
  have Pi : PeR h (q + 2 + 1 + 4 * i) i M := S.2.2.2 i hi
  have Pj : PeR h (q + 2 + 1 + 4 * j) j M := S.2.2.2 j hj
  unfold f_X2_worthOf f_X2_worthOf_j26 f_X2_worthOf_j31 woM
  have gi : inb (nI i) 6 = true := inb_nI (by omega) (by decide)
  have gj : inb (nI j) 6 = true := inb_nI (by omega) (by decide)
  simp only [gi, gj, eq_self, if_true]
  rw [nI_clamp (by omega), nI_clamp (by omega), Pi.1.1, Pi.1.2.2.1, S.1.2.2.1, if_neg (show ¬ (1 : Int32) = 0 by decide), Pi.2.2.2 j (by omega) hne, Pj.2.2.2 i (by omega) (Ne.symm hne)]
  by_cases e2 : pc M i 0 = 2
  · rw [if_pos e2, if_pos (Or.inr e2)]
  · rw [if_neg e2]
    by_cases e1 : pc M i 2 = (1 <<< (M.1 1 &&& 31)) - 1
    · rw [if_pos e1, if_pos (Or.inl e1)]
    · rw [if_neg e1, if_neg (fun z => z.elim e1 e2)]
def beM (M : MS) (i : Nat) (s : Int32) : Nat → Option Nat := bst (fun j => decide (bt s j = 1)) (fun j b => decide (¬ Op.cmpValue (FP.fcmp (woM M i j) (woM M i b)) .l ≤ 0))
theorem beM_none {M : MS} {i k : Nat} {s : Int32} (e : beM M i s k = none) : beM M i s (k + 1) = if bt s k = 1 then some k else none := by
  unfold beM at e ⊢
  show (match bst _ _ k with | none => _ | some b => _) = _
  rw [e]
  by_cases q : bt s k = 1 <;> simp [q]
theorem beM_some {M : MS} {i k b : Nat} {s : Int32} (e : beM M i s k = some b) : beM M i s (k + 1) = if bt s k = 1 ∧ ¬ Op.cmpValue (FP.fcmp (woM M i k) (woM M i b)) .l ≤ 0 then some k else some b := by
  unfold beM at e ⊢
  show (match bst _ _ k with | none => _ | some b => _) = _
  rw [e]
  by_cases q : bt s k = 1 <;> by_cases q2 : Op.cmpValue (FP.fcmp (woM M i k) (woM M i b)) .l ≤ 0 <;> simp [q, q2]
theorem x6_best_l {h : Hp} {m n i : Nat} {s : Int32} (hn : n ≤ 6) (hi : i < 6) (h0 : (rv h m).1 0 = nI n) : ∀ (r j fuel : Nat), j + r = n → r < fuel → f_X6_best_l5 h m (nI i) s fuel (oI (beM (rv h m) i s j)) (nI j) = some (oI (beM (rv h m) i s n)) := by
  have e0 : hI h (m + 2) (0 : Int32).toNatClampNeg = nI n := h0
  intro r
  induction r with
  | zero =>
    intro j fuel hj hf
    obtain ⟨fuel, rfl⟩ : ∃ z, fuel = z + 1 := ⟨fuel - 1, by omega⟩
    have : j = n := by omega
    subst this
    rw [f_X6_best_l5_s, e0, if_pos (Int32.le_refl _)]
  | succ r ih =>
    intro j fuel hj hf
    obtain ⟨fuel, rfl⟩ : ∃ z, fuel = z + 1 := ⟨fuel - 1, by omega⟩
    have ih1 := ih (j + 1) fuel (by omega) (by omega)
    rw [f_X6_best_l5_s, e0, if_neg (nI_ge (by omega) (by omega))]
    unfold f_X6_best_j31 f_X6_best_j60 f_X6_best_j63
    rw [nI_1, if_neg (show ¬ (1 : Int32) = 0 by decide), if_pos (show (0 : Int32) = 0 from rfl)]
    show (if bt s j = 1 then _ else _) = _
    cases hb : beM (rv h m) i s j with
    | none =>
      rw [beM_none hb] at ih1
      rw [oI_none, if_pos (show (-1 : Int32) = -1 from rfl)]
      by_cases q1 : bt s j = 1
      · rw [if_pos q1]; rw [if_pos q1] at ih1; exact ih1
      · rw [if_neg q1]; rw [if_neg q1] at ih1; exact ih1
    | some b =>
      have hlt : b < j := bst_lt hb
      rw [beM_some hb] at ih1
      rw [oI_some, if_neg (nI_nm1 (by omega)), x6_worth hi (by omega), bn1_some, x6_worth hi (by omega), bn1_some]
      by_cases q1 : bt s j = 1
      · rw [if_pos q1]
        by_cases q2 : Op.cmpValue (FP.fcmp (woM (rv h m) i j) (woM (rv h m) i b)) .l ≤ 0
        · rw [if_pos q2]; rw [if_neg (fun z => z.2 q2)] at ih1; exact ih1
        · rw [if_neg q2]; rw [if_pos ⟨q1, q2⟩] at ih1; exact ih1
      · rw [if_neg q1]; rw [if_neg (fun z => q1 z.1)] at ih1; exact ih1
theorem x6_best {h : Hp} {m n i : Nat} {s : Int32} (hn : n ≤ 6) (hi : i < 6) (h0 : (rv h m).1 0 = nI n) : f_X6_best h m (nI i) s = some (oI (beM (rv h m) i s n)) := by
  unfold f_X6_best
  rw [show f_X6_best_l5 h m (nI i) s fu (-1) 0 = _ from x6_best_l hn hi h0 n 0 fu (by omega) (by show n < 5000; omega)]; rfl
theorem x2_best_l {h : Hp} {q n i : Nat} {M : MS} {s : Int32} (S : SwR h q M n) (hn : n ≤ 6) (h0 : M.1 0 = nI n) (hi : i < n) (hs : ¬ bt s i = 1) : ∀ (r j fuel : Nat), j + r = n → r < fuel → f_X2_mostWorth_l8 h q (nI i) s fuel (oI (beM M i s j)) (match beM M i s j with | none => FP.fconst0 | some b => woM M i b) (nI j) = some (oI (beM M i s n)) := by
  have e0 : hI h q 4 = nI n := S.1.2.2.2.2.1.trans h0
  intro r
  induction r with
  | zero =>
    intro j fuel hj hf
    obtain ⟨fuel, rfl⟩ : ∃ z, fuel = z + 1 := ⟨fuel - 1, by omega⟩
    have : j = n := by omega
    subst this
    rw [f_X2_mostWorth_l8_s, e0, if_pos (Int32.le_refl _)]
  | succ r ih =>
    intro j fuel hj hf
    obtain ⟨fuel, rfl⟩ : ∃ z, fuel = z + 1 := ⟨fuel - 1, by omega⟩
    have ih1 := ih (j + 1) fuel (by omega) (by omega)
    rw [f_X2_mostWorth_l8_s, e0, if_neg (nI_ge (by omega) (by omega))]
    unfold f_X2_mostWorth_j47 f_X2_mostWorth_j54
    rw [nI_1]
    show (if bt s j = 0 then _ else _) = _
    by_cases q1 : bt s j = 1
    · have hji : j ≠ i := fun z => hs (z ▸ q1)
      rw [if_neg (by rw [q1]; decide), x2_worth S hn hi (by omega) hji, bn1_some]
      cases hb : beM M i s j with
      | none =>
        rw [beM_none hb, if_pos q1] at ih1
        rw [oI_none, if_pos (show (-1 : Int32) < 0 by decide)]
        exact ih1
      | some b =>
        have hlt : b < j := bst_lt hb
        rw [beM_some hb] at ih1
        rw [oI_some, if_neg (nI_pos (by omega))]
        by_cases q2 : Op.cmpValue (FP.fcmp (woM M i j) (woM M i b)) .l ≤ 0
        · rw [if_pos q2]; rw [if_neg (fun z => z.2 q2)] at ih1; exact ih1
        · rw [if_neg q2]; rw [if_pos ⟨q1, q2⟩] at ih1; exact ih1
    · rw [if_pos ((bt_01 s j).resolve_right q1)]
      cases hb : beM M i s j with
      | none =>
        rw [beM_none hb, if_neg q1] at ih1
        exact ih1
      | some b =>
        rw [beM_some hb, if_neg (fun z => q1 z.1)] at ih1
        exact ih1
theorem x2_best {h : Hp} {q n i : Nat} {M : MS} {s : Int32} (S : SwR h q M n) (hn : n ≤ 6) (h0 : M.1 0 = nI n) (hi : i < n) (hs : ¬ bt s i = 1) : f_X2_mostWorth h q (nI i) s = some (oI (beM M i s n)) := by
  unfold f_X2_mostWorth
  rw [show f_X2_mostWorth_l8 h q (nI i) s fu (-1) FP.fconst0 0 = _ from x2_best_l S hn h0 hi hs n 0 fu (by omega) (by show n < 5000; omega)]; rfl
