/-! READS of the reference: m its object, N = hI h (m + 2) -/
theorem x6_cell {h : Hp} {m i c : Nat} (hi : i < 6) (hc : c < 48) : f_X6_cellOf h m (nI i) (nI c) = some (pc (rv h m) i c) := by
  unfold f_X6_cellOf f_X6_at
  rw [bn1_some, show (14 : Int32) + 48 * nI i + nI c = nI (14 + 48 * i + c) by rw [show (48 : Int32) = nI 48 from rfl, show (14 : Int32) = nI 14 from rfl, nI_mulE, nI_add, nI_add], if_pos (inb_nI (by omega) (by decide)), nI_clamp (by omega)]
  rfl
theorem x6_source {h : Hp} {m i n b : Nat} (hi : i < 6) (hn : n < 8) (hb : b < 4) : f_X6_source h m (nI i) (nI n) (nI b) = some (pc (rv h m) i (15 + (4 * n + b))) := by
  unfold f_X6_source f_X6_at
  rw [bn1_some, show (14 : Int32) + 48 * nI i + 15 + 4 * nI n + nI b = nI (14 + 48 * i + 15 + 4 * n + b) by rw [show (48 : Int32) = nI 48 from rfl, show (14 : Int32) = nI 14 from rfl, show (15 : Int32) = nI 15 from rfl, show (4 : Int32) = nI 4 from rfl, nI_mulE, nI_mulE, nI_add, nI_add, nI_add, nI_add], if_pos (inb_nI (by omega) (by decide)), nI_clamp (by omega)]
  unfold pc rv
  show some (hI h (m + 2) (14 + 48 * i + 15 + 4 * n + b)) = some (hI h (m + 2) (14 + 48 * i + (15 + (4 * n + b))))
  rw [show 14 + 48 * i + 15 + 4 * n + b = 14 + 48 * i + (15 + (4 * n + b)) by omega]
def clM (M : MS) (i : Nat) : Int32 := if pc M i 0 = 2 then (1 <<< (M.1 1 &&& 31)) - 1 else pc M i 2
theorem x6_claims {h : Hp} {m i : Nat} (hi : i < 6) : f_X6_claims h m (nI i) = some (clM (rv h m) i) := by
  unfold f_X6_claims
  rw [show (0 : Int32) = nI 0 from rfl, x6_cell hi (by decide), bn1_some]
  unfold clM
  by_cases h2 : pc (rv h m) i 0 = 2
  · rw [if_pos h2, if_pos h2]; rfl
  · rw [if_neg h2, if_neg h2, show (2 : Int32) = nI 2 from rfl, x6_cell hi (by decide)]; rfl
theorem x6_has {h : Hp} {m i k : Nat} (hi : i < 6) : f_X6_has h m (nI i) (nI k) = some (bt (pc (rv h m) i 2) k) := by
  unfold f_X6_has
  rw [show (2 : Int32) = nI 2 from rfl, x6_cell hi (by decide), bn1_some]
  show (if bt (pc (rv h m) i 2) k = 1 then some 1 else some 0) = _
  rcases bt_01 (pc (rv h m) i 2) k with q | q
  · rw [q, if_neg (by decide)]
  · rw [q, if_pos rfl]
def cpM (M : MS) (n k : Nat) : Int32 := sumN (fun i => bt (clM M i) k) n
theorem x6_copies_l {h : Hp} {m n k : Nat} (hn : n ≤ 6) (h0 : (rv h m).1 0 = nI n) : ∀ (r i fuel : Nat), i + r = n → r < fuel → f_X6_copiesOf_l4 h m (nI k) fuel (sumN (fun i => bt (clM (rv h m) i) k) i) (nI i) = some (cpM (rv h m) n k) := by
  intro r
  induction r with
  | zero =>
    intro i fuel hi hf
    obtain ⟨fuel, rfl⟩ : ∃ z, fuel = z + 1 := ⟨fuel - 1, by omega⟩
    have : i = n := by omega
    subst this
    rw [f_X6_copiesOf_l4_s, if_pos]
    · rfl
    · show (rv h m).1 0 ≤ nI i
      rw [h0]
      exact Int32.le_refl _
  | succ r ih =>
    intro i fuel hi hf
    obtain ⟨fuel, rfl⟩ : ∃ z, fuel = z + 1 := ⟨fuel - 1, by omega⟩
    have e0 : hI h (m + 2) (0 : Int32).toNatClampNeg = nI n := h0
    rw [f_X6_copiesOf_l4_s, e0, if_neg (nI_ge (by omega) (by omega)), x6_claims (by omega), bn1_some, nI_1]
    exact ih (i + 1) fuel (by omega) (by omega)
theorem x6_copies {h : Hp} {m n k : Nat} (hn : n ≤ 6) (h0 : (rv h m).1 0 = nI n) : f_X6_copiesOf h m (nI k) = some (cpM (rv h m) n k) := by
  unfold f_X6_copiesOf
  rw [show f_X6_copiesOf_l4 h m (nI k) fu 0 0 = some (cpM (rv h m) n k) from x6_copies_l hn h0 n 0 fu (by omega) (by show n < 5000; omega)]
  rfl
theorem x6_isPeer_t {h : Hp} {m n i : Nat} (hn : n ≤ 6) (h0 : (rv h m).1 0 = nI n) (hi : i < n) : f_X6_isPeer h m (nI i) = some 1 := by
  unfold f_X6_isPeer
  rw [show hI h (m + 2) (0 : Int32).toNatClampNeg = nI n from h0, x6_in_t (inr_t hi (by omega))]; rfl
theorem x6_isPeer_f {h : Hp} {m n : Nat} {v : Int32} (hn : n ≤ 6) (h0 : (rv h m).1 0 = nI n) (hv : v < 0 ∨ nI n ≤ v) : f_X6_isPeer h m v = some 0 := by
  unfold f_X6_isPeer
  rw [show hI h (m + 2) (0 : Int32).toNatClampNeg = nI n from h0, x6_in_f (inr_f (by omega) hv)]; rfl
/-! READS of the class: a swarm at q that is the state M -/
section CReads
variable {h : Hp} {q n : Nat} {M : MS}
theorem x3_isPeer_t {i : Nat} (hs : hI h q 4 = nI n) (hn : n ≤ 6) (hi : i < n) : f_X3_isPeer h q (nI i) = some 1 := by
  unfold f_X3_isPeer
  rw [if_neg (nI_pos (by omega)), hs, if_neg (nI_ge hi (by omega))]
theorem x3_isPeer_f {v : Int32} (hs : hI h q 4 = nI n) (hv : v < 0 ∨ nI n ≤ v) : f_X3_isPeer h q v = some 0 := by
  unfold f_X3_isPeer
  by_cases h1 : v < 0
  · rw [if_pos h1]; rfl
  · rw [if_neg h1, hs, if_pos (hv.resolve_left h1)]; rfl
theorem x3_isPiece_t {i p : Nat} (hs : hI h q 0 = nI p) (hn : p ≤ 8) (hi : i < p) : f_X3_isPiece h q (nI i) = some 1 := by
  unfold f_X3_isPiece
  rw [if_neg (nI_pos (by omega)), hs, if_neg (nI_ge hi (by omega))]
theorem x3_isPiece_f {v : Int32} {p : Nat} (hs : hI h q 0 = nI p) (hv : v < 0 ∨ nI p ≤ v) : f_X3_isPiece h q v = some 0 := by
  unfold f_X3_isPiece
  by_cases h1 : v < 0
  · rw [if_pos h1]; rfl
  · rw [if_neg h1, hs, if_pos (hv.resolve_left h1)]; rfl
theorem x3_claims {i : Nat} (H : SwR h q M n) (hn : n ≤ 6) (hi : i < n) : f_X3_claimsOf h q (nI i) = some (clM M i) := by
  have P := H.2.2.2 i hi
  unfold f_X3_claimsOf
  rw [if_pos (inb_nI (by omega) (by decide)), nI_clamp (by omega)]
  have e0 : hI h (q + 2 + 1 + 4 * i) 0 = pc M i 0 := P.1.1
  have e2 : hI h (q + 2 + 1 + 4 * i) 2 = pc M i 2 := P.1.2.2.1
  rw [e0, e2, H.1.2.2.1]
  unfold clM
  by_cases h2 : pc M i 0 = 2
  · rw [if_pos h2, if_pos h2]
  · rw [if_neg h2, if_neg h2, if_pos (inb_nI (by omega) (by decide))]
theorem x3_copies_l {k : Nat} (H : SwR h q M n) (hn : n ≤ 6) (h0 : M.1 0 = nI n) : ∀ (r i fuel : Nat), i + r = n → r < fuel → f_X3_copiesOf_l4 h q (nI k) fuel (sumN (fun i => bt (clM M i) k) i) (nI i) = some (cpM M n k) := by
  have hs : hI h q 4 = nI n := H.1.2.2.2.2.1.trans h0
  intro r
  induction r with
  | zero =>
    intro i fuel hi hf
    obtain ⟨fuel, rfl⟩ : ∃ z, fuel = z + 1 := ⟨fuel - 1, by omega⟩
    have : i = n := by omega
    subst this
    rw [f_X3_copiesOf_l4_s, hs, if_pos (Int32.le_refl _)]
    rfl
  | succ r ih =>
    intro i fuel hi hf
    obtain ⟨fuel, rfl⟩ : ∃ z, fuel = z + 1 := ⟨fuel - 1, by omega⟩
    rw [f_X3_copiesOf_l4_s, hs, if_neg (nI_ge (by omega) (by omega)), x3_claims H hn (by omega), bn1_some, nI_1]
    exact ih (i + 1) fuel (by omega) (by omega)
theorem x3_copies {k : Nat} (H : SwR h q M n) (hn : n ≤ 6) (h0 : M.1 0 = nI n) : f_X3_copiesOf h q (nI k) = some (cpM M n k) := by
  unfold f_X3_copiesOf
  rw [show f_X3_copiesOf_l4 h q (nI k) fu 0 0 = some (cpM M n k) from x3_copies_l H hn h0 n 0 fu (by omega) (by show n < 5000; omega)]
  rfl
theorem x1_has {a k : Nat} : f_X1_hasPiece h a (nI k) = some (bt (hI h a 2) k) := by
  unfold f_X1_hasPiece
  show (if bt (hI h a 2) k = 0 then some 0 else some 1) = _
  rcases bt_01 (hI h a 2) k with z | z
  · rw [z, if_pos rfl]
  · rw [z, if_neg (by decide)]
end CReads
theorem op_copies (o : Nat) : Op_copies o (Inv o) := by
  intro c h _ H v
  obtain ⟨n, p, b, S, w0, w1, w2, -⟩ := id H.1
  have hp : hI h (o + 1) 0 = nI p := S.1.1.trans w1.1
  rcases idx_or v (n := p) (by omega) with ⟨k, hk, rfl⟩ | hv
  · refine ⟨cpM (rv h (o + 174)) n k, h, h, ?_, ?_, Inv_same H⟩
    · unfold f_X5_copies
      rw [x3_isPiece_t hp w1.2.2 hk, bn1_some, if_neg (by decide), x3_copies S w0.2 w0.1]; rfl
    · unfold f_X6_copies
      rw [show hI h (o + 174 + 2) (1 : Int32).toNatClampNeg = nI p from w1.1, x6_in_t (inr_t hk (by omega)), bn1_some, if_neg (by decide), x6_copies w0.2 w0.1]; rfl
  · obtain ⟨w, q1, q2, e1, e2, e3⟩ := Inv_bad H
    refine ⟨w, q1, q2, ?_, ?_, e3⟩
    · unfold f_X5_copies
      rw [x3_isPiece_f hp hv, bn1_some, if_pos rfl, e1]; rfl
    · have q1e : q1 = sI h o 6 (hI h o 6 + 1) := by rw [x5_bad] at e1; exact (Prod.mk.inj (Option.some.inj e1)).2.symm
      unfold f_X6_copies
      rw [show hI q1 (o + 174 + 2) (1 : Int32).toNatClampNeg = nI p by rw [q1e, hI_sIb _ _ _ _ (by omega)]; exact w1.1, x6_in_f (inr_f (by omega) hv), bn1_some, if_pos rfl, e2]; rfl
