/-! WRITES, one by one -/
def setP (M : MS) (i c : Nat) (v : Int32) : MS := updN M (14 + 48 * i + c) v
theorem setP_same (M : MS) (i c : Nat) (v : Int32) : pc (setP M i c v) i c = v := updN_same M _ v
theorem setP_c (M : MS) {i c i2 c2 : Nat} (v : Int32) (hc : c < 48) (hc2 : c2 < 48) (h : i2 ≠ i ∨ c2 ≠ c) : pc (setP M i c v) i2 c2 = pc M i2 c2 := updN_ne M v (by omega)
theorem setP_N (M : MS) (i c : Nat) (v : Int32) {k : Nat} (hk : k < 14) : (setP M i c v).1 k = M.1 k := updN_ne M v (by omega)
theorem setP_2 (M : MS) (i c : Nat) (v : Int32) : (setP M i c v).2 = M.2 := rfl
def fcol (f : Nat) : Nat := if f < 3 then f else f - 1
theorem PeR_iff {h : Hp} {a i : Nat} {M : MS} : PeR h a i M ↔ ((∀ f, f < 9 → f ≠ 3 → hI h a f = pc M i (fcol f)) ∧ (∀ j, j < 6 → hI h (a + 2) j = pc M i (8 + j)) ∧ (∀ k, k < 32 → bitb (hI h a 3) k = decide (pc M i (15 + k) ≠ -1) ∧ (pc M i (15 + k) ≠ -1 → hI h (a + 1) k = pc M i (15 + k))) ∧ (∀ j, j < 6 → j ≠ i → hF h (a + 3) j = M.2.1 (6 * i + j))) := by
  constructor
  · rintro ⟨⟨c0, c1, c2, c3, c4, c5, c6, c7⟩, d1, d2, d3⟩
    refine ⟨fun f hf h3 => ?_, d1, d2, d3⟩
    rcases (show f = 0 ∨ f = 1 ∨ f = 2 ∨ f = 4 ∨ f = 5 ∨ f = 6 ∨ f = 7 ∨ f = 8 by omega) with rfl | rfl | rfl | rfl | rfl | rfl | rfl | rfl
    · exact c0
    · exact c1
    · exact c2
    · exact c3
    · exact c4
    · exact c5
    · exact c6
    · exact c7
  · rintro ⟨c, d1, d2, d3⟩
    exact ⟨⟨c 0 (by decide) (by decide), c 1 (by decide) (by decide), c 2 (by decide) (by decide), c 4 (by decide) (by decide), c 5 (by decide) (by decide), c 6 (by decide) (by decide), c 7 (by decide) (by decide), c 8 (by decide) (by decide)⟩, d1, d2, d3⟩
theorem fcol_lt {f : Nat} (h : f < 9) (h3 : f ≠ 3) : fcol f < 8 := by unfold fcol; split <;> omega
theorem fcol_inj {f g : Nat} (h : f < 9) (h3 : f ≠ 3) (k : g < 9) (k3 : g ≠ 3) (e : g ≠ f) : fcol g ≠ fcol f := by unfold fcol; split <;> split <;> omega
theorem PeR_M {h : Hp} {a i : Nat} {M M2 : MS} (e1 : ∀ c, c < 48 → pc M2 i c = pc M i c) (e2 : ∀ j, j < 6 → M2.2.1 (6 * i + j) = M.2.1 (6 * i + j)) (P : PeR h a i M) : PeR h a i M2 := by
  rw [PeR_iff] at P ⊢
  obtain ⟨c, d1, d2, d3⟩ := P
  exact ⟨fun f hf h3 => by rw [e1 _ (by have := fcol_lt hf h3; omega)]; exact c f hf h3, fun j hj => by rw [e1 _ (by omega)]; exact d1 j hj, fun k hk => by rw [e1 _ (by omega)]; exact d2 k hk, fun j hj hne => by rw [e2 j hj]; exact d3 j hj hne⟩
theorem PeR_f {h : Hp} {a i f : Nat} {M : MS} (v : Int32) (hf : f < 9) (h3 : f ≠ 3) (P : PeR h a i M) : PeR (sI h a f v) a i (setP M i (fcol f) v) := by
  rw [PeR_iff] at P ⊢
  obtain ⟨c, d1, d2, d3⟩ := P
  have hl := fcol_lt hf h3
  refine ⟨fun g hg g3 => ?_, fun j hj => ?_, fun k hk => ?_, d3⟩
  · by_cases e : g = f
    · subst e; rw [hI_sI, setP_same]
    · have := fcol_lt hg g3
      rw [hI_sIj _ _ _ e, setP_c _ _ (by omega) (by omega) (Or.inr (fcol_inj hf h3 hg g3 e))]; exact c g hg g3
  · rw [hI_sIb _ _ _ _ (by omega), setP_c _ _ (by omega) (by omega) (Or.inr (by omega))]; exact d1 j hj
  · rw [hI_sIj _ _ _ (Ne.symm h3), hI_sIb _ _ _ _ (by omega), setP_c _ _ (by omega) (by omega) (Or.inr (by omega))]; exact d2 k hk
theorem PeR_s {h : Hp} {a i j : Nat} {M : MS} (v : Int32) (hj : j < 6) (P : PeR h a i M) : PeR (sI h (a + 2) j v) a i (setP M i (8 + j) v) := by
  rw [PeR_iff] at P ⊢
  obtain ⟨c, d1, d2, d3⟩ := P
  refine ⟨fun g hg g3 => ?_, fun k hk => ?_, fun k hk => ?_, d3⟩
  · have := fcol_lt hg g3
    rw [hI_sIb _ _ _ _ (by omega), setP_c _ _ (by omega) (by omega) (Or.inr (by omega))]; exact c g hg g3
  · by_cases e : k = j
    · subst e; rw [hI_sI, setP_same]
    · rw [hI_sIj _ _ _ e, setP_c _ _ (by omega) (by omega) (Or.inr (by omega))]; exact d1 k hk
  · rw [hI_sIb _ _ _ _ (by omega), hI_sIb _ _ _ _ (by omega), setP_c _ _ (by omega) (by omega) (Or.inr (by omega))]; exact d2 k hk
theorem bitb_or1 {x : Int32} {k j : Nat} (hk : k < 32) (hj : j < 32) : bitb (x ||| ((1 : Int32) <<< (nI k &&& 31))) j = (bitb x j || decide (j = k)) := by
  rw [bitb_or, bitb_shl _ hk hj]
  by_cases e : j = k
  · subst e; rw [Nat.sub_self, bitb_1 (by decide)]; simp
  · by_cases h : k ≤ j
    · rw [bitb_1 (by omega)]; simp [h, e]; omega
    · simp [h, e]
theorem PeR_b {h : Hp} {a i k : Nat} {M : MS} (v : Int32) (hk : k < 32) (hv : v ≠ -1) (P : PeR h a i M) : PeR (sI (sI h a 3 (hI h a 3 ||| ((1 : Int32) <<< (nI k &&& 31)))) (a + 1) k v) a i (setP M i (15 + k) v) := by
  rw [PeR_iff] at P ⊢
  obtain ⟨c, d1, d2, d3⟩ := P
  refine ⟨fun g hg g3 => ?_, fun j hj => ?_, fun j hj => ?_, d3⟩
  · have := fcol_lt hg g3
    rw [hI_sIb _ _ _ _ (by omega), hI_sIj _ _ _ g3, setP_c _ _ (by omega) (by omega) (Or.inr (by omega))]; exact c g hg g3
  · rw [hI_sIb _ _ _ _ (by omega), hI_sIb _ _ _ _ (by omega), setP_c _ _ (by omega) (by omega) (Or.inr (by omega))]; exact d1 j hj
  · rw [hI_sIb _ _ _ _ (by omega), hI_sI, bitb_or1 hk hj]
    by_cases e : j = k
    · subst e
      rw [setP_same, hI_sI]
      exact ⟨by simp [hv], fun _ => rfl⟩
    · rw [setP_c _ _ (by omega) (by omega) (Or.inr (by omega)), hI_sIj _ _ _ e, hI_sIb _ _ _ _ (by omega)]
      simp only [e, decide_false, Bool.or_false]
      exact d2 j hj
/-- the blocks of piece k of peer i go, one by one -/
def clrP (M : MS) (i k : Nat) : Nat → MS
  | 0 => M
  | z + 1 => setP (clrP M i k z) i (15 + (4 * k + z)) (-1)
theorem clrP_N (M : MS) (i k : Nat) {j : Nat} (hj : j < 14) : ∀ z, (clrP M i k z).1 j = M.1 j
  | 0 => rfl
  | z + 1 => by show (setP _ _ _ _).1 j = _; rw [setP_N _ _ _ _ hj, clrP_N M i k hj z]
theorem clrP_2 (M : MS) (i k : Nat) : ∀ z, (clrP M i k z).2 = M.2
  | 0 => rfl
  | z + 1 => clrP_2 M i k z
theorem clrP_c (M : MS) {i k i2 c : Nat} (hk : k < 8) (hc : c < 48) : ∀ z, z ≤ 4 → pc (clrP M i k z) i2 c = if i2 = i ∧ 15 + 4 * k ≤ c ∧ c < 15 + 4 * k + z then -1 else pc M i2 c
  | 0, _ => by rw [if_neg (by omega)]; rfl
  | z + 1, hz => by
    show pc (setP (clrP M i k z) i (15 + (4 * k + z)) (-1)) i2 c = _
    by_cases e : i2 = i ∧ c = 15 + (4 * k + z)
    · obtain ⟨e1, e2⟩ := e
      subst e1; subst e2
      rw [setP_same, if_pos (by omega)]
    · rw [setP_c _ _ (by omega) hc (by omega), clrP_c M hk hc z (by omega)]
      by_cases q : i2 = i ∧ 15 + 4 * k ≤ c ∧ c < 15 + 4 * k + z
      · rw [if_pos q, if_pos (by omega)]
      · rw [if_neg q, if_neg (by omega)]
theorem mask15_t : ∀ n, n < 8 → ∀ j, j < 32 → bitb (((15 : Int32) <<< (nI (4 * n) &&& 31)) ^^^ (-1)) j = !(decide (4 * n ≤ j) && decide (j < 4 * n + 4)) := by decide +kernel
theorem PeR_l {h : Hp} {a i n : Nat} {M : MS} (hn : n < 8) (P : PeR h a i M) : PeR (sI h a 3 (hI h a 3 &&& (((15 : Int32) <<< (nI (4 * n) &&& 31)) ^^^ (-1)))) a i (clrP M i n 4) := by
  rw [PeR_iff] at P ⊢
  obtain ⟨c, d1, d2, d3⟩ := P
  refine ⟨fun g hg g3 => ?_, fun j hj => ?_, fun j hj => ?_, fun j hj hne => by rw [clrP_2]; exact d3 j hj hne⟩
  · have := fcol_lt hg g3
    rw [hI_sIj _ _ _ g3, clrP_c M hn (by omega) 4 (by omega), if_neg (by omega)]; exact c g hg g3
  · rw [hI_sIb _ _ _ _ (by omega), clrP_c M hn (by omega) 4 (by omega), if_neg (by omega)]; exact d1 j hj
  · rw [hI_sI, bitb_and, mask15_t n hn j hj, clrP_c M hn (by omega) 4 (by omega)]
    by_cases e : 4 * n ≤ j ∧ j < 4 * n + 4
    · rw [if_pos (by omega)]
      refine ⟨?_, fun q => absurd rfl q⟩
      simp [e.1, e.2]
    · rw [if_neg (by omega), hI_sIb _ _ _ _ (by omega)]
      have : (!(decide (4 * n ≤ j) && decide (j < 4 * n + 4))) = true := by
        simp; omega
      rw [this, Bool.and_true]
      exact d2 j hj
theorem SwR_peer {h h2 : Hp} {q n i : Nat} {M M2 : MS} (hi : i < n) (hn : n ≤ 6) (S : SwR h q M n) (fr : ∀ z, z < q + 3 + 4 * i ∨ q + 3 + 4 * i + 4 ≤ z → same h h2 z) (eN : ∀ k, k < 14 → k ≠ 4 → M2.1 k = M.1 k) (eD : M2.2.2 = M.2.2) (eP : ∀ i2 c, i2 < n → i2 ≠ i → c < 48 → pc M2 i2 c = pc M i2 c) (eR : ∀ i2 j, i2 < n → i2 ≠ i → j < 6 → M2.2.1 (6 * i2 + j) = M.2.1 (6 * i2 + j)) (P : PeR h2 (q + 3 + 4 * i) i M2) : SwR h2 q M2 n := by
  have S0 := SwH_congr (fr q (by omega)) (fr (q + 1) (by omega)) (SwR_H S)
  obtain ⟨⟨a0, a1, a2, a3, a4, a5, a6, a7, a8⟩, a9, b1⟩ := S0
  refine SwR_mk ⟨⟨by rw [eN 1 (by decide) (by decide)]; exact a0, by rw [eN 2 (by decide) (by decide)]; exact a1, by rw [eN 1 (by decide) (by decide)]; exact a2, by rw [eN 2 (by decide) (by decide)]; exact a3, by rw [eN 0 (by decide) (by decide)]; exact a4, by rw [eN 3 (by decide) (by decide)]; exact a5, by rw [eN 5 (by decide) (by decide)]; exact a6, by rw [eN 6 (by decide) (by decide)]; exact a7, by rw [eN 7 (by decide) (by decide)]; exact a8⟩, by rw [eD]; exact a9, fun j hj => by rw [eN (8 + j) (by omega) (by omega)]; exact b1 j hj⟩ (fun i2 hi2 => ?_)
  by_cases e : i2 = i
  · subst e; exact P
  · exact PeR_M (fun c hc => eP i2 c hi2 e hc) (fun j hj => eR i2 j hi2 e hj) (PeR_congr (fun z g1 g2 => fr z (by omega)) (S.2.2.2 i2 hi2))
theorem SwR_setP {h h2 : Hp} {q n i c : Nat} {M : MS} {v : Int32} (hi : i < n) (hn : n ≤ 6) (hc : c < 48) (S : SwR h q M n) (fr : ∀ z, z < q + 3 + 4 * i ∨ q + 3 + 4 * i + 4 ≤ z → same h h2 z) (P : PeR h2 (q + 3 + 4 * i) i (setP M i c v)) : SwR h2 q (setP M i c v) n :=
  SwR_peer hi hn S fr (fun k hk _ => setP_N M i c v hk) rfl (fun i2 c2 _ e h2 => setP_c M v hc h2 (Or.inl e)) (fun _ _ _ _ _ => rfl) P
/-- a field of a peer -/
theorem SwR_f {h : Hp} {q n i f : Nat} {M : MS} (v : Int32) (hi : i < n) (hn : n ≤ 6) (hf : f < 9) (h3 : f ≠ 3) (S : SwR h q M n) : SwR (sI h (q + 3 + 4 * i) f v) q (setP M i (fcol f) v) n :=
  SwR_setP hi hn (by have := fcol_lt hf h3; omega) S (fun z hz => same_sI (by omega)) (PeR_f v hf h3 (S.2.2.2 i hi))
theorem SwR_s {h : Hp} {q n i j : Nat} {M : MS} (v : Int32) (hi : i < n) (hn : n ≤ 6) (hj : j < 6) (S : SwR h q M n) : SwR (sI h (q + 3 + 4 * i + 2) j v) q (setP M i (8 + j) v) n :=
  SwR_setP hi hn (by omega) S (fun z hz => same_sI (by omega)) (PeR_s v hj (S.2.2.2 i hi))
theorem SwR_b {h : Hp} {q n i k : Nat} {M : MS} (v : Int32) (hi : i < n) (hn : n ≤ 6) (hk : k < 32) (hv : v ≠ -1) (S : SwR h q M n) : SwR (sI (sI h (q + 3 + 4 * i) 3 (hI h (q + 3 + 4 * i) 3 ||| ((1 : Int32) <<< (nI k &&& 31)))) (q + 3 + 4 * i + 1) k v) q (setP M i (15 + k) v) n :=
  SwR_setP hi hn (by omega) S (fun z hz => same_tr (same_sI (by omega)) (same_sI (by omega))) (PeR_b v hk hv (S.2.2.2 i hi))
theorem SwR_l {h : Hp} {q n i k : Nat} {M : MS} (hi : i < n) (hn : n ≤ 6) (hk : k < 8) (S : SwR h q M n) : SwR (sI h (q + 3 + 4 * i) 3 (hI h (q + 3 + 4 * i) 3 &&& (((15 : Int32) <<< (nI (4 * k) &&& 31)) ^^^ (-1)))) q (clrP M i k 4) n :=
  SwR_peer hi hn S (fun z hz => same_sI (by omega)) (fun j hj _ => clrP_N M i k hj 4) (by rw [clrP_2]) (fun i2 c2 _ e hc => by rw [clrP_c M hk hc 4 (by omega), if_neg (by omega)]) (fun _ _ _ _ _ => by rw [clrP_2]) (PeR_l hk (S.2.2.2 i hi))
/-- the swarm's own cells -/
def scol (f : Nat) : Nat := if f = 5 then 3 else f - 1
theorem SwR_sf {h : Hp} {q n f : Nat} {M : MS} (v : Int32) (hn : n ≤ 6) (h5 : 5 ≤ f) (h8 : f ≤ 8) (S : SwR h q M n) : SwR (sI h q f v) q (updN M (scol f) v) n := by
  have hs : scol f < 14 := by unfold scol; split <;> omega
  have hs2 : scol f = 3 ∨ scol f = 5 ∨ scol f = 6 ∨ scol f = 7 := by unfold scol; split <;> omega
  obtain ⟨⟨a0, a1, a2, a3, a4, a5, a6, a7, a8⟩, a9, b1, b2⟩ := S
  have u : ∀ k, k ≠ scol f → (updN M (scol f) v).1 k = M.1 k := fun k hk => updN_ne M v hk
  have x : ∀ k, k ≠ f → hI (sI h q f v) q k = hI h q k := fun k hk => hI_sIj _ _ _ hk
  refine SwR_mk ⟨⟨?_, ?_, ?_, ?_, ?_, ?_, ?_, ?_, ?_⟩, a9, fun j hj => ?_⟩ (fun i hi => ?_)
  · rw [u 1 (by omega), x 0 (by omega)]; exact a0
  · rw [u 2 (by omega), x 1 (by omega)]; exact a1
  · rw [u 1 (by omega), x 2 (by omega)]; exact a2
  · rw [u 2 (by omega), x 3 (by omega)]; exact a3
  · rw [u 0 (by omega), x 4 (by omega)]; exact a4
  · by_cases e : f = 5
    · subst e; rw [hI_sI]; exact (updN_same M 3 v).symm
    · rw [u 3 (by unfold scol; rw [if_neg e]; omega), x 5 (by omega)]; exact a5
  · by_cases e : f = 6
    · subst e; rw [hI_sI]; exact (updN_same M 5 v).symm
    · rw [u 5 (by unfold scol; split <;> omega), x 6 (by omega)]; exact a6
  · by_cases e : f = 7
    · subst e; rw [hI_sI]; exact (updN_same M 6 v).symm
    · rw [u 6 (by unfold scol; split <;> omega), x 7 (by omega)]; exact a7
  · by_cases e : f = 8
    · subst e; rw [hI_sI]; exact (updN_same M 7 v).symm
    · rw [u 7 (by unfold scol; split <;> omega), x 8 (by omega)]; exact a8
  · rw [hI_sIb _ _ _ _ (by omega), u (8 + j) (by omega)]; exact b1 j hj
  · exact PeR_M (fun c hc => pc_updN hs) (fun _ _ => rfl) (PeR_congr (fun z g1 g2 => same_sI (by omega)) (b2 i hi))
theorem SwR_M {h : Hp} {q n : Nat} {M M2 : MS} (eN : ∀ k, k < 14 → k ≠ 4 → M2.1 k = M.1 k) (eD : M2.2.2 = M.2.2) (eP : ∀ i c, i < n → c < 48 → pc M2 i c = pc M i c) (eR : ∀ i j, i < n → j < 6 → M2.2.1 (6 * i + j) = M.2.1 (6 * i + j)) (S : SwR h q M n) : SwR h q M2 n := by
  obtain ⟨⟨a0, a1, a2, a3, a4, a5, a6, a7, a8⟩, a9, b1, b2⟩ := S
  exact SwR_mk ⟨⟨by rw [eN 1 (by decide) (by decide)]; exact a0, by rw [eN 2 (by decide) (by decide)]; exact a1, by rw [eN 1 (by decide) (by decide)]; exact a2, by rw [eN 2 (by decide) (by decide)]; exact a3, by rw [eN 0 (by decide) (by decide)]; exact a4, by rw [eN 3 (by decide) (by decide)]; exact a5, by rw [eN 5 (by decide) (by decide)]; exact a6, by rw [eN 6 (by decide) (by decide)]; exact a7, by rw [eN 7 (by decide) (by decide)]; exact a8⟩, by rw [eD]; exact a9, fun j hj => by rw [eN (8 + j) (by omega) (by omega)]; exact b1 j hj⟩ (fun i hi => PeR_M (fun c hc => eP i c hi hc) (fun j hj => eR i j hi hj) (b2 i hi))
theorem SwR_4 {h : Hp} {q n : Nat} {M : MS} (v : Int32) (S : SwR h q M n) : SwR h q (updN M 4 v) n :=
  SwR_M (fun k _ h4 => updN_ne M v h4) rfl (fun i c _ _ => pc_updN (by omega)) (fun _ _ _ _ => rfl) S
theorem SwR_d {h : Hp} {q n : Nat} {M : MS} (v : Int64) (S : SwR h q M n) : SwR (sL h q 9 v) q (M.1, M.2.1, v) n :=
  ⟨S.1, hL_sLs h q 9 v, S.2.2.1, fun i hi => PeR_M (M := M) (fun _ _ => rfl) (fun _ _ => rfl) (PeR_congr (fun z g1 g2 => same_sL (by omega)) (S.2.2.2 i hi))⟩
/-- reference writes -/
theorem rv_sI (h : Hp) (m k : Nat) (v : Int32) : rv (sI h (m + 2) k v) m = updN (rv h m) k v := by
  unfold rv updN
  rw [hI_sIr]; rfl
theorem rv_sI_o {h : Hp} {m a k : Nat} {v : Int32} (ha : a ≠ m + 2) : rv (sI h a k v) m = rv h m := by
  unfold rv
  rw [show hI (sI h a k v) (m + 2) = hI h (m + 2) from funext fun j => hI_sIb _ _ _ _ (Ne.symm ha)]
  rfl
theorem rv_sL (h : Hp) (m : Nat) (v : Int64) : rv (sL h m 3 v) m = ((rv h m).1, (rv h m).2.1, v) := by
  unfold rv
  rw [hL_sLs]; rfl
theorem rv_cell {h : Hp} {m i c : Nat} {v : Int32} (hi : i < 6) (hc : c < 48) (k : Int32) (hk : k = nI (14 + 48 * i + c)) : inb k 320 = true ∧ rv (sI h (m + 2) k.toNatClampNeg v) m = setP (rv h m) i c v ∧ hI h (m + 2) k.toNatClampNeg = pc (rv h m) i c := by
  subst hk
  rw [nI_clamp (by omega)]
  exact ⟨inb_nI (by omega) (by decide), rv_sI _ _ _ _, rfl⟩
theorem x6_at (h : Hp) (i : Nat) : f_X6_at h (nI i) = some (nI (14 + 48 * i)) := by
  unfold f_X6_at
  rw [show (14 : Int32) + 48 * nI i = nI (14 + 48 * i) by rw [show (48 : Int32) = nI 48 from rfl, show (14 : Int32) = nI 14 from rfl, nI_mulE, nI_add]]
