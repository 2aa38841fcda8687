/-! PEERS come -/
def PeS (M : MS) (i n p b : Nat) : Prop :=
  (pc M i 0 = 0 ∨ (pc M i 0 = 1 ∧ pc M i 3 = 0) ∨ pc M i 0 = 2) ∧ (∃ c, 1 ≤ c ∧ c ≤ 4 ∧ pc M i 1 = nI c) ∧ (∃ a, a < 2 ^ p ∧ pc M i 2 = nI a) ∧ (∃ a, a < 64 ∧ pc M i 3 = nI a) ∧ (pc M i 4 = -1 ∨ ∃ j, j < 6 ∧ pc M i 4 = nI j) ∧ (∃ a, a < 64 ∧ pc M i 5 = nI a) ∧
  (∀ k, k < 32 → pc M i (15 + k) = -1 ∨ (∃ j, j < n ∧ pc M i (15 + k) = nI j) ∧ k / 4 < p ∧ k % 4 < b)
def WFs (M : MS) (n p b : Nat) : Prop :=
  (M.1 0 = nI n ∧ n ≤ 6) ∧ (M.1 1 = nI p ∧ 1 ≤ p ∧ p ≤ 8) ∧ (M.1 2 = nI b ∧ 1 ≤ b ∧ b ≤ 4) ∧
  ((∃ s, M.1 8 = nI s ∧ 1 ≤ s ∧ s ≤ 4) ∧ (∃ s, M.1 9 = nI s ∧ s ≤ 9) ∧ (∃ s, M.1 10 = nI s ∧ s ≤ 8) ∧ (∃ s, M.1 11 = nI s ∧ 1 ≤ s ∧ s ≤ 9)) ∧
  M.1 4 = sumN (fun i => pc M i 6) n ∧ (∀ i, i < n → PeS M i n p b) ∧ (∀ i j, i < 6 → j < 6 → (n ≤ i ∨ n ≤ j) → M.2.1 (6 * i + j) = 0) ∧ (∀ c, c < 36 → rOK (M.2.1 c))
def GB (M : MS) (n : Nat) (G R : Nat → Nat) : Prop := ∀ i, i < n → (∃ a, a ≤ G i ∧ pc M i 6 = nI a) ∧ (∃ a, a ≤ R i ∧ pc M i 7 = nI a)
def TB (M : MS) (t : Nat) : Prop := ∃ T, M.1 3 = nI T ∧ T ≤ t
theorem WFn_iff {M : MS} {n p b t : Nat} : WFn M n p b t ↔ WFs M n p b ∧ TB M t ∧ GB M n (fun _ => 4 * t) (fun _ => 6 * t) := by
  constructor
  · rintro ⟨w0, w1, w2, w3, ws, wf, we, wd, wt, wP, wR, wr⟩
    refine ⟨⟨w0, w1, w2, ⟨ws, wf, we, wd⟩, wt, fun i hi => ?_, wR, wr⟩, w3, fun i hi => ?_⟩
    · obtain ⟨a1, a2, a3, a4, a5, a6, a7, a8, a9⟩ := wP i hi
      exact ⟨a1, a2, a3, a4, a5, a6, a9⟩
    · obtain ⟨a1, a2, a3, a4, a5, a6, a7, a8, a9⟩ := wP i hi
      exact ⟨a7, a8⟩
  · rintro ⟨⟨w0, w1, w2, ⟨ws, wf, we, wd⟩, wt, wP, wR, wr⟩, w3, g⟩
    refine ⟨w0, w1, w2, w3, ws, wf, we, wd, wt, fun i hi => ?_, wR, wr⟩
    obtain ⟨a1, a2, a3, a4, a5, a6, a9⟩ := wP i hi
    exact ⟨a1, a2, a3, a4, a5, a6, (g i hi).1, (g i hi).2, a9⟩
theorem hF_sF (h : Hp) (a j : Nat) (v : UInt32) : hF (sF h a j v) a j = v := by
  unfold hF sF
  show ufn h.2.2 a (vf_upd (h.2.2 a) j v) a j = v
  rw [ufn_same]
  unfold vf_upd
  rw [if_pos rfl]
theorem hF_sFj (h : Hp) (a : Nat) {j k : Nat} (v : UInt32) (hk : k ≠ j) : hF (sF h a j v) a k = hF h a k := by
  unfold hF sF
  show ufn h.2.2 a (vf_upd (h.2.2 a) j v) a k = _
  rw [ufn_same]
  unfold vf_upd
  rw [if_neg hk]
theorem hF_sI (h : Hp) (a j : Nat) (v : Int32) (b k : Nat) : hF (sI h a j v) b k = hF h b k := rfl
theorem hI_sF (h : Hp) (a j : Nat) (v : UInt32) (b k : Nat) : hI (sF h a j v) b k = hI h b k := rfl
theorem startAs_l {h : Hp} {a : Nat} : ∀ (r k fuel : Nat) (hh : Hp), k + r = 6 → r < fuel → (∀ z, z ≠ a + 2 → z ≠ a + 3 → same h hh z) → (∀ j, j < k → hI hh (a + 2) j = 0 ∧ hF hh (a + 3) j = 0) → ∃ h2, f_X1_startAs_l47 a fuel (nI k) hh = some h2 ∧ (∀ z, z ≠ a + 2 → z ≠ a + 3 → same h h2 z) ∧ (∀ j, j < 6 → hI h2 (a + 2) j = 0 ∧ hF h2 (a + 3) j = 0) := by
  intro r
  induction r with
  | zero =>
    intro k fuel hh hk hf e1 e2
    obtain ⟨fuel, rfl⟩ : ∃ z, fuel = z + 1 := ⟨fuel - 1, by omega⟩
    have : k = 6 := by omega
    subst this
    exact ⟨hh, by rw [f_X1_startAs_l47_s, if_pos (by decide)], e1, e2⟩
  | succ r ih =>
    intro k fuel hh hk hf e1 e2
    obtain ⟨fuel, rfl⟩ : ∃ z, fuel = z + 1 := ⟨fuel - 1, by omega⟩
    rw [f_X1_startAs_l47_s, if_neg (show ¬ (6 : Int32) ≤ nI k from nI_ge (b := 6) (by omega) (by decide)), if_pos (inb_nI (by omega) (by decide)), if_pos (inb_nI (by omega) (by decide)), nI_clamp (by omega), nI_1]
    refine ih (k + 1) fuel _ (by omega) (by omega) (fun z g1 g2 => same_tr (e1 z g1 g2) (same_tr (same_sI g1) (same_sF g2))) (fun j hj => ?_)
    rw [hI_sF]
    by_cases e : j = k
    · subst e; rw [hI_sI, hF_sF]; exact ⟨rfl, rfl⟩
    · rw [hI_sIj _ _ _ e, hF_sFj _ _ _ e, hF_sI]; exact e2 j (by omega)
def nwC (k c : Int32) (z : Nat) : Int32 := if z = 0 then k else if z = 1 then c else if z = 4 ∨ 15 ≤ z then -1 else 0
/-- the state with one more peer -/
def addM (M : MS) (n : Nat) (k c : Int32) : MS := (upd (seg (14 + 48 * n) 48 (nwC k c) M.1) 0 (nI (n + 1)), M.2)
theorem addM_N {M : MS} {n j : Nat} {k c : Int32} (h0 : j ≠ 0) (hj : j < 14) : (addM M n k c).1 j = M.1 j := by
  show upd _ 0 _ j = _
  unfold upd
  rw [if_neg h0, seg_out (by omega)]
theorem addM_0 {M : MS} {n : Nat} {k c : Int32} : (addM M n k c).1 0 = nI (n + 1) := by
  show upd (seg (14 + 48 * n) 48 (nwC k c) M.1) 0 (nI (n + 1)) 0 = _
  unfold upd
  rw [if_pos rfl]
theorem addM_old {M : MS} {n i z : Nat} {k c : Int32} (hi : i < n) (hz : z < 48) : pc (addM M n k c) i z = pc M i z := by
  show upd _ 0 _ _ = _
  unfold upd
  rw [if_neg (by omega), seg_out (by omega)]; rfl
theorem addM_new {M : MS} {n z : Nat} {k c : Int32} (hz : z < 48) : pc (addM M n k c) n z = nwC k c z := by
  show upd _ 0 _ _ = _
  unfold upd
  rw [if_neg (by omega), seg_in hz]
theorem addM_WF {M : MS} {n p b t k c : Nat} (hn : n < 6) (hk : k ≤ 2) (hc1 : 1 ≤ c) (hc4 : c ≤ 4) (Wf : WFn M n p b t) : WFn (addM M n (nI k) (nI c)) (n + 1) p b t := by
  obtain ⟨w0, w1, w2, w3, ws, wf, we, wd, wt, wP, wR, wr⟩ := Wf
  have u : ∀ j, j ≠ 0 → j < 14 → (addM M n (nI k) (nI c)).1 j = M.1 j := fun j h0 hj => addM_N h0 hj
  refine ⟨⟨addM_0, by omega⟩, by rw [u 1 (by decide) (by decide)]; exact w1, by rw [u 2 (by decide) (by decide)]; exact w2, by rw [u 3 (by decide) (by decide)]; exact w3, by rw [u 8 (by decide) (by decide)]; exact ws, by rw [u 9 (by decide) (by decide)]; exact wf, by rw [u 10 (by decide) (by decide)]; exact we, by rw [u 11 (by decide) (by decide)]; exact wd, ?_, fun i hi => ?_, fun i j hi hj hh => wR i j hi hj (by omega), wr⟩
  · rw [u 4 (by decide) (by decide), wt]
    show sumN _ n = sumN _ n + pc (addM M n (nI k) (nI c)) n 6
    rw [show pc (addM M n (nI k) (nI c)) n 6 = 0 from addM_new (by decide), Int32.add_zero]
    exact (eqv_sum (fun i hi => addM_old hi (by decide))).symm
  · by_cases e : i < n
    · obtain ⟨a1, a2, a3, a4, a5, a6, a7, a8, a9⟩ := wP i e
      have q : ∀ z, z < 48 → pc (addM M n (nI k) (nI c)) i z = pc M i z := fun z hz => addM_old e hz
      refine ⟨by rw [q 0 (by decide), q 3 (by decide)]; exact a1, by rw [q 1 (by decide)]; exact a2, by rw [q 2 (by decide)]; exact a3, by rw [q 3 (by decide)]; exact a4, by rw [q 4 (by decide)]; exact a5, by rw [q 5 (by decide)]; exact a6, by rw [q 6 (by decide)]; exact a7, by rw [q 7 (by decide)]; exact a8, fun z hz => by
        rw [q (15 + z) (by omega)]
        rcases a9 z hz with g | ⟨⟨j, g1, g2⟩, g3⟩
        · exact Or.inl g
        · exact Or.inr ⟨⟨j, by omega, g2⟩, g3⟩⟩
    · have : i = n := by omega
      subst this
      have q : ∀ z, z < 48 → pc (addM M i (nI k) (nI c)) i z = nwC (nI k) (nI c) z := fun z hz => addM_new hz
      refine ⟨?_, ⟨c, hc1, hc4, q 1 (by decide)⟩, ⟨0, Nat.two_pow_pos p, q 2 (by decide)⟩, ⟨0, by decide, q 3 (by decide)⟩, Or.inl (q 4 (by decide)), ⟨0, by decide, q 5 (by decide)⟩, ⟨0, Nat.zero_le _, q 6 (by decide)⟩, ⟨0, Nat.zero_le _, q 7 (by decide)⟩, fun z hz => Or.inl ?_⟩
      · rw [q 0 (by decide), q 3 (by decide)]
        rcases (show k = 0 ∨ k = 1 ∨ k = 2 by omega) with rfl | rfl | rfl
        · exact Or.inl rfl
        · exact Or.inr (Or.inl ⟨rfl, rfl⟩)
        · exact Or.inr (Or.inr rfl)
      · rw [q (15 + z) (by omega)]
        unfold nwC
        rw [if_neg (by omega), if_neg (by omega), if_pos (by omega)]
theorem bitb_0 {j : Nat} (h : j < 32) : bitb 0 j = false := by
  have : ∀ j, j < 32 → bitb 0 j = false := by decide
  exact this j h
theorem c_peer {h : Hp} {q n p b t k c : Nat} {M : MS} (S : SwR h q M n) (Wf : WFn M n p b t) (hn : n < 6) : ∃ h2, f_X3_addPeer h q (nI k) (nI c) = some (nI n, h2) ∧ (∀ b, b < q ∨ q + 27 ≤ b → same h h2 b) ∧ SwR h2 q (addM M n (nI k) (nI c)) (n + 1) := by
  have hs : hI h q 4 = nI n := S.1.2.2.2.2.1.trans Wf.1.1
  unfold f_X3_addPeer f_X1_startAs
  rw [hs, if_pos (inb_nI hn (by decide)), nI_clamp (by omega), show q + 2 + 1 + 4 * n = q + 3 + 4 * n by omega]
  generalize hh : sI (sI (sI (sI (sI (sI (sI (sI (sI h (q + 3 + 4 * n) 0 (nI k)) (q + 3 + 4 * n) 1 (nI c)) (q + 3 + 4 * n) 2 0) (q + 3 + 4 * n) 3 0) (q + 3 + 4 * n) 4 0) (q + 3 + 4 * n) 5 (-1)) (q + 3 + 4 * n) 6 0) (q + 3 + 4 * n) 7 0) (q + 3 + 4 * n) 8 0 = h1
  have r1 : ∀ z, z ≠ q + 3 + 4 * n → same h h1 z := by
    intro z hz
    rw [← hh]
    repeat (first | exact same_rfl _ _ | refine same_tr ?_ (same_sI hz))
  have r2 : ∀ f, f < 9 → f ≠ 3 → hI h1 (q + 3 + 4 * n) f = nwC (nI k) (nI c) (fcol f) := by
    intro f hf h3
    rw [← hh]
    rcases (show f = 0 ∨ f = 1 ∨ f = 2 ∨ f = 4 ∨ f = 5 ∨ f = 6 ∨ f = 7 ∨ f = 8 by omega) with rfl | rfl | rfl | rfl | rfl | rfl | rfl | rfl <;> simp (disch := omega) only [hI_s1, hI_s2, hI_s3] <;> rfl
  have r3 : hI h1 (q + 3 + 4 * n) 3 = 0 := by
    rw [← hh]
    simp (disch := omega) only [hI_s1, hI_s2, hI_s3]
  obtain ⟨h2, e1, e2, e3⟩ := startAs_l (h := h1) (a := q + 3 + 4 * n) 6 0 fu h1 (by omega) (by decide) (fun z _ _ => same_rfl _ _) (fun j hj => absurd hj (Nat.not_lt_zero j))
  have s2 : ∀ z, z < q + 3 + 4 * n ∨ q + 3 + 4 * n + 4 ≤ z → same h h2 z := fun z hz => same_tr (r1 z (by omega)) (e2 z (by omega) (by omega))
  refine ⟨sI h2 q 4 (nI (n + 1)), ?_, fun z hz => same_tr (s2 z (by omega)) (same_sI (by omega)), ?_⟩
  · rw [show (0 : Int32) = nI 0 from rfl, e1, bn1_some, bn1_some, hI_eq (s2 q (by omega)).1, hs, nI_1]
  · obtain ⟨⟨a0, a1, a2, a3, a4, a5, a6, a7, a8⟩, a9, b1⟩ := SwH_congr (s2 q (by omega)) (s2 (q + 1) (by omega)) (SwR_H S)
    have u : ∀ j, j ≠ 0 → j < 14 → (addM M n (nI k) (nI c)).1 j = M.1 j := fun j h0 hj => addM_N h0 hj
    have x : ∀ j, j ≠ 4 → hI (sI h2 q 4 (nI (n + 1))) q j = hI h2 q j := fun j hj => hI_sIj _ _ _ hj
    refine SwR_mk ⟨⟨by rw [x 0 (by decide), u 1 (by decide) (by decide)]; exact a0, by rw [x 1 (by decide), u 2 (by decide) (by decide)]; exact a1, by rw [x 2 (by decide), u 1 (by decide) (by decide)]; exact a2, by rw [x 3 (by decide), u 2 (by decide) (by decide)]; exact a3, by rw [hI_sI, addM_0], by rw [x 5 (by decide), u 3 (by decide) (by decide)]; exact a5, by rw [x 6 (by decide), u 5 (by decide) (by decide)]; exact a6, by rw [x 7 (by decide), u 6 (by decide) (by decide)]; exact a7, by rw [x 8 (by decide), u 7 (by decide) (by decide)]; exact a8⟩, a9, fun j hj => by rw [hI_sIb _ _ _ _ (by omega), u (8 + j) (by omega) (by omega)]; exact b1 j hj⟩ (fun i hi => ?_)
    by_cases e : i < n
    · exact PeR_M (fun c hc => addM_old e hc) (fun _ _ => rfl) (PeR_congr (fun z g1 g2 => same_tr (s2 z (by omega)) (same_sI (by omega))) (S.2.2.2 i e))
    · have : i = n := by omega
      subst this
      refine PeR_congr (h := h2) (fun z g1 g2 => same_sI (by omega)) ?_
      rw [PeR_iff]
      refine ⟨fun f hf h3 => ?_, fun j hj => ?_, fun z hz => ?_, fun j hj hne => ?_⟩
      · rw [hI_eq (e2 _ (by omega) (by omega)).1, r2 f hf h3, addM_new (by have := fcol_lt hf h3; omega)]
      · rw [(e3 j hj).1, addM_new (by omega)]
        unfold nwC
        rw [if_neg (by omega), if_neg (by omega), if_neg (by omega)]
      · have e4 : pc (addM M i (nI k) (nI c)) i (15 + z) = -1 := by
          rw [addM_new (by omega)]
          unfold nwC
          rw [if_neg (by omega), if_neg (by omega), if_pos (by omega)]
        rw [hI_eq (e2 _ (by omega) (by omega)).1, r3, e4, bitb_0 hz]
        exact ⟨rfl, fun g => absurd rfl g⟩
      · rw [(e3 j hj).2]
        exact (Wf.2.2.2.2.2.2.2.2.2.2.1 i j (by omega) hj (Or.inl (Nat.le_refl _))).symm
theorem comes_l {h : Hp} {m n : Nat} {k c : Int32} (hn : n < 6) : ∀ (r z fuel : Nat), z + r = 48 → r < fuel → f_X6_peerComes_l10 m k c (nI n) fuel (nI z) (mxI h (m + 2) (seg (14 + 48 * n) z (fun z => if z < 15 then 0 else -1) (h.1 (m + 2)))) = some (mxI h (m + 2) (seg (14 + 48 * n) 48 (fun z => if z < 15 then 0 else -1) (h.1 (m + 2)))) := by
  intro r
  induction r with
  | zero =>
    intro z fuel hk hf
    obtain ⟨fuel, rfl⟩ : ∃ z, fuel = z + 1 := ⟨fuel - 1, by omega⟩
    have : z = 48 := by omega
    subst this
    rw [f_X6_peerComes_l10_s, if_pos (by decide)]
  | succ r ih =>
    intro z fuel hk hf
    obtain ⟨fuel, rfl⟩ : ∃ z, fuel = z + 1 := ⟨fuel - 1, by omega⟩
    have ih1 := ih (z + 1) fuel (by omega) (by omega)
    rw [f_X6_peerComes_l10_s, if_neg (show ¬ (48 : Int32) ≤ nI z from nI_ge (b := 48) (by omega) (by decide)), x6_at, bn1_some]
    unfold f_X6_peerComes_j40
    have gi : inb (nI (14 + 48 * n + z)) 320 = true := inb_nI (by omega) (by decide)
    rw [nI_add, nI_clamp (by omega), sI_mxI, sI_mxI, nI_1]
    rw [← seg_s] at ih1
    by_cases e : z < 15
    · rw [if_neg (show ¬ (15 : Int32) ≤ nI z from nI_ge (b := 15) e (by decide)), if_pos gi]
      rw [if_pos e] at ih1
      exact ih1
    · rw [if_pos (show (15 : Int32) ≤ nI z from nI_le (a := 15) (by omega) (by omega)), if_pos gi]
      rw [if_neg e] at ih1
      exact ih1
theorem r_peer {h : Hp} {m n : Nat} {k c : Int32} (hn : n < 6) (h0 : (rv h m).1 0 = nI n) : ∃ h2, f_X6_peerComes h m k c = some (nI n, h2) ∧ (∀ z, z ≠ m + 2 → same h h2 z) ∧ rv h2 m = addM (rv h m) n k c := by
  have e0 : hI h (m + 2) (0 : Int32).toNatClampNeg = nI n := h0
  have L := comes_l (h := h) (m := m) (k := k) (c := c) hn 48 0 fu (by omega) (by decide)
  rw [seg_0, mxI_id] at L
  generalize hg : mxI h (m + 2) (seg (14 + 48 * n) 48 (fun z => if z < 15 then 0 else -1) (h.1 (m + 2))) = g at L
  have hgN : hI g (m + 2) = seg (14 + 48 * n) 48 (fun z => if z < 15 then 0 else -1) (hI h (m + 2)) := by
    funext j; rw [← hg, hI_mx]; rfl
  refine ⟨sI (sI (sI (sI g (m + 2) (14 + 48 * n) k) (m + 2) (14 + 48 * n + 1) c) (m + 2) (14 + 48 * n + 4) (-1)) (m + 2) 0 (nI (n + 1)), ?_, ?_, ?_⟩
  · unfold f_X6_peerComes
    rw [e0, show (0 : Int32) = nI 0 from rfl, L, bn1_some]
    simp only [x6_at, bn1_some]
    rw [show nI (14 + 48 * n) + nI 0 = nI (14 + 48 * n) from nI_add _ 0, show nI (14 + 48 * n) + (1 : Int32) = nI (14 + 48 * n + 1) from nI_add _ 1, show nI (14 + 48 * n) + (4 : Int32) = nI (14 + 48 * n + 4) from nI_add _ 4, if_pos (inb_nI (by omega) (by decide)), if_pos (inb_nI (by omega) (by decide)), if_pos (inb_nI (by omega) (by decide))]
    simp only [nI_clamp (show 14 + 48 * n < 2 ^ 31 by omega), nI_clamp (show 14 + 48 * n + 1 < 2 ^ 31 by omega), nI_clamp (show 14 + 48 * n + 4 < 2 ^ 31 by omega), nI_clamp (show 0 < 2 ^ 31 by decide)]
    rw [show hI (sI (sI (sI g (m + 2) (14 + 48 * n) k) (m + 2) (14 + 48 * n + 1) c) (m + 2) (14 + 48 * n + 4) (-1)) (m + 2) 0 = nI n by
      simp (disch := omega) only [hI_s3]
      rw [hgN, seg_out (by omega)]; exact h0, nI_1]
  · intro z hz
    rw [← hg]
    exact same_tr (same_mxI hz) (same_tr (same_sI hz) (same_tr (same_sI hz) (same_tr (same_sI hz) (same_sI hz))))
  · unfold rv addM
    refine Prod.ext ?_ ?_
    · dsimp only
      rw [hI_sIr, hI_sIr, hI_sIr, hI_sIr, hgN]
      funext j
      unfold upd seg
      by_cases j0 : j = 0
      · rw [if_pos j0, if_pos j0]
      rw [if_neg j0, if_neg j0]
      by_cases j4 : j = 14 + 48 * n + 4
      · rw [if_pos j4, if_pos (by omega)]
        unfold nwC
        rw [if_neg (by omega), if_neg (by omega), if_pos (by omega)]
      rw [if_neg j4]
      by_cases j1 : j = 14 + 48 * n + 1
      · rw [if_pos j1, if_pos (by omega)]
        unfold nwC
        rw [if_neg (by omega), if_pos (by omega)]
      rw [if_neg j1]
      by_cases j2 : j = 14 + 48 * n
      · rw [if_pos j2, if_pos (by omega)]
        unfold nwC
        rw [if_pos (by omega)]
      rw [if_neg j2]
      by_cases j3 : 14 + 48 * n ≤ j ∧ j < 14 + 48 * n + 48
      · rw [if_pos j3, if_pos j3]
        unfold nwC
        rw [if_neg (by omega), if_neg (by omega)]
        dsimp only
        by_cases j5 : j - (14 + 48 * n) < 15
        · rw [if_pos j5, if_neg (by omega)]
        · rw [if_neg j5, if_pos (by omega)]
      · rw [if_neg j3, if_neg j3]
    · rw [← hg]; rfl
