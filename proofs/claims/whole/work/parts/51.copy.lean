theorem PeR_congr {h h2 : Hp} {a i : Nat} {M : MS} (e : ∀ b, a ≤ b → b < a + 4 → same h h2 b) (P : PeR h a i M) : PeR h2 a i M := by
  obtain ⟨⟨c0, c1, c2, c3, c4, c5, c6, c7⟩, d1, d2, d3⟩ := P
  have y := hI_eq (e a (by omega) (by omega)).1
  have y1 := hI_eq (e (a + 1) (by omega) (by omega)).1
  have y2 := hI_eq (e (a + 2) (by omega) (by omega)).1
  have y3 := hF_eq (e (a + 3) (by omega) (by omega)).2.2
  refine ⟨⟨by rw [y]; exact c0, by rw [y]; exact c1, by rw [y]; exact c2, by rw [y]; exact c3, by rw [y]; exact c4, by rw [y]; exact c5, by rw [y]; exact c6, by rw [y]; exact c7⟩, fun j hj => by rw [y2]; exact d1 j hj, fun k hk => ⟨by rw [y]; exact (d2 k hk).1, fun z => by rw [y1]; exact (d2 k hk).2 z⟩, fun j hj hne => by rw [y3]; exact d3 j hj hne⟩
theorem PeR_copy {h h2 : Hp} {a1 a2 i : Nat} {M : MS} (f1 : ∀ k, k < 9 → hI h2 a1 k = hI h a2 k) (f2 : ∀ k, k < 32 → hI h2 (a1 + 1) k = hI h (a2 + 1) k) (f3 : ∀ k, k < 6 → hI h2 (a1 + 2) k = hI h (a2 + 2) k) (f4 : ∀ k, k < 6 → hF h2 (a1 + 3) k = hF h (a2 + 3) k) (P : PeR h a2 i M) : PeR h2 a1 i M := by
  obtain ⟨⟨c0, c1, c2, c3, c4, c5, c6, c7⟩, d1, d2, d3⟩ := P
  refine ⟨⟨by rw [f1 0 (by decide)]; exact c0, by rw [f1 1 (by decide)]; exact c1, by rw [f1 2 (by decide)]; exact c2, by rw [f1 4 (by decide)]; exact c3, by rw [f1 5 (by decide)]; exact c4, by rw [f1 6 (by decide)]; exact c5, by rw [f1 7 (by decide)]; exact c6, by rw [f1 8 (by decide)]; exact c7⟩, fun j hj => by rw [f3 j hj]; exact d1 j hj, fun k hk => ⟨by rw [f1 3 (by decide)]; exact (d2 k hk).1, fun z => by rw [f2 k hk]; exact (d2 k hk).2 z⟩, fun j hj hne => by rw [f4 j hj]; exact d3 j hj hne⟩
/-- a swarm but for its peers -/
def SwH (h : Hp) (q : Nat) (M : MS) : Prop :=
  (hI h q 0 = M.1 1 ∧ hI h q 1 = M.1 2 ∧ hI h q 2 = (1 <<< (M.1 1 &&& 31)) - 1 ∧ hI h q 3 = (1 <<< (M.1 2 &&& 31)) - 1 ∧ hI h q 4 = M.1 0 ∧ hI h q 5 = M.1 3 ∧ hI h q 6 = M.1 5 ∧ hI h q 7 = M.1 6 ∧ hI h q 8 = M.1 7) ∧
  hL h q 9 = M.2.2 ∧ (∀ j, j < 4 → hI h (q + 1) j = M.1 (8 + j))
theorem SwR_H {h : Hp} {q n : Nat} {M : MS} (H : SwR h q M n) : SwH h q M := ⟨H.1, H.2.1, H.2.2.1⟩
theorem SwR_mk {h : Hp} {q n : Nat} {M : MS} (H : SwH h q M) (P : ∀ i, i < n → PeR h (q + 3 + 4 * i) i M) : SwR h q M n := ⟨H.1, H.2.1, H.2.2, P⟩
theorem SwH_congr {h h2 : Hp} {q : Nat} {M : MS} (e0 : same h h2 q) (e1 : same h h2 (q + 1)) (H : SwH h q M) : SwH h2 q M := by
  obtain ⟨⟨a0, a1, a2, a3, a4, a5, a6, a7, a8⟩, a9, b1⟩ := H
  have x := hI_eq e0.1
  exact ⟨⟨by rw [x]; exact a0, by rw [x]; exact a1, by rw [x]; exact a2, by rw [x]; exact a3, by rw [x]; exact a4, by rw [x]; exact a5, by rw [x]; exact a6, by rw [x]; exact a7, by rw [x]; exact a8⟩, by rw [hL_eq e0.2.1]; exact a9, fun j hj => by rw [hI_eq e1.1]; exact b1 j hj⟩
theorem hL_sI (h : Hp) (a j : Nat) (v : Int32) (b k : Nat) : hL (sI h a j v) b k = hL h b k := rfl
theorem x3_copy_l {h : Hp} {q1 q2 n : Nat} {M : MS} (hd : q2 + 27 ≤ q1 ∨ q1 + 27 ≤ q2) (H : SwR h q2 M n) (hn : n ≤ 6) (h0 : M.1 0 = nI n) : ∀ (r i fuel : Nat) (hh : Hp), i + r = n → r < fuel → (∀ b, b < q1 ∨ q1 + 27 ≤ b → same h hh b) → SwH hh q1 M → (∀ j, j < i → PeR hh (q1 + 3 + 4 * j) j M) → ∃ h2, f_X3_copyFrom_l100 q1 q2 fuel (nI i) hh = some h2 ∧ (∀ b, b < q1 ∨ q1 + 27 ≤ b → same h h2 b) ∧ SwR h2 q1 M n := by
  intro r
  induction r with
  | zero =>
    intro i fuel hh hi hf e1 e2 e3
    obtain ⟨fuel, rfl⟩ : ∃ z, fuel = z + 1 := ⟨fuel - 1, by omega⟩
    have : i = n := by omega
    subst this
    refine ⟨hh, ?_, e1, SwR_mk e2 e3⟩
    rw [f_X3_copyFrom_l100_s, hI_eq (e1 q2 (by omega)).1, H.1.2.2.2.2.1, h0, if_pos (Int32.le_refl _)]
  | succ r ih =>
    intro i fuel hh hi hf e1 e2 e3
    obtain ⟨fuel, rfl⟩ : ∃ z, fuel = z + 1 := ⟨fuel - 1, by omega⟩
    obtain ⟨h2, c1, c2, c3, c4, c5, c6⟩ := x1_copy (h := hh) (a1 := q1 + 3 + 4 * i) (a2 := q2 + 3 + 4 * i) (by omega)
    rw [f_X3_copyFrom_l100_s, hI_eq (e1 q2 (by omega)).1, H.1.2.2.2.2.1, h0, if_neg (nI_ge (by omega) (by omega)), if_pos (inb_nI (by omega) (by decide)), if_pos (inb_nI (by omega) (by decide)), nI_clamp (by omega), show q1 + 2 + 1 + 4 * i = q1 + 3 + 4 * i by omega, show q2 + 2 + 1 + 4 * i = q2 + 3 + 4 * i by omega, c1, bn1_some, nI_1]
    refine ih (i + 1) fuel h2 (by omega) (by omega) (fun b hb => same_tr (e1 b hb) (c2 b (by omega))) (SwH_congr (c2 _ (by omega)) (c2 _ (by omega)) e2) (fun j hj => ?_)
    by_cases hji : j = i
    · subst hji
      exact PeR_copy c3 c4 c5 c6 (PeR_congr (fun b g1 g2 => e1 b (by omega)) (H.2.2.2 j (by omega)))
    · exact PeR_congr (fun b g1 g2 => c2 b (by omega)) (e3 j (by omega))
theorem x3_copy {h : Hp} {q1 q2 n : Nat} {M : MS} (hd : q2 + 27 ≤ q1 ∨ q1 + 27 ≤ q2) (H : SwR h q2 M n) (hn : n ≤ 6) (h0 : M.1 0 = nI n) : ∃ h2, f_X3_copyFrom h q1 q2 = some h2 ∧ (∀ b, b < q1 ∨ q1 + 27 ≤ b → same h h2 b) ∧ SwR h2 q1 M n := by
  unfold f_X3_copyFrom
  simp (disch := omega) only [hI_s1, hL_sI]
  generalize hh : cpI (sL (sI (sI (sI (sI (sI (sI (sI (sI (sI h q1 0 (hI h q2 0)) q1 1 (hI h q2 1)) q1 2 (hI h q2 2)) q1 3 (hI h q2 3)) q1 4 (hI h q2 4)) q1 5 (hI h q2 5)) q1 6 (hI h q2 6)) q1 7 (hI h q2 7)) q1 8 (hI h q2 8)) q1 9 (hL h q2 9)) (q2 + 1) (q1 + 1) 4 = h1
  have r1 : ∀ b, b ≠ q1 → b ≠ q1 + 1 → same h h1 b := by
    intro b g1 g2
    rw [← hh]
    refine same_tr ?_ (same_cpI g2)
    refine same_tr ?_ (same_sL g1)
    repeat (first | exact same_rfl _ _ | refine same_tr ?_ (same_sI g1))
  have r2 : ∀ k, k < 9 → hI h1 q1 k = hI h q2 k := by
    intro k hk
    rw [← hh, hI_eq (same_cpI (by omega)).1, hI_sL]
    rcases (show k = 0 ∨ k = 1 ∨ k = 2 ∨ k = 3 ∨ k = 4 ∨ k = 5 ∨ k = 6 ∨ k = 7 ∨ k = 8 by omega) with rfl | rfl | rfl | rfl | rfl | rfl | rfl | rfl | rfl <;> simp (disch := omega) only [hI_s1, hI_s2, hI_s3]
  have r3 : hL h1 q1 9 = hL h q2 9 := by
    rw [← hh]
    show hL (sL _ q1 9 (hL h q2 9)) q1 9 = _
    unfold hL sL
    show ufn _ q1 (vp_updL _ 9 (h.2.1 q2 9)) q1 9 = _
    rw [ufn_same]
    unfold vp_updL
    rw [if_pos rfl]
  have r4 : ∀ j, j < 4 → hI h1 (q1 + 1) j = hI h (q2 + 1) j := by
    intro j hj
    rw [← hh, hI_cpI hj, hI_sL]
    simp (disch := omega) only [hI_s1]
  have H2 : SwH h1 q1 M := by
    obtain ⟨⟨a0, a1, a2, a3, a4, a5, a6, a7, a8⟩, a9, b1, -⟩ := H
    exact ⟨⟨by rw [r2 0 (by decide)]; exact a0, by rw [r2 1 (by decide)]; exact a1, by rw [r2 2 (by decide)]; exact a2, by rw [r2 3 (by decide)]; exact a3, by rw [r2 4 (by decide)]; exact a4, by rw [r2 5 (by decide)]; exact a5, by rw [r2 6 (by decide)]; exact a6, by rw [r2 7 (by decide)]; exact a7, by rw [r2 8 (by decide)]; exact a8⟩, by rw [r3]; exact a9, fun j hj => by rw [r4 j hj]; exact b1 j hj⟩
  obtain ⟨h2, k1, k2, k3⟩ := x3_copy_l hd H hn h0 n 0 fu h1 (by omega) (by show n < 5000; omega) (fun b hb => r1 b (by omega) (by omega)) H2 (fun j hj => absurd hj (Nat.not_lt_zero j))
  exact ⟨h2, by rw [show (0 : Int32) = nI 0 from rfl, k1]; rfl, k2, k3⟩
theorem mod5 : ∀ e, e < 5 → (nI e + 1) - (nI e + 1) / 5 * 5 = nI ((e + 1) % 5) := by decide
theorem mod5b : ∀ e, e < 5 → (nI e + 5 - 1) - (nI e + 5 - 1) / 5 * 5 = nI ((e + 4) % 5) := by decide
/-- the class leaves a state -/
theorem x5_keep {h : Hp} {o n K e : Nat} {M : MS} (S : SwR h (o + 1) M n) (hn : n ≤ 6) (h0 : M.1 0 = nI n) (hK : K ≤ 5) (he : e < 5) (k1 : hI h o 5 = nI K) (k2 : hI h o 4 = nI e) : ∃ h2, f_X5_keepState h o = some h2 ∧ (∀ b, b ≠ o → (b < o + 29 + 27 * ((e + 1) % 5) ∨ o + 29 + 27 * ((e + 1) % 5) + 27 ≤ b) → same h h2 b) ∧ hI h2 o 5 = nI (if K < 5 then K + 1 else 5) ∧ hI h2 o 4 = nI ((e + 1) % 5) ∧ (∀ k, 5 < k → hI h2 o k = hI h o k) ∧ h2.2.1 o = h.2.1 o ∧ h2.2.2 o = h.2.2 o ∧ SwR h2 (o + 29 + 27 * ((e + 1) % 5)) M n := by
  have hm : (e + 1) % 5 < 5 := Nat.mod_lt _ (by decide)
  unfold f_X5_keepState
  rw [k2, mod5 e he]
  generalize hh : sI h o 4 (nI ((e + 1) % 5)) = h1
  have r1 : ∀ b, b ≠ o → same h h1 b := fun b hb => by rw [← hh]; exact same_sI hb
  have e4 : hI h1 o 4 = nI ((e + 1) % 5) := by rw [← hh, hI_sI]
  have e5 : ∀ k, k ≠ 4 → hI h1 o k = hI h o k := fun k hk => by rw [← hh, hI_sIj _ _ _ hk]
  rw [e4, if_pos (inb_nI hm (by decide)), nI_clamp (by omega), show o + 28 + 1 + 27 * ((e + 1) % 5) = o + 29 + 27 * ((e + 1) % 5) by omega]
  obtain ⟨h2, c1, c2, c3⟩ := x3_copy (h := h1) (q1 := o + 29 + 27 * ((e + 1) % 5)) (q2 := o + 1) (Or.inl (by omega)) (SwR_congr hn (fun a g1 g2 => (r1 a (by omega)).1) (r1 _ (by omega)).2.1 (fun a g1 g2 => (r1 a (by omega)).2.2) S) hn h0
  have so : same h1 h2 o := c2 o (by omega)
  rw [c1, bn1_some, hI_eq so.1, e5 5 (by decide), k1]
  unfold f_X5_keepState_j46
  have so2 : h1.2 = h.2 := by rw [← hh]; rfl
  by_cases hK5 : K < 5
  · rw [if_neg (show ¬ (5 : Int32) ≤ nI K from nI_ge (b := 5) hK5 (by decide)), if_pos hK5, nI_1]
    refine ⟨_, rfl, fun b hb hb2 => ?_, hI_sI _ _ _ _, ?_, fun k hk => ?_, ?_, ?_, ?_⟩
    · exact same_tr (same_tr (r1 b hb) (c2 b hb2)) (same_sI hb)
    · rw [hI_sIj _ _ _ (by decide), hI_eq so.1, e4]
    · rw [hI_sIj _ _ _ (by omega), hI_eq so.1, e5 k (by omega)]
    · show h2.2.1 o = _
      rw [so.2.1, so2]
    · show h2.2.2 o = _
      rw [so.2.2, so2]
    · exact SwR_congr hn (fun a g1 g2 => sI1 _ _ _ (by omega)) rfl (fun a g1 g2 => rfl) c3
  · have : K = 5 := by omega
    subst this
    rw [if_pos (by decide), if_neg hK5]
    refine ⟨h2, rfl, fun b hb hb2 => same_tr (r1 b hb) (c2 b hb2), ?_, ?_, fun k hk => ?_, ?_, ?_, c3⟩
    · rw [hI_eq so.1, e5 5 (by decide), k1]
    · rw [hI_eq so.1, e4]
    · rw [hI_eq so.1, e5 k (by omega)]
    · rw [so.2.1, so2]
    · rw [so.2.2, so2]
