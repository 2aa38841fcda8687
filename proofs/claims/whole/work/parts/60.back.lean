/-! BACK -/
theorem bk_I {h : Hp} {m K : Nat} (hK : K < 5) (h4 : hI h m 4 = nI K) : ∀ (r k fuel : Nat), k + r = 320 → r < fuel → f_X6_back_l24 m fuel (nI k) (mxI h (m + 2) (pre k (fun j => h.1 (m + 4) (320 * K + j)) (h.1 (m + 2)))) = some (mxI h (m + 2) (pre 320 (fun j => h.1 (m + 4) (320 * K + j)) (h.1 (m + 2)))) := by
  intro r
  induction r with
  | zero =>
    intro k fuel hk hf
    obtain ⟨fuel, rfl⟩ : ∃ z, fuel = z + 1 := ⟨fuel - 1, by omega⟩
    have : k = 320 := by omega
    subst this
    rw [f_X6_back_l24_s, if_pos (by decide)]
  | succ r ih =>
    intro k fuel hk hf
    obtain ⟨fuel, rfl⟩ : ∃ z, fuel = z + 1 := ⟨fuel - 1, by omega⟩
    have ih1 := ih (k + 1) fuel (by omega) (by omega)
    have e4 : hI (mxI h (m + 2) (pre k (fun j => h.1 (m + 4) (320 * K + j)) (h.1 (m + 2)))) m 4 = nI K := by rw [hI_eq (same_mxI (by omega)).1]; exact h4
    have rd : hI (mxI h (m + 2) (pre k (fun j => h.1 (m + 4) (320 * K + j)) (h.1 (m + 2)))) (m + 4) (320 * K + k) = h.1 (m + 4) (320 * K + k) := by rw [hI_eq (same_mxI (by omega)).1]; rfl
    rw [f_X6_back_l24_s, if_neg (show ¬ (320 : Int32) ≤ nI k from nI_ge (b := 320) (by omega) (by decide)), e4, show (320 : Int32) * nI K + nI k = nI (320 * K + k) by rw [show (320 : Int32) = nI 320 from rfl, nI_mulE, nI_add], if_pos (inb_nI (by omega) (by decide)), if_pos (inb_nI (by omega) (by decide)), nI_clamp (by omega), nI_clamp (by omega), rd, sI_mxI, pre_s (v := fun j => h.1 (m + 4) (320 * K + j)), nI_1]
    exact ih1
theorem bk_F {h : Hp} {m K : Nat} (hK : K < 5) (h4 : hI h m 4 = nI K) : ∀ (r k fuel : Nat), k + r = 36 → r < fuel → f_X6_back_l60 m fuel (nI k) (mxF h (m + 3) (pre k (fun j => h.2.2 (m + 5) (36 * K + j)) (h.2.2 (m + 3)))) = some (mxF h (m + 3) (pre 36 (fun j => h.2.2 (m + 5) (36 * K + j)) (h.2.2 (m + 3)))) := by
  intro r
  induction r with
  | zero =>
    intro k fuel hk hf
    obtain ⟨fuel, rfl⟩ : ∃ z, fuel = z + 1 := ⟨fuel - 1, by omega⟩
    have : k = 36 := by omega
    subst this
    rw [f_X6_back_l60_s, if_pos (by decide)]
  | succ r ih =>
    intro k fuel hk hf
    obtain ⟨fuel, rfl⟩ : ∃ z, fuel = z + 1 := ⟨fuel - 1, by omega⟩
    have ih1 := ih (k + 1) fuel (by omega) (by omega)
    have e4 : hI (mxF h (m + 3) (pre k (fun j => h.2.2 (m + 5) (36 * K + j)) (h.2.2 (m + 3)))) m 4 = nI K := h4
    have rd : hF (mxF h (m + 3) (pre k (fun j => h.2.2 (m + 5) (36 * K + j)) (h.2.2 (m + 3)))) (m + 5) (36 * K + k) = h.2.2 (m + 5) (36 * K + k) := by rw [hF_eq (same_mxF (by omega)).2.2]; rfl
    rw [f_X6_back_l60_s, if_neg (show ¬ (36 : Int32) ≤ nI k from nI_ge (b := 36) (by omega) (by decide)), e4, show (36 : Int32) * nI K + nI k = nI (36 * K + k) by rw [show (36 : Int32) = nI 36 from rfl, nI_mulE, nI_add], if_pos (inb_nI (by omega) (by decide)), if_pos (inb_nI (by omega) (by decide)), nI_clamp (by omega), nI_clamp (by omega), rd, sF_mxF, preF_s (v := fun j => h.2.2 (m + 5) (36 * K + j)), nI_1]
    exact ih1
theorem r_back {h : Hp} {m K : Nat} (hK : K < 5) (h4 : hI h m 4 = nI (K + 1)) : ∃ h2, f_X6_back h m = some (nI K, h2) ∧ (∀ z, z ≠ m → z ≠ m + 2 → z ≠ m + 3 → same h h2 z) ∧ hI h2 m 4 = nI K ∧ (∀ k, k ≠ 4 → hI h2 m k = hI h m k) ∧ eqv (kv h m K) (rv h2 m) := by
  have x4 : nI (K + 1) - 1 = nI K := nI_subE (a := K + 1) (b := 1) (by omega)
  generalize hh : sI h m 4 (nI K) = h1
  have a4 : hI h1 m 4 = nI K := by rw [← hh, hI_sI]
  have L1 := bk_I (m := m) hK a4 320 0 fu (by omega) (by decide)
  rw [pre_0, mxI_id] at L1
  generalize hg : mxI h1 (m + 2) (pre 320 (fun j => h1.1 (m + 4) (320 * K + j)) (h1.1 (m + 2))) = h2 at L1
  have b4 : hI h2 m 4 = nI K := by rw [← hg, hI_eq (same_mxI (by omega)).1]; exact a4
  have L2 := bk_F (m := m) hK b4 36 0 fu (by omega) (by decide)
  rw [pre_0, mxF_id] at L2
  generalize hk : mxF h2 (m + 3) (pre 36 (fun j => h2.2.2 (m + 5) (36 * K + j)) (h2.2.2 (m + 3))) = h3 at L2
  have s1 : ∀ z, z ≠ m → same h h1 z := fun z hz => by rw [← hh]; exact same_sI hz
  have s2 : ∀ z, z ≠ m + 2 → same h1 h2 z := fun z hz => by rw [← hg]; exact same_mxI hz
  have s3 : ∀ z, z ≠ m + 3 → same h2 h3 z := fun z hz => by rw [← hk]; exact same_mxF hz
  have c4 : hI h3 m 4 = nI K := by rw [hI_eq (s3 m (by omega)).1]; exact b4
  have s0 : ∀ z, z ≠ m → z ≠ m + 2 → z ≠ m + 3 → same h h3 z := fun z g1 g2 g3 => same_tr (s1 z g1) (same_tr (s2 z g2) (s3 z g3))
  refine ⟨sL h3 m 3 (hL h3 (m + 6) K), ?_, fun z g1 g2 g3 => same_tr (s0 z g1 g2 g3) (same_sL g1), c4, fun k hk4 => ?_, fun c hc => ?_, fun c hc => ?_, ?_⟩
  · unfold f_X6_back
    rw [h4, if_neg (show ¬ nI (K + 1) = 0 from fun z => by have := (nI_eq (b := 0) (by omega) (by decide)).mp z; omega), x4, hh, show (0 : Int32) = nI 0 from rfl, L1, bn1_some, L2, bn1_some, c4, if_pos (inb_nI (by omega) (by decide)), nI_clamp (by omega), hI_sL, c4]
  · rw [hI_sL, hI_eq (s3 m (by omega)).1, hI_eq (s2 m (by omega)).1, ← hh, hI_sIj _ _ _ hk4]
  · show hI h3 (m + 2) c = hI h (m + 4) (320 * K + c)
    rw [hI_eq (s3 (m + 2) (by omega)).1, ← hg, hI_mx, pre_lo hc, ← hI_eq (s1 (m + 4) (by omega)).1]; rfl
  · show hF h3 (m + 3) c = hF h (m + 5) (36 * K + c)
    rw [← hk, hF_mx, pre_lo hc, ← hF_eq (s1 (m + 5) (by omega)).2.2, ← hF_eq (s2 (m + 5) (by omega)).2.2]; rfl
  · show hL (sL h3 m 3 (hL h3 (m + 6) K)) m 3 = hL h (m + 6) K
    rw [hL_sLs, hL_eq (s0 (m + 6) (by omega) (by omega) (by omega)).2.1]
theorem op_back (o : Nat) : Op_back o (Inv o) := by
  intro c h _ H
  obtain ⟨K, e, hK, he, k1, k2, k3, hst⟩ := id H.2.1
  by_cases h0 : K = 0
  · subst h0
    refine ⟨-3, sI h o 7 (hI h o 7 + 1), sI (sI h o 7 (hI h o 7 + 1)) (o + 175) 1 (hI (sI h o 7 (hI h o 7 + 1)) (o + 175) 1 + 1), ?_, ?_, Inv_ref (k := 1) (by decide) H⟩
    · unfold f_X5_back
      rw [k1, if_pos (show nI 0 = 0 from rfl), x5_no]; rfl
    · unfold f_X6_back
      rw [hI_sIb _ _ _ _ (by omega), k2, if_pos (show nI 0 = 0 from rfl), x6_no]; rfl
  · obtain ⟨K, rfl⟩ : ∃ z, K = z + 1 := ⟨K - 1, by omega⟩
    have St := hst 0 (by omega)
    rw [Nat.sub_zero, Nat.sub_zero, show (e + 5) % 5 = e by omega, Nat.add_sub_cancel] at St
    obtain ⟨n, p, b, S, Wf⟩ := St
    obtain ⟨h1, q1, q2, q3⟩ := x3_copy (q1 := o + 1) (by omega) S Wf.1.2 Wf.1.1
    have m5 : (e + 4) % 5 < 5 := Nat.mod_lt _ (by decide)
    generalize hh : sI (sI h1 o 4 (nI ((e + 4) % 5))) o 5 (nI K) = h2
    have s2 : ∀ z, z ≠ o → same h1 h2 z := fun z hz => by rw [← hh]; exact same_tr (same_sI hz) (same_sI hz)
    have s12 : ∀ z, z ≠ o → (z < o + 1 ∨ o + 28 ≤ z) → same h h2 z := fun z g1 g2 => same_tr (q2 z (by omega)) (s2 z g1)
    have k2' : hI h2 (o + 174) 4 = nI (K + 1) := by rw [hI_eq (s12 _ (by omega) (by omega)).1]; exact k2
    obtain ⟨h3, r1, r2, r3, r4, r5⟩ := r_back (by omega) k2'
    have s3 : ∀ z, z < o + 174 → same h2 h3 z := fun z hz => r2 z (by omega) (by omega) (by omega)
    have kvE : ∀ s, kv h3 (o + 174) s = kv h (o + 174) s := by
      intro s
      have x : ∀ z, o + 178 ≤ z → same h h3 z := fun z hz => same_tr (s12 z (by omega) (by omega)) (r2 z (by omega) (by omega) (by omega))
      unfold kv hI hF hL
      rw [(x (o + 174 + 4) (by omega)).1, (x (o + 174 + 5) (by omega)).2.2, (x (o + 174 + 6) (by omega)).2.1]
    have kvE2 : kv h2 (o + 174) K = kv h (o + 174) K := by
      have x : ∀ z, o + 178 ≤ z → same h h2 z := fun z hz => s12 z (by omega) (by omega)
      unfold kv hI hF hL
      rw [(x (o + 174 + 4) (by omega)).1, (x (o + 174 + 5) (by omega)).2.2, (x (o + 174 + 6) (by omega)).2.1]
    have g1 : hI h1 o 4 = nI e := by rw [hI_eq (q2 o (by omega)).1]; exact k3
    have g2 : hI h1 o 5 = nI (K + 1) := by rw [hI_eq (q2 o (by omega)).1]; exact k1
    have g3 : hI (sI h1 o 4 (nI ((e + 4) % 5))) o 5 = nI (K + 1) := by rw [hI_sIj _ _ _ (by decide)]; exact g2
    refine ⟨nI K, h2, h3, ?_, r1, ?_, ⟨K, (e + 4) % 5, by omega, m5, ?_, r3, ?_, fun t ht => ?_⟩, ?_, ?_⟩
    · unfold f_X5_back
      rw [k1, if_neg (show ¬ nI (K + 1) = 0 from fun z => by have := (nI_eq (b := 0) (by omega) (by decide)).mp z; omega), k3, if_pos (inb_nI he (by decide)), nI_clamp (by omega), show o + 28 + 1 + 27 * e = o + 29 + 27 * e by omega, q1, bn1_some, g1, mod5b e he, g3, show nI (K + 1) - 1 = nI K from nI_subE (a := K + 1) (b := 1) (by omega), hI_sI, hh]
    · have z1 : Sim h1 (o + 1) (kv h (o + 174) K) (1200 * c) := ⟨n, p, b, q3, Wf⟩
      rw [← kvE2] at z1
      refine Sim_eqv r5 (Sim_congr (by omega) rfl (fun a g1 g2 => (same_tr (s2 a (by omega)) (s3 a (by omega))).1) (same_tr (s2 _ (by omega)) (s3 _ (by omega))).2.1 (fun a g1 g2 => (same_tr (s2 a (by omega)) (s3 a (by omega))).2.2) z1)
    · rw [hI_eq (s3 o (by omega)).1, ← hh, hI_sI]
    · rw [hI_eq (s3 o (by omega)).1, ← hh, hI_sIj _ _ _ (by decide), hI_sI]
    · have hr : (e + 5 - (t + 1)) % 5 < 5 := Nat.mod_lt _ (by decide)
      rw [kvE, show ((e + 4) % 5 + 5 - t) % 5 = (e + 5 - (t + 1)) % 5 by omega, show K - 1 - t = K + 1 - 1 - (t + 1) by omega]
      exact Sim_congr (by omega) rfl (fun a g1 g2 => (same_tr (s12 a (by omega) (by omega)) (s3 a (by omega))).1) (same_tr (s12 _ (by omega) (by omega)) (s3 _ (by omega))).2.1 (fun a g1 g2 => (same_tr (s12 a (by omega) (by omega)) (s3 a (by omega))).2.2) (hst (t + 1) (by omega))
    · refine Ic_congr ?_ ?_ ?_ ?_ H.2.2.1
      · rw [hI_eq (s3 _ (by omega)).1, hI_eq (s12 _ (by omega) (by omega)).1]
      · rw [r4 12 (by decide), hI_eq (s12 _ (by omega) (by omega)).1]
      · rw [(s3 _ (by omega)).1, (s12 _ (by omega) (by omega)).1]
      · rw [(r2 _ (by omega) (by omega) (by omega)).1, (s12 _ (by omega) (by omega)).1]
    · obtain ⟨d0, d1, d2⟩ := H.2.2.2
      have y : ∀ k, 5 < k → hI h3 o k = hI h o k := fun k hk => by rw [hI_eq (s3 o (by omega)).1, ← hh, hI_sIj _ _ _ (by omega), hI_sIj _ _ _ (by omega), hI_eq (q2 o (by omega)).1]
      have x : ∀ k, hI h3 (o + 175) k = hI h (o + 175) k := fun k => by rw [hI_eq (r2 _ (by omega) (by omega) (by omega)).1, hI_eq (s12 _ (by omega) (by omega)).1]
      exact ⟨by rw [y 6 (by decide), x]; exact d0, by rw [y 7 (by decide), x]; exact d1, by rw [y 8 (by decide), x]; exact d2⟩
