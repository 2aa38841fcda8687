/-- the two sides leave a state, then change what is now: all in all -/
theorem Inv_mut {o c K e : Nat} {h h1 h2 h3 h4 : Hp} {M : MS} (H : Inv o c h) (hM : rv h (o + 174) = M)
    (hK : K ≤ 5) (he : e < 5) (k1 : hI h o 5 = nI K) (k2 : hI h (o + 174) 4 = nI K) (k3 : hI h o 4 = nI e) (hst : ∀ t, t < K → Sim h (o + 29 + 27 * ((e + 5 - t) % 5)) (kv h (o + 174) (K - 1 - t)) (1200 * c))
    (a1 : ∀ b, b ≠ o → (b < o + 29 + 27 * ((e + 1) % 5) ∨ o + 29 + 27 * ((e + 1) % 5) + 27 ≤ b) → same h h1 b) (a2 : hI h1 o 5 = nI (if K < 5 then K + 1 else 5)) (a3 : hI h1 o 4 = nI ((e + 1) % 5)) (a4 : ∀ k, 5 < k → hI h1 o k = hI h o k) (a5 : Sim h1 (o + 29 + 27 * ((e + 1) % 5)) M (1200 * c))
    (b1 : ∀ b, (b < o + 1 ∨ o + 28 ≤ b) → (b < o + 164 ∨ o + 169 ≤ b) → same h1 h2 b)
    (c1 : ∀ b, b ≠ o + 174 → b ≠ o + 178 → b ≠ o + 179 → b ≠ o + 180 → same h2 h3 b) (c2 : hI h3 (o + 174) 4 = nI (if K < 5 then K + 1 else 5)) (c3 : ∀ k, k ≠ 4 → hI h3 (o + 174) k = hI h2 (o + 174) k) (c4 : eqv (rv h2 (o + 174)) (kv h3 (o + 174) ((if K < 5 then K + 1 else 5) - 1))) (c5 : ∀ t, t + 1 < (if K < 5 then K + 1 else 5) → eqv (kv h2 (o + 174) (if K < 5 then t else t + 1)) (kv h3 (o + 174) t))
    (d1 : ∀ b, b ≠ o + 174 → b ≠ o + 176 → b ≠ o + 177 → b ≠ o + 181 → b ≠ o + 182 → b ≠ o + 183 → same h3 h4 b) (d2 : ∀ k, hI h4 (o + 174) k = hI h3 (o + 174) k)
    (fin : Sim h2 (o + 1) (rv h4 (o + 174)) (1200 * (c + 1))) : Inv o (c + 1) h4 := by
  have hm : (e + 1) % 5 < 5 := Nat.mod_lt _ (by decide)
  have up : ∀ b, b < o + 174 → same h2 h4 b := fun b hb => same_tr (c1 b (by omega) (by omega) (by omega) (by omega)) (d1 b (by omega) (by omega) (by omega) (by omega) (by omega) (by omega))
  have m2 : ∀ k, k ≠ 4 → hI h4 (o + 174) k = hI h (o + 174) k := fun k hk => by
    rw [d2, c3 k hk, hI_eq (b1 _ (by omega) (by omega)).1, hI_eq (a1 _ (by omega) (by omega)).1]
  have kv2 : ∀ s, s < 5 → kv h2 (o + 174) s = kv h (o + 174) s := by
    intro s hs
    have x : ∀ b, o + 174 < b → same h h2 b := fun b hb => same_tr (a1 b (by omega) (by omega)) (b1 b (by omega) (by omega))
    unfold kv hI hF hL
    rw [(x (o + 174 + 4) (by omega)).1, (x (o + 174 + 5) (by omega)).2.2, (x (o + 174 + 6) (by omega)).2.1]
  have kv4 : ∀ s, kv h4 (o + 174) s = kv h3 (o + 174) s := by
    intro s
    unfold kv hI hF hL
    rw [(d1 (o + 174 + 4) (by omega) (by omega) (by omega) (by omega) (by omega) (by omega)).1, (d1 (o + 174 + 5) (by omega) (by omega) (by omega) (by omega) (by omega) (by omega)).2.2, (d1 (o + 174 + 6) (by omega) (by omega) (by omega) (by omega) (by omega) (by omega)).2.1]
  have rv2 : rv h2 (o + 174) = M := by
    rw [← hM]
    have x : ∀ b, o + 174 ≤ b → same h h2 b := fun b hb => same_tr (a1 b (by omega) (by omega)) (b1 b (by omega) (by omega))
    unfold rv hI hF hL
    rw [(x (o + 174 + 2) (by omega)).1, (x (o + 174 + 3) (by omega)).2.2, (x (o + 174) (by omega)).2.1]
  refine ⟨?_, ⟨if K < 5 then K + 1 else 5, (e + 1) % 5, ?_, hm, ?_, ?_, ?_, fun t ht => ?_⟩, ?_, ?_⟩
  · exact Sim_congr (Nat.le_refl _) rfl (fun a g1 g2 => (up a (by omega)).1) (up _ (by omega)).2.1 (fun a g1 g2 => (up a (by omega)).2.2) fin
  · by_cases q : K < 5
    · rw [if_pos q]; omega
    · rw [if_neg q]; exact Nat.le_refl _
  · rw [hI_eq (up o (by omega)).1, hI_eq (b1 o (by omega) (by omega)).1, a2]
  · rw [d2, c2]
  · rw [hI_eq (up o (by omega)).1, hI_eq (b1 o (by omega) (by omega)).1, a3]
  · rw [kv4]
    have to4 : ∀ (q : Nat) (Mx : MS) (t : Nat), o + 29 ≤ q → q + 27 ≤ o + 164 → Sim h1 q Mx t → Sim h4 q Mx t := fun q Mx t g1 g2 S => Sim_congr (Nat.le_refl _) rfl (fun a x1 x2 => (same_tr (b1 a (by omega) (by omega)) (up a (by omega))).1) (same_tr (b1 q (by omega) (by omega)) (up q (by omega))).2.1 (fun a x1 x2 => (same_tr (b1 a (by omega) (by omega)) (up a (by omega))).2.2) S
    have up1 : ∀ (q : Nat) (Mx : MS), Sim h4 q Mx (1200 * c) → Sim h4 q Mx (1200 * (c + 1)) := fun q Mx S => Sim_congr (by omega) rfl (fun _ _ _ => rfl) rfl (fun _ _ _ => rfl) S
    by_cases t0 : t = 0
    · subst t0
      rw [Nat.sub_zero, Nat.sub_zero, show ((e + 1) % 5 + 5) % 5 = (e + 1) % 5 by omega]
      refine up1 _ _ (Sim_eqv c4 ?_)
      rw [rv2]
      exact to4 _ _ _ (by omega) (by omega) a5
    · have hlt : t - 1 < K := by
        by_cases q : K < 5
        · rw [if_pos q] at ht; omega
        · rw [if_neg q] at ht; omega
      have hr : (e + 5 - (t - 1)) % 5 < 5 := Nat.mod_lt _ (by decide)
      have ht5 : t < 5 := by
        by_cases q : K < 5
        · rw [if_pos q] at ht; omega
        · rw [if_neg q] at ht; omega
      rw [show ((e + 1) % 5 + 5 - t) % 5 = (e + 5 - (t - 1)) % 5 by omega]
      refine up1 _ _ (Sim_eqv (c5 ((if K < 5 then K + 1 else 5) - 1 - t) (by omega)) ?_)
      have es : (if K < 5 then (if K < 5 then K + 1 else 5) - 1 - t else (if K < 5 then K + 1 else 5) - 1 - t + 1) = K - 1 - (t - 1) := by
        by_cases q : K < 5
        · rw [if_pos q, if_pos q]; omega
        · rw [if_neg q, if_neg q]; omega
      rw [es, kv2 _ (by omega)]
      refine to4 _ _ _ (by omega) (by omega) ?_
      refine Sim_congr (Nat.le_refl _) rfl (fun a x1 x2 => (a1 a (by omega) (by omega)).1) (a1 _ (by omega) (by omega)).2.1 (fun a x1 x2 => (a1 a (by omega) (by omega)).2.2) (hst (t - 1) hlt)
  · refine Ic_congr ?_ (m2 12 (by decide)) ?_ ?_ H.2.2.1
    · rw [hI_eq (up _ (by omega)).1, hI_eq (b1 _ (by omega) (by omega)).1, hI_eq (a1 _ (by omega) (by omega)).1]
    · rw [(up _ (by omega)).1, (b1 _ (by omega) (by omega)).1, (a1 _ (by omega) (by omega)).1]
    · rw [(d1 _ (by omega) (by omega) (by omega) (by omega) (by omega) (by omega)).1, (c1 _ (by omega) (by omega) (by omega) (by omega)).1, (b1 _ (by omega) (by omega)).1, (a1 _ (by omega) (by omega)).1]
  · have x : h4.1 (o + 175) = h.1 (o + 175) := by
      rw [(d1 _ (by omega) (by omega) (by omega) (by omega) (by omega) (by omega)).1, (c1 _ (by omega) (by omega) (by omega) (by omega)).1, (b1 _ (by omega) (by omega)).1, (a1 _ (by omega) (by omega)).1]
    have y : ∀ k, 5 < k → hI h4 o k = hI h o k := fun k hk => by rw [hI_eq (up o (by omega)).1, hI_eq (b1 o (by omega) (by omega)).1, a4 k hk]
    obtain ⟨q0, q1, q2⟩ := H.2.2.2
    exact ⟨by rw [y 6 (by decide), hI_eq x]; exact q0, by rw [y 7 (by decide), hI_eq x]; exact q1, by rw [y 8 (by decide), hI_eq x]; exact q2⟩
/-- how a call that leaves a state goes: F is what the class does behind keepState, G what the reference does behind leavesState -/
theorem mut_pair2 {o c : Nat} {h : Hp} (H : Inv o c h) {F G : Hp → Option (Int32 × Hp)} {v : Int32} {n p b : Nat} (S0 : SwR h (o + 1) (rv h (o + 174)) n) (W0 : WFn (rv h (o + 174)) n p b (1200 * c)) (M2 : MS)
    (cl : ∀ h1, SwR h1 (o + 1) (rv h (o + 174)) n → ∃ h2, F h1 = some (v, h2) ∧ (∀ b, (b < o + 1 ∨ o + 28 ≤ b) → (b < o + 164 ∨ o + 169 ≤ b) → same h1 h2 b) ∧ Sim h2 (o + 1) M2 (1200 * (c + 1)))
    (rf : ∀ h3, rv h3 (o + 174) = rv h (o + 174) → ∃ h4, G h3 = some (v, h4) ∧ (∀ b, b ≠ o + 174 → b ≠ o + 176 → b ≠ o + 177 → b ≠ o + 181 → b ≠ o + 182 → b ≠ o + 183 → same h3 h4 b) ∧ (∀ k, hI h4 (o + 174) k = hI h3 (o + 174) k) ∧ eqv M2 (rv h4 (o + 174))) :
    ∃ h1 h2, (bn1 (f_X5_keepState h o) F = some (v, h1)) ∧ bn1 (f_X6_leavesState h1 (o + 174)) G = some (v, h2) ∧ Inv o (c + 1) h2 ∧ rv h1 (o + 174) = rv h (o + 174) := by
  obtain ⟨K, e, hK, he, k1, k2, k3, hst⟩ := id H.2.1
  obtain ⟨h1, q1, a1, a2, a3, a4, a5, a6, a7⟩ := x5_keep S0 W0.1.2 W0.1.1 hK he k1 k3
  have hm : (e + 1) % 5 < 5 := Nat.mod_lt _ (by decide)
  have S1 : SwR h1 (o + 1) (rv h (o + 174)) n := SwR_congr W0.1.2 (fun a g1 g2 => (a1 a (by omega) (by omega)).1) (a1 _ (by omega) (by omega)).2.1 (fun a g1 g2 => (a1 a (by omega) (by omega)).2.2) S0
  obtain ⟨h2, r1, b1, b2⟩ := cl h1 S1
  have x : ∀ b, o + 174 ≤ b → same h h2 b := fun b hb => same_tr (a1 b (by omega) (by omega)) (b1 b (by omega) (by omega))
  have hK2 : hI h2 (o + 174) 4 = nI K := by rw [hI_eq (x _ (Nat.le_refl _)).1]; exact k2
  obtain ⟨h3, s1, c1, c2, c3, c4, c5, c6, c7⟩ := x6_leave hK hK2
  have rv2 : rv h2 (o + 174) = rv h (o + 174) := by
    unfold rv hI hF hL
    rw [(x (o + 174 + 2) (by omega)).1, (x (o + 174 + 3) (by omega)).2.2, (x (o + 174) (by omega)).2.1]
  have rv3 : rv h3 (o + 174) = rv h (o + 174) := by
    rw [← rv2]
    unfold rv hI hF hL
    rw [(c1 (o + 174 + 2) (by omega) (by omega) (by omega) (by omega)).1, (c1 (o + 174 + 3) (by omega) (by omega) (by omega) (by omega)).2.2, c4]
  obtain ⟨h4, t1, d1, d2, d3⟩ := rf h3 rv3
  refine ⟨h2, h4, by rw [q1]; exact r1, by rw [s1]; exact t1, ?_, rv2⟩
  exact Inv_mut H rfl hK he k1 k2 k3 hst a1 a2 a3 a4 ⟨n, p, b, a7, W0⟩ b1 c1 c2 c3 c6 c7 d1 d2 (Sim_eqv d3 b2)
theorem mut_pair {o c : Nat} {h : Hp} (H : Inv o c h) {F G : Hp → Option (Int32 × Hp)} {v : Int32} {n p b : Nat} (S0 : SwR h (o + 1) (rv h (o + 174)) n) (W0 : WFn (rv h (o + 174)) n p b (1200 * c)) (M2 : MS)
    (cl : ∀ h1, SwR h1 (o + 1) (rv h (o + 174)) n → ∃ h2, F h1 = some (v, h2) ∧ (∀ b, (b < o + 1 ∨ o + 28 ≤ b) → (b < o + 164 ∨ o + 169 ≤ b) → same h1 h2 b) ∧ Sim h2 (o + 1) M2 (1200 * (c + 1)))
    (rf : ∀ h3, rv h3 (o + 174) = rv h (o + 174) → ∃ h4, G h3 = some (v, h4) ∧ (∀ b, b ≠ o + 174 → b ≠ o + 176 → b ≠ o + 177 → b ≠ o + 181 → b ≠ o + 182 → b ≠ o + 183 → same h3 h4 b) ∧ (∀ k, hI h4 (o + 174) k = hI h3 (o + 174) k) ∧ eqv M2 (rv h4 (o + 174))) :
    ∃ h1 h2, (bn1 (f_X5_keepState h o) F = some (v, h1)) ∧ bn1 (f_X6_leavesState h1 (o + 174)) G = some (v, h2) ∧ Inv o (c + 1) h2 := by
  obtain ⟨h1, h2, e1, e2, e3, -⟩ := mut_pair2 H S0 W0 M2 cl rf
  exact ⟨h1, h2, e1, e2, e3⟩
