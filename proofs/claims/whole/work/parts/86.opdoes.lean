/-! the call does -/
theorem op_does (o : Nat) : Op_does o (Inv o) := by
  intro c h hc H
  obtain ⟨len, hl, e1, e2, e3⟩ := id H.2.2.1
  obtain ⟨N, ls, us, vs, ps, C, q⟩ := chn_ex (fun j => hI h (o + 170) j) len
  have bN := chn_le C N (Nat.le_refl _)
  have fault : ∀ f, (orF (fun j => hI h (o + 170) j) len (ps N) f ∨ (N = 0 ∧ ps N = len ∧ f = len)) → f ≤ len → ∃ v h1 h2, f_X5_does h o = some (v, h1) ∧ f_X6_does h1 (o + 174) = some (v, h2) ∧ Inv o (c + 1) h2 := by
    intro f F fl
    obtain ⟨hA, a1, a2, a3, a4⟩ := c_readF (T := o + 169) hl e1 (fun j hj => rfl) C F
    obtain ⟨hB, b1, R⟩ := r_reads0F (h := hA) (m := o + 174) hl C F (by rw [hI_eq (a2 _ (by omega)).1]; exact e2) (fun j hj => by rw [hI_eq (a2 _ (by omega)).1]; exact (e3 j hj).symm)
    refine ⟨-10 - nI f, hA, hB, ?_, ?_, Inv_same (Inv_txt (h := h) (fun z hz => ?_) ?_ ?_ (fun k k1 k2 => ?_) ?_ H)⟩
    · unfold f_X5_does
      rw [a1, bn2_some, if_neg (nI_nm1 (by omega))]
    · unfold f_X6_does
      rw [b1, bn2_some, if_pos rfl, R.2.2.1]
    · exact same_tr (a2 z (by omega)) ⟨R.1.2.1 z (by omega) (by omega), by rw [R.1.1], by rw [R.1.1]⟩
    · rw [R.1.2.1 _ (by omega) (by omega)]; exact a3
    · rw [hI_eq (R.1.2.1 _ (by omega) (by omega)), a4, e1]
    · rw [R.1.2.2 k k1 k2, hI_eq (a2 _ (by omega)).1]
    · rw [R.1.1, (a2 _ (by omega)).2.1]
  rcases q with hN | ⟨f, F⟩
  · by_cases h1 : N = 0
    · exact fault len (Or.inr ⟨h1, hN, rfl⟩) (Nat.le_refl _)
    · obtain ⟨hA, qA, X⟩ := c_read (T := o + 169) hl e1 (fun j hj => rfl) C hN (by omega)
      have HA : Inv o c hA := Inv_txt (h := h) (fun z hz => X.1 z (by omega)) X.2.1 (by rw [X.2.2.1, e1]) (fun k k1 k2 => by rw [hI_eq (X.1 _ (by omega)).1]) (X.1 _ (by omega)).2.1 H
      obtain ⟨n, p, b, S, W⟩ := id HA.1
      obtain ⟨K, e, hK, he, k1, k2, k3, hst⟩ := id HA.2.1
      have hm : (e + 1) % 5 < 5 := Nat.mod_lt _ (by decide)
      obtain ⟨hB, q1, a1, a2, a3, a4, a5, a6, a7⟩ := x5_keep S W.1.2 W.1.1 hK he k1 k3
      have S1 : SwR hB (o + 1) (rv hA (o + 174)) n := SwR_congr W.1.2 (fun a g1 g2 => (a1 a (by omega) (by omega)).1) (a1 _ (by omega) (by omega)).2.1 (fun a g1 g2 => (a1 a (by omega) (by omega)).2.2) S
      obtain ⟨res, M2, n2, hC, t1, t2, t3, t4, t5⟩ := do_all hl C hN N 0 0 (rv hA (o + 174)) n (1200 * c) hB (by omega) S1 W (by omega) (by rw [hI_eq (a1 _ (by omega) (by omega)).1]; exact X.2.2.2.2.1) (fun j hj => by
        rw [hI_eq (a1 _ (by omega) (by omega)).1, hI_eq (a1 _ (by omega) (by omega)).1, hI_eq (a1 _ (by omega) (by omega)).1]
        exact X.2.2.2.2.2.2 j hj)
      have fBC : ∀ z, o + 169 ≤ z → same hB hC z := fun z hz => t2 z (by omega) (by omega)
      have fAC : ∀ z, o + 169 ≤ z → same hA hC z := fun z hz => same_tr (a1 z (by omega) (by omega)) (fBC z hz)
      have fhC : ∀ z, o + 174 ≤ z → same h hC z := fun z hz => same_tr (X.1 z (by omega)) (fAC z (by omega))
      obtain ⟨hD, qD, RD⟩ := r_reads0 (h := hC) (m := o + 174) hl C hN (by omega) (by rw [hI_eq (fhC _ (by omega)).1]; exact e2) (fun j hj => by rw [hI_eq (fhC _ (by omega)).1]; exact (e3 j hj).symm)
      have hK2 : hI hD (o + 174) 4 = nI K := by rw [RD.1.2.2 4 (by decide) (by decide), hI_eq (fAC _ (by omega)).1]; exact k2
      obtain ⟨hE, s1, c1, c2, c3, c4, c5, c6, c7⟩ := x6_leave hK hK2
      have rvD : rv hD (o + 174) = rv hA (o + 174) := by
        rw [rv_T RD.1]
        unfold rv hI hF hL
        rw [(fAC (o + 174 + 2) (by omega)).1, (fAC (o + 174 + 3) (by omega)).2.2, (fAC (o + 174) (by omega)).2.1]
      have rvE : rv hE (o + 174) = rv hA (o + 174) := by
        rw [← rvD]
        unfold rv hI hF hL
        rw [(c1 (o + 174 + 2) (by omega) (by omega) (by omega) (by omega)).1, (c1 (o + 174 + 3) (by omega) (by omega) (by omega) (by omega)).2.2, c4]
      obtain ⟨G, RG, qG⟩ := r_head (h := hE) (m := o + 174) (d := 1) hl C (C.2 0 (by omega)).1 (by rw [c3 12 (by decide)]; exact RD.2.1.1) (fun j hj => by rw [hI_eq (c1 _ (by omega) (by omega) (by omega) (by omega)).1]; exact RD.2.1.2 j hj)
      obtain ⟨hF, w1, w2, w3, w4⟩ := t5 fu G (by show N < 5000; omega) ⟨FrT_rfl _ _, RG.2.1, RG.2.2⟩ (by rw [rv_T RG.1]; exact rvE)
      have frG := FrG_tr (FrG_T RG.1) w2
      refine ⟨res, hC, hF, ?_, ?_, ?_⟩
      · unfold f_X5_does
        rw [qA, bn2_some, if_pos rfl, q1, bn1_some, show f_X5_does_l26 o fu 0 0 hB = _ from t1 fu (by show N < 5000; omega), bn2_some]
      · unfold f_X6_does
        rw [qD, bn2_some, if_neg (by decide), s1, bn1_some, qG, w1, bn2_some]
        unfold f_X6_reads_j252
        rw [if_pos w4, bn2_some]
      · refine Inv_mut2 HA rfl hK he k1 k2 k3 hst a1 a2 a3 a4 ⟨n, p, b, a7, W⟩ (h2 := hD) (fun z g1 g2 g3 g4 => same_tr (t2 z (by omega) (by omega)) ⟨RD.1.2.1 z (by omega) (by omega), by rw [RD.1.1], by rw [RD.1.1]⟩) (fun k k1 k2 => by rw [RD.1.2.2 k k1 k2, hI_eq (fBC _ (by omega)).1]) (by rw [RD.1.1, (fBC _ (by omega)).2.1]) c1 c2 c3 c6 c7 (fun z g1 g2 g3 g4 g5 g6 g7 => frG.1 z (by omega) (by omega) (by omega) (by omega) (by omega) (by omega) (by omega)) frG.2 ?_
        rw [w3]
        refine Sim_up (by omega) (SwR_congr t4.1.2 (fun a g1 g2 => RD.1.2.1 a (by omega) (by omega)) (by rw [RD.1.1]) (fun a g1 g2 => by rw [RD.1.1]) t3) t4
  · refine fault f (Or.inl F) ?_
    obtain ⟨ha, q⟩ := F
    rcases q with ⟨-, rfl⟩ | ⟨-, q⟩
    · omega
    · rcases q with q | ⟨u, e1, N1, q⟩
      · exact (nmF_le q).2
      · rcases q with ⟨-, q⟩ | ⟨v, e2, -, B, -⟩
        · exact (nmF_le q).2
        · exact B.2.1
