def nwP (p b : Int32) : Nat → Int32 := fun j => if j = 11 then 3 else if j = 10 then 2 else if j = 9 then 5 else if j = 8 then 2 else if j = 2 then b else if j = 1 then p else 0
def MB (p b : Int32) : MS := (nwP p b, fun _ => 0, 1)
theorem hL_sLs (h : Hp) (a j : Nat) (v : Int64) : hL (sL h a j v) a j = v := by
  unfold hL sL
  show ufn h.2.1 a (vp_updL (h.2.1 a) j v) a j = v
  rw [ufn_same]
  unfold vp_updL
  rw [if_pos rfl]
theorem c_begins {h : Hp} {q p b t : Nat} (h1 : 1 ≤ p) (h2 : p ≤ 8) (h3 : 1 ≤ b) (h4 : b ≤ 4) : ∃ h2, f_X3_startAnew h q (nI p) (nI b) = some h2 ∧ (∀ b, b < q ∨ q + 27 ≤ b → same h h2 b) ∧ Sim h2 q (MB (nI p) (nI b)) t := by
  refine ⟨_, startAnew_eq h q (nI p) (nI b), ?_, ?_⟩
  · intro z hz
    refine same_tr ?_ (same_sI (by omega))
    refine same_tr ?_ (same_sI (by omega))
    refine same_tr ?_ (same_sI (by omega))
    refine same_tr ?_ (same_sI (by omega))
    refine same_tr ?_ (same_sL (by omega))
    repeat (first | exact same_rfl _ _ | refine same_tr ?_ (same_sI (by omega)))
  · refine ⟨0, p, b, SwR_mk ⟨?_, ?_, ?_⟩ (fun i hi => absurd hi (Nat.not_lt_zero i)), ?_⟩
    · refine ⟨?_, ?_, ?_, ?_, ?_, ?_, ?_, ?_, ?_⟩ <;> simp (disch := omega) only [hI_s1, hI_s2, hI_s3, hI_sL] <;> rfl
    · simp only [hL_sI, hL_sLs]; rfl
    · intro j hj
      rcases (show j = 0 ∨ j = 1 ∨ j = 2 ∨ j = 3 by omega) with rfl | rfl | rfl | rfl <;> simp (disch := omega) only [hI_s1, hI_s2, hI_s3, hI_sL] <;> rfl
    · refine ⟨⟨rfl, by omega⟩, ⟨rfl, h1, h2⟩, ⟨rfl, h3, h4⟩, ⟨0, rfl, Nat.zero_le _⟩, ⟨2, rfl, by decide, by decide⟩, ⟨5, rfl, by decide⟩, ⟨2, rfl, by decide⟩, ⟨3, rfl, by decide, by decide⟩, rfl, fun i hi => absurd hi (Nat.not_lt_zero i), fun _ _ _ _ _ => rfl, fun c _ => ?_⟩
      show (0 : UInt32).toNat ≤ _
      exact Nat.zero_le _
theorem r_begins {h : Hp} {m : Nat} (p b : Int32) : ∃ h2, f_X6_lays h m p b = some h2 ∧ (∀ z, z ≠ m → z ≠ m + 2 → z ≠ m + 3 → same h h2 z) ∧ (∀ k, hI h2 m k = hI h m k) ∧ eqv (MB p b) (rv h2 m) := by
  refine ⟨_, lays_eq h m p b, ?_, ?_, ?_⟩
  · intro z g1 g2 g3
    refine same_tr ?_ (same_sL g1)
    refine same_tr ?_ (same_sI g2)
    refine same_tr ?_ (same_sI g2)
    refine same_tr ?_ (same_sI g2)
    refine same_tr ?_ (same_sI g2)
    refine same_tr ?_ (same_sI g2)
    refine same_tr ?_ (same_sI g2)
    exact same_tr (same_mxI g2) (same_mxF g3)
  · intro k
    rw [hI_sL]
    simp (disch := omega) only [hI_s1]
    show hI (mxI h (m + 2) _) m k = _
    exact hI_eq (same_mxI (by omega)).1 k
  · refine ⟨fun c hc => ?_, fun c hc => ?_, ?_⟩
    · have key : ∀ g : Hp, (∀ c, c < 320 → hI g (m + 2) c = 0) → ∀ c, c < 320 → hI (sI (sI (sI (sI (sI (sI g (m + 2) 1 p) (m + 2) 2 b) (m + 2) 8 2) (m + 2) 9 5) (m + 2) 10 2) (m + 2) 11 3) (m + 2) c = nwP p b c := by
        intro g hg c hc
        unfold nwP
        simp only [hI_sIr, upd]
        by_cases e1 : c = 11
        · simp only [e1, if_true]
        by_cases e2 : c = 10
        · simp [e2]
        by_cases e3 : c = 9
        · simp [e3]
        by_cases e4 : c = 8
        · simp [e4]
        by_cases e5 : c = 2
        · simp [e5]
        by_cases e6 : c = 1
        · simp [e6]
        simp only [e1, e2, e3, e4, e5, e6, if_false]
        exact hg c hc
      exact key _ (fun c hc => by
        show hI (mxI h (m + 2) _) (m + 2) c = 0
        rw [hI_mx, pre_lo hc]) c hc
    · show hF (mxF _ (m + 3) _) (m + 3) c = 0
      rw [hF_mx, pre_lo hc]; rfl
    · show hL (sL _ m 3 1) m 3 = 1
      exact hL_sLs _ _ _ _
theorem op_begins (o : Nat) : Op_begins o (Inv o) := by
  intro c h _ H u v
  obtain ⟨n, p, b, S, Wf⟩ := id H.1
  have bad : (∀ q, f_X6_begins q (o + 174) u v = bn2 (f_X6_bad q (o + 174)) (fun v h => some (v, h))) → f_X5_begins h o u v = bn2 (f_X5_refuse h o (-2)) (fun v h => some (v, h)) → ∃ z h1 h2, f_X5_begins h o u v = some (z, h1) ∧ f_X6_begins h1 (o + 174) u v = some (z, h2) ∧ Inv o (c + 1) h2 := fun e2 e1 => bad_pair H (G := fun q => f_X6_begins q (o + 174) u v) e1 (fun q _ => e2 q)
  rcases rng_or u (a := 1) (b := 8) (by decide) (by decide) with ⟨x, x1, x2, rfl⟩ | hu0
  · have R1 : inr (nI x) 1 8 := rng_in (a := 1) (b := 8) (by decide) x1 x2
    rcases rng_or v (a := 1) (b := 4) (by decide) (by decide) with ⟨z, z1, z2, rfl⟩ | hv0
    · have R2 : inr (nI z) 1 4 := rng_in (a := 1) (b := 4) (by decide) z1 z2
      obtain ⟨h1, h2, e1, e2, e3⟩ := mut_pair H (F := fun h4 => bn1 (f_X3_startAnew h4 (o + 1) (nI x) (nI z)) (fun h6 => some (hI h4 (o + 1) 4, h6))) (G := fun h8 => bn1 (f_X6_lays h8 (o + 174) (nI x) (nI z)) (fun h11 => some (hI h8 (o + 174 + 2) (0 : Int32).toNatClampNeg, h11))) (v := (rv h (o + 174)).1 0) S Wf (MB (nI x) (nI z))
        (fun h1 S1 => by
          obtain ⟨h2, q1, q2, q3⟩ := c_begins (h := h1) (q := o + 1) (t := 1200 * (c + 1)) x1 x2 z1 z2
          exact ⟨h2, by rw [q1, bn1_some, S1.1.2.2.2.2.1], fun b g1 g2 => q2 b (by omega), q3⟩)
        (fun h3 r3 => by
          obtain ⟨h4, q1, q2, q3, q4⟩ := r_begins (h := h3) (m := o + 174) (nI x) (nI z)
          refine ⟨h4, ?_, fun b g1 g2 g3 g4 g5 g6 => q2 b (by omega) (by omega) (by omega), q3, q4⟩
          rw [q1, bn1_some, ← r3]; rfl)
      refine ⟨(rv h (o + 174)).1 0, h1, h2, ?_, ?_, e3⟩
      · unfold f_X5_begins
        rw [if_neg R1.1, if_neg R1.2, if_neg R2.1, if_pos (Int32.not_lt.mp R2.2)]
        exact e1
      · unfold f_X6_begins
        rw [x6_in_t R1, bn1_some, if_neg (by decide), x6_in_t R2, bn1_some, if_neg (by decide)]
        exact e2
    · have hv : ¬ inr v 1 4 := hv0
      refine bad (fun q => ?_) ?_
      · unfold f_X6_begins f_X6_begins_j19
        rw [x6_in_t R1, bn1_some, if_neg (by decide), x6_in_f hv, bn1_some, if_pos rfl]
      · unfold f_X5_begins f_X5_begins_j21
        rw [if_neg R1.1, if_neg R1.2]
        by_cases q1 : v < 1
        · rw [if_pos q1]
        · rw [if_neg q1, if_neg (fun q2 => hv ⟨q1, Int32.not_lt.mpr q2⟩)]
  · have hu : ¬ inr u 1 8 := hu0
    refine bad (fun q => ?_) ?_
    · unfold f_X6_begins f_X6_begins_j19
      rw [x6_in_f hu, bn1_some, if_pos rfl]
    · unfold f_X5_begins f_X5_begins_j21
      by_cases q1 : u < 1
      · rw [if_pos q1]
      · rw [if_neg q1]
        by_cases q2 : 8 < u
        · rw [if_pos q2]
        · exact absurd ⟨q1, q2⟩ hu
