/-! AN ORDER ON BOTH SIDES -/
def mkH (m : Nat) (M : MS) : Hp := (fun a => if a = m + 2 then M.1 else fun _ => 0, fun _ _ => M.2.2, fun a => if a = m + 3 then M.2.1 else fun _ => 0)
theorem rv_mk (m : Nat) (M : MS) : rv (mkH m M) m = M := by
  show ((if m + 2 = m + 2 then M.1 else fun _ => 0), (if m + 3 = m + 3 then M.2.1 else fun _ => 0), M.2.2) = M
  rw [if_pos rfl, if_pos rfl]
/-- what an order does: r whether it is done, M2 and n2 what is then -/
def OrS (o : Nat) (h : Hp) (M : MS) (p b t : Nat) (l u v : Int32) (r : Bool) (M2 : MS) (n2 : Nat) (h2 : Hp) : Prop :=
  f_X5_obey h o l u v = some (b01 r, h2) ∧ FrC (o + 1) (o + 164) h h2 ∧ SwR h2 (o + 1) M2 n2 ∧ WFn M2 n2 p b (t + 30) ∧
  (∀ g, rv g (o + 174) = M → hI g (o + 174 + 11) 0 = u → hI g (o + 174 + 11) 1 = v → ∃ g2, f_X6_isDone g (o + 174) l = some (b01 r, g2) ∧ FrR (o + 174) g g2 ∧ rv g2 (o + 174) = M2)
theorem WFn_up {M : MS} {n p b t t2 : Nat} (h : t ≤ t2) (W : WFn M n p b t) : WFn M n p b t2 := by
  obtain ⟨a0, a1, a2, ⟨T, t1, t3⟩, a3, a4, a5, a6, a7, a8, a9, a10⟩ := W
  exact ⟨a0, a1, a2, ⟨T, t1, by omega⟩, a3, a4, a5, a6, a7, fun i hi => PeW_mono h (a8 i hi), a9, a10⟩
theorem FrC_of {q w : Nat} {h h2 : Hp} (H : ∀ b, b < q ∨ q + 27 ≤ b → same h h2 b) : FrC q w h h2 := fun z g1 _ => H z g1
theorem FrC_rfl (q w : Nat) (h : Hp) : FrC q w h h := fun z _ _ => same_rfl _ _
theorem FrR_of {m : Nat} {h h2 : Hp} (H : ∀ z, z ≠ m + 2 → same h h2 z) : FrR m h h2 := ⟨fun z _ g2 _ _ _ _ => H z g2, fun k => hI_eq (H m (by omega)).1 k⟩
theorem j133_1 {h : Hp} {a : Nat} (ha : a < 2 ^ 31) : f_X6_isDone_j133 h (nI a) = some (1, h) := by
  unfold f_X6_isDone_j133
  rw [if_neg (nI_pos ha)]
theorem ors_no {o n p b t : Nat} {M : MS} {h : Hp} {l u v : Int32} (S : SwR h (o + 1) M n) (W : WFn M n p b t) (e1 : f_X5_obey h o l u v = some (0, h)) (e2 : ∀ g, rv g (o + 174) = M → hI g (o + 174 + 11) (0 : Int32).toNatClampNeg = u → hI g (o + 174 + 11) (1 : Int32).toNatClampNeg = v → f_X6_isDone g (o + 174) l = some (0, g)) : ∃ r M2 n2 h2, OrS o h M p b t l u v r M2 n2 h2 :=
  ⟨false, M, n, h, e1, FrC_rfl _ _ _, S, WFn_up (by omega) W, fun g hg hu hv => ⟨g, e2 g hg hu hv, FrR_rfl _ _, hg⟩⟩
theorem ors_p {o n p b t : Nat} {M : MS} {h : Hp} {u v : Int32} (S : SwR h (o + 1) M n) (W : WFn M n p b t) : ∃ r M2 n2 h2, OrS o h M p b t 112 u v r M2 n2 h2 := by
  have hs : hI h (o + 1) 4 = nI n := S.1.2.2.2.2.1.trans W.1.1
  have cp := fun (g : Hp) (hg : rv g (o + 174) = M) => can_peer (h := h) (g := g) (q := o + 1) (m := o + 174) W.1.2 hs (by rw [hg]; exact W.1.1) u v
  have no : ∀ w : Int32, ¬ 0 ≤ w → (f_X3_refusesPeer h (o + 1) u v = some w) → (∀ g, rv g (o + 174) = M → f_X6_canPeer g (o + 174) u v = some w) → ∃ r M2 n2 h2, OrS o h M p b t 112 u v r M2 n2 h2 := fun w hw r1 r2 => by
    refine ors_no S W ?_ (fun g hg hu hv => ?_)
    · unfold f_X5_obey
      rw [if_neg (by decide), if_pos rfl, r1, bn1_some, if_neg (fun z => hw (by rw [z]; exact Int32.le_refl _))]
    · unfold f_X6_isDone f_X6_isDone_j74
      rw [if_pos rfl, hu, hv, r2 g hg, bn1_some, if_neg hw]
  rcases cp _ (rv_mk _ M) with ⟨k, z, k2, z1, z4, h6, rfl, rfl, r1, r2⟩ | ⟨r1, -⟩ | ⟨r1, -⟩
  · obtain ⟨h2, q1, q2, q3⟩ := c_peer (k := k) (c := z) S W h6
    refine ⟨true, addM M n (nI k) (nI z), n + 1, h2, ?_, FrC_of q2, q3, WFn_up (by omega) (addM_WF h6 k2 z1 z4 W), fun g hg hu hv => ?_⟩
    · unfold f_X5_obey
      rw [if_neg (by decide), if_pos rfl, r1, bn1_some, if_pos rfl, q1, bn2_some]
      rfl
    · have hu2 : hI g (o + 174 + 11) (0 : Int32).toNatClampNeg = nI k := hu
      have hv2 : hI g (o + 174 + 11) (1 : Int32).toNatClampNeg = nI z := hv
      have e0 : f_X6_canPeer g (o + 174) (nI k) (nI z) = some 0 := by
        rcases cp g hg with ⟨_, _, _, _, _, _, _, _, _, r⟩ | ⟨r, -⟩ | ⟨r, -⟩
        · exact r
        · rw [r1] at r; cases r
        · rw [r1] at r; cases r
      obtain ⟨g2, s1, s2, s3⟩ := r_peer (h := g) (m := o + 174) (k := nI k) (c := nI z) h6 (by rw [hg]; exact W.1.1)
      rw [hg] at s3
      refine ⟨g2, ?_, FrR_of s2, s3⟩
      unfold f_X6_isDone f_X6_isDone_j74
      rw [if_pos rfl, hu2, hv2, e0, bn1_some, if_pos (by decide), if_pos rfl, s1, bn2_some, j133_1 (by omega)]
      rfl
  · refine no (-2) (by decide) r1 (fun g hg => ?_)
    rcases cp g hg with ⟨_, _, _, _, _, _, _, _, r, _⟩ | ⟨-, r⟩ | ⟨r, -⟩
    · rw [r1] at r; cases r
    · exact r
    · rw [r1] at r; cases r
  · refine no (-4) (by decide) r1 (fun g hg => ?_)
    rcases cp g hg with ⟨_, _, _, _, _, _, _, _, r, _⟩ | ⟨r, -⟩ | ⟨-, r⟩
    · rw [r1] at r; cases r
    · rw [r1] at r; cases r
    · exact r
theorem ors_g {o n p b t : Nat} {M : MS} {h : Hp} {u v : Int32} (S : SwR h (o + 1) M n) (W : WFn M n p b t) : ∃ r M2 n2 h2, OrS o h M p b t 103 u v r M2 n2 h2 := by
  have hp := W.2.1.2.2
  have hn := W.1.2
  have cp := fun (g : Hp) (hg : rv g (o + 174) = M) => can_give (g := g) (m := o + 174) S W hg u v
  have no : ∀ w : Int32, ¬ 0 ≤ w → (f_X3_refusesGift h (o + 1) u v = some w) → (∀ g, rv g (o + 174) = M → f_X6_canGive g (o + 174) u v = some w) → ∃ r M2 n2 h2, OrS o h M p b t 103 u v r M2 n2 h2 := fun w hw r1 r2 => by
    refine ors_no S W ?_ (fun g hg hu hv => ?_)
    · unfold f_X5_obey
      rw [if_pos rfl, r1, bn1_some, if_neg (fun z => hw (by rw [z]; exact Int32.le_refl _))]
    · unfold f_X6_isDone f_X6_isDone_j74
      rw [if_neg (by decide), if_pos rfl, hu, hv, r2 g hg, bn1_some, if_neg hw]
  rcases cp _ (rv_mk _ M) with ⟨i, k, hi, hk, rfl, rfl, r1, r2⟩ | ⟨r1, -⟩ | ⟨r1, -⟩
  · obtain ⟨h2, q1, q2, q3⟩ := c_give S W hi hk
    refine ⟨true, gvM M i k, n, h2, ?_, FrC_of q2, q3, WFn_up (by omega) (gvM_WF hi hk W), fun g hg hu hv => ?_⟩
    · unfold f_X5_obey
      rw [if_pos rfl, r1, bn1_some, if_pos rfl, q1, bn2_some]
      rfl
    · have hu2 : hI g (o + 174 + 11) (0 : Int32).toNatClampNeg = nI i := hu
      have hv2 : hI g (o + 174 + 11) (1 : Int32).toNatClampNeg = nI k := hv
      have e0 : f_X6_canGive g (o + 174) (nI i) (nI k) = some 0 := by
        rcases cp g hg with ⟨_, _, _, _, _, _, _, r⟩ | ⟨r, -⟩ | ⟨r, -⟩
        · exact r
        · rw [r1] at r; cases r
        · rw [r1] at r; cases r
      obtain ⟨g2, s1, s2, s3⟩ := r_give (h := g) (m := o + 174) (i := i) (k := k) (by omega) (by omega)
      rw [hg] at s1 s3
      obtain ⟨c, c1, c2⟩ := sum_bits (fun j => bt (pc (gvM M i k) i 2) j) (fun j => bt_01 _ _) 8
      refine ⟨g2, ?_, FrR_of s2, s3⟩
      unfold f_X6_isDone f_X6_isDone_j74
      rw [if_neg (by decide), if_pos rfl, hu2, hv2, e0, bn1_some, if_pos (by decide), if_neg (by decide), if_pos rfl, s1, bn2_some, show pcsM (pc (gvM M i k) i 2) = nI c from c2, j133_1 (by omega)]
      rfl
  · refine no (-2) (by decide) r1 (fun g hg => ?_)
    rcases cp g hg with ⟨_, _, _, _, _, _, r, _⟩ | ⟨-, r⟩ | ⟨r, -⟩
    · rw [r1] at r; cases r
    · exact r
    · rw [r1] at r; cases r
  · refine no (-3) (by decide) r1 (fun g hg => ?_)
    rcases cp g hg with ⟨_, _, _, _, _, _, r, _⟩ | ⟨r, -⟩ | ⟨-, r⟩
    · rw [r1] at r; cases r
    · rw [r1] at r; cases r
    · exact r
theorem set_nI {M : MS} {n p b t w : Nat} (W : WFn M n p b t) (hw : w < 4) : ∃ s, s < 10 ∧ M.1 (8 + w) = nI s := by
  obtain ⟨-, -, -, -, ⟨s0, a0, b0, c0⟩, ⟨s1, a1, c1⟩, ⟨s2, a2, c2⟩, ⟨s3, a3, b3, c3⟩, -⟩ := W
  have : w = 0 ∨ w = 1 ∨ w = 2 ∨ w = 3 := by omega
  rcases this with rfl | rfl | rfl | rfl
  · exact ⟨s0, by omega, a0⟩
  · exact ⟨s1, by omega, a1⟩
  · exact ⟨s2, by omega, a2⟩
  · exact ⟨s3, by omega, a3⟩
theorem ors_s {o n p b t : Nat} {M : MS} {h : Hp} {u v : Int32} (S : SwR h (o + 1) M n) (W : WFn M n p b t) : ∃ r M2 n2 h2, OrS o h M p b t 115 u v r M2 n2 h2 := by
  by_cases hp : ∃ w k, w < 4 ∧ lowS w ≤ k ∧ k ≤ highS w ∧ u = nI w ∧ v = nI k
  · obtain ⟨w, k, hw, k1, k2, rfl, rfl⟩ := hp
    obtain ⟨h2, q1, q2, q3, q4⟩ := c_set S W hw k1 k2
    refine ⟨true, updN M (8 + w) (nI k), n, h2, ?_, FrC_of q2, q3, WFn_up (by omega) q4, fun g hg hu hv => ?_⟩
    · unfold f_X5_obey
      rw [if_neg (by decide), if_neg (by decide), if_pos rfl, (set_ok hw k1 k2).1, bn1_some, if_pos rfl, q1, bn2_some]
      rfl
    · have hu2 : hI g (o + 174 + 11) (0 : Int32).toNatClampNeg = nI w := hu
      have hv2 : hI g (o + 174 + 11) (1 : Int32).toNatClampNeg = nI k := hv
      obtain ⟨g2, s1, s2, s3⟩ := r_set (h := g) (m := o + 174) (v := nI k) hw
      rw [hg] at s1 s3
      obtain ⟨s, hs, es⟩ := set_nI W hw
      refine ⟨g2, ?_, FrR_of s2, s3⟩
      unfold f_X6_isDone f_X6_isDone_j74
      rw [if_neg (by decide), if_neg (by decide), if_pos rfl, hu2, hv2, (set_ok (q := 0) hw k1 k2).2, bn1_some, if_pos (by decide), if_neg (by decide), if_neg (by decide), if_pos rfl, s1, bn2_some, es, j133_1 (by omega)]
      rfl
  · refine ors_no S W ?_ (fun g hg hu hv => ?_)
    · unfold f_X5_obey
      rw [if_neg (by decide), if_neg (by decide), if_pos rfl, (set_bad hp).1, bn1_some, if_neg (by decide)]
    · unfold f_X6_isDone f_X6_isDone_j74
      rw [if_neg (by decide), if_neg (by decide), if_pos rfl, hu, hv, (set_bad (q := 0) hp).2, bn1_some, if_neg (by decide)]
theorem ors_r {o n p b t : Nat} {M : MS} {h : Hp} {u v : Int32} (S : SwR h (o + 1) M n) (W : WFn M n p b t) (ht : t ≤ 1000000) : ∃ r M2 n2 h2, OrS o h M p b t 114 u v r M2 n2 h2 := by
  rcases rng_or u (a := 1) (b := 30) (by decide) (by decide) with ⟨N, x1, x2, rfl⟩ | hv0
  · have R : inr (nI N) 1 30 := rng_in (a := 1) (b := 30) (by decide) x1 x2
    obtain ⟨h2, q1, q2, q3⟩ := c_run (w := o + 164) (by omega) W (show N ≤ 90 by omega) S
    have W2 := rds_WF W N
    refine ⟨true, rdsM M n p b N, n, h2, ?_, q2, q3, WFn_up (by omega) W2, fun g hg hu hv => ?_⟩
    · unfold f_X5_obey f_X5_areRounds
      rw [if_neg (by decide), if_neg (by decide), if_neg (by decide), if_neg R.1, if_neg R.2, bn1_some, if_neg (by decide), q1, bn1_some]
      rfl
    · have hu2 : hI g (o + 174 + 11) (0 : Int32).toNatClampNeg = nI N := hu
      obtain ⟨g2, s1, s2, s3⟩ := r_run (h := g) (m := o + 174) W (show N ≤ 90 by omega) hg
      obtain ⟨T, t1, t2⟩ := W2.2.2.2.1
      refine ⟨g2, ?_, s2, s3⟩
      unfold f_X6_isDone f_X6_isDone_j74
      rw [if_neg (by decide), if_neg (by decide), if_neg (by decide), hu2, x6_in_t R, bn1_some, if_neg (by decide), if_pos (by decide), if_neg (by decide), if_neg (by decide), if_neg (by decide), s1, bn2_some, t1, j133_1 (by omega)]
      rfl
  · have hv1 : ¬ inr u 1 30 := hv0
    refine ors_no S W ?_ (fun g hg hu hv => ?_)
    · unfold f_X5_obey f_X5_areRounds f_X5_areRounds_j15
      rw [if_neg (by decide), if_neg (by decide), if_neg (by decide)]
      by_cases q1 : u < 1
      · rw [if_pos q1, bn1_some, if_pos rfl]
      · by_cases q2 : 30 < u
        · rw [if_neg q1, if_pos q2, bn1_some, if_pos rfl]
        · exact absurd ⟨q1, q2⟩ hv1
    · unfold f_X6_isDone f_X6_isDone_j74
      rw [if_neg (by decide), if_neg (by decide), if_neg (by decide), hu, x6_in_f hv1, bn1_some, if_pos rfl, if_neg (by decide)]
theorem ors_ex {o n p b t : Nat} {M : MS} {h : Hp} {l u v : Int32} (hl : ltr l) (S : SwR h (o + 1) M n) (W : WFn M n p b t) (ht : t ≤ 1000000) : ∃ r M2 n2 h2, OrS o h M p b t l u v r M2 n2 h2 := by
  rcases hl with rfl | rfl | rfl | rfl
  · exact ors_p S W
  · exact ors_g S W
  · exact ors_r S W ht
  · exact ors_s S W
