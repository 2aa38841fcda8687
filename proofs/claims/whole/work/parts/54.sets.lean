def updN (M : MS) (k : Nat) (v : Int32) : MS := (upd M.1 k v, M.2)
theorem updN_same (M : MS) (k : Nat) (v : Int32) : (updN M k v).1 k = v := by show (if k = k then v else M.1 k) = _; rw [if_pos rfl]
theorem updN_ne (M : MS) {k j : Nat} (v : Int32) (h : j ≠ k) : (updN M k v).1 j = M.1 j := by show (if j = k then v else M.1 j) = _; rw [if_neg h]
theorem pc_updN {M : MS} {k i c : Nat} {v : Int32} (hk : k < 14) : pc (updN M k v) i c = pc M i c := updN_ne M v (by omega)
def lowS (w : Nat) : Nat := if w = 0 ∨ w = 3 then 1 else 0
def highS (w : Nat) : Nat := if w = 0 then 4 else if w = 2 then 8 else 9
theorem sa_lh : ∀ w, w < 4 → sa 1 w = nI (lowS w) ∧ sa 2 w = nI (highS w) ∧ f_X6_lowest hz0 (nI w) = some (nI (lowS w)) ∧ f_X6_highest hz0 (nI w) = some (nI (highS w)) ∧ highS w ≤ 9 ∧ lowS w ≤ 1 := by decide
/-- between two numbers, or not -/
theorem rng_or (v : Int32) {a b : Nat} (ha : a < 2 ^ 31) (hb : b < 2 ^ 31) : (∃ k, a ≤ k ∧ k ≤ b ∧ v = nI k) ∨ ¬ inr v (nI a) (nI b) := by
  by_cases h : inr v (nI a) (nI b)
  · left
    have h0 : ¬ v < 0 := fun q => h.1 (by
      rw [Int32.lt_iff_toInt_lt] at q ⊢
      rw [nI_toInt ha]
      have e : (0 : Int32).toInt = 0 := rfl
      rw [e] at q
      omega)
    obtain ⟨j, hj, rfl⟩ := nI_of h0
    refine ⟨j, ?_, ?_, rfl⟩
    · have := Int32.not_lt.mp h.1
      exact (nI_leI ha hj).mp this
    · have := Int32.not_lt.mp h.2
      exact (nI_leI hj hb).mp this
  · exact Or.inr h
theorem rng_in {a b k : Nat} (hb : b < 2 ^ 31) (h1 : a ≤ k) (h2 : k ≤ b) : inr (nI k) (nI a) (nI b) := ⟨Int32.not_lt.mpr (nI_le h1 (by omega)), Int32.not_lt.mpr (nI_le h2 hb)⟩
theorem set_ok {h : Hp} {q w k : Nat} (hw : w < 4) (h1 : lowS w ≤ k) (h2 : k ≤ highS w) : f_X3_refusesSetting h q (nI w) (nI k) = some 0 ∧ f_X6_canSet h (nI w) (nI k) = some 0 := by
  obtain ⟨e1, e2, e3, e4, e5, e6⟩ := sa_lh w hw
  have R := rng_in (b := highS w) (by omega) h1 h2
  constructor
  · unfold f_X3_refusesSetting
    rw [if_neg (nI_pos (by omega)), if_pos (show nI w < 4 from nI_lt (b := 4) hw (by decide)), if_pos (inb_nI hw (by decide)), if_pos (inb_nI hw (by decide)), nI_clamp (by omega), e1, e2, if_neg R.1, if_pos (Int32.not_lt.mp R.2)]
  · unfold f_X6_canSet
    rw [x6_in_t (show inr (nI w) 0 3 from inr_t (n := 4) hw (by decide)), bn1_some, if_neg (by decide), show f_X6_lowest h (nI w) = _ from e3, bn1_some, show f_X6_highest h (nI w) = _ from e4, bn1_some, x6_in_t R, bn1_some, if_neg (by decide)]
theorem set_bad {h : Hp} {q : Nat} {u v : Int32} (H : ¬ ∃ w k, w < 4 ∧ lowS w ≤ k ∧ k ≤ highS w ∧ u = nI w ∧ v = nI k) : f_X3_refusesSetting h q u v = some (-2) ∧ f_X6_canSet h u v = some (-2) := by
  rcases idx_or u (n := 4) (by decide) with ⟨w, hw, rfl⟩ | hu
  · obtain ⟨e1, e2, e3, e4, e5, e6⟩ := sa_lh w hw
    rcases rng_or v (a := lowS w) (b := highS w) (by omega) (by omega) with ⟨k, k1, k2, rfl⟩ | hv
    · exact absurd ⟨w, k, hw, k1, k2, rfl, rfl⟩ H
    · constructor
      · unfold f_X3_refusesSetting
        rw [if_neg (nI_pos (by omega)), if_pos (show nI w < 4 from nI_lt (b := 4) hw (by decide)), if_pos (inb_nI hw (by decide)), if_pos (inb_nI hw (by decide)), nI_clamp (by omega), e1, e2]
        by_cases q1 : v < nI (lowS w)
        · rw [if_pos q1]; rfl
        · rw [if_neg q1, if_neg (fun q2 => hv ⟨q1, Int32.not_lt.mpr q2⟩)]; rfl
      · unfold f_X6_canSet
        rw [x6_in_t (show inr (nI w) 0 3 from inr_t (n := 4) hw (by decide)), bn1_some, if_neg (by decide), show f_X6_lowest h (nI w) = _ from e3, bn1_some, show f_X6_highest h (nI w) = _ from e4, bn1_some, x6_in_f hv, bn1_some, if_pos rfl]; rfl
  · constructor
    · unfold f_X3_refusesSetting
      by_cases q1 : u < 0
      · rw [if_pos q1]; rfl
      · rw [if_neg q1, if_neg (show ¬ u < 4 from Int32.not_lt.mpr (hu.resolve_left q1))]; rfl
    · unfold f_X6_canSet
      rw [x6_in_f (show ¬ inr u 0 3 from inr_f (n := 4) (by decide) hu), bn1_some, if_pos rfl]; rfl
theorem c_set {h : Hp} {q n p b t w k : Nat} {M : MS} (S : SwR h q M n) (Wf : WFn M n p b t) (hw : w < 4) (h1 : lowS w ≤ k) (h2 : k ≤ highS w) : ∃ h2, f_X3_changeSetting h q (nI w) (nI k) = some (M.1 (8 + w), h2) ∧ (∀ b, b < q ∨ q + 27 ≤ b → same h h2 b) ∧ SwR h2 q (updN M (8 + w) (nI k)) n ∧ WFn (updN M (8 + w) (nI k)) n p b t := by
  refine ⟨sI h (q + 1) w (nI k), ?_, fun b hb => same_sI (by omega), ?_, ?_⟩
  · unfold f_X3_changeSetting
    rw [if_pos (inb_nI hw (by decide)), if_pos (inb_nI hw (by decide)), nI_clamp (by omega), S.2.2.1 w hw]
  · obtain ⟨⟨a0, a1, a2, a3, a4, a5, a6, a7, a8⟩, a9, b1, b2⟩ := S
    have u : ∀ j, j < 8 → (updN M (8 + w) (nI k)).1 j = M.1 j := fun j hj => updN_ne M _ (by omega)
    have x : ∀ j, hI (sI h (q + 1) w (nI k)) q j = hI h q j := fun j => hI_sIb _ _ _ _ (by omega)
    refine ⟨⟨by rw [x, u 1 (by decide)]; exact a0, by rw [x, u 2 (by decide)]; exact a1, by rw [x, u 1 (by decide)]; exact a2, by rw [x, u 2 (by decide)]; exact a3, by rw [x, u 0 (by decide)]; exact a4, by rw [x, u 3 (by decide)]; exact a5, by rw [x, u 5 (by decide)]; exact a6, by rw [x, u 6 (by decide)]; exact a7, by rw [x, u 7 (by decide)]; exact a8⟩, a9, fun j hj => ?_, fun i hi => ?_⟩
    · by_cases hj2 : j = w
      · subst hj2; rw [hI_sI, updN_same]
      · rw [hI_sIj _ _ _ hj2, updN_ne M _ (by omega)]; exact b1 j hj
    · have P := PeR_congr (h2 := sI h (q + 1) w (nI k)) (fun b g1 g2 => same_sI (by omega)) (b2 i hi)
      obtain ⟨⟨c0, c1, c2, c3, c4, c5, c6, c7⟩, d1, d2, d3⟩ := P
      refine ⟨⟨by rw [pc_updN (by omega)]; exact c0, by rw [pc_updN (by omega)]; exact c1, by rw [pc_updN (by omega)]; exact c2, by rw [pc_updN (by omega)]; exact c3, by rw [pc_updN (by omega)]; exact c4, by rw [pc_updN (by omega)]; exact c5, by rw [pc_updN (by omega)]; exact c6, by rw [pc_updN (by omega)]; exact c7⟩, fun j hj => by rw [pc_updN (by omega)]; exact d1 j hj, fun z hz => by rw [pc_updN (by omega)]; exact d2 z hz, d3⟩
  · obtain ⟨w0, w1, w2, w3, ws, wf, we, wd, wt, wP, wR, wr⟩ := Wf
    have u : ∀ j, j < 8 → (updN M (8 + w) (nI k)).1 j = M.1 j := fun j hj => updN_ne M _ (by omega)
    have st : ∀ z, z < 4 → (updN M (8 + w) (nI k)).1 (8 + z) = if z = w then nI k else M.1 (8 + z) := fun z hz => by
      by_cases q : z = w
      · subst q; rw [if_pos rfl, updN_same]
      · rw [if_neg q, updN_ne M _ (by omega)]
    refine ⟨by rw [u 0 (by decide)]; exact w0, by rw [u 1 (by decide)]; exact w1, by rw [u 2 (by decide)]; exact w2, by rw [u 3 (by decide)]; exact w3, ?_, ?_, ?_, ?_, ?_, fun i hi => ?_, wR, wr⟩
    · rw [show (8 : Nat) = 8 + 0 from rfl, st 0 (by decide)]
      by_cases q : 0 = w
      · subst q; rw [if_pos rfl]; exact ⟨k, rfl, h1, h2⟩
      · rw [if_neg q]; exact ws
    · rw [show (9 : Nat) = 8 + 1 from rfl, st 1 (by decide)]
      by_cases q : 1 = w
      · subst q; rw [if_pos rfl]; exact ⟨k, rfl, h2⟩
      · rw [if_neg q]; exact wf
    · rw [show (10 : Nat) = 8 + 2 from rfl, st 2 (by decide)]
      by_cases q : 2 = w
      · subst q; rw [if_pos rfl]; exact ⟨k, rfl, h2⟩
      · rw [if_neg q]; exact we
    · rw [show (11 : Nat) = 8 + 3 from rfl, st 3 (by decide)]
      by_cases q : 3 = w
      · subst q; rw [if_pos rfl]; exact ⟨k, rfl, h1, h2⟩
      · rw [if_neg q]; exact wd
    · rw [u 4 (by decide), wt]
      exact (eqv_sum (fun i hi => pc_updN (by omega))).symm
    · obtain ⟨a1, a2, a3, a4, a5, a6, a7, a8, a9⟩ := wP i hi
      exact ⟨by rw [pc_updN (by omega), pc_updN (by omega)]; exact a1, by rw [pc_updN (by omega)]; exact a2, by rw [pc_updN (by omega)]; exact a3, by rw [pc_updN (by omega)]; exact a4, by rw [pc_updN (by omega)]; exact a5, by rw [pc_updN (by omega)]; exact a6, by rw [pc_updN (by omega)]; exact a7, by rw [pc_updN (by omega)]; exact a8, fun z hz => by rw [pc_updN (by omega)]; exact a9 z hz⟩
theorem r_set {h : Hp} {m w : Nat} {v : Int32} (hw : w < 4) : ∃ h2, f_X6_set h m (nI w) v = some ((rv h m).1 (8 + w), h2) ∧ (∀ b, b ≠ m + 2 → same h h2 b) ∧ rv h2 m = updN (rv h m) (8 + w) v := by
  refine ⟨sI h (m + 2) (8 + w) v, ?_, fun b hb => same_sI hb, ?_⟩
  · unfold f_X6_set
    rw [show (8 : Int32) + nI w = nI (8 + w) from nI_add 8 w, if_pos (inb_nI (by omega) (by decide)), if_pos (inb_nI (by omega) (by decide)), nI_clamp (by omega)]; rfl
  · unfold rv updN
    rw [hI_sIr]; rfl
theorem Sim_up {h : Hp} {q t t2 n p b : Nat} {M : MS} (ht : t ≤ t2) (S : SwR h q M n) (Wf : WFn M n p b t) : Sim h q M t2 := Sim_congr ht rfl (fun _ _ _ => rfl) rfl (fun _ _ _ => rfl) ⟨n, p, b, S, Wf⟩
theorem op_sets (o : Nat) : Op_sets o (Inv o) := by
  intro c h _ H u v
  obtain ⟨n, p, b, S, Wf⟩ := id H.1
  by_cases hp : ∃ w k, w < 4 ∧ lowS w ≤ k ∧ k ≤ highS w ∧ u = nI w ∧ v = nI k
  · obtain ⟨w, k, hw, k1, k2, rfl, rfl⟩ := hp
    obtain ⟨h1, h2, e1, e2, e3⟩ := mut_pair H (F := fun h3 => bn2 (f_X3_changeSetting h3 (o + 1) (nI w) (nI k)) (fun v5 h6 => some (v5, h6))) (G := fun h3 => bn2 (f_X6_set h3 (o + 174) (nI w) (nI k)) (fun v5 h6 => some (v5, h6))) (v := (rv h (o + 174)).1 (8 + w)) S Wf (updN (rv h (o + 174)) (8 + w) (nI k))
      (fun h1 S1 => by
        obtain ⟨h2, q1, q2, q3, q4⟩ := c_set S1 Wf hw k1 k2
        exact ⟨h2, by rw [q1]; rfl, fun b g1 g2 => q2 b (by omega), Sim_up (by omega) q3 q4⟩)
      (fun h3 r3 => by
        obtain ⟨h4, q1, q2, q3⟩ := r_set (h := h3) (m := o + 174) (v := nI k) hw
        rw [r3] at q1 q3
        exact ⟨h4, by rw [q1]; rfl, fun b g1 g2 g3 g4 g5 g6 => q2 b (by omega), fun j => hI_eq (q2 _ (by omega)).1 j, eqv_of q3⟩)
    refine ⟨(rv h (o + 174)).1 (8 + w), h1, h2, ?_, ?_, e3⟩
    · unfold f_X5_sets
      rw [(set_ok hw k1 k2).1, bn1_some, if_pos rfl]
      exact e1
    · unfold f_X6_sets
      rw [(set_ok (q := 0) hw k1 k2).2, bn1_some, if_pos (by decide)]
      exact e2
  · refine bad_pair H ?_ (fun q hq => ?_)
    · unfold f_X5_sets
      rw [(set_bad hp).1, bn1_some, if_neg (by decide)]
    · unfold f_X6_sets
      rw [(set_bad (q := 0) hp).2, bn1_some, if_neg (by decide)]
