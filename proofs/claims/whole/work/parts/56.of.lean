/-- what of() answers -/
def ofM (M : MS) (i p b k : Nat) : Int32 := if k < 3 then pc M i k else if k = 3 then lfM M i p b else if k = 9 then clM M i else pc M i (k - 1)
theorem x6_ofPeer {h : Hp} {m i p b k : Nat} (hi6 : i < 6) (hp : p ≤ 8) (hb : b ≤ 4) (h1 : (rv h m).1 1 = nI p) (h2 : (rv h m).1 2 = nI b) (hk : k < 10) : f_X6_ofPeer h m (nI i) (nI k) = some (ofM (rv h m) i p b k) := by
  have c : ∀ z, z < 48 → f_X6_cellOf h m (nI i) (nI z) = some (pc (rv h m) i z) := fun z hz => x6_cell hi6 hz
  unfold f_X6_ofPeer
  rcases (show k = 0 ∨ k = 1 ∨ k = 2 ∨ k = 3 ∨ k = 4 ∨ k = 5 ∨ k = 6 ∨ k = 7 ∨ k = 8 ∨ k = 9 by omega) with rfl | rfl | rfl | rfl | rfl | rfl | rfl | rfl | rfl | rfl
  · rw [if_pos (by decide), show (0 : Int32) = nI 0 from rfl, c 0 (by decide)]; rfl
  · rw [if_neg (by decide), if_pos (by decide), show (1 : Int32) = nI 1 from rfl, c 1 (by decide)]; rfl
  · rw [if_neg (by decide), if_neg (by decide), if_pos (by decide), show (2 : Int32) = nI 2 from rfl, c 2 (by decide)]; rfl
  · rw [if_neg (by decide), if_neg (by decide), if_neg (by decide), if_pos (by decide), x6_left hi6 hp hb h1 h2]; rfl
  · rw [if_neg (by decide), if_neg (by decide), if_neg (by decide), if_neg (by decide), if_pos (by decide), show (3 : Int32) = nI 3 from rfl, c 3 (by decide)]; rfl
  · rw [if_neg (by decide), if_neg (by decide), if_neg (by decide), if_neg (by decide), if_neg (by decide), if_pos (by decide), show (4 : Int32) = nI 4 from rfl, c 4 (by decide)]; rfl
  · rw [if_neg (by decide), if_neg (by decide), if_neg (by decide), if_neg (by decide), if_neg (by decide), if_neg (by decide), if_pos (by decide), show (5 : Int32) = nI 5 from rfl, c 5 (by decide)]; rfl
  · rw [if_neg (by decide), if_neg (by decide), if_neg (by decide), if_neg (by decide), if_neg (by decide), if_neg (by decide), if_neg (by decide), if_pos (by decide), show (6 : Int32) = nI 6 from rfl, c 6 (by decide)]; rfl
  · rw [if_neg (by decide), if_neg (by decide), if_neg (by decide), if_neg (by decide), if_neg (by decide), if_neg (by decide), if_neg (by decide), if_neg (by decide), if_pos (by decide), show (7 : Int32) = nI 7 from rfl, c 7 (by decide)]; rfl
  · rw [if_neg (by decide), if_neg (by decide), if_neg (by decide), if_neg (by decide), if_neg (by decide), if_neg (by decide), if_neg (by decide), if_neg (by decide), if_neg (by decide), x6_claims hi6]; rfl
theorem x3_tellPeer {h : Hp} {q i n p b t k : Nat} {M : MS} (H : SwR h q M n) (Wf : WFn M n p b t) (hi : i < n) (hk : k < 10) : f_X3_tellPeer h q (nI i) (nI k) = some (ofM M i p b k) := by
  have w0 := Wf.1
  have w1 := Wf.2.1
  have w2 := Wf.2.2.1
  have P : PeR h (q + 2 + 1 + 4 * i) i M := H.2.2.2 i hi
  obtain ⟨c0, c1, c2, c3, c4, c5, c6, c7⟩ := P.1
  unfold f_X3_tellPeer
  rw [if_pos (inb_nI (by omega) (by decide)), nI_clamp (by omega)]
  rcases (show k = 0 ∨ k = 1 ∨ k = 2 ∨ k = 3 ∨ k = 4 ∨ k = 5 ∨ k = 6 ∨ k = 7 ∨ k = 8 ∨ k = 9 by omega) with rfl | rfl | rfl | rfl | rfl | rfl | rfl | rfl | rfl | rfl
  · rw [if_pos (by decide), c0]; rfl
  · rw [if_neg (by decide), if_pos (by decide), c1]; rfl
  · rw [if_neg (by decide), if_neg (by decide), if_pos (by decide), c2]; rfl
  · rw [if_neg (by decide), if_neg (by decide), if_neg (by decide), if_pos (by decide), x3_left H P w1.2.2 w2.2.1 w2.2.2 w1.1 w2.1]; rfl
  · rw [if_neg (by decide), if_neg (by decide), if_neg (by decide), if_neg (by decide), if_pos (by decide), c3]; rfl
  · rw [if_neg (by decide), if_neg (by decide), if_neg (by decide), if_neg (by decide), if_neg (by decide), if_pos (by decide), c4]; rfl
  · rw [if_neg (by decide), if_neg (by decide), if_neg (by decide), if_neg (by decide), if_neg (by decide), if_neg (by decide), if_pos (by decide), c5]; rfl
  · rw [if_neg (by decide), if_neg (by decide), if_neg (by decide), if_neg (by decide), if_neg (by decide), if_neg (by decide), if_neg (by decide), if_pos (by decide), c6]; rfl
  · rw [if_neg (by decide), if_neg (by decide), if_neg (by decide), if_neg (by decide), if_neg (by decide), if_neg (by decide), if_neg (by decide), if_neg (by decide), if_pos (by decide), c7]; rfl
  · rw [if_neg (by decide), if_neg (by decide), if_neg (by decide), if_neg (by decide), if_neg (by decide), if_neg (by decide), if_neg (by decide), if_neg (by decide), if_neg (by decide), x3_claims H w0.2 hi]; rfl
theorem x5_of {h : Hp} {o i n p b t k : Nat} {M : MS} (S : SwR h (o + 1) M n) (Wf : WFn M n p b t) (hi : i < n) (hk : k < 10) : f_X5_of h o (nI i) (nI k) = some (ofM M i p b k, h) := by
  have w0 := Wf.1
  unfold f_X5_of
  rw [x3_isPeer_t (S.1.2.2.2.2.1.trans w0.1) w0.2 hi, bn1_some, if_neg (by decide), if_neg (nI_pos (by omega)), if_pos (show nI k ≤ 9 from nI_le (b := 9) (by omega) (by decide)), x3_tellPeer S Wf hi hk]; rfl
theorem op_of (o : Nat) : Op_of o (Inv o) := by
  intro c h _ H u v
  obtain ⟨n, p, b, S, Wf⟩ := id H.1
  have w0 := Wf.1
  have w1 := Wf.2.1
  have w2 := Wf.2.2.1
  have hs : hI h (o + 1) 4 = nI n := S.1.2.2.2.2.1.trans w0.1
  rcases idx_or u (n := n) (by omega) with ⟨i, hi, rfl⟩ | hu
  · rcases idx_or v (n := 10) (by decide) with ⟨k, hk, rfl⟩ | hv
    · refine read_pair H (G := fun q => f_X6_of q (o + 174) (nI i) (nI k)) (v := ofM (rv h (o + 174)) i p b k) (x5_of S Wf hi hk) ?_
      show f_X6_of h (o + 174) (nI i) (nI k) = _
      unfold f_X6_of
      rw [x6_isPeer_t w0.2 w0.1 hi, bn1_some, if_neg (by decide), x6_in_t (show inr (nI k) 0 9 from inr_t (n := 10) hk (by decide)), bn1_some, if_neg (by decide), x6_ofPeer (by omega) w1.2.2 w2.2.2 w1.1 w2.1 hk]; rfl
    · refine bad_pair H (G := fun q => f_X6_of q (o + 174) (nI i) v) ?_ (fun q hq => ?_)
      · unfold f_X5_of f_X5_of_j21
        rw [x3_isPeer_t hs w0.2 hi, bn1_some, if_neg (by decide)]
        by_cases h1 : v < 0
        · rw [if_pos h1]
        · rw [if_neg h1, if_neg]
          intro h2
          exact absurd (Int32.le_trans (hv.resolve_left h1) h2) (by decide)
      · show f_X6_of q (o + 174) (nI i) v = _
        unfold f_X6_of f_X6_of_j27
        rw [x6_isPeer_t w0.2 (by rw [hq]; exact w0.1) hi, bn1_some, if_neg (by decide), x6_in_f (show ¬ inr v 0 9 from inr_f (n := 10) (by decide) hv), bn1_some, if_pos rfl]
  · refine bad_pair H (G := fun q => f_X6_of q (o + 174) u v) ?_ (fun q hq => ?_)
    · unfold f_X5_of f_X5_of_j21
      rw [x3_isPeer_f hs hu, bn1_some, if_pos rfl]
    · show f_X6_of q (o + 174) u v = _
      unfold f_X6_of f_X6_of_j27
      rw [x6_isPeer_f w0.2 (by rw [hq]; exact w0.1) hu, bn1_some, if_pos rfl]
