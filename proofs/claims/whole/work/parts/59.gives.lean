theorem can_peer {h g : Hp} {q m n : Nat} (hn : n ≤ 6) (hs : hI h q 4 = nI n) (h0 : (rv g m).1 0 = nI n) (u v : Int32) :
    (∃ k c, k ≤ 2 ∧ 1 ≤ c ∧ c ≤ 4 ∧ n < 6 ∧ u = nI k ∧ v = nI c ∧ f_X3_refusesPeer h q u v = some 0 ∧ f_X6_canPeer g m u v = some 0) ∨ (f_X3_refusesPeer h q u v = some (-2) ∧ f_X6_canPeer g m u v = some (-2)) ∨ (f_X3_refusesPeer h q u v = some (-4) ∧ f_X6_canPeer g m u v = some (-4)) := by
  have e0 : hI g (m + 2) (0 : Int32).toNatClampNeg = nI n := h0
  unfold f_X3_refusesPeer f_X3_refusesPeer_j19 f_X6_canPeer f_X6_canPeer_j18
  rcases rng_or u (a := 0) (b := 2) (by decide) (by decide) with ⟨k, x1, x2, rfl⟩ | hu0
  · have R1 : inr (nI k) 0 2 := rng_in (a := 0) (b := 2) (by decide) x1 x2
    rcases rng_or v (a := 1) (b := 4) (by decide) (by decide) with ⟨c, z1, z2, rfl⟩ | hv0
    · have R2 : inr (nI c) 1 4 := rng_in (a := 1) (b := 4) (by decide) z1 z2
      rw [if_neg R1.1, if_neg R1.2, if_neg R2.1, if_pos (Int32.not_lt.mp R2.2), hs, x6_in_t R1, bn1_some, if_neg one_ne_zero32, x6_in_t R2, bn1_some, if_neg one_ne_zero32, e0]
      by_cases h6 : n < 6
      · rw [if_pos (show nI n < 6 from nI_lt (b := 6) h6 (by decide)), if_neg (show ¬ nI n = 6 from fun z => by have := (nI_eq (b := 6) (by omega) (by decide)).mp z; omega)]
        exact Or.inl ⟨k, c, x2, z1, z2, h6, rfl, rfl, rfl, rfl⟩
      · have : n = 6 := by omega
        subst this
        exact Or.inr (Or.inr ⟨rfl, rfl⟩)
    · have hv : ¬ inr v 1 4 := hv0
      rw [if_neg R1.1, if_neg R1.2, x6_in_t R1, bn1_some, if_neg one_ne_zero32, x6_in_f hv, bn1_some, if_pos (show (0 : Int32) = 0 from rfl)]
      refine Or.inr (Or.inl ⟨?_, rfl⟩)
      by_cases q1 : v < 1
      · rw [if_pos q1]
      · rw [if_neg q1, if_neg (fun q2 => hv ⟨q1, Int32.not_lt.mpr q2⟩)]
  · have hu : ¬ inr u 0 2 := hu0
    rw [x6_in_f hu, bn1_some, if_pos (show (0 : Int32) = 0 from rfl)]
    refine Or.inr (Or.inl ⟨?_, rfl⟩)
    by_cases q1 : u < 0
    · rw [if_pos q1]
    · rw [if_neg q1]
      by_cases q2 : 2 < u
      · rw [if_pos q2]
      · exact absurd ⟨q1, q2⟩ hu
theorem counted_2 (h : Hp) (m : Nat) : f_X6_counted h m (-2) = f_X6_bad h m := rfl
theorem counted_3 (h : Hp) (m : Nat) : f_X6_counted h m (-3) = f_X6_no h m := rfl
theorem counted_4 (h : Hp) (m : Nat) : f_X6_counted h m (-4) = f_X6_full h m := rfl
theorem op_peer (o : Nat) : Op_peer o (Inv o) := by
  intro c h _ H u v
  obtain ⟨n, p, b, S, Wf⟩ := id H.1
  have hs : hI h (o + 1) 4 = nI n := S.1.2.2.2.2.1.trans Wf.1.1
  have cp := fun (g : Hp) (hg : rv g (o + 174) = rv h (o + 174)) => can_peer (h := h) (g := g) (q := o + 1) (m := o + 174) Wf.1.2 hs (by rw [hg]; exact Wf.1.1) u v
  rcases cp h rfl with ⟨k, z, k2, z1, z4, h6, rfl, rfl, r1, r2⟩ | ⟨r1, -⟩ | ⟨r1, -⟩
  · obtain ⟨h1, h2, e1, e2, e3, e4⟩ := mut_pair2 H (F := fun h3 => bn2 (f_X3_addPeer h3 (o + 1) (nI k) (nI z)) (fun v5 h6 => some (v5, h6))) (G := fun h3 => bn2 (f_X6_peerComes h3 (o + 174) (nI k) (nI z)) (fun v5 h6 => some (v5, h6))) (v := nI n) S Wf (addM (rv h (o + 174)) n (nI k) (nI z))
      (fun h1 S1 => by
        obtain ⟨h2, q1, q2, q3⟩ := c_peer (k := k) (c := z) S1 Wf h6
        exact ⟨h2, by rw [q1]; rfl, fun b g1 g2 => q2 b (by omega), Sim_up (by omega) q3 (addM_WF h6 k2 z1 z4 Wf)⟩)
      (fun h3 r3 => by
        obtain ⟨h4, q1, q2, q3⟩ := r_peer (h := h3) (m := o + 174) (k := nI k) (c := nI z) h6 (by rw [r3]; exact Wf.1.1)
        rw [r3] at q3
        exact ⟨h4, by rw [q1]; rfl, fun b g1 g2 g3 g4 g5 g6 => q2 b (by omega), fun j => hI_eq (q2 _ (by omega)).1 j, eqv_of q3⟩)
    refine ⟨nI n, h1, h2, ?_, ?_, e3⟩
    · unfold f_X5_peer
      rw [r1, bn1_some, if_pos rfl]
      exact e1
    · have e0 : f_X6_canPeer h1 (o + 174) (nI k) (nI z) = some 0 := by
        rcases cp h1 e4 with ⟨_, _, _, _, _, _, _, _, _, r⟩ | ⟨r, -⟩ | ⟨r, -⟩
        · exact r
        · rw [r1] at r; cases r
        · rw [r1] at r; cases r
      unfold f_X6_peer
      rw [e0, bn1_some, if_pos (by decide)]
      exact e2
  · refine bad_pair H (G := fun g => f_X6_peer g (o + 174) u v) ?_ (fun g hg => ?_)
    · unfold f_X5_peer
      rw [r1, bn1_some, if_neg (by decide)]
    · show f_X6_peer g (o + 174) u v = _
      have r2 : f_X6_canPeer g (o + 174) u v = some (-2) := by
        rcases cp g hg with ⟨_, _, _, _, _, _, _, _, r, _⟩ | ⟨-, r⟩ | ⟨r, -⟩
        · rw [r1] at r; cases r
        · exact r
        · rw [r1] at r; cases r
      unfold f_X6_peer
      rw [r2, bn1_some, if_neg (by decide), counted_2]
  · refine full_pair H (G := fun g => f_X6_peer g (o + 174) u v) ?_ (fun g hg => ?_)
    · unfold f_X5_peer
      rw [r1, bn1_some, if_neg (by decide)]
    · show f_X6_peer g (o + 174) u v = _
      have r2 : f_X6_canPeer g (o + 174) u v = some (-4) := by
        rcases cp g hg with ⟨_, _, _, _, _, _, _, _, r, _⟩ | ⟨r, -⟩ | ⟨-, r⟩
        · rw [r1] at r; cases r
        · rw [r1] at r; cases r
        · exact r
      unfold f_X6_peer
      rw [r2, bn1_some, if_neg (by decide), counted_4]
theorem can_give {h g : Hp} {q m n p b t : Nat} {M : MS} (S : SwR h q M n) (Wf : WFn M n p b t) (hg : rv g m = M) (u v : Int32) :
    (∃ i k, i < n ∧ k < p ∧ u = nI i ∧ v = nI k ∧ f_X3_refusesGift h q u v = some 0 ∧ f_X6_canGive g m u v = some 0) ∨ (f_X3_refusesGift h q u v = some (-2) ∧ f_X6_canGive g m u v = some (-2)) ∨ (f_X3_refusesGift h q u v = some (-3) ∧ f_X6_canGive g m u v = some (-3)) := by
  have w0 := Wf.1
  have w1 := Wf.2.1
  have hs : hI h q 4 = nI n := S.1.2.2.2.2.1.trans w0.1
  have hp : hI h q 0 = nI p := S.1.1.trans w1.1
  subst hg
  have e1 : hI g (m + 2) (1 : Int32).toNatClampNeg = nI p := w1.1
  unfold f_X3_refusesGift f_X3_refusesGift_j16 f_X3_refusesGift_j45 f_X6_canGive f_X6_canGive_j24 f_X6_canGive_j46
  rw [e1]
  rcases idx_or u (n := n) (by omega) with ⟨i, hi, rfl⟩ | hu
  · rw [x3_isPeer_t hs w0.2 hi, bn1_some, if_neg one_ne_zero32, x6_isPeer_t w0.2 w0.1 hi, bn1_some, if_neg one_ne_zero32]
    rcases idx_or v (n := p) (by omega) with ⟨k, hk, rfl⟩ | hv
    · have P : PeR h (q + 2 + 1 + 4 * i) i (rv g m) := S.2.2.2 i hi
      rw [x3_isPiece_t hp w1.2.2 hk, bn1_some, if_neg one_ne_zero32, x6_in_t (inr_t hk (by omega)), bn1_some, if_neg one_ne_zero32, if_pos (inb_nI (by omega) (by decide)), nI_clamp (by omega), P.1.1, x6_has (by omega), bn1_some, show f_X6_cellOf g m (nI i) 0 = _ from x6_cell (c := 0) (by omega) (by decide), bn1_some, x1_has, bn1_some, P.1.2.2.1]
      rcases bt_01 (pc (rv g m) i 2) k with z | z
      · rw [z, if_pos (show (0 : Int32) = 0 from rfl), if_pos (show (0 : Int32) = 0 from rfl)]
        by_cases z2 : pc (rv g m) i 0 = 2
        · rw [if_pos z2, if_pos z2]
          exact Or.inr (Or.inr ⟨rfl, rfl⟩)
        · rw [if_neg z2, if_neg z2, if_pos (inb_nI (by omega) (by decide))]
          exact Or.inl ⟨i, k, hi, hk, rfl, rfl, rfl, rfl⟩
      · rw [z, if_neg one_ne_zero32, if_neg one_ne_zero32, if_pos (inb_nI (by omega) (by decide))]
        refine Or.inr (Or.inr ⟨?_, rfl⟩)
        by_cases z2 : pc (rv g m) i 0 = 2
        · rw [if_pos z2]
        · rw [if_neg z2]
    · rw [x3_isPiece_f hp hv, bn1_some, if_pos (show (0 : Int32) = 0 from rfl), x6_in_f (inr_f (by omega) hv), bn1_some, if_pos (show (0 : Int32) = 0 from rfl)]
      exact Or.inr (Or.inl ⟨rfl, rfl⟩)
  · rw [x3_isPeer_f hs hu, bn1_some, if_pos (show (0 : Int32) = 0 from rfl), x6_isPeer_f w0.2 w0.1 hu, bn1_some, if_pos (show (0 : Int32) = 0 from rfl)]
    exact Or.inr (Or.inl ⟨rfl, rfl⟩)
theorem or_nI (a : Nat) {k : Nat} (hk : k < 32) : nI a ||| ((1 : Int32) <<< (nI k &&& 31)) = nI (a ||| 2 ^ k) := by
  apply bit_ext
  intro j hj
  rw [bitb_or1 hk hj, bitb_nI _ hj, bitb_nI _ hj, Nat.testBit_or, Nat.testBit_two_pow]
  congr 1
  exact decide_eq_decide.mpr eq_comm
/-- piece k is given to peer i -/
def gvM (M : MS) (i k : Nat) : MS := clrP (setP M i 2 (pc M i 2 ||| ((1 : Int32) <<< (nI k &&& 31)))) i k 4
theorem gvM_N (M : MS) (i k : Nat) {j : Nat} (hj : j < 14) : (gvM M i k).1 j = M.1 j := by unfold gvM; rw [clrP_N _ _ _ hj, setP_N _ _ _ _ hj]
theorem gvM_2 (M : MS) (i k : Nat) : (gvM M i k).2 = M.2 := by unfold gvM; rw [clrP_2]; rfl
theorem gvM_c (M : MS) {i k i2 c : Nat} (hk : k < 8) (hc : c < 48) : pc (gvM M i k) i2 c = if i2 = i ∧ c = 2 then pc M i 2 ||| ((1 : Int32) <<< (nI k &&& 31)) else if i2 = i ∧ 15 + 4 * k ≤ c ∧ c < 15 + 4 * k + 4 then -1 else pc M i2 c := by
  unfold gvM
  rw [clrP_c _ hk hc 4 (by omega)]
  by_cases e : i2 = i ∧ c = 2
  · rw [if_pos e, if_neg (by omega), e.1, e.2, setP_same]
  · rw [if_neg e, setP_c _ _ (by omega) hc (by omega)]
theorem PeS_give {M : MS} {i k n p b : Nat} (hk : k < p) (hp : p ≤ 8) (H : PeS M i n p b) : PeS (gvM M i k) i n p b := by
  obtain ⟨a1, a2, ⟨a, a3, a4⟩, a5, a6, a7, a9⟩ := H
  have u : ∀ c, c < 15 → c ≠ 2 → pc (gvM M i k) i c = pc M i c := fun c hc h2 => by rw [gvM_c M (by omega) (by omega), if_neg (by omega), if_neg (by omega)]
  refine ⟨by rw [u 0 (by decide) (by decide), u 3 (by decide) (by decide)]; exact a1, by rw [u 1 (by decide) (by decide)]; exact a2, ⟨a ||| 2 ^ k, Nat.or_lt_two_pow a3 (Nat.pow_lt_pow_right (by decide) hk), ?_⟩, by rw [u 3 (by decide) (by decide)]; exact a5, by rw [u 4 (by decide) (by decide)]; exact a6, by rw [u 5 (by decide) (by decide)]; exact a7, fun z hz => ?_⟩
  · rw [gvM_c M (by omega) (by decide), if_pos ⟨rfl, rfl⟩, a4, or_nI a (by omega)]
  · rw [gvM_c M (by omega) (by omega), if_neg (by omega)]
    by_cases e : i = i ∧ 15 + 4 * k ≤ 15 + z ∧ 15 + z < 15 + 4 * k + 4
    · rw [if_pos e]; exact Or.inl rfl
    · rw [if_neg e]; exact a9 z hz
theorem gvM_WFs {M : MS} {i k n p b : Nat} (hi : i < n) (hk : k < p) (H : WFs M n p b) : WFs (gvM M i k) n p b := by
  obtain ⟨w0, w1, w2, ws, wt, wP, wR, wr⟩ := H
  have e : ∀ j, j < 14 → (gvM M i k).1 j = M.1 j := fun j hj => gvM_N M i k hj
  refine ⟨by rw [e 0 (by decide)]; exact w0, by rw [e 1 (by decide)]; exact w1, by rw [e 2 (by decide)]; exact w2, by rw [e 8 (by decide), e 9 (by decide), e 10 (by decide), e 11 (by decide)]; exact ws, ?_, fun z hz => ?_, by rw [gvM_2]; exact wR, by rw [gvM_2]; exact wr⟩
  · rw [e 4 (by decide), wt]
    exact (eqv_sum (fun z hz => by rw [gvM_c M (by omega) (by decide), if_neg (by omega), if_neg (by omega)])).symm
  · by_cases q : z = i
    · subst q; exact PeS_give hk w1.2.2 (wP z hz)
    · have u : ∀ c, c < 48 → pc (gvM M i k) z c = pc M z c := fun c hc => by rw [gvM_c M (by omega) hc, if_neg (by omega), if_neg (by omega)]
      obtain ⟨a1, a2, a3, a5, a6, a7, a9⟩ := wP z hz
      exact ⟨by rw [u 0 (by decide), u 3 (by decide)]; exact a1, by rw [u 1 (by decide)]; exact a2, by rw [u 2 (by decide)]; exact a3, by rw [u 3 (by decide)]; exact a5, by rw [u 4 (by decide)]; exact a6, by rw [u 5 (by decide)]; exact a7, fun x hx => by rw [u (15 + x) (by omega)]; exact a9 x hx⟩
theorem gvM_WF {M : MS} {i k n p b t : Nat} (hi : i < n) (hk : k < p) (H : WFn M n p b t) : WFn (gvM M i k) n p b t := by
  have hp := H.2.1.2.2
  rw [WFn_iff] at H ⊢
  obtain ⟨h1, ⟨T, h2, h3⟩, h4⟩ := H
  refine ⟨gvM_WFs hi hk h1, ⟨T, by rw [gvM_N _ _ _ (by decide)]; exact h2, h3⟩, fun z hz => ?_⟩
  have u : ∀ c, c < 15 → c ≠ 2 → pc (gvM M i k) z c = pc M z c := fun c hc q2 => by rw [gvM_c M (by omega) (by omega), if_neg (by omega), if_neg (by omega)]
  rw [u 6 (by decide) (by decide), u 7 (by decide) (by decide)]
  exact h4 z hz
theorem bc8_t : ∀ a, a < 256 → f_J6_bitCount_0f7a4 hz0 (nI a) = some (sumN (fun k => bt (nI a) k) 8) := by decide +kernel
def pcsM (x : Int32) : Int32 := sumN (fun k => bt x k) 8
theorem bc8 {h : Hp} {a : Nat} (ha : a < 256) : f_J6_bitCount_0f7a4 h (nI a) = some (pcsM (nI a)) := by rw [bc_h]; exact bc8_t a ha
theorem x6_pieces_l {h : Hp} {x : Int32} : ∀ (r i fuel : Nat), i + r = 8 → r < fuel → f_X6_pieces_l4 h x fuel (sumN (fun k => bt x k) i) (nI i) = some (pcsM x) := by
  intro r
  induction r with
  | zero =>
    intro i fuel hi hf
    obtain ⟨fuel, rfl⟩ : ∃ z, fuel = z + 1 := ⟨fuel - 1, by omega⟩
    have : i = 8 := by omega
    subst this
    rw [f_X6_pieces_l4_s, if_pos (by decide)]; rfl
  | succ r ih =>
    intro i fuel hi hf
    obtain ⟨fuel, rfl⟩ : ∃ z, fuel = z + 1 := ⟨fuel - 1, by omega⟩
    rw [f_X6_pieces_l4_s, if_neg (show ¬ (8 : Int32) ≤ nI i from nI_ge (b := 8) (by omega) (by decide)), nI_1]
    exact ih (i + 1) fuel (by omega) (by omega)
theorem x6_pieces {h : Hp} {x : Int32} : f_X6_pieces h x = some (pcsM x) := by
  unfold f_X6_pieces
  rw [show f_X6_pieces_l4 h x fu 0 0 = some (pcsM x) from x6_pieces_l 8 0 fu (by omega) (by decide)]; rfl
theorem c_give {h : Hp} {q n p b t i k : Nat} {M : MS} (S : SwR h q M n) (Wf : WFn M n p b t) (hi : i < n) (hk : k < p) : ∃ h2, f_X3_takeGift h q (nI i) (nI k) = some (pcsM (pc (gvM M i k) i 2), h2) ∧ (∀ b, b < q ∨ q + 27 ≤ b → same h h2 b) ∧ SwR h2 q (gvM M i k) n := by
  have hn := Wf.1.2
  have hp := Wf.2.1.2.2
  obtain ⟨a, ha, ea⟩ := (Wf.2.2.2.2.2.2.2.2.2.1 i hi).2.2.1
  have S1 := SwR_l hi hn (by omega : k < 8) S
  have e2 : hI (sI h (q + 3 + 4 * i) 3 (hI h (q + 3 + 4 * i) 3 &&& (((15 : Int32) <<< (nI (4 * k) &&& 31)) ^^^ (-1)))) (q + 3 + 4 * i) 2 = pc M i 2 := by rw [hI_sIj _ _ _ (by decide)]; exact (S.2.2.2 i hi).1.2.2.1
  have S2 := SwR_f (f := 2) (pc M i 2 ||| ((1 : Int32) <<< (nI k &&& 31))) hi hn (by decide) (by decide) S1
  have e5 : pc (gvM M i k) i 2 = nI (a ||| 2 ^ k) := by rw [gvM_c M (by omega) (by decide), if_pos ⟨rfl, rfl⟩, ea, or_nI a (by omega)]
  refine ⟨_, ?_, fun z hz => same_tr (same_sI (by omega)) (same_sI (by omega)), SwR_M (fun j hj _ => ?_) ?_ (fun z c hz hc => ?_) (fun z j hz hj => ?_) S2⟩
  · unfold f_X3_takeGift f_X1_loseBlocks
    rw [if_pos (inb_nI (by omega) (by decide)), nI_clamp (by omega), show q + 2 + 1 + 4 * i = q + 3 + 4 * i by omega, bn1_some, show nI k * (4 : Int32) = nI (4 * k) by rw [show (4 : Int32) = nI 4 from rfl, nI_mulE, Nat.mul_comm], e2, hI_sI, e5, ea, or_nI a (by omega), bc8 (Nat.or_lt_two_pow (n := 8) (Nat.lt_of_lt_of_le ha (Nat.pow_le_pow_right (by decide) hp)) (Nat.pow_lt_pow_right (by decide) (by omega))), bn1_some, if_pos (inb_nI (by omega) (by decide)), if_pos (inb_nI (by omega) (by decide))]
  · rw [gvM_N _ _ _ hj, setP_N _ _ _ _ hj, clrP_N _ _ _ hj]
  · rw [gvM_2, setP_2, clrP_2]
  · rw [gvM_c M (by omega) hc]
    by_cases e : z = i ∧ c = 2
    · obtain ⟨x1, x2⟩ := e
      subst x1; subst x2
      rw [if_pos ⟨rfl, rfl⟩]
      exact (setP_same _ _ _ _).symm
    · rw [if_neg e, show fcol 2 = 2 from rfl, setP_c _ _ (by omega) hc (by omega), clrP_c M (by omega) hc 4 (by omega)]
  · rw [gvM_2, setP_2, clrP_2]
theorem give_l {h : Hp} {m i k : Nat} (hi : i < 6) (hk : k < 8) : ∀ (r z fuel : Nat) (hh : Hp), z + r = 4 → r < fuel → (∀ x, x ≠ m + 2 → same h hh x) → rv hh m = clrP (rv h m) i k z → ∃ h2, f_X6_give_l19 m (nI i) (nI k) fuel (nI z) hh = some h2 ∧ (∀ x, x ≠ m + 2 → same h h2 x) ∧ rv h2 m = clrP (rv h m) i k 4 := by
  intro r
  induction r with
  | zero =>
    intro z fuel hh hz hf e1 e2
    obtain ⟨fuel, rfl⟩ : ∃ z, fuel = z + 1 := ⟨fuel - 1, by omega⟩
    have : z = 4 := by omega
    subst this
    exact ⟨hh, by rw [f_X6_give_l19_s, if_pos (by decide)], e1, e2⟩
  | succ r ih =>
    intro z fuel hh hz hf e1 e2
    obtain ⟨fuel, rfl⟩ : ∃ z, fuel = z + 1 := ⟨fuel - 1, by omega⟩
    have ek : nI (14 + 48 * i) + 15 + 4 * nI k + nI z = nI (14 + 48 * i + (15 + (4 * k + z))) := by
      rw [show (15 : Int32) = nI 15 from rfl, show (4 : Int32) = nI 4 from rfl, nI_mulE, nI_add, nI_add, nI_add, show 14 + 48 * i + 15 + 4 * k + z = 14 + 48 * i + (15 + (4 * k + z)) by omega]
    obtain ⟨c1, c2, -⟩ := rv_cell (h := hh) (m := m) (v := -1) hi (show 15 + (4 * k + z) < 48 by omega) _ ek
    rw [f_X6_give_l19_s, if_neg (show ¬ (4 : Int32) ≤ nI z from nI_ge (b := 4) (by omega) (by decide)), x6_at, bn1_some, if_pos c1, nI_1]
    refine ih (z + 1) fuel _ (by omega) (by omega) (fun x hx => same_tr (e1 x hx) (same_sI hx)) ?_
    rw [c2, e2]; rfl
theorem r_give {h : Hp} {m i k : Nat} (hi : i < 6) (hk : k < 8) : ∃ h2, f_X6_give h m (nI i) (nI k) = some (pcsM (pc (gvM (rv h m) i k) i 2), h2) ∧ (∀ z, z ≠ m + 2 → same h h2 z) ∧ rv h2 m = gvM (rv h m) i k := by
  have ek : nI (14 + 48 * i) + 2 = nI (14 + 48 * i + 2) := nI_add _ 2
  obtain ⟨c1, c2, c3⟩ := rv_cell (h := h) (m := m) (v := pc (rv h m) i 2 ||| ((1 : Int32) <<< (nI k &&& 31))) hi (show 2 < 48 by decide) _ ek
  obtain ⟨h2, d1, d2, d3⟩ := give_l (h := sI h (m + 2) (nI (14 + 48 * i) + 2).toNatClampNeg (pc (rv h m) i 2 ||| ((1 : Int32) <<< (nI k &&& 31)))) (m := m) hi hk 4 0 fu _ (by omega) (by decide) (fun _ _ => same_rfl _ _) rfl
  rw [c2] at d3
  refine ⟨h2, ?_, fun z hz => same_tr (same_sI hz) (d2 z hz), d3⟩
  unfold f_X6_give
  rw [x6_at, bn1_some, if_pos c1, if_pos c1, c3, show (0 : Int32) = nI 0 from rfl, d1, bn1_some, show f_X6_cellOf h2 m (nI i) 2 = _ from x6_cell (c := 2) hi (by decide), bn1_some, x6_pieces, bn1_some, d3]; rfl
theorem op_gives (o : Nat) : Op_gives o (Inv o) := by
  intro c h _ H u v
  obtain ⟨n, p, b, S, Wf⟩ := id H.1
  have hp := Wf.2.1.2.2
  have hn := Wf.1.2
  have cp := fun (g : Hp) (hg : rv g (o + 174) = rv h (o + 174)) => can_give (g := g) (m := o + 174) S Wf hg u v
  rcases cp h rfl with ⟨i, k, hi, hk, rfl, rfl, r1, r2⟩ | ⟨r1, -⟩ | ⟨r1, -⟩
  · obtain ⟨h1, h2, e1, e2, e3, e4⟩ := mut_pair2 H (F := fun h3 => bn2 (f_X3_takeGift h3 (o + 1) (nI i) (nI k)) (fun v5 h6 => some (v5, h6))) (G := fun h3 => bn2 (f_X6_give h3 (o + 174) (nI i) (nI k)) (fun v5 h6 => some (v5, h6))) (v := pcsM (pc (gvM (rv h (o + 174)) i k) i 2)) S Wf (gvM (rv h (o + 174)) i k)
      (fun h1 S1 => by
        obtain ⟨h2, q1, q2, q3⟩ := c_give S1 Wf hi hk
        exact ⟨h2, by rw [q1]; rfl, fun b g1 g2 => q2 b (by omega), Sim_up (by omega) q3 (gvM_WF hi hk Wf)⟩)
      (fun h3 r3 => by
        obtain ⟨h4, q1, q2, q3⟩ := r_give (h := h3) (m := o + 174) (i := i) (k := k) (by omega) (by omega)
        rw [r3] at q1 q3
        exact ⟨h4, by rw [q1]; rfl, fun b g1 g2 g3 g4 g5 g6 => q2 b (by omega), fun j => hI_eq (q2 _ (by omega)).1 j, eqv_of q3⟩)
    refine ⟨pcsM (pc (gvM (rv h (o + 174)) i k) i 2), h1, h2, ?_, ?_, e3⟩
    · unfold f_X5_gives
      rw [r1, bn1_some, if_pos rfl]
      exact e1
    · have e0 : f_X6_canGive h1 (o + 174) (nI i) (nI k) = some 0 := by
        rcases cp h1 e4 with ⟨_, _, _, _, _, _, _, r⟩ | ⟨r, -⟩ | ⟨r, -⟩
        · exact r
        · rw [r1] at r; cases r
        · rw [r1] at r; cases r
      unfold f_X6_gives
      rw [e0, bn1_some, if_pos (by decide)]
      exact e2
  · refine bad_pair H (G := fun g => f_X6_gives g (o + 174) u v) ?_ (fun g hg => ?_)
    · unfold f_X5_gives
      rw [r1, bn1_some, if_neg (by decide)]
    · show f_X6_gives g (o + 174) u v = _
      have r2 : f_X6_canGive g (o + 174) u v = some (-2) := by
        rcases cp g hg with ⟨_, _, _, _, _, _, r, _⟩ | ⟨-, r⟩ | ⟨r, -⟩
        · rw [r1] at r; cases r
        · exact r
        · rw [r1] at r; cases r
      unfold f_X6_gives
      rw [r2, bn1_some, if_neg (by decide), counted_2]
  · refine no_pair H (G := fun g => f_X6_gives g (o + 174) u v) ?_ (fun g hg => ?_)
    · unfold f_X5_gives
      rw [r1, bn1_some, if_neg (by decide)]
    · show f_X6_gives g (o + 174) u v = _
      have r2 : f_X6_canGive g (o + 174) u v = some (-3) := by
        rcases cp g hg with ⟨_, _, _, _, _, _, r, _⟩ | ⟨r, -⟩ | ⟨-, r⟩
        · rw [r1] at r; cases r
        · rw [r1] at r; cases r
        · exact r
      unfold f_X6_gives
      rw [r2, bn1_some, if_neg (by decide), counted_3]
