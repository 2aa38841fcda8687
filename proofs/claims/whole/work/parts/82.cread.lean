/-! the class: an order, orders, a text -/
section
variable {T len k : Nat} {x ls us vs : Nat → Int32} {g h : Hp}
theorem c_end {a a3 : Nat} (hl : len ≤ 120) (X : XS T x len g ls us vs k 1 h) (e6 : hI h T 6 = 0) (E1 : hI h (T + 2) k = ls k) (E2 : hI h (T + 3) k = us k) (E3 : hI h (T + 4) k = vs k) (B : bla x len a a3) (h3 : a3 < len) (h59 : x a3 = 59) : ∃ h2, Rn T a h (a3 + 1) h2 ∧ XS T x len g ls us vs (k + 1) 0 h2 := by
  obtain ⟨h1, R1, X1, s6, sd, s7⟩ := c_bla hl (a3 - a) a a3 h (by have := B.1; omega) B X
  have nd : ¬ dgt x len a3 := fun D => D.2.2 (by rw [h59]; decide)
  have ht : f_X4_takes h1 T (x a3) = some (1, sI (sI h1 T 8 0) T 1 (nI (k + 1))) := by
    rw [tk_n X1.2.2.2.2.2.1 h3 (by rw [h59]; decide) nd]
    unfold f_X4_takes_j47
    rw [if_pos h59, s6, e6, if_pos (by decide), if_pos (by decide), hI_sIj h1 T _ (by omega), X1.2.2.2.2.1, nI_1]
  refine ⟨_, Rn_tr R1 (rn_1 X1 hl h3 ht), XS_1 (XS_8 X1 0) ?_ ?_ ?_⟩
  · rw [hI_sIb _ 8 k _ (by omega), hI_eq (sd 2 (by decide))]; exact E1
  · rw [hI_sIb _ 8 k _ (by omega), hI_eq (sd 3 (by decide))]; exact E2
  · rw [hI_sIb _ 8 k _ (by omega), hI_eq (sd 4 (by decide))]; exact E3
theorem c_endF {a f : Nat} (hl : len ≤ 120) (X : XS T x len g ls us vs k 1 h) (e6 : hI h T 6 = 0) (nd : ¬ dgt x len a) (B : bla x len a f) (nf : ¬ (f < len ∧ x f = 59)) : Fl T len g a h f := by
  obtain ⟨h1, R1, X1, s6, sd, s7⟩ := c_bla hl (f - a) a f h (by have := B.1; omega) B X
  refine Fl_tr R1 ?_
  by_cases hlt : f < len
  · by_cases D : dgt x len f
    · have z7 : hI h1 T 7 = 0 := by
        rcases s7 with s | ⟨s, -⟩
        · exact s
        · rw [s] at D; exact absurd D nd
      refine Fl_0 X1 hl hlt ?_
      rw [tk_d X1.2.2.2.2.2.1 D]
      unfold f_X4_takesFigure
      rw [if_pos z7, if_pos (s6.trans e6), bn2_some, if_pos (by decide)]
    · refine Fl_0 X1 hl hlt ?_
      rw [tk_n X1.2.2.2.2.2.1 hlt (B.2.2.2 hlt) D]
      unfold f_X4_takes_j47 f_X4_takes_j60
      rw [if_neg (fun q => nf ⟨hlt, q⟩)]
  · have : f = len := by have := B.2.1; omega
    subst this
    exact Fl_len X1 hl
theorem rwT_r {l : Int32} (h : l = 114) : rwT T l 0 = T + 3 := by unfold rwT; rw [if_neg (fun z => z.1 h)]
theorem rwT_1 {l : Int32} : rwT T l 1 = T + 3 := by unfold rwT; rw [if_neg (fun z => absurd z.2 (by decide))]
theorem rwT_0 {l : Int32} (h : l ≠ 114) : rwT T l 0 = T + 4 := by unfold rwT; rw [if_pos ⟨h, rfl⟩]
theorem lkN_r {l : Int32} (h : l = 114) : lkN l = 0 + 1 := by unfold lkN; rw [if_pos h]
theorem lkN_n {l : Int32} (h : l ≠ 114) : lkN l = 1 + 1 := by unfold lkN; rw [if_neg h]
theorem c_ord {a e : Nat} (hl : len ≤ 120) (hk : k < 40) (X : XS T x len g ls us vs k 0 h) (O : orO x len a (ls k) (us k) (vs k) e) : ∃ h2, Rn T a h e h2 ∧ XS T x len g ls us vs (k + 1) 0 h2 := by
  obtain ⟨ha, hxl, hlt, e1, e2, a3, N1, S, B3, h3, h59, B4⟩ := O
  obtain ⟨h1, R1, X1, y2, y3, y4, y6, y7⟩ := c_let hl hk ha (by rw [hxl]; exact hlt) X
  rw [hxl] at y2 y6
  have fin : ∀ hh, Rn T a h (a3 + 1) hh → XS T x len g ls us vs (k + 1) 0 hh → ∃ h2, Rn T a h e h2 ∧ XS T x len g ls us vs (k + 1) 0 h2 := fun hh R Y => by
    obtain ⟨h4, R4, X4, -⟩ := c_bla hl (e - (a3 + 1)) (a3 + 1) e hh (by have := B4.1; omega) B4 Y
    exact ⟨h4, Rn_tr R R4, X4⟩
  rcases S with ⟨l4, v0, rfl⟩ | ⟨ln, N2⟩
  · obtain ⟨h2, R2, X2, w2, w6, wr, wd⟩ := c_num (L := 0) hl hk X1 y2 (by rw [y6, lkN_r l4]) (by decide) (by rw [rwT_r l4]; exact y3) (Or.inl y7) N1
    rw [rwT_r l4] at wr
    obtain ⟨h5, R3, X3⟩ := c_end hl X2 w6 w2 wr (by rw [wd 4 (by decide) (by rw [rwT_r l4]; omega), y4, v0]) B3 h3 h59
    exact fin h5 (Rn_tr (Rn_tr R1 R2) R3) X3
  · obtain ⟨h2, R2, X2, w2, w6, wr, wd⟩ := c_num (L := 1) hl hk X1 y2 (by rw [y6, lkN_n ln]) (by decide) (by rw [rwT_1]; exact y3) (Or.inl y7) N1
    rw [rwT_1] at wr
    obtain ⟨_, _, _, _, nd1⟩ := id N1
    obtain ⟨h6, R6, X6, u2, u6, ur, ud⟩ := c_num (L := 0) hl hk X2 w2 w6 (by decide) (by rw [rwT_0 ln, wd 4 (by decide) (by rw [rwT_1]; omega)]; exact y4) (Or.inr nd1) N2
    rw [rwT_0 ln] at ur
    obtain ⟨h5, R3, X3⟩ := c_end hl X6 u6 u2 (by rw [ud 3 (by decide) (by rw [rwT_0 ln]; omega)]; exact wr) ur B3 h3 h59
    exact fin h5 (Rn_tr (Rn_tr (Rn_tr R1 R2) R6) R3) X3
theorem c_ordF {a f : Nat} (hl : len ≤ 120) (hk : k < 40) (X : XS T x len g ls us vs k 0 h) (hx : x a ≠ 32) (O : orF x len a f) : Fl T len g a h f := by
  obtain ⟨ha, q⟩ := O
  rcases q with ⟨nl, rfl⟩ | ⟨hlt, q⟩
  · refine Fl_0 X hl ha ?_
    unfold f_X4_takes
    rw [if_neg hx, if_pos X.2.2.2.2.2.1, tl_33 nl, bn2_some, if_pos (by decide)]
  · obtain ⟨h1, R1, X1, y2, y3, y4, y6, y7⟩ := c_let hl hk ha hlt X
    by_cases l4 : x a = 114
    · have y6' : hI h1 T 6 = nI (0 + 1) := by rw [y6, lkN_r l4]
      rcases q with F1 | ⟨u, e1, N1, q⟩
      · exact Fl_tr R1 (c_numF (L := 0) hl hk X1 y2 y6' (by decide) (Or.inl y7) F1)
      · obtain ⟨h2, R2, X2, w2, w6, wr, wd⟩ := c_num (L := 0) hl hk X1 y2 y6' (by decide) (by rw [rwT_r l4]; exact y3) (Or.inl y7) N1
        obtain ⟨_, _, _, _, nd1⟩ := id N1
        rcases q with ⟨q, -⟩ | ⟨v, e2, S, B, nf⟩
        · exact absurd l4 q
        · rcases S with ⟨-, -, rfl⟩ | ⟨q, -⟩
          · exact Fl_tr R1 (Fl_tr R2 (c_endF hl X2 w6 nd1 B nf))
          · exact absurd l4 q
    · have y6' : hI h1 T 6 = nI (1 + 1) := by rw [y6, lkN_n l4]
      rcases q with F1 | ⟨u, e1, N1, q⟩
      · exact Fl_tr R1 (c_numF (L := 1) hl hk X1 y2 y6' (by decide) (Or.inl y7) F1)
      · obtain ⟨h2, R2, X2, w2, w6, wr, wd⟩ := c_num (L := 1) hl hk X1 y2 y6' (by decide) (by rw [rwT_1]; exact y3) (Or.inl y7) N1
        obtain ⟨_, _, _, _, nd1⟩ := id N1
        rcases q with ⟨-, F2⟩ | ⟨v, e2, S, B, nf⟩
        · exact Fl_tr R1 (Fl_tr R2 (c_numF (L := 0) hl hk X2 w2 w6 (by decide) (Or.inr nd1) F2))
        · rcases S with ⟨q, -, -⟩ | ⟨-, N2⟩
          · exact absurd q l4
          · obtain ⟨h6, R6, X6, u2, u6, ur, ud⟩ := c_num (L := 0) hl hk X2 w2 w6 (by decide) (by rw [rwT_0 l4, wd 4 (by decide) (by rw [rwT_1]; omega)]; exact y4) (Or.inr nd1) N2
            obtain ⟨_, _, _, _, nd2⟩ := id N2
            exact Fl_tr R1 (Fl_tr R2 (Fl_tr R6 (c_endF hl X6 u6 nd2 B nf)))
theorem XS_start (e0 : hI h T 0 = nI len) (e1 : ∀ j, j < len → hI h (T + 1) j = x j) : XS T x len h ls us vs 0 0 (sI (sI h T 1 0) T 8 0) := by
  refine ⟨fun z hz => same_tr (same_sI (by omega)) (same_sI (by omega)), ?_, ?_, fun j hj => ?_, ?_, hI_sI _ _ _ _, fun j hj => absurd hj (Nat.not_lt_zero _)⟩
  · rw [sI1 _ 8 _ (by omega), sI1 _ 1 _ (by omega)]
  · rw [hI_if, if_neg (by omega), hI_if, if_neg (by omega)]; exact e0
  · rw [hI_if, if_neg (by omega), hI_if, if_neg (by omega)]; exact e1 j hj
  · rw [hI_if, if_neg (by omega), hI_if, if_pos ⟨rfl, rfl⟩]; rfl
theorem chn_32 {N : Nat} {ps : Nat → Nat} (C : chn x len N ls us vs ps) : ∀ j, j ≤ N → ps j < len → x (ps j) ≠ 32 := by
  intro j hj hlt
  cases j with
  | zero => exact C.1.2.2.2 hlt
  | succ j =>
    obtain ⟨-, -, -, e1, e2, a3, -, -, -, -, -, B4⟩ := C.2 j (by omega)
    exact B4.2.2.2 hlt
theorem c_chn {N : Nat} {ps : Nat → Nat} (hl : len ≤ 120) (e0 : hI h T 0 = nI len) (e1 : ∀ j, j < len → hI h (T + 1) j = x j) (C : chn x len N ls us vs ps) : ∀ j, j ≤ N → ∃ h2, Rn T 0 (sI (sI h T 1 0) T 8 0) (ps j) h2 ∧ XS T x len h ls us vs j 0 h2 := by
  intro j
  induction j with
  | zero =>
    intro _
    obtain ⟨h2, R, X, -⟩ := c_bla hl (ps 0) 0 (ps 0) _ (by omega) C.1 (XS_start (ls := ls) (us := us) (vs := vs) e0 e1)
    exact ⟨h2, R, X⟩
  | succ j ih =>
    intro hj
    obtain ⟨h1, R1, X1⟩ := ih (by omega)
    have b1 := chn_le C j (by omega)
    have O := C.2 j (by omega)
    have b2 := O.1
    obtain ⟨h2, R2, X2⟩ := c_ord hl (by omega) X1 O
    exact ⟨h2, Rn_tr R1 R2, X2⟩
theorem c_read {N : Nat} {ps : Nat → Nat} (hl : len ≤ 120) (e0 : hI h T 0 = nI len) (e1 : ∀ j, j < len → hI h (T + 1) j = x j) (C : chn x len N ls us vs ps) (hN : ps N = len) (h1 : 1 ≤ N) : ∃ h2, f_X4_read h T = some (-1, h2) ∧ XS T x len h ls us vs N 0 h2 := by
  obtain ⟨h2, R, X⟩ := c_chn hl e0 e1 C N (Nat.le_refl _)
  rw [hN] at R
  have b := chn_le C N (Nat.le_refl _)
  refine ⟨h2, ?_, X⟩
  have e := R.2 (fu - len)
  rw [show fu - len + (len - 0) = fu by show 5000 - len + (len - 0) = 5000; omega, show fu - len = (fu - len - 1) + 1 by show 5000 - len = 5000 - len - 1 + 1; omega, f_X4_read_l12_s, X.2.2.1, if_pos (nI_le (Nat.le_refl _) (by omega))] at e
  unfold f_X4_read
  rw [if_pos (by decide), show f_X4_read_l12 T fu 0 (sI (sI h T 1 0) T 8 0) = _ from e, bn3_some, if_neg (by decide), if_pos X.2.2.2.2.2.1, X.2.2.2.2.1, if_neg (nI_n0 (a := N) (by omega) (by omega))]
theorem c_readF {N f : Nat} {ps : Nat → Nat} (hl : len ≤ 120) (e0 : hI h T 0 = nI len) (e1 : ∀ j, j < len → hI h (T + 1) j = x j) (C : chn x len N ls us vs ps) (F : orF x len (ps N) f ∨ (N = 0 ∧ ps N = len ∧ f = len)) : ∃ h2, f_X4_read h T = some (nI f, h2) ∧ (∀ z, z < T ∨ T + 5 ≤ z → same h h2 z) ∧ h2.1 (T + 1) = h.1 (T + 1) ∧ hI h2 T 0 = nI len := by
  obtain ⟨h2, R, X⟩ := c_chn hl e0 e1 C N (Nat.le_refl _)
  have b := chn_le C N (Nat.le_refl _)
  rcases F with F | ⟨rfl, hN, rfl⟩
  · have hlt := F.1
    have Q := Fl_tr R (c_ordF hl (by omega) X (chn_32 C N (Nat.le_refl _) hlt) F)
    obtain ⟨-, h3, q1, q2, q3, q4⟩ := Q
    have fle : f ≤ len := by
      obtain ⟨ha, q⟩ := F
      rcases q with ⟨-, rfl⟩ | ⟨-, q⟩
      · omega
      · rcases q with q | ⟨u, e1, N1, q⟩
        · exact (nmF_le q).2
        · rcases q with ⟨-, q⟩ | ⟨v, e2, -, B, -⟩
          · exact (nmF_le q).2
          · exact B.2.1
    refine ⟨h3, ?_, q1, q2, q3⟩
    have ef : fu - 1 - f + 1 + (f - 0) = fu := by show 5000 - 1 - f + 1 + (f - 0) = 5000; omega
    unfold f_X4_read
    rw [if_pos (by decide)]
    rcases q4 with q4 | ⟨rfl, q5, q6⟩
    · have e := q4 (fu - 1 - f)
      rw [ef] at e
      rw [show f_X4_read_l12 T fu 0 (sI (sI h T 1 0) T 8 0) = _ from e, bn3_some, if_pos rfl]
    · have e := q6 (fu - 1 - f)
      rw [ef] at e
      unfold f_X4_read_j55
      rw [show f_X4_read_l12 T fu 0 (sI (sI h T 1 0) T 8 0) = _ from e, bn3_some, if_neg (by decide), if_neg q5, q3]
  · rw [hN] at R
    refine ⟨h2, ?_, X.1, X.2.1, X.2.2.1⟩
    have e := R.2 (fu - f)
    rw [show fu - f + (f - 0) = fu by show 5000 - f + (f - 0) = 5000; omega, show fu - f = (fu - f - 1) + 1 by show 5000 - f = 5000 - f - 1 + 1; omega, f_X4_read_l12_s, X.2.2.1, if_pos (nI_le (Nat.le_refl _) (by omega))] at e
    unfold f_X4_read f_X4_read_j55
    rw [if_pos (by decide), show f_X4_read_l12 T fu 0 (sI (sI h T 1 0) T 8 0) = _ from e, bn3_some, if_neg (by decide), if_pos X.2.2.2.2.2.1, if_pos (show hI h2 T 1 = 0 from X.2.2.2.2.1), X.2.2.1]
end
