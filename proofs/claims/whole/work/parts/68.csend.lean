/-! BLOCKS ARE SENT: the class -/
theorem lt2 (y : Int32) : y < 2 ↔ y ≤ 1 := by
  rw [Int32.lt_iff_toInt_lt, Int32.le_iff_toInt_le]
  have e1 : (2 : Int32).toInt = 2 := rfl
  have e2 : (1 : Int32).toInt = 1 := rfl
  rw [e1, e2]
  omega
theorem c_susp_l {h : Hp} {q n j : Nat} {M : MS} {S : Int32} (hj : j < n) (hn : n ≤ 6) (h0 : M.1 0 = nI n) : ∀ (r i fuel : Nat) (hh : Hp), i + r = n → r < fuel → (∀ z, z < q + 3 + 4 * j ∨ q + 3 + 4 * j + 4 ≤ z → same h hh z) → SwR hh q (suM M j S i) n → ∃ h2, f_X2_suspectAll_l17 q (q + 3 + 4 * j) S (if S &&& (S - 1) = 0 then 1 else 0) fuel (nI i) hh = some h2 ∧ (∀ z, z < q + 3 + 4 * j ∨ q + 3 + 4 * j + 4 ≤ z → same h h2 z) ∧ SwR h2 q (suM M j S n) n := by
  intro r
  induction r with
  | zero =>
    intro i fuel hh hi hf e1 e2
    obtain ⟨fuel, rfl⟩ : ∃ z, fuel = z + 1 := ⟨fuel - 1, by omega⟩
    have : i = n := by omega
    subst this
    have hs : hI hh q 4 = nI i := e2.1.2.2.2.2.1.trans ((suM_N (by decide) i).trans h0)
    exact ⟨hh, by rw [f_X2_suspectAll_l17_s, hs, if_pos (Int32.le_refl _)], e1, e2⟩
  | succ r ih =>
    intro i fuel hh hi hf e1 e2
    obtain ⟨fuel, rfl⟩ : ∃ z, fuel = z + 1 := ⟨fuel - 1, by omega⟩
    have hs : hI hh q 4 = nI n := e2.1.2.2.2.2.1.trans ((suM_N (by decide) i).trans h0)
    have P := e2.2.2.2 j hj
    have e8 : hI hh (q + 3 + 4 * j + 2) i = pc (suM M j S i) j (8 + i) := P.2.1 i (by omega)
    have e5 : hI hh (q + 3 + 4 * j) 6 = pc (suM M j S i) j 5 := P.1.2.2.2.2.2.1
    have gi : inb (nI i) 6 = true := inb_nI (by omega) (by decide)
    have ih1 := fun h3 => ih (i + 1) fuel h3 (by omega) (by omega)
    rw [suM_s] at ih1
    rw [f_X2_suspectAll_l17_s, hs, if_neg (nI_ge (by omega) (by omega))]
    unfold f_X2_suspectAll_j61 f_X2_suspectAll_j74
    simp only [gi, eq_self, if_true]
    rw [nI_1, nI_clamp (by omega), hI_sI, e8]
    show ∃ h2, (if bt S i = 0 then _ else _) = _ ∧ _
    by_cases c1 : bt S i = 1
    · rw [if_neg (by rw [c1]; decide)]
      rw [if_pos c1] at ih1
      have S1 := SwR_s (pc (suM M j S i) j (8 + i) + 1) hj hn (show i < 6 by omega) e2
      have x6 : hI (sI hh (q + 3 + 4 * j + 2) i (pc (suM M j S i) j (8 + i) + 1)) (q + 3 + 4 * j) 6 = pc (suM M j S i) j 5 := by rw [hI_sIb _ _ _ _ (by omega)]; exact e5
      rw [x6]
      have S2 := SwR_f (f := 6) (pc (suM M j S i) j 5 ||| ((1 : Int32) <<< (nI i &&& 31))) hj hn (by decide) (by decide) S1
      have f1 : ∀ z, z < q + 3 + 4 * j ∨ q + 3 + 4 * j + 4 ≤ z → same h (sI hh (q + 3 + 4 * j + 2) i (pc (suM M j S i) j (8 + i) + 1)) z := fun z hz => same_tr (e1 z hz) (same_sI (by omega))
      have f2 : ∀ z, z < q + 3 + 4 * j ∨ q + 3 + 4 * j + 4 ≤ z → same h (sI (sI hh (q + 3 + 4 * j + 2) i (pc (suM M j S i) j (8 + i) + 1)) (q + 3 + 4 * j) 6 (pc (suM M j S i) j 5 ||| ((1 : Int32) <<< (nI i &&& 31)))) z := fun z hz => same_tr (f1 z hz) (same_sI (by omega))
      by_cases al : S &&& (S - 1) = 0
      · rw [if_pos al] at ih1 ⊢
        rw [if_neg (show ¬ (1 : Int32) = 0 by decide)]
        rw [if_pos (Or.inl al)] at ih1
        exact ih1 _ f2 S2
      · rw [if_neg al] at ih1 ⊢
        rw [if_pos (show (0 : Int32) = 0 from rfl)]
        by_cases c2 : pc (suM M j S i) j (8 + i) + 1 ≤ 1
        · rw [if_pos ((lt2 _).mpr c2)]
          rw [if_neg (fun z => z.elim al (fun y => y c2))] at ih1
          exact ih1 _ f1 S1
        · rw [if_neg (fun z => c2 ((lt2 _).mp z))]
          rw [if_pos (Or.inr c2)] at ih1
          exact ih1 _ f2 S2
    · rw [if_pos ((bt_01 _ _).resolve_right c1)]
      rw [if_neg c1] at ih1
      exact ih1 hh e1 e2
theorem c_susp {h : Hp} {q n j : Nat} {M : MS} {S : Int32} (hj : j < n) (hn : n ≤ 6) (h0 : M.1 0 = nI n) (Sw : SwR h q M n) : ∃ h2, f_X2_suspectAll h q (q + 3 + 4 * j) S = some h2 ∧ (∀ z, z < q + 3 + 4 * j ∨ q + 3 + 4 * j + 4 ≤ z → same h h2 z) ∧ SwR h2 q (suM M j S n) n := by
  obtain ⟨h2, e1, e2, e3⟩ := c_susp_l (h := h) (S := S) hj hn h0 n 0 fu h (by omega) (by show n < 5000; omega) (fun _ _ => same_rfl _ _) Sw
  refine ⟨h2, ?_, e2, e3⟩
  unfold f_X2_suspectAll f_X2_suspectAll_j13
  by_cases al : S &&& (S - 1) = 0
  · rw [if_pos al] at e1 ⊢
    rw [show f_X2_suspectAll_l17 q (q + 3 + 4 * j) S 1 fu 0 h = _ from e1]; rfl
  · rw [if_neg al] at e1 ⊢
    rw [show f_X2_suspectAll_l17 q (q + 3 + 4 * j) S 0 fu 0 h = _ from e1]; rfl
/-- all blocks of piece k of j are there -/
def fulM (M : MS) (n b j k : Nat) : Prop := ∀ z, z < b → ∃ x, x < n ∧ pc M j (15 + (4 * k + z)) = nI x
theorem c_look_l {h : Hp} {q n b j k : Nat} {M : MS} (S : SwR h q M n) (hj : j < n) (hn : n ≤ 6) (hk : k < 8) (h2 : M.1 2 = nI b) (hb : b ≤ 4) (F : fulM M n b j k) : ∀ (r z fuel : Nat), z + r = b → r < fuel → f_X2_lookAt_l8 h q (q + 3 + 4 * j) (nI k) fuel (seM M j k z) (b01 (wlM M j k z)) (nI z) = some (seM M j k b, b01 (wlM M j k b)) := by
  have e1 : hI h q 1 = nI b := S.1.2.1.trans h2
  intro r
  induction r with
  | zero =>
    intro z fuel hz hf
    obtain ⟨fuel, rfl⟩ : ∃ z, fuel = z + 1 := ⟨fuel - 1, by omega⟩
    have : z = b := by omega
    subst this
    rw [f_X2_lookAt_l8_s, e1, if_pos (Int32.le_refl _)]
  | succ r ih =>
    intro z fuel hz hf
    obtain ⟨fuel, rfl⟩ : ∃ z, fuel = z + 1 := ⟨fuel - 1, by omega⟩
    have ih1 := ih (z + 1) fuel (by omega) (by omega)
    obtain ⟨x, hx, ex⟩ := F z (by omega)
    have ef : hI h (q + 3 + 4 * j + 1) (4 * k + z) = nI x := by
      rw [((S.2.2.2 j hj).2.2.1 (4 * k + z) (by omega)).2 (by rw [ex]; exact nI_nm1 (by omega)), ex]
    have Px : PeR h (q + 2 + 1 + 4 * x) x M := S.2.2.2 x hx
    rw [f_X2_lookAt_l8_s, e1, if_neg (nI_ge (by omega) (by omega)), nI_4b, if_pos (inb_nI (by omega) (by decide)), nI_clamp (by omega), ef, if_pos (inb_nI (by omega) (by decide)), nI_clamp (by omega), Px.1.1]
    unfold f_X2_lookAt_j60 f_X2_lookAt_j61
    rw [nI_1]
    rw [show seM M j k (z + 1) = seM M j k z ||| ((1 : Int32) <<< (pc M j (15 + (4 * k + z)) &&& 31)) from rfl, show wlM M j k (z + 1) = (wlM M j k z && decide (pc M (pc M j (15 + (4 * k + z))).toNatClampNeg 0 ≠ 2)) from rfl, ex, nI_clamp (by omega)] at ih1
    generalize wlM M j k z = X at ih1 ⊢
    cases X
    · rw [if_pos (show b01 false = 0 from rfl)]
      rw [Bool.false_and] at ih1
      exact ih1
    · rw [if_neg (show ¬ b01 true = 0 by decide)]
      rw [Bool.true_and] at ih1
      by_cases c : pc M x 0 = 2
      · rw [if_pos c]
        rw [show decide (pc M x 0 ≠ 2) = false by simp [c]] at ih1
        exact ih1
      · rw [if_neg c]
        rw [show decide (pc M x 0 ≠ 2) = true by simp [c]] at ih1
        exact ih1
theorem c_look {h : Hp} {q n p b j k : Nat} {M : MS} (S : SwR h q M n) (W : WFs M n p b) (hj : j < n) (hk : k < p) (F : fulM M n b j k) : ∃ h2, f_X2_lookAt h q (q + 3 + 4 * j) (nI k) = some h2 ∧ (∀ z, z < q ∨ q + 27 ≤ z → same h h2 z) ∧ SwR h2 q (lkM M n b j k) n := by
  obtain ⟨w0, w1, w2, -⟩ := id W
  have hn := w0.2
  have hp := w1.2.2
  have L := c_look_l S hj hn (by omega : k < 8) w2.1 w2.2.2 F b 0 fu (by omega) (by show b < 5000; omega)
  have S1 := SwR_l hj hn (by omega : k < 8) S
  have P1 := S1.2.2.2 j hj
  unfold f_X2_lookAt f_X1_loseBlocks f_X2_lookAt_j110
  rw [show f_X2_lookAt_l8 h q (q + 3 + 4 * j) (nI k) fu 0 1 0 = _ from L, bn2_some, bn1_some, nI_x4]
  generalize hg : sI h (q + 3 + 4 * j) 3 (hI h (q + 3 + 4 * j) 3 &&& (((15 : Int32) <<< (nI (4 * k) &&& 31)) ^^^ (-1))) = g at S1 P1 ⊢
  have fg : ∀ z, z < q ∨ q + 27 ≤ z → same h g z := fun z hz => by rw [← hg]; exact same_sI (by omega)
  unfold lkM
  cases hw : wlM M j k b
  · rw [if_pos (show b01 false = 0 from rfl), if_neg (show ¬ false = true by decide)]
    have e8 : hI g q 8 = M.1 7 := S1.1.2.2.2.2.2.2.2.2.trans (clrP_N M j k (by decide) 4)
    have S2 := SwR_sf (f := 8) (M.1 7 + 1) hn (by decide) (by decide) S1
    rw [show scol 8 = 7 from rfl] at S2
    obtain ⟨h2, d1, d2, d3⟩ := c_susp (S := seM M j k b) hj hn (by rw [updN_ne _ _ (by decide), clrP_N _ _ _ (by decide)]; exact w0.1) S2
    rw [e8, d1, bn1_some]
    refine ⟨h2, rfl, fun z hz => same_tr (fg z hz) (same_tr (same_sI (by omega)) (d2 z (by omega))), ?_⟩
    rw [← clr_updN (by decide), su_clr (by omega) n hn] at d3
    exact d3
  · rw [if_neg (show ¬ b01 true = 0 by decide), if_pos rfl]
    have e2 : hI g (q + 3 + 4 * j) 2 = pc M j 2 := by
      rw [P1.1.2.2.1, clrP_c M (by omega) (by decide) 4 (by omega), if_neg (by omega)]
    rw [e2]
    have S2 := SwR_f (f := 2) (pc M j 2 ||| ((1 : Int32) <<< (nI k &&& 31))) hj hn (by decide) (by decide) S1
    refine ⟨_, rfl, fun z hz => same_tr (fg z hz) (same_sI (by omega)), ?_⟩
    unfold gvM
    rw [clr_setP (by decide)]
    exact S2
theorem ful_of {M : MS} {n p b j k : Nat} (W : WFs M n p b) (hj : j < n) (hk : k < 8) (h : fbT (hdM M j) b k = none) : fulM M n b j k := by
  intro z hz
  unfold fbT at h
  rw [lsF_none] at h
  have h1 := h z (by omega) (by omega)
  have hb := W.2.2.1.2.2
  unfold hdM at h1
  simp at h1
  rcases (W.2.2.2.2.2.1 j hj).2.2.2.2.2.2 (4 * k + z) (by omega) with q | q
  · exact absurd q h1
  · exact q.1
theorem c_send2 {h : Hp} {w q n p b i j k : Nat} {M : MS} (hd : q + 27 ≤ w) (W : WFs M n p b) (hi : i < n) (hj : j < n) (hk1 : k / 4 < p) (hk2 : k % 4 < b) (S : SwR h q (if pc M i 0 = 2 then updN (setP M i 6 (pc M i 6 + 1)) 5 (M.1 5 + 1) else setP M i 6 (pc M i 6 + 1)) n) : ∃ h2, f_X2_sendOne_j52 h w q (nI i) (nI j) (nI k) (q + 3 + 4 * j) (nI (k / 4)) = some h2 ∧ (∀ z, z < q ∨ q + 27 ≤ z → z ≠ w + 4 → same h h2 z) ∧ SwR h2 q (sdM M n b i j k) n ∧ hI h2 (w + 4) = upd (hI h (w + 4)) (6 * j + i) (hI h (w + 4) (6 * j + i) + 1) := by
  obtain ⟨w0, w1, w2, -⟩ := id W
  have hn := w0.2
  have hp := w1.2.2
  have hb := w2.2.2
  have hk : k < 32 := by omega
  have W1 := snM_WFs hi hj hk1 hk2 W
  generalize hA : (if pc M i 0 = 2 then updN (setP M i 6 (pc M i 6 + 1)) 5 (M.1 5 + 1) else setP M i 6 (pc M i 6 + 1)) = A at S
  have a7 : pc A j 7 = pc M j 7 := by
    rw [← hA]
    split
    · rw [pc_updN (by decide), setP_c _ _ (by decide) (by decide) (by omega)]
    · rw [setP_c _ _ (by decide) (by decide) (by omega)]
  have e8 : hI h (q + 3 + 4 * j) 8 = pc M j 7 := (S.2.2.2 j hj).1.2.2.2.2.2.2.2.trans a7
  have S1 := SwR_f (f := 8) (pc M j 7 + 1) hj hn (by decide) (by decide) S
  have S2 := SwR_4 (M.1 4 + 1) (SwR_b (nI i) hj hn hk (nI_nm1 (by omega)) S1)
  have eq : updN (setP (setP A j (fcol 8) (pc M j 7 + 1)) j (15 + k) (nI i)) 4 (M.1 4 + 1) = snM M i j k := by
    unfold snM; rw [hA]; rfl
  rw [eq] at S2
  have ix : nI j * (6 : Int32) + nI i = nI (6 * j + i) := by rw [show (6 : Int32) = nI 6 from rfl, nI_mulE, nI_add, Nat.mul_comm]
  unfold f_X2_sendOne_j52 f_X2_sendOne_j123
  rw [if_pos (inb_nI hk (by decide)), ix, if_pos (inb_nI (by omega) (by decide)), if_pos (inb_nI (by omega) (by decide)), nI_clamp (by omega), nI_clamp (by omega), e8]
  generalize hg : sI (sI (sI h (q + 3 + 4 * j) 8 (pc M j 7 + 1)) (q + 3 + 4 * j) 3 (hI (sI h (q + 3 + 4 * j) 8 (pc M j 7 + 1)) (q + 3 + 4 * j) 3 ||| ((1 : Int32) <<< (nI k &&& 31)))) (q + 3 + 4 * j + 1) k (nI i) = g at S2 ⊢
  have fg : ∀ z, z < q ∨ q + 27 ≤ z → same h g z := fun z hz => by rw [← hg]; exact same_tr (same_sI (by omega)) (same_tr (same_sI (by omega)) (same_sI (by omega)))
  have ec : hI g (w + 4) = hI h (w + 4) := funext fun x => hI_eq (fg _ (by omega)).1 x
  rw [ec]
  generalize hg2 : sI g (w + 4) (6 * j + i) (hI h (w + 4) (6 * j + i) + 1) = g2
  have f2 : ∀ z, z ≠ w + 4 → same g g2 z := fun z hz => by rw [← hg2]; exact same_sI hz
  have S3 : SwR g2 q (snM M i j k) n := SwR_congr hn (fun a g1 g3 => (f2 a (by omega)).1) (f2 q (by omega)).2.1 (fun a g1 g3 => (f2 a (by omega)).2.2) S2
  have cE : hI g2 (w + 4) = upd (hI h (w + 4)) (6 * j + i) (hI h (w + 4) (6 * j + i) + 1) := by rw [← hg2, hI_sIr, ec]
  have hX : ∀ x, x < 32 → bitb (hI g2 (q + 3 + 4 * j) 3) x = hdM (snM M i j k) j x := fun x hx => ((S3.2.2.2 j hj).2.2.1 x hx).1
  rw [x2_missing S3 W1.2.2.1.1 w2.2.1 hb hX (by omega), bn1_some]
  unfold sdM
  cases hfb : fbT (hdM (snM M i j k) j) b (k / 4) with
  | none =>
    rw [if_pos (show b01 (none : Option Nat).isSome = 0 from rfl), if_pos rfl]
    obtain ⟨h2, d1, d2, d3⟩ := c_look S3 W1 hj hk1 (ful_of W1 hj (by omega) hfb)
    rw [d1, bn1_some]
    refine ⟨h2, rfl, fun z g1 g3 => same_tr (fg z g1) (same_tr (f2 z g3) (d2 z g1)), d3, ?_⟩
    rw [← cE]
    exact funext fun x => hI_eq (d2 _ (by omega)).1 x
  | some z =>
    rw [if_neg (show ¬ b01 (some z).isSome = 0 from (by decide : ¬ b01 true = 0)), if_neg (by intro q; cases q)]
    exact ⟨g2, rfl, fun z g1 g3 => same_tr (fg z g1) (f2 z g3), S3, cE⟩
theorem c_send {h : Hp} {w q n p b i j k : Nat} {M : MS} (hd : q + 27 ≤ w) (S : SwR h q M n) (W : WFs M n p b) (hi : i < n) (hj : j < n) (hk1 : k / 4 < p) (hk2 : k % 4 < b) : ∃ h2, f_X2_sendOne h w q (nI i) (nI j) (nI k) = some h2 ∧ (∀ z, z < q ∨ q + 27 ≤ z → z ≠ w + 4 → same h h2 z) ∧ SwR h2 q (sdM M n b i j k) n ∧ hI h2 (w + 4) = upd (hI h (w + 4)) (6 * j + i) (hI h (w + 4) (6 * j + i) + 1) := by
  have hn := W.1.2
  have hp := W.2.1.2.2
  have hb := W.2.2.1.2.2
  have Pi := S.2.2.2 i hi
  have e7 : hI h (q + 3 + 4 * i) 7 = pc M i 6 := Pi.1.2.2.2.2.2.2.1
  have e0 : hI h (q + 3 + 4 * i) 0 = pc M i 0 := Pi.1.1
  have e6 : hI h q 6 = M.1 5 := S.1.2.2.2.2.2.2.1
  have S1 := SwR_f (f := 7) (pc M i 6 + 1) hi hn (by decide) (by decide) S
  unfold f_X2_sendOne
  rw [if_pos (inb_nI (by omega) (by decide)), if_pos (inb_nI (by omega) (by decide)), nI_clamp (by omega), nI_clamp (by omega), show q + 2 + 1 + 4 * i = q + 3 + 4 * i by omega, show q + 2 + 1 + 4 * j = q + 3 + 4 * j by omega, e7, hI_sIj _ _ _ (show (0 : Nat) ≠ 7 by decide), e0, hI_sIb _ _ _ _ (show q ≠ q + 3 + 4 * i by omega), e6, (div4 k (by omega)).1]
  by_cases c : pc M i 0 = 2
  · rw [if_pos c]
    have S2 := SwR_sf (f := 6) (M.1 5 + 1) hn (by decide) (by decide) S1
    obtain ⟨h2, d1, d2, d3, d4⟩ := c_send2 (h := sI (sI h (q + 3 + 4 * i) 7 (pc M i 6 + 1)) q 6 (M.1 5 + 1)) hd W hi hj hk1 hk2 (by rw [if_pos c]; exact S2)
    have ec : hI (sI (sI h (q + 3 + 4 * i) 7 (pc M i 6 + 1)) q 6 (M.1 5 + 1)) (w + 4) = hI h (w + 4) := funext fun x => by rw [hI_sIb _ _ _ _ (by omega), hI_sIb _ _ _ _ (by omega)]
    rw [ec] at d4
    exact ⟨h2, d1, fun z g1 g3 => same_tr (same_tr (same_sI (by omega)) (same_sI (by omega))) (d2 z g1 g3), d3, d4⟩
  · rw [if_neg c]
    obtain ⟨h2, d1, d2, d3, d4⟩ := c_send2 (h := sI h (q + 3 + 4 * i) 7 (pc M i 6 + 1)) hd W hi hj hk1 hk2 (by rw [if_neg c]; exact S1)
    have ec : hI (sI h (q + 3 + 4 * i) 7 (pc M i 6 + 1)) (w + 4) = hI h (w + 4) := funext fun x => by rw [hI_sIb _ _ _ _ (by omega)]
    rw [ec] at d4
    exact ⟨h2, d1, fun z g1 g3 => same_tr (same_sI (by omega)) (d2 z g1 g3), d3, d4⟩
