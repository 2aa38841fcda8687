/-! A ROUND -/
def s8 (M : MS) : Nat := (M.1 8).toNatClampNeg
def s9 (M : MS) : Nat := (M.1 9).toNatClampNeg
def o1M (M : MS) (n : Nat) : MS := opsM M n (s8 M) n
def a1M (M : MS) (n p b : Nat) : MS × (Nat → Int32) := alM (spM (o1M M n) n p b) n b (o1M M n) (fun _ => 0) n
def f1M (M : MS) (n p b : Nat) : MS := fdM (a1M M n p b).1 (s9 M) (a1M M n p b).2
def rdM (M : MS) (n p b : Nat) : MS := updN (f1M M n p b) 3 ((f1M M n p b).1 3 + 1)
theorem s8_ok {M : MS} {n p b : Nat} (W : WFs M n p b) : M.1 8 = nI (s8 M) ∧ 1 ≤ s8 M ∧ s8 M ≤ 4 := by
  obtain ⟨s, e, h1, h4⟩ := W.2.2.2.1.1
  unfold s8
  rw [e, nI_clamp (by omega)]
  exact ⟨rfl, h1, h4⟩
theorem s9_ok {M : MS} {n p b : Nat} (W : WFs M n p b) : M.1 9 = nI (s9 M) ∧ s9 M ≤ 9 := by
  obtain ⟨s, e, h9⟩ := W.2.2.2.1.2.1
  unfold s9
  rw [e, nI_clamp (by omega)]
  exact ⟨rfl, h9⟩
theorem sp_ok {M : MS} {n p b : Nat} (hb : b ≤ 4) : okA (spM M n p b) p b := fun _ _ _ h => spM_lt hb h
theorem o1_WFs {M : MS} {n p b : Nat} (W : WFs M n p b) : WFs (o1M M n) n p b := opsM_WFs W n (Nat.le_refl _)
theorem o1_W (M : MS) (n : Nat) : eqW M (o1M M n) := eqW_ops M n (s8 M) n
theorem a1_ok {M : MS} {n p b : Nat} (W : WFs M n p b) : WFs (a1M M n p b).1 n p b ∧ (a1M M n p b).1.2 = (o1M M n).2 ∧ (a1M M n p b).1.1 3 = (o1M M n).1 3 ∧ (∀ z, ∃ d, d ≤ 4 ∧ (n ≤ z → d = 0) ∧ pc (a1M M n p b).1 z 6 = pc (o1M M n) z 6 + nI d) ∧ (∀ z, ∃ d, d ≤ n ∧ pc (a1M M n p b).1 z 7 = pc (o1M M n) z 7 + nI d) ∧ (∀ c, (a1M M n p b).2 c = 0 ∨ ((∃ i' j', i' < n ∧ j' < n ∧ c = 6 * j' + i') ∧ (a1M M n p b).2 c = 0 + 1)) := al_ok (C := fun _ => 0) (o1_WFs W) (sp_ok (M := o1M M n) (n := n) (p := p) W.2.2.1.2.2) n (Nat.le_refl _)
theorem a1_C {M : MS} {n p b c : Nat} (W : WFs M n p b) : (a1M M n p b).2 c = 0 ∨ (a1M M n p b).2 c = 1 := by
  rcases (a1_ok W).2.2.2.2.2 c with q | ⟨-, q⟩
  · exact Or.inl q
  · exact Or.inr q
theorem a1_C0 {M : MS} {n p b i j : Nat} (W : WFs M n p b) (hi : i < 6) (hj : j < 6) (h : n ≤ i ∨ n ≤ j) : (a1M M n p b).2 (6 * i + j) = 0 := by
  have hn := W.1.2
  rcases (a1_ok W).2.2.2.2.2 (6 * i + j) with q | ⟨⟨i', j', q1, q2, q3⟩, q⟩
  · exact q
  · omega
theorem a1_9 {M : MS} {n p b : Nat} (W : WFs M n p b) : (a1M M n p b).1.2.1 = M.2.1 := by
  have := (a1_ok W).2.1
  have h2 : (a1M M n p b).1.2 = (o1M M n).2 := this
  rw [h2, (o1_W M n).2.2]
theorem al_9 {A : Nat → Nat → Option Nat} {n b : Nat} {M : MS} {C : Nat → Int32} {x : Nat} (hx : 8 ≤ x ∧ x < 14) : ∀ i, (alM A n b M C i).1.1 x = M.1 x
  | 0 => rfl
  | i + 1 => by
    have ih := al_9 (A := A) (n := n) (b := b) (M := M) (C := C) hx i
    have st : ∀ j, (anM A n b i (alM A n b M C i).1 (alM A n b M C i).2 j).1.1 x = (alM A n b M C i).1.1 x := by
      intro j
      induction j with
      | zero => rfl
      | succ j ihj =>
        cases hk : A j i with
        | none => rw [anM_none hk]; exact ihj
        | some k =>
          rw [anM_some hk]
          split
          · exact (updN_ne _ _ (by omega)).trans ihj
          · split
            · exact ihj
            · refine Eq.trans ?_ ihj
              show (sdM _ n b i j k).1 x = _
              unfold sdM lkM
              split
              · split
                · rw [gvM_N _ _ _ (by omega), snM_N (by omega) (by omega) (by omega)]
                · rw [clrP_N _ _ _ (by omega), suM_N (by omega), updN_ne _ _ (by omega), snM_N (by omega) (by omega) (by omega)]
              · rw [snM_N (by omega) (by omega) (by omega)]
    exact (st n).trans ih
theorem a1_9s {M : MS} {n p b : Nat} : (a1M M n p b).1.1 9 = M.1 9 := (al_9 (by decide) n).trans ((o1_W M n).1 9 (by decide))
theorem f1_WFs {M : MS} {n p b : Nat} (W : WFs M n p b) : WFs (f1M M n p b) n p b := by
  obtain ⟨w0, w1, w2, ws, wt, wP, wR, wr⟩ := (a1_ok W).1
  have h9 := (s9_ok W).2
  refine ⟨w0, w1, w2, ws, wt, wP, fun i j hi hj h => ?_, fun c hc => ?_⟩
  · show (if 6 * i + j < 36 then nrF ((a1M M n p b).1.2.1 (6 * i + j)) (s9 M) ((a1M M n p b).2 (6 * i + j)) else (a1M M n p b).1.2.1 (6 * i + j)) = 0
    have e0 : (a1M M n p b).1.2.1 (6 * i + j) = 0 := wR i j hi hj h
    rw [if_pos (by omega), e0, a1_C0 W hi hj h]
    exact (fdF_ok (s9 M) (by omega)).2
  · show rOK (if c < 36 then nrF ((a1M M n p b).1.2.1 c) (s9 M) ((a1M M n p b).2 c) else (a1M M n p b).1.2.1 c)
    rw [if_pos hc]
    exact (nrF_ok (wr c hc) h9 (a1_C W)).2.2
theorem up3_WFs {M : MS} {n p b : Nat} {v : Int32} (H : WFs M n p b) : WFs (updN M 3 v) n p b := by
  obtain ⟨w0, w1, w2, ws, wt, wP, wR, wr⟩ := H
  have e : ∀ x, x ≠ 3 → (updN M 3 v).1 x = M.1 x := fun x hx => updN_ne M v hx
  have u : ∀ z c, pc (updN M 3 v) z c = pc M z c := fun z c => pc_updN (by omega)
  refine ⟨by rw [e 0 (by omega)]; exact w0, by rw [e 1 (by omega)]; exact w1, by rw [e 2 (by omega)]; exact w2, by rw [e 8 (by omega), e 9 (by omega), e 10 (by omega), e 11 (by omega)]; exact ws, ?_, fun z hz => wP z hz |> fun q => ?_, wR, wr⟩
  · rw [e 4 (by omega), wt]
    exact (eqv_sum (fun z hz => u z 6)).symm
  · obtain ⟨a1, a2, a3, a5, a6, a7, a9⟩ := q
    exact ⟨by rw [u z 0, u z 3]; exact a1, by rw [u z 1]; exact a2, by rw [u z 2]; exact a3, by rw [u z 3]; exact a5, by rw [u z 4]; exact a6, by rw [u z 5]; exact a7, fun x hx => by rw [u z (15 + x)]; exact a9 x hx⟩
theorem rd_WF {M : MS} {n p b t : Nat} (H : WFn M n p b t) : WFn (rdM M n p b) n p b (t + 1) := by
  rw [WFn_iff] at H ⊢
  obtain ⟨W, ⟨T, t1, t2⟩, g⟩ := H
  have hn := W.1.2
  have A := a1_ok W
  have E := o1_W M n
  refine ⟨up3_WFs (f1_WFs W), ⟨T + 1, ?_, by omega⟩, fun i hi => ?_⟩
  · have : (f1M M n p b).1 3 = nI T := by
      have e1 : (a1M M n p b).1.1 3 = (o1M M n).1 3 := A.2.2.1
      show (a1M M n p b).1.1 3 = _
      rw [e1, E.1 3 (by decide), t1]
    show (updN _ 3 _).1 3 = _
    rw [updN_same, this, nI_1]
  · obtain ⟨⟨x, x1, x2⟩, ⟨y, y1, y2⟩⟩ := g i hi
    obtain ⟨d, d1, -, d3⟩ := A.2.2.2.1 i
    obtain ⟨e, e1, e2⟩ := A.2.2.2.2.1 i
    have p6 : pc (rdM M n p b) i 6 = pc (a1M M n p b).1 i 6 := pc_updN (by decide)
    have p7 : pc (rdM M n p b) i 7 = pc (a1M M n p b).1 i 7 := pc_updN (by decide)
    have x1' : x ≤ 4 * t := x1
    have y1' : y ≤ 6 * t := y1
    refine ⟨⟨x + d, by show x + d ≤ 4 * (t + 1); omega, ?_⟩, ⟨y + e, by show y + e ≤ 6 * (t + 1); omega, ?_⟩⟩
    · rw [p6]
      refine d3.trans ?_
      rw [E.2.1 i 6 (by decide) (by decide) (by decide), x2, nI_add]
    · rw [p7]
      refine e2.trans ?_
      rw [E.2.1 i 7 (by decide) (by decide) (by decide), y2, nI_add]
/-- what the class's rounds leave alone -/
def FrC (q w : Nat) (h h2 : Hp) : Prop := ∀ z, (z < q ∨ q + 27 ≤ z) → (z < w + 1 ∨ w + 5 ≤ z) → same h h2 z
theorem FrC_tr {q w : Nat} {h h1 h2 : Hp} (a : FrC q w h h1) (b : FrC q w h1 h2) : FrC q w h h2 := fun z g1 g2 => same_tr (a z g1 g2) (b z g1 g2)
theorem c_round {h : Hp} {w q n p b : Nat} {M : MS} (hd : q + 27 ≤ w) (S : SwR h q M n) (W : WFs M n p b) : ∃ h1 h3 h5 h7 h9, f_X2_findWanters h w q = some h1 ∧ f_X2_openSlots h1 w q = some h3 ∧ f_X2_askForBlocks h3 w q = some h5 ∧ f_X2_sendBlocks h5 w q = some h7 ∧ f_X2_fadeRates h7 w q = some h9 ∧ FrC q w h (sI h9 q 5 (hI h9 q 5 + 1)) ∧ SwR (sI h9 q 5 (hI h9 q 5 + 1)) q (rdM M n p b) n := by
  have hn := W.1.2
  obtain ⟨e8, e81, e84⟩ := s8_ok W
  obtain ⟨e9, e99⟩ := s9_ok W
  obtain ⟨h1, a1, a2, a3⟩ := c_wanters hd S hn W.1.1
  have S1 : SwR h1 q M n := SwR_congr hn (fun a g1 g2 => (a2 a (by omega)).1) (a2 q (by omega)).2.1 (fun a g1 g2 => (a2 a (by omega)).2.2) S
  obtain ⟨h3, b1, b2, b3⟩ := c_opens hd W e8 e81 e84 a3 S1
  have W3 := o1_WFs W
  obtain ⟨h5, c1, c2, c3⟩ := c_asks hd b3 W3
  have S5 : SwR h5 q (o1M M n) n := SwR_congr hn (fun a g1 g2 => (c2 a (by omega) (by omega)).1) (c2 q (by omega) (by omega)).2.1 (fun a g1 g2 => (c2 a (by omega) (by omega)).2.2) b3
  obtain ⟨h6, d1, d2, d3⟩ := c_zero_l (h := h5) (w := w) (q := q) 36 0 fu h5 (by omega) (by decide) (fun _ _ => same_rfl _ _) (fun x hx => absurd hx (Nat.not_lt_zero x))
  have S6 : SwR h6 q (o1M M n) n := SwR_congr hn (fun a g1 g2 => (d2 a (by omega)).1) (d2 q (by omega)).2.1 (fun a g1 g2 => (d2 a (by omega)).2.2) S5
  obtain ⟨h7, f1, f2, f3, f4⟩ := c_al_l (h := h6) (C := fun _ => 0) (A := spM (o1M M n) n p b) hd W3 (sp_ok W.2.2.1.2.2) (fun j i g1 g2 => by rw [hI_eq (d2 _ (by omega)).1]; exact c3 j i g1 g2) n 0 fu h6 (by omega) (by show n < 5000; omega) (fun _ _ _ => same_rfl _ _) S6 d3
  obtain ⟨h9, g1, g2, g3⟩ := c_fade hd f3 (a1_ok W).1 (a1_9s.trans e9) e99 f4 (fun c _ => a1_C W) (fun i j g1 g2 g3 => a1_C0 W g1 g2 g3)
  refine ⟨h1, h3, h5, h7, h9, a1, b1, c1, ?_, g1, ?_, ?_⟩
  · unfold f_X2_sendBlocks
    rw [show f_X2_sendBlocks_l2 w q fu 0 h5 = _ from d1, bn1_some, show f_X2_sendBlocks_l26 w q fu 0 h6 = _ from f1]; rfl
  · intro z z1 z2
    exact same_tr (a2 z (by omega)) (same_tr (b2 z z1) (same_tr (c2 z (by omega) (by omega)) (same_tr (d2 z (by omega)) (same_tr (f2 z z1 (by omega)) (same_tr (g2 z z1) (same_sI (by omega)))))))
  · have e5 : hI h9 q 5 = (f1M M n p b).1 3 := g3.1.2.2.2.2.2.1
    rw [e5]
    exact SwR_sf (f := 5) _ hn (by decide) (by decide) g3
theorem r_round {h : Hp} {m n p b : Nat} (W : WFs (rv h m) n p b) : ∃ h2, f_X6_round h m = some h2 ∧ FrR m h h2 ∧ rv h2 m = rdM (rv h m) n p b := by
  have hn := W.1.2
  obtain ⟨e8, e81, e84⟩ := s8_ok W
  obtain ⟨e9, e99⟩ := s9_ok W
  obtain ⟨h3, b1, b2, b3⟩ := r_ops_l (h := h) (m := m) W e8 e81 e84 n 0 fu h (by omega) (by show n < 5000; omega) (FrR_rfl _ _) rfl
  have b3 : rv h3 m = o1M (rv h m) n := b3
  have W3 := o1_WFs W
  obtain ⟨h5, c1, c2, c3⟩ := r_asks_l (h := h3) (m := m) (n := n) (p := p) (b := b) (by rw [b3]; exact W3) n 0 fu h3 (by omega) (by show n < 5000; omega) (fun _ _ _ => same_rfl _ _) (fun j' i' g1 _ => absurd g1 (Nat.not_lt_zero j'))
  have r5 : rv h5 m = o1M (rv h m) n := by
    rw [← b3]
    unfold rv hI hF hL
    rw [(c2 (m + 2) (by omega) (by omega)).1, (c2 (m + 3) (by omega) (by omega)).2.2, (c2 m (by omega) (by omega)).2.1]
  obtain ⟨h6, d1, d2, d3⟩ := r_zero_l (h := h5) (m := m) 36 0 fu h5 (by omega) (by decide) (fun _ _ => same_rfl _ _) (fun x hx => absurd hx (Nat.not_lt_zero x))
  have r6 : rv h6 m = o1M (rv h m) n := by
    rw [← r5]
    unfold rv hI hF hL
    rw [(d2 (m + 2) (by omega)).1, (d2 (m + 3) (by omega)).2.2, (d2 m (by omega)).2.1]
  rw [b3] at c3
  obtain ⟨h7, f1, f2, f3, f4⟩ := r_al_l (h := h6) (m := m) (C := fun _ => 0) (A := spM (o1M (rv h m) n) n p b) W3 (sp_ok W.2.2.1.2.2) (fun j i g1 g2 => by rw [hI_eq (d2 _ (by omega)).1]; exact c3 j i g1 g2) n 0 fu h6 (by omega) (by show n < 5000; omega) (fun _ _ _ => same_rfl _ _) r6 d3
  have f3 : rv h7 m = (a1M (rv h m) n p b).1 := f3
  have f4 : ∀ c, c < 36 → hI h7 (m + 9) c = (a1M (rv h m) n p b).2 c := f4
  have e9' : hI h7 (m + 2) (9 : Int32).toNatClampNeg = nI (s9 (rv h m)) := by
    have := congrArg (fun z : MS => z.1 9) f3
    exact this.trans (a1_9s.trans e9)
  obtain ⟨h9, g1, g2, g3⟩ := r_fade (h := h7) (m := m) (s := s9 (rv h m)) e99 (by rw [f3]; exact (a1_ok W).1.2.2.2.2.2.2.2) (fun c hc => by rw [f4 c hc]; exact a1_C W)
  have g4 : rv h9 m = f1M (rv h m) n p b := by
    rw [g3, f3]
    unfold f1M fdM
    refine Prod.ext rfl (Prod.ext ?_ rfl)
    funext c
    show (if c < 36 then nrF _ _ (hI h7 (m + 9) c) else _) = (if c < 36 then nrF _ _ ((a1M (rv h m) n p b).2 c) else _)
    by_cases hc : c < 36
    · rw [if_pos hc, if_pos hc, f4 c hc]
    · rw [if_neg hc, if_neg hc]
  have nf : nn32 (fdF (s9 (rv h m))) = true := nn32_le (by have := (fdF_ok (s9 (rv h m)) (by omega)).1; omega)
  have e3 : hI h9 (m + 2) (3 : Int32).toNatClampNeg = (f1M (rv h m) n p b).1 3 := congrArg (fun z : MS => z.1 3) g4
  refine ⟨sI h9 (m + 2) 3 ((f1M (rv h m) n p b).1 3 + 1), ?_, ?_, ?_⟩
  · unfold f_X6_round
    rw [show f_X6_round_l2 m fu 0 h = _ from b1, bn1_some, show f_X6_round_l47 m fu 0 h3 = _ from c1, bn1_some, show f_X6_round_l70 m fu 0 h5 = _ from d1, bn1_some, show f_X6_round_l91 m fu 0 h6 = _ from f1, bn1_some, e9', if_pos (show nn32 (FP.fdiv (FP.i2f (nI (s9 (rv h m)))) 1092616192) = true from nf), show f_X6_round_l126 m (FP.fdiv (FP.i2f (nI (s9 (rv h m)))) 1092616192) fu 0 h7 = _ from g1, bn1_some, e3]; rfl
  · refine FrR_tr b2 (FrR_tr ⟨fun z g1 g2 g3 g4 g5 g6 => c2 z g4 g5, fun k => hI_eq (c2 m (by omega) (by omega)).1 k⟩ (FrR_tr ⟨fun z g1 g2 g3 g4 g5 g6 => d2 z g6, fun k => hI_eq (d2 m (by omega)).1 k⟩ (FrR_tr ⟨fun z g1 g2 g3 g4 g5 g6 => f2 z g2 g6, fun k => hI_eq (f2 m (by omega) (by omega)).1 k⟩ (FrR_tr ⟨fun z g1 g3 g4 g5 g6 g7 => g2 z g4, fun k => hI_eq (g2 m (by omega)).1 k⟩ (FrR_sI (Or.inl rfl))))))
  · rw [rv_sI, g4]; rfl
def rdsM (M : MS) (n p b : Nat) : Nat → MS
  | 0 => M
  | k + 1 => rdM (rdsM M n p b k) n p b
theorem rds_WF {M : MS} {n p b t : Nat} (H : WFn M n p b t) : ∀ k, WFn (rdsM M n p b k) n p b (t + k)
  | 0 => H
  | k + 1 => rd_WF (rds_WF H k)
theorem WFn_s {M : MS} {n p b t : Nat} (H : WFn M n p b t) : WFs M n p b := (WFn_iff.mp H).1
theorem c_run_l {h : Hp} {w q n p b t N : Nat} {M : MS} (hd : q + 27 ≤ w) (H : WFn M n p b t) (hN : N ≤ 90) : ∀ (r k fuel : Nat) (hh : Hp), k + r = N → r < fuel → FrC q w h hh → SwR hh q (rdsM M n p b k) n → ∃ h2, f_X2_runSome_l2 w q (nI N) fuel (nI k) hh = some h2 ∧ FrC q w h h2 ∧ SwR h2 q (rdsM M n p b N) n := by
  intro r
  induction r with
  | zero =>
    intro k fuel hh hk hf e1 e2
    obtain ⟨fuel, rfl⟩ : ∃ z, fuel = z + 1 := ⟨fuel - 1, by omega⟩
    have : k = N := by omega
    subst this
    exact ⟨hh, by rw [f_X2_runSome_l2_s, if_pos (Int32.le_refl _)], e1, e2⟩
  | succ r ih =>
    intro k fuel hh hk hf e1 e2
    obtain ⟨fuel, rfl⟩ : ∃ z, fuel = z + 1 := ⟨fuel - 1, by omega⟩
    obtain ⟨h1, h3, h5, h7, h9, a1, a3, a5, a7, a9, f, S⟩ := c_round hd e2 (WFn_s (rds_WF H k))
    rw [f_X2_runSome_l2_s, if_neg (nI_ge (by omega) (by omega)), a1, bn1_some, a3, bn1_some, a5, bn1_some, a7, bn1_some, a9, bn1_some, nI_1]
    exact ih (k + 1) fuel _ (by omega) (by omega) (FrC_tr e1 f) S
theorem c_run {h : Hp} {w q n p b t N : Nat} {M : MS} (hd : q + 27 ≤ w) (H : WFn M n p b t) (hN : N ≤ 90) (S : SwR h q M n) : ∃ h2, f_X2_runSome h w q (nI N) = some h2 ∧ FrC q w h h2 ∧ SwR h2 q (rdsM M n p b N) n := by
  obtain ⟨h2, a, b, c⟩ := c_run_l (h := h) hd H hN N 0 fu h (by omega) (by show N < 5000; omega) (fun _ _ _ => same_rfl _ _) S
  refine ⟨h2, ?_, b, c⟩
  unfold f_X2_runSome
  rw [show f_X2_runSome_l2 w q (nI N) fu 0 h = _ from a]; rfl
theorem r_run_l {h : Hp} {m n p b t N : Nat} {M : MS} (H : WFn M n p b t) (hN : N ≤ 90) : ∀ (r k fuel : Nat) (hh : Hp), k + r = N → r < fuel → FrR m h hh → rv hh m = rdsM M n p b k → ∃ h2, f_X6_goRounds_l2 m (nI N) fuel (nI k) hh = some h2 ∧ FrR m h h2 ∧ rv h2 m = rdsM M n p b N := by
  intro r
  induction r with
  | zero =>
    intro k fuel hh hk hf e1 e2
    obtain ⟨fuel, rfl⟩ : ∃ z, fuel = z + 1 := ⟨fuel - 1, by omega⟩
    have : k = N := by omega
    subst this
    exact ⟨hh, by rw [f_X6_goRounds_l2_s, if_pos (Int32.le_refl _)], e1, e2⟩
  | succ r ih =>
    intro k fuel hh hk hf e1 e2
    obtain ⟨fuel, rfl⟩ : ∃ z, fuel = z + 1 := ⟨fuel - 1, by omega⟩
    obtain ⟨h1, a1, a2, a3⟩ := r_round (h := hh) (m := m) (n := n) (p := p) (b := b) (by rw [e2]; exact WFn_s (rds_WF H k))
    rw [f_X6_goRounds_l2_s, if_neg (nI_ge (by omega) (by omega)), a1, bn1_some, nI_1]
    exact ih (k + 1) fuel _ (by omega) (by omega) (FrR_tr e1 a2) (by rw [a3, e2]; rfl)
theorem r_run {h : Hp} {m n p b t N : Nat} {M : MS} (H : WFn M n p b t) (hN : N ≤ 90) (hM : rv h m = M) : ∃ h2, f_X6_goRounds h m (nI N) = some ((rdsM M n p b N).1 3, h2) ∧ FrR m h h2 ∧ rv h2 m = rdsM M n p b N := by
  obtain ⟨h2, a, b, c⟩ := r_run_l (h := h) (m := m) H hN N 0 fu h (by omega) (by show N < 5000; omega) (FrR_rfl _ _) hM
  refine ⟨h2, ?_, b, c⟩
  unfold f_X6_goRounds
  rw [show f_X6_goRounds_l2 m (nI N) fu 0 h = _ from a, bn1_some, show hI h2 (m + 2) (3 : Int32).toNatClampNeg = (rdsM M n p _ N).1 3 from congrArg (fun z : MS => z.1 3) c]
theorem op_rounds (o : Nat) : Op_rounds o (Inv o) := by
  intro c h _ H v
  obtain ⟨n, p, b, S, Wf⟩ := id H.1
  rcases rng_or v (a := 1) (b := 30) (by decide) (by decide) with ⟨N, x1, x2, rfl⟩ | hv0
  · have R : inr (nI N) 1 30 := rng_in (a := 1) (b := 30) (by decide) x1 x2
    obtain ⟨h1, h2, e1, e2, e3⟩ := mut_pair H (F := fun h3 => bn1 (f_X2_runSome h3 (o + 164) (o + 1) (nI N)) (fun h5 => some (hI h5 (o + 1) 5, h5))) (G := fun h3 => bn2 (f_X6_goRounds h3 (o + 174) (nI N)) (fun v5 h6 => some (v5, h6))) (v := (rdsM (rv h (o + 174)) n p b N).1 3) S Wf (rdsM (rv h (o + 174)) n p b N)
      (fun h1 S1 => by
        obtain ⟨h2, q1, q2, q3⟩ := c_run (w := o + 164) (by omega) Wf (show N ≤ 90 by omega) S1
        exact ⟨h2, by rw [q1, bn1_some, q3.1.2.2.2.2.2.1], fun b g1 g2 => q2 b (by omega) (by omega), Sim_up (by omega) q3 (rds_WF Wf N)⟩)
      (fun h3 r3 => by
        obtain ⟨h4, q1, q2, q3⟩ := r_run (h := h3) (m := o + 174) Wf (show N ≤ 90 by omega) r3
        exact ⟨h4, by rw [q1]; rfl, fun b g1 g2 g3 g4 g5 g6 => q2.1 b (by omega) (by omega) (by omega) (by omega) (by omega) (by omega), q2.2, eqv_of q3⟩)
    refine ⟨(rdsM (rv h (o + 174)) n p b N).1 3, h1, h2, ?_, ?_, e3⟩
    · unfold f_X5_rounds f_X5_areRounds
      rw [if_neg R.1, if_neg R.2, bn1_some, if_neg (by decide)]
      exact e1
    · unfold f_X6_rounds
      rw [x6_in_t R, bn1_some, if_neg (by decide)]
      exact e2
  · have hv : ¬ inr v 1 30 := hv0
    refine bad_pair H (G := fun g => f_X6_rounds g (o + 174) v) ?_ (fun g hg => ?_)
    · unfold f_X5_rounds f_X5_areRounds f_X5_areRounds_j15
      by_cases q1 : v < 1
      · rw [if_pos q1, bn1_some, if_pos rfl]
      · by_cases q2 : 30 < v
        · rw [if_neg q1, if_pos q2, bn1_some, if_pos rfl]
        · exact absurd ⟨q1, q2⟩ hv
    · show f_X6_rounds g (o + 174) v = _
      unfold f_X6_rounds
      rw [x6_in_f hv, bn1_some, if_pos rfl]
