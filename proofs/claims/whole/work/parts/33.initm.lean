theorem apE_lt {n k : Nat} {E F : Nat → va_E} (h : k < n) : apE n E F k = E k := by unfold apE; rw [if_pos h]
theorem apE_ge {n k : Nat} {E F : Nat → va_E} (h : n ≤ k) : apE n E F k = F (k - n) := by unfold apE; rw [if_neg (Nat.not_lt.mpr h)]
theorem hz_at (a : Nat) : hz0.1 a = (fun _ => 0) ∧ hz0.2.1 a = (fun _ => 0) ∧ hz0.2.2 a = (fun _ => 0) := ⟨rfl, rfl, rfl⟩
theorem lays0 (m : Nat) : ∃ H1 : Hp, f_X6_lays hz0 m 4 2 = some H1 ∧ H1.1 (m + 2) = nwF ∧ (∀ a, a ≠ m + 2 → H1.1 a = fun _ => 0) ∧ H1.2.1 m = moL ∧ (∀ a, a ≠ m → H1.2.1 a = fun _ => 0) ∧ (∀ a, H1.2.2 a = fun _ => 0) := by
  refine ⟨_, lays_eq hz0 m 4 2, ?_, ?_, ?_, ?_, ?_⟩
  · funext j
    simp only [sL, sI, mxF, mxI, ufn, upd, pre, nwF, hz0, if_true]
    repeat' split
    all_goals first | rfl | omega
  · intro a ha
    funext j
    simp only [sL, sI, mxF, mxI, ufn, upd, pre, hz0, if_neg ha]
  · funext j
    simp only [sL, sI, mxF, mxI, ufn, vp_updL, moL, hz0, if_true]
  · intro a ha
    funext j
    simp only [sL, sI, mxF, mxI, ufn, hz0, if_neg ha]
  · intro a
    funext j
    simp only [sL, sI, mxF, mxI, ufn, pre, hz0]
    repeat' split
    all_goals first | rfl | (unfold pre; split <;> rfl)
theorem startAnew0 (q : Nat) : ∃ H1 : Hp, f_X3_startAnew hz0 q 4 2 = some H1 ∧ H1.1 q = swF ∧ H1.1 (q + 1) = seF ∧ (∀ a, a ≠ q → a ≠ q + 1 → H1.1 a = fun _ => 0) ∧ H1.2.1 q = swL ∧ (∀ a, a ≠ q → H1.2.1 a = fun _ => 0) ∧ (∀ a, H1.2.2 a = fun _ => 0) := by
  have n1 : ¬ q = q + 1 := by omega
  have n2 : ¬ q + 1 = q := by omega
  refine ⟨_, startAnew_eq hz0 q 4 2, ?_, ?_, ?_, ?_, ?_, ?_⟩
  · funext j
    simp only [sL, sI, ufn, upd, swF, hz0, if_true, if_neg n1, if_neg n2]
    repeat' split
    all_goals first | rfl | omega
  · funext j
    simp only [sL, sI, ufn, upd, seF, hz0, if_true, if_neg n1, if_neg n2]
  · intro a h1 h2
    funext j
    simp only [sL, sI, ufn, upd, hz0, if_neg h1, if_neg h2]
  · funext j
    simp only [sL, sI, ufn, vp_updL, swL, hz0, if_true]
  · intro a ha
    funext j
    simp only [sL, sI, ufn, hz0, if_neg ha]
  · intro a
    rfl

set_option maxRecDepth 100000 in
set_option maxHeartbeats 4000000 in
theorem n_Model {g : Gl} {cy : Nat → ClassId} {o b : Nat} {E : Nat → va_E} (hb : b = o + 174) (hE : E 0 = .inr (5, bModel)) : EvN yX6_init cX6_init 1 1 23 g cy b 0 [] [(0, .ref b)] E 0 0 (fun k => cel cy (h0 o) o (o + 174 + k)) 11 2370 := by
  have hk0 : kdl (174 + 0) = (5, 0) := by decide
  have hk1 : kdl (174 + 1) = (6, 3) := by decide
  have hk2 : kdl (174 + 2) = (6, 320) := by decide
  have hk3 : kdl (174 + 3) = (7, 36) := by decide
  have hk4 : kdl (174 + 4) = (6, 1600) := by decide
  have hk5 : kdl (174 + 5) = (7, 180) := by decide
  have hk6 : kdl (174 + 6) = (8, 5) := by decide
  have hk7 : kdl (174 + 7) = (6, 36) := by decide
  have hk8 : kdl (174 + 8) = (9, 32) := by decide
  have hk9 : kdl (174 + 9) = (6, 36) := by decide
  have hk10 : kdl (174 + 10) = (6, 120) := by decide
  have hk11 : kdl (174 + 11) = (6, 2) := by decide
  obtain ⟨H1, e1, e2, e3, e4, e5, e6⟩ := lays0 b
  refine nv_aload_n (z := 0) dX6_init_0 rfl rfl ?_
  refine nv_objInit lk_601 (by decide) (by decide) dX6_init_1 ?_
  refine nv_aload_n (z := 0) dX6_init_4 rfl rfl ?_
  refine nv_iconst (v := 3) dX6_init_5 (by decide) ?_
  refine nv_newI (N := 3) (by decide) (by decide) (by decide) (by decide) (by decide) dX6_init_6 ?_
  refine nv_putR 0 (ty := .array .int) (ci := 5) (fs := [.null, .null, .null, .long 0, .int 0, .null, .null, .null, .null, .null, .null, .null, .int 0, .int 0, .int 0, .null]) rfl (by rw [ufn_ne _ _ (by decide), hE]; rfl) (by decide) rfl rfl (by decide +kernel) rfl rfl (Nat.le_of_ble_eq_true rfl) lk_606 dX6_init_8 ?_
  refine nv_aload_n (z := 0) dX6_init_11 rfl rfl ?_
  refine nv_sipush (v := 320) dX6_init_12 (by decide) ?_
  refine nv_newI (N := 320) (by decide) (by decide) (by decide) (by decide) (by decide) dX6_init_15 ?_
  refine nv_putR 1 (ty := .array .int) (ci := 5) (fs := [.ref (b + 1), .null, .null, .long 0, .int 0, .null, .null, .null, .null, .null, .null, .null, .int 0, .int 0, .int 0, .null]) rfl (by rw [ufn_ne _ _ (by decide), ufn_same]; rfl) (by decide) rfl rfl (by decide +kernel) rfl rfl (Nat.le_of_ble_eq_true rfl) lk_607 dX6_init_17 ?_
  refine nv_aload_n (z := 0) dX6_init_20 rfl rfl ?_
  refine nv_bipush (v := 36) dX6_init_21 (by decide) ?_
  refine nv_newF (N := 36) (by decide) (by decide) (by decide) (by decide) (by decide) dX6_init_23 ?_
  refine nv_putR 2 (ty := .array .float) (ci := 5) (fs := [.ref (b + 1), .ref (b + 2), .null, .long 0, .int 0, .null, .null, .null, .null, .null, .null, .null, .int 0, .int 0, .int 0, .null]) rfl (by rw [ufn_ne _ _ (by decide), ufn_same]; rfl) (by decide) rfl rfl (by decide +kernel) rfl rfl (Nat.le_of_ble_eq_true rfl) lk_608 dX6_init_25 ?_
  refine nv_aload_n (z := 0) dX6_init_28 rfl rfl ?_
  refine nv_sipush (v := 1600) dX6_init_29 (by decide) ?_
  refine nv_newI (N := 1600) (by decide) (by decide) (by decide) (by decide) (by decide) dX6_init_32 ?_
  refine nv_putR 5 (ty := .array .int) (ci := 5) (fs := [.ref (b + 1), .ref (b + 2), .ref (b + 3), .long 0, .int 0, .null, .null, .null, .null, .null, .null, .null, .int 0, .int 0, .int 0, .null]) rfl (by rw [ufn_ne _ _ (by decide), ufn_same]; rfl) (by decide) rfl rfl (by decide +kernel) rfl rfl (Nat.le_of_ble_eq_true rfl) lk_611 dX6_init_34 ?_
  refine nv_aload_n (z := 0) dX6_init_37 rfl rfl ?_
  refine nv_sipush (v := 180) dX6_init_38 (by decide) ?_
  refine nv_newF (N := 180) (by decide) (by decide) (by decide) (by decide) (by decide) dX6_init_41 ?_
  refine nv_putR 6 (ty := .array .float) (ci := 5) (fs := [.ref (b + 1), .ref (b + 2), .ref (b + 3), .long 0, .int 0, .ref (b + 4), .null, .null, .null, .null, .null, .null, .int 0, .int 0, .int 0, .null]) rfl (by rw [ufn_ne _ _ (by decide), ufn_same]; rfl) (by decide) rfl rfl (by decide +kernel) rfl rfl (Nat.le_of_ble_eq_true rfl) lk_612 dX6_init_43 ?_
  refine nv_aload_n (z := 0) dX6_init_46 rfl rfl ?_
  refine nv_iconst (v := 5) dX6_init_47 (by decide) ?_
  refine nv_newJ (N := 5) (by decide) (by decide) (by decide) (by decide) (by decide) dX6_init_48 ?_
  refine nv_putR 7 (ty := .array .long) (ci := 5) (fs := [.ref (b + 1), .ref (b + 2), .ref (b + 3), .long 0, .int 0, .ref (b + 4), .ref (b + 5), .null, .null, .null, .null, .null, .int 0, .int 0, .int 0, .null]) rfl (by rw [ufn_ne _ _ (by decide), ufn_same]; rfl) (by decide) rfl rfl (by decide +kernel) rfl rfl (Nat.le_of_ble_eq_true rfl) lk_613 dX6_init_50 ?_
  refine nv_aload_n (z := 0) dX6_init_53 rfl rfl ?_
  refine nv_bipush (v := 36) dX6_init_54 (by decide) ?_
  refine nv_newI (N := 36) (by decide) (by decide) (by decide) (by decide) (by decide) dX6_init_56 ?_
  refine nv_putR 8 (ty := .array .int) (ci := 5) (fs := [.ref (b + 1), .ref (b + 2), .ref (b + 3), .long 0, .int 0, .ref (b + 4), .ref (b + 5), .ref (b + 6), .null, .null, .null, .null, .int 0, .int 0, .int 0, .null]) rfl (by rw [ufn_ne _ _ (by decide), ufn_same]; rfl) (by decide) rfl rfl (by decide +kernel) rfl rfl (Nat.le_of_ble_eq_true rfl) lk_614 dX6_init_58 ?_
  refine nv_aload_n (z := 0) dX6_init_61 rfl rfl ?_
  refine nv_bipush (v := 32) dX6_init_62 (by decide) ?_
  refine nv_newZ (N := 32) (by decide) (by decide) (by decide) (by decide) (by decide) dX6_init_64 ?_
  refine nv_putR 9 (ty := .array .boolean) (ci := 5) (fs := [.ref (b + 1), .ref (b + 2), .ref (b + 3), .long 0, .int 0, .ref (b + 4), .ref (b + 5), .ref (b + 6), .ref (b + 7), .null, .null, .null, .int 0, .int 0, .int 0, .null]) rfl (by rw [ufn_ne _ _ (by decide), ufn_same]; rfl) (by decide) rfl rfl (by decide +kernel) rfl rfl (Nat.le_of_ble_eq_true rfl) lk_615 dX6_init_66 ?_
  refine nv_aload_n (z := 0) dX6_init_69 rfl rfl ?_
  refine nv_bipush (v := 36) dX6_init_70 (by decide) ?_
  refine nv_newI (N := 36) (by decide) (by decide) (by decide) (by decide) (by decide) dX6_init_72 ?_
  refine nv_putR 10 (ty := .array .int) (ci := 5) (fs := [.ref (b + 1), .ref (b + 2), .ref (b + 3), .long 0, .int 0, .ref (b + 4), .ref (b + 5), .ref (b + 6), .ref (b + 7), .ref (b + 8), .null, .null, .int 0, .int 0, .int 0, .null]) rfl (by rw [ufn_ne _ _ (by decide), ufn_same]; rfl) (by decide) rfl rfl (by decide +kernel) rfl rfl (Nat.le_of_ble_eq_true rfl) lk_616 dX6_init_74 ?_
  refine nv_aload_n (z := 0) dX6_init_77 rfl rfl ?_
  refine nv_bipush (v := 120) dX6_init_78 (by decide) ?_
  refine nv_newI (N := 120) (by decide) (by decide) (by decide) (by decide) (by decide) dX6_init_80 ?_
  refine nv_putR 11 (ty := .array .int) (ci := 5) (fs := [.ref (b + 1), .ref (b + 2), .ref (b + 3), .long 0, .int 0, .ref (b + 4), .ref (b + 5), .ref (b + 6), .ref (b + 7), .ref (b + 8), .ref (b + 9), .null, .int 0, .int 0, .int 0, .null]) rfl (by rw [ufn_ne _ _ (by decide), ufn_same]; rfl) (by decide) rfl rfl (by decide +kernel) rfl rfl (Nat.le_of_ble_eq_true rfl) lk_617 dX6_init_82 ?_
  refine nv_aload_n (z := 0) dX6_init_85 rfl rfl ?_
  refine nv_iconst (v := 2) dX6_init_86 (by decide) ?_
  refine nv_newI (N := 2) (by decide) (by decide) (by decide) (by decide) (by decide) dX6_init_87 ?_
  refine nv_putR 15 (ty := .array .int) (ci := 5) (fs := [.ref (b + 1), .ref (b + 2), .ref (b + 3), .long 0, .int 0, .ref (b + 4), .ref (b + 5), .ref (b + 6), .ref (b + 7), .ref (b + 8), .ref (b + 9), .ref (b + 10), .int 0, .int 0, .int 0, .null]) rfl (by rw [ufn_ne _ _ (by decide), ufn_same]; rfl) (by decide) rfl rfl (by decide +kernel) rfl rfl (Nat.le_of_ble_eq_true rfl) lk_621 dX6_init_89 ?_
  refine nv_aload_n (z := 0) dX6_init_92 rfl rfl ?_
  refine nv_iconst (v := 4) dX6_init_93 (by decide) ?_
  refine nv_iconst (v := 2) dX6_init_94 (by decide) ?_
  have kd : KD ((o, 174, 186) : Ob) b 5 0 := ⟨by subst hb; exact Nat.le_refl _, by subst hb; show o + 174 + 11 < o + 186; omega, Nat.le_refl _, by subst hb; show kdl (o + 174 - o) = (5, 0); rw [Nat.add_sub_cancel_left]; decide⟩
  refine nv_callV (g1 := ((o, 174, 186), g.2)) (As := [.int 4, .int 2]) cal_X6_lays kd rfl (ev_X6_lays kd e1) rfl hb rfl (fun k hk => ?_) (Nat.le_of_ble_eq_true rfl) rfl lk_602 (by decide) (by decide) (by decide) (by decide) (by decide) dX6_init_95 rfl ?_
  · subst hb
    rcases (show k = 0 ∨ k = 1 ∨ k = 2 ∨ k = 3 ∨ k = 4 ∨ k = 5 ∨ k = 6 ∨ k = 7 ∨ k = 8 ∨ k = 9 ∨ k = 10 ∨ k = 11 by omega) with rfl | rfl | rfl | rfl | rfl | rfl | rfl | rfl | rfl | rfl | rfl | rfl
    · show _ = cel cy hz0 o (o + 174 + 0); rw [cel_at (k := 0) hk0]; rfl
    · show _ = cel cy hz0 o (o + 174 + 1); rw [cel_at (k := 1) hk1]; rfl
    · show _ = cel cy hz0 o (o + 174 + 2); rw [cel_at (k := 2) hk2]; rfl
    · show _ = cel cy hz0 o (o + 174 + 3); rw [cel_at (k := 3) hk3]; rfl
    · show _ = cel cy hz0 o (o + 174 + 4); rw [cel_at (k := 4) hk4]; rfl
    · show _ = cel cy hz0 o (o + 174 + 5); rw [cel_at (k := 5) hk5]; rfl
    · show _ = cel cy hz0 o (o + 174 + 6); rw [cel_at (k := 6) hk6]; rfl
    · show _ = cel cy hz0 o (o + 174 + 7); rw [cel_at (k := 7) hk7]; rfl
    · show _ = cel cy hz0 o (o + 174 + 8); rw [cel_at (k := 8) hk8]; rfl
    · show _ = cel cy hz0 o (o + 174 + 9); rw [cel_at (k := 9) hk9]; rfl
    · show _ = cel cy hz0 o (o + 174 + 10); rw [cel_at (k := 10) hk10]; rfl
    · show _ = cel cy hz0 o (o + 174 + 11); rw [cel_at (k := 11) hk11]; rfl
  · subst hb
    refine nv_return dX6_init_98 (fun k hk => ?_)
    rcases (show k = 0 ∨ k = 1 ∨ k = 2 ∨ k = 3 ∨ k = 4 ∨ k = 5 ∨ k = 6 ∨ k = 7 ∨ k = 8 ∨ k = 9 ∨ k = 10 ∨ k = 11 by omega) with rfl | rfl | rfl | rfl | rfl | rfl | rfl | rfl | rfl | rfl | rfl | rfl
    · show cel cy H1 o (o + 174 + 0) = _; rw [cel_at (k := 0) hk0, cel0_at (k := 0) hk0]; rw [e3 _ (by omega)]; rw [show o + 174 + 0 = o + 174 from rfl, e4, e6]; rfl
    · show cel cy H1 o (o + 174 + 1) = _; rw [cel_at (k := 1) hk1, cel0_at (k := 1) hk1]; rw [e3 _ (by omega), e5 _ (by omega), e6]; rfl
    · show cel cy H1 o (o + 174 + 2) = _; rw [cel_at (k := 2) hk2, cel0_at (k := 2) hk2]; rw [e2, e5 _ (by omega), e6]; rfl
    · show cel cy H1 o (o + 174 + 3) = _; rw [cel_at (k := 3) hk3, cel0_at (k := 3) hk3]; rw [e3 _ (by omega), e5 _ (by omega), e6]; rfl
    · show cel cy H1 o (o + 174 + 4) = _; rw [cel_at (k := 4) hk4, cel0_at (k := 4) hk4]; rw [e3 _ (by omega), e5 _ (by omega), e6]; rfl
    · show cel cy H1 o (o + 174 + 5) = _; rw [cel_at (k := 5) hk5, cel0_at (k := 5) hk5]; rw [e3 _ (by omega), e5 _ (by omega), e6]; rfl
    · show cel cy H1 o (o + 174 + 6) = _; rw [cel_at (k := 6) hk6, cel0_at (k := 6) hk6]; rw [e3 _ (by omega), e5 _ (by omega), e6]; rfl
    · show cel cy H1 o (o + 174 + 7) = _; rw [cel_at (k := 7) hk7, cel0_at (k := 7) hk7]; rw [e3 _ (by omega), e5 _ (by omega), e6]; rfl
    · show cel cy H1 o (o + 174 + 8) = _; rw [cel_at (k := 8) hk8, cel0_at (k := 8) hk8]; rw [e3 _ (by omega), e5 _ (by omega), e6]; rfl
    · show cel cy H1 o (o + 174 + 9) = _; rw [cel_at (k := 9) hk9, cel0_at (k := 9) hk9]; rw [e3 _ (by omega), e5 _ (by omega), e6]; rfl
    · show cel cy H1 o (o + 174 + 10) = _; rw [cel_at (k := 10) hk10, cel0_at (k := 10) hk10]; rw [e3 _ (by omega), e5 _ (by omega), e6]; rfl
    · show cel cy H1 o (o + 174 + 11) = _; rw [cel_at (k := 11) hk11, cel0_at (k := 11) hk11]; rw [e3 _ (by omega), e5 _ (by omega), e6]; rfl
