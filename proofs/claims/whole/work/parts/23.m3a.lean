def f_X6_bad (h : Hp) (l0 : Nat) : Option (Int32 × Hp) := (some ((-2 : Int32), (sI h (l0 + 1) (0 : Int32).toNatClampNeg ((hI h (l0 + 1) (0 : Int32).toNatClampNeg) + (1 : Int32)))))
set_option maxRecDepth 100000 in
set_option maxHeartbeats 4000000 in
theorem ev_X6_bad {g : Gl} {h : Hp} {l0 : Nat} {rv : Int32} {h2 : Hp} (kl0 : KD g.1 l0 5 0) (hf : f_X6_bad h l0 = some (rv, h2)) : Ev yX6_bad cX6_bad 1 (some .int) 0 0 g 0 [] [(0, .ref l0)] h (some (.int rv)) h2 := by
  unfold f_X6_bad at hf
  refine ev_aload_n (n := 0) dX6_bad_0 rfl rfl ?_
  refine ev_get (v := .ref (l0 + 1)) 0 kl0 rfl (by decide) rfl lk_606 dX6_bad_1 ?_
  refine ev_iconst (v := 0) dX6_bad_4 (by decide) ?_
  refine ev_dup2 dX6_bad_5 rfl rfl ?_
  refine ev_iald (kd_5_0 kl0) (by unfold vp_in; decide) dX6_bad_6 ?_
  refine ev_iconst (v := 1) dX6_bad_7 (by decide) ?_
  refine ev_iadd dX6_bad_8 ?_
  refine ev_iast (kd_5_0 kl0) (by unfold vp_in; decide) dX6_bad_9 ?_
  refine ev_bipush (v := -2) dX6_bad_10 (by decide) ?_
  obtain ⟨rfl, rfl⟩ := Prod.mk.inj (Option.some.inj hf)
  exact ev_ireturn dX6_bad_12 ⟨.int, rfl, rfl⟩
def f_X6_no (h : Hp) (l0 : Nat) : Option (Int32 × Hp) := (some ((-3 : Int32), (sI h (l0 + 1) (1 : Int32).toNatClampNeg ((hI h (l0 + 1) (1 : Int32).toNatClampNeg) + (1 : Int32)))))
set_option maxRecDepth 100000 in
set_option maxHeartbeats 4000000 in
theorem ev_X6_no {g : Gl} {h : Hp} {l0 : Nat} {rv : Int32} {h2 : Hp} (kl0 : KD g.1 l0 5 0) (hf : f_X6_no h l0 = some (rv, h2)) : Ev yX6_no cX6_no 1 (some .int) 0 0 g 0 [] [(0, .ref l0)] h (some (.int rv)) h2 := by
  unfold f_X6_no at hf
  refine ev_aload_n (n := 0) dX6_no_0 rfl rfl ?_
  refine ev_get (v := .ref (l0 + 1)) 0 kl0 rfl (by decide) rfl lk_606 dX6_no_1 ?_
  refine ev_iconst (v := 1) dX6_no_4 (by decide) ?_
  refine ev_dup2 dX6_no_5 rfl rfl ?_
  refine ev_iald (kd_5_0 kl0) (by unfold vp_in; decide) dX6_no_6 ?_
  refine ev_iconst (v := 1) dX6_no_7 (by decide) ?_
  refine ev_iadd dX6_no_8 ?_
  refine ev_iast (kd_5_0 kl0) (by unfold vp_in; decide) dX6_no_9 ?_
  refine ev_bipush (v := -3) dX6_no_10 (by decide) ?_
  obtain ⟨rfl, rfl⟩ := Prod.mk.inj (Option.some.inj hf)
  exact ev_ireturn dX6_no_12 ⟨.int, rfl, rfl⟩
def f_X6_full (h : Hp) (l0 : Nat) : Option (Int32 × Hp) := (some ((-4 : Int32), (sI h (l0 + 1) (2 : Int32).toNatClampNeg ((hI h (l0 + 1) (2 : Int32).toNatClampNeg) + (1 : Int32)))))
set_option maxRecDepth 100000 in
set_option maxHeartbeats 4000000 in
theorem ev_X6_full {g : Gl} {h : Hp} {l0 : Nat} {rv : Int32} {h2 : Hp} (kl0 : KD g.1 l0 5 0) (hf : f_X6_full h l0 = some (rv, h2)) : Ev yX6_full cX6_full 1 (some .int) 0 0 g 0 [] [(0, .ref l0)] h (some (.int rv)) h2 := by
  unfold f_X6_full at hf
  refine ev_aload_n (n := 0) dX6_full_0 rfl rfl ?_
  refine ev_get (v := .ref (l0 + 1)) 0 kl0 rfl (by decide) rfl lk_606 dX6_full_1 ?_
  refine ev_iconst (v := 2) dX6_full_4 (by decide) ?_
  refine ev_dup2 dX6_full_5 rfl rfl ?_
  refine ev_iald (kd_5_0 kl0) (by unfold vp_in; decide) dX6_full_6 ?_
  refine ev_iconst (v := 1) dX6_full_7 (by decide) ?_
  refine ev_iadd dX6_full_8 ?_
  refine ev_iast (kd_5_0 kl0) (by unfold vp_in; decide) dX6_full_9 ?_
  refine ev_bipush (v := -4) dX6_full_10 (by decide) ?_
  obtain ⟨rfl, rfl⟩ := Prod.mk.inj (Option.some.inj hf)
  exact ev_ireturn dX6_full_12 ⟨.int, rfl, rfl⟩
def f_X6_counted (h : Hp) (l0 : Nat) (l1 : Int32) : Option (Int32 × Hp) := (if l1 = (-2 : Int32) then (bn2 (f_X6_bad h l0) (fun v7 h8 => (some (v7, h8)))) else (if l1 = (-3 : Int32) then (bn2 (f_X6_no h l0) (fun v4 h5 => (some (v4, h5)))) else (if l1 = (-4 : Int32) then (bn2 (f_X6_full h l0) (fun v1 h2 => (some (v1, h2)))) else (some (l1, h)))))
set_option maxRecDepth 100000 in
set_option maxHeartbeats 4000000 in
theorem ev_X6_counted {g : Gl} {h : Hp} {l0 : Nat} {l1 : Int32} {rv : Int32} {h2 : Hp} (kl0 : KD g.1 l0 5 0) (hf : f_X6_counted h l0 l1 = some (rv, h2)) : Ev yX6_counted cX6_counted 2 (some .int) 1 20 g 0 [] [(0, .ref l0), (1, .int l1)] h (some (.int rv)) h2 := by
  unfold f_X6_counted at hf
  refine ev_iload_n (n := 1) dX6_counted_0 rfl rfl ?_
  refine ev_bipush (v := -2) dX6_counted_1 (by decide) ?_
  refine ev_icmp_ne (tgt := 13) dX6_counted_3 (by decide) (fun c1 => ?_) (fun c1 => ?_)
  · replace hf := if_f c1 hf
    refine ev_iload_n (n := 1) dX6_counted_13 rfl rfl ?_
    refine ev_bipush (v := -3) dX6_counted_14 (by decide) ?_
    refine ev_icmp_ne (tgt := 26) dX6_counted_16 (by decide) (fun c1 => ?_) (fun c1 => ?_)
    · replace hf := if_f c1 hf
      refine ev_iload_n (n := 1) dX6_counted_26 rfl rfl ?_
      refine ev_bipush (v := -4) dX6_counted_27 (by decide) ?_
      refine ev_icmp_ne (tgt := 39) dX6_counted_29 (by decide) (fun c1 => ?_) (fun c1 => ?_)
      · replace hf := if_f c1 hf
        refine ev_iload_n (n := 1) dX6_counted_39 rfl rfl ?_
        obtain ⟨rfl, rfl⟩ := Prod.mk.inj (Option.some.inj hf)
        exact ev_ireturn dX6_counted_40 ⟨.int, rfl, rfl⟩
      · replace hf := if_t c1 hf
        refine ev_aload_n (n := 0) dX6_counted_32 rfl rfl ?_
        obtain ⟨v1, h2, e3, hf⟩ := bn2_of hf
        refine ev_callVi (As := []) cal_X6_full kl0 rfl (ev_X6_full kl0 e3) (Nat.le_of_ble_eq_true rfl) rfl lk_692 (by decide) (by decide) (Nat.le_of_ble_eq_true rfl) dX6_counted_33 rfl ?_
        refine ev_goto (tgt := 40) dX6_counted_36 (by decide) ?_
        obtain ⟨rfl, rfl⟩ := Prod.mk.inj (Option.some.inj hf)
        exact ev_ireturn dX6_counted_40 ⟨.int, rfl, rfl⟩
    · replace hf := if_t c1 hf
      refine ev_aload_n (n := 0) dX6_counted_19 rfl rfl ?_
      obtain ⟨v4, h5, e6, hf⟩ := bn2_of hf
      refine ev_callVi (As := []) cal_X6_no kl0 rfl (ev_X6_no kl0 e6) (Nat.le_of_ble_eq_true rfl) rfl lk_661 (by decide) (by decide) (Nat.le_of_ble_eq_true rfl) dX6_counted_20 rfl ?_
      refine ev_goto (tgt := 40) dX6_counted_23 (by decide) ?_
      obtain ⟨rfl, rfl⟩ := Prod.mk.inj (Option.some.inj hf)
      exact ev_ireturn dX6_counted_40 ⟨.int, rfl, rfl⟩
  · replace hf := if_t c1 hf
    refine ev_aload_n (n := 0) dX6_counted_6 rfl rfl ?_
    obtain ⟨v7, h8, e9, hf⟩ := bn2_of hf
    refine ev_callVi (As := []) cal_X6_bad kl0 rfl (ev_X6_bad kl0 e9) (Nat.le_of_ble_eq_true rfl) rfl lk_672 (by decide) (by decide) (Nat.le_of_ble_eq_true rfl) dX6_counted_7 rfl ?_
    refine ev_goto (tgt := 40) dX6_counted_10 (by decide) ?_
    obtain ⟨rfl, rfl⟩ := Prod.mk.inj (Option.some.inj hf)
    exact ev_ireturn dX6_counted_40 ⟨.int, rfl, rfl⟩
def f_X6_in_j14 (h : Hp)  : Option (Int32) := (some (0 : Int32))
set_option maxRecDepth 100000 in
set_option maxHeartbeats 4000000 in
theorem jn_X6_in_14 {g : Gl} {h : Hp}   {rv : Int32}    (hf : f_X6_in_j14 h = some rv) : Ev yX6_in cX6_in 3 (some .boolean) 0 0 g 14 [] [] h (some (.int rv)) h := by
  unfold f_X6_in_j14 at hf
  refine ev_iconst (v := 0) dX6_in_14 (by decide) ?_
  obtain rfl := Option.some.inj hf
  exact ev_ireturn dX6_in_15 ⟨.boolean, rfl, rfl⟩
def f_X6_in (h : Hp) (l0 : Int32) (l1 : Int32) (l2 : Int32) : Option (Int32) := (if l0 < l1 then (f_X6_in_j14 h) else (if l2 < l0 then (f_X6_in_j14 h) else (some (1 : Int32))))
set_option maxRecDepth 100000 in
set_option maxHeartbeats 4000000 in
theorem ev_X6_in {g : Gl} {h : Hp} {l0 : Int32} {l1 : Int32} {l2 : Int32} {rv : Int32}  (hf : f_X6_in h l0 l1 l2 = some rv) : Ev yX6_in cX6_in 3 (some .boolean) 0 0 g 0 [] [(0, .int l0), (1, .int l1), (2, .int l2)] h (some (.int rv)) h := by
  unfold f_X6_in at hf
  refine ev_iload_n (n := 0) dX6_in_0 rfl rfl ?_
  refine ev_iload_n (n := 1) dX6_in_1 rfl rfl ?_
  refine ev_icmp_lt (tgt := 14) dX6_in_2 (by decide) (fun c1 => ?_) (fun c1 => ?_)
  · replace hf := if_t c1 hf
    refine ev_sub [] rfl (lv2 := []) ?_
    exact jn_X6_in_14 hf
  · replace hf := if_f c1 hf
    refine ev_iload_n (n := 0) dX6_in_5 rfl rfl ?_
    refine ev_iload_n (n := 2) dX6_in_6 rfl rfl ?_
    refine ev_icmp_gt (tgt := 14) dX6_in_7 (by decide) (fun c1 => ?_) (fun c1 => ?_)
    · replace hf := if_t c1 hf
      refine ev_sub [] rfl (lv2 := []) ?_
      exact jn_X6_in_14 hf
    · replace hf := if_f c1 hf
      refine ev_iconst (v := 1) dX6_in_10 (by decide) ?_
      refine ev_goto (tgt := 15) dX6_in_11 (by decide) ?_
      obtain rfl := Option.some.inj hf
      exact ev_ireturn dX6_in_15 ⟨.boolean, rfl, rfl⟩
def f_X6_lays_l2 (l0 : Nat) (l1 : Int32) (l2 : Int32) : Nat → Int32 → Hp → Option (Hp)
  | 0, _, _ => none
  | fu1 + 1, l3, h => (if (320 : Int32) ≤ l3 then (some h) else (if inb l3 320 = true then (f_X6_lays_l2 l0 l1 l2 fu1 (l3 + 1) (sI h (l0 + 2) l3.toNatClampNeg (0 : Int32))) else none))
theorem f_X6_lays_l2_s (l0 : Nat) (l1 : Int32) (l2 : Int32) (fu1 : Nat) (l3 : Int32) (h : Hp) : f_X6_lays_l2 l0 l1 l2 (fu1 + 1) l3 h = (if (320 : Int32) ≤ l3 then (some h) else (if inb l3 320 = true then (f_X6_lays_l2 l0 l1 l2 fu1 (l3 + 1) (sI h (l0 + 2) l3.toNatClampNeg (0 : Int32))) else none)) := rfl
theorem f_X6_lays_l2_0 (l0 : Nat) (l1 : Int32) (l2 : Int32) (l3 : Int32) (h : Hp) : f_X6_lays_l2 l0 l1 l2 0 l3 h = none := rfl
set_option maxRecDepth 100000 in
set_option maxHeartbeats 4000000 in
theorem lp_X6_lays_2 {g : Gl} {l0 : Nat} {l1 : Int32} {l2 : Int32} {r : Option Value} {h2 : Hp} {h3 : Hp} (kl0 : KD g.1 l0 5 0) (hx0 : Ev yX6_lays cX6_lays 4 none 0 0 g 22 [] [(0, .ref l0), (1, .int l1), (2, .int l2)] h3 r h2) : ∀ (fu1 : Nat) (l3 : Int32) (h : Hp), f_X6_lays_l2 l0 l1 l2 fu1 l3 h = some h3 → Ev yX6_lays cX6_lays 4 none 0 0 g 2 [] [(0, .ref l0), (1, .int l1), (2, .int l2), (3, .int l3)] h r h2 := by
  intro fu1
  induction fu1 with
  | zero =>
    intro l3 h hf
    cases hf
  | succ fu1 ih =>
    intro l3 h hf
    rw [f_X6_lays_l2_s] at hf
    have hk := ih
    refine ev_iload_n (n := 3) dX6_lays_2 rfl rfl ?_
    refine ev_sipush (v := 320) dX6_lays_3 (by decide) ?_
    refine ev_icmp_ge (tgt := 22) dX6_lays_6 (by decide) (fun c1 => ?_) (fun c1 => ?_)
    · replace hf := if_t c1 hf
      refine ev_sub [0, 1, 2] rfl (lv2 := [(0, .ref l0), (1, .int l1), (2, .int l2)]) ?_
      obtain rfl := Option.some.inj hf
      exact hx0
    · replace hf := if_f c1 hf
      refine ev_aload_n (n := 0) dX6_lays_9 rfl rfl ?_
      refine ev_get (v := .ref (l0 + 2)) 1 kl0 rfl (by decide) rfl lk_607 dX6_lays_10 ?_
      refine ev_iload_n (n := 3) dX6_lays_13 rfl rfl ?_
      refine ev_iconst (v := 0) dX6_lays_14 (by decide) ?_
      obtain ⟨gd1, hf⟩ := gd_of hf
      refine ev_iast (kd_5_1 kl0) (inb_of gd1) dX6_lays_15 ?_
      refine ev_iinc (z := 3) (v := (l3 + 1)) (lv2 := [(3, .int (l3 + 1)), (0, .ref l0), (1, .int l1), (2, .int l2)]) dX6_lays_16 rfl rfl (by decide) rfl ?_
      refine ev_goto (tgt := 2) dX6_lays_19 (by decide) ?_
      refine ev_sub [1, 2, 3, 0] rfl (lv2 := [(0, .ref l0), (1, .int l1), (2, .int l2), (3, .int (l3 + 1))]) ?_
      exact hk _ _ hf
def f_X6_lays_l24 (l0 : Nat) (l1 : Int32) (l2 : Int32) : Nat → Int32 → Hp → Option (Hp)
  | 0, _, _ => none
  | fu1 + 1, l3, h => (if (36 : Int32) ≤ l3 then (some h) else (if inb l3 36 = true then (f_X6_lays_l24 l0 l1 l2 fu1 (l3 + 1) (sF h (l0 + 3) l3.toNatClampNeg FP.fconst0)) else none))
theorem f_X6_lays_l24_s (l0 : Nat) (l1 : Int32) (l2 : Int32) (fu1 : Nat) (l3 : Int32) (h : Hp) : f_X6_lays_l24 l0 l1 l2 (fu1 + 1) l3 h = (if (36 : Int32) ≤ l3 then (some h) else (if inb l3 36 = true then (f_X6_lays_l24 l0 l1 l2 fu1 (l3 + 1) (sF h (l0 + 3) l3.toNatClampNeg FP.fconst0)) else none)) := rfl
theorem f_X6_lays_l24_0 (l0 : Nat) (l1 : Int32) (l2 : Int32) (l3 : Int32) (h : Hp) : f_X6_lays_l24 l0 l1 l2 0 l3 h = none := rfl
set_option maxRecDepth 100000 in
set_option maxHeartbeats 4000000 in
theorem lp_X6_lays_24 {g : Gl} {l0 : Nat} {l1 : Int32} {l2 : Int32} {r : Option Value} {h2 : Hp} {h3 : Hp} (kl0 : KD g.1 l0 5 0) (hx0 : Ev yX6_lays cX6_lays 4 none 0 0 g 43 [] [(0, .ref l0), (1, .int l1), (2, .int l2)] h3 r h2) : ∀ (fu1 : Nat) (l3 : Int32) (h : Hp), f_X6_lays_l24 l0 l1 l2 fu1 l3 h = some h3 → Ev yX6_lays cX6_lays 4 none 0 0 g 24 [] [(0, .ref l0), (1, .int l1), (2, .int l2), (3, .int l3)] h r h2 := by
  intro fu1
  induction fu1 with
  | zero =>
    intro l3 h hf
    cases hf
  | succ fu1 ih =>
    intro l3 h hf
    rw [f_X6_lays_l24_s] at hf
    have hk := ih
    refine ev_iload_n (n := 3) dX6_lays_24 rfl rfl ?_
    refine ev_bipush (v := 36) dX6_lays_25 (by decide) ?_
    refine ev_icmp_ge (tgt := 43) dX6_lays_27 (by decide) (fun c1 => ?_) (fun c1 => ?_)
    · replace hf := if_t c1 hf
      refine ev_sub [0, 1, 2] rfl (lv2 := [(0, .ref l0), (1, .int l1), (2, .int l2)]) ?_
      obtain rfl := Option.some.inj hf
      exact hx0
    · replace hf := if_f c1 hf
      refine ev_aload_n (n := 0) dX6_lays_30 rfl rfl ?_
      refine ev_get (v := .ref (l0 + 3)) 2 kl0 rfl (by decide) rfl lk_608 dX6_lays_31 ?_
      refine ev_iload_n (n := 3) dX6_lays_34 rfl rfl ?_
      refine ev_fconst0 dX6_lays_35 ?_
      obtain ⟨gd3, hf⟩ := gd_of hf
      refine ev_fast (kd_5_2 kl0) (inb_of gd3) dX6_lays_36 ?_
      refine ev_iinc (z := 3) (v := (l3 + 1)) (lv2 := [(3, .int (l3 + 1)), (0, .ref l0), (1, .int l1), (2, .int l2)]) dX6_lays_37 rfl rfl (by decide) rfl ?_
      refine ev_goto (tgt := 24) dX6_lays_40 (by decide) ?_
      refine ev_sub [1, 2, 3, 0] rfl (lv2 := [(0, .ref l0), (1, .int l1), (2, .int l2), (3, .int (l3 + 1))]) ?_
      exact hk _ _ hf
def f_X6_lays (h : Hp) (l0 : Nat) (l1 : Int32) (l2 : Int32) : Option (Hp) := (bn1 (f_X6_lays_l2 l0 l1 l2 fu (0 : Int32) h) (fun h2 => (bn1 (f_X6_lays_l24 l0 l1 l2 fu (0 : Int32) h2) (fun h4 => (some (sL (sI (sI (sI (sI (sI (sI h4 (l0 + 2) (1 : Int32).toNatClampNeg l1) (l0 + 2) (2 : Int32).toNatClampNeg l2) (l0 + 2) (8 : Int32).toNatClampNeg (2 : Int32)) (l0 + 2) (9 : Int32).toNatClampNeg (5 : Int32)) (l0 + 2) (10 : Int32).toNatClampNeg (2 : Int32)) (l0 + 2) (11 : Int32).toNatClampNeg (3 : Int32)) l0 3 (1 : Int64)))))))
set_option maxRecDepth 100000 in
set_option maxHeartbeats 4000000 in
theorem ev_X6_lays {g : Gl} {h : Hp} {l0 : Nat} {l1 : Int32} {l2 : Int32} {h2 : Hp} (kl0 : KD g.1 l0 5 0) (hf : f_X6_lays h l0 l1 l2 = some h2) : Ev yX6_lays cX6_lays 4 none 0 0 g 0 [] [(0, .ref l0), (1, .int l1), (2, .int l2)] h none h2 := by
  unfold f_X6_lays at hf
  refine ev_iconst (v := 0) dX6_lays_0 (by decide) ?_
  refine ev_istore_n (lv2 := [(3, .int (0 : Int32)), (0, .ref l0), (1, .int l1), (2, .int l2)]) dX6_lays_1 rfl (by decide) rfl ?_
  obtain ⟨h2, e12, hf⟩ := bn1_of hf
  refine ev_sub [1, 2, 3, 0] rfl (lv2 := [(0, .ref l0), (1, .int l1), (2, .int l2), (3, .int (0 : Int32))]) ?_
  refine lp_X6_lays_2 kl0 ?_ fu _ _ e12
  refine ev_iconst (v := 0) dX6_lays_22 (by decide) ?_
  refine ev_istore_n (lv2 := [(3, .int (0 : Int32)), (0, .ref l0), (1, .int l1), (2, .int l2)]) dX6_lays_23 rfl (by decide) rfl ?_
  obtain ⟨h4, e11, hf⟩ := bn1_of hf
  refine ev_sub [1, 2, 3, 0] rfl (lv2 := [(0, .ref l0), (1, .int l1), (2, .int l2), (3, .int (0 : Int32))]) ?_
  refine lp_X6_lays_24 kl0 ?_ fu _ _ e11
  refine ev_aload_n (n := 0) dX6_lays_43 rfl rfl ?_
  refine ev_get (v := .ref (l0 + 2)) 1 kl0 rfl (by decide) rfl lk_607 dX6_lays_44 ?_
  refine ev_iconst (v := 1) dX6_lays_47 (by decide) ?_
  refine ev_iload_n (n := 1) dX6_lays_48 rfl rfl ?_
  refine ev_iast (kd_5_1 kl0) (by unfold vp_in; decide) dX6_lays_49 ?_
  refine ev_aload_n (n := 0) dX6_lays_50 rfl rfl ?_
  refine ev_get (v := .ref (l0 + 2)) 1 kl0 rfl (by decide) rfl lk_607 dX6_lays_51 ?_
  refine ev_iconst (v := 2) dX6_lays_54 (by decide) ?_
  refine ev_iload_n (n := 2) dX6_lays_55 rfl rfl ?_
  refine ev_iast (kd_5_1 kl0) (by unfold vp_in; decide) dX6_lays_56 ?_
  refine ev_aload_n (n := 0) dX6_lays_57 rfl rfl ?_
  refine ev_get (v := .ref (l0 + 2)) 1 kl0 rfl (by decide) rfl lk_607 dX6_lays_58 ?_
  refine ev_bipush (v := 8) dX6_lays_61 (by decide) ?_
  refine ev_iconst (v := 2) dX6_lays_63 (by decide) ?_
  refine ev_iast (kd_5_1 kl0) (by unfold vp_in; decide) dX6_lays_64 ?_
  refine ev_aload_n (n := 0) dX6_lays_65 rfl rfl ?_
  refine ev_get (v := .ref (l0 + 2)) 1 kl0 rfl (by decide) rfl lk_607 dX6_lays_66 ?_
  refine ev_bipush (v := 9) dX6_lays_69 (by decide) ?_
  refine ev_iconst (v := 5) dX6_lays_71 (by decide) ?_
  refine ev_iast (kd_5_1 kl0) (by unfold vp_in; decide) dX6_lays_72 ?_
  refine ev_aload_n (n := 0) dX6_lays_73 rfl rfl ?_
  refine ev_get (v := .ref (l0 + 2)) 1 kl0 rfl (by decide) rfl lk_607 dX6_lays_74 ?_
  refine ev_bipush (v := 10) dX6_lays_77 (by decide) ?_
  refine ev_iconst (v := 2) dX6_lays_79 (by decide) ?_
  refine ev_iast (kd_5_1 kl0) (by unfold vp_in; decide) dX6_lays_80 ?_
  refine ev_aload_n (n := 0) dX6_lays_81 rfl rfl ?_
  refine ev_get (v := .ref (l0 + 2)) 1 kl0 rfl (by decide) rfl lk_607 dX6_lays_82 ?_
  refine ev_bipush (v := 11) dX6_lays_85 (by decide) ?_
  refine ev_iconst (v := 3) dX6_lays_87 (by decide) ?_
  refine ev_iast (kd_5_1 kl0) (by unfold vp_in; decide) dX6_lays_88 ?_
  refine ev_aload_n (n := 0) dX6_lays_89 rfl rfl ?_
  refine ev_lconst (v := 1) dX6_lays_90 (by decide) ?_
  refine ev_putL 3 kl0 rfl (by decide) rfl (by decide +kernel) rfl (by exact Nat.le_of_ble_eq_true rfl) lk_609 dX6_lays_91 ?_
  obtain rfl := Option.some.inj hf
  exact ev_return_ dX6_lays_94 rfl
def f_X6_leavesState_l108 (l0 : Nat) : Nat → Int32 → Hp → Option (Hp)
  | 0, _, _ => none
  | fu1 + 1, l1, h => (if (320 : Int32) ≤ l1 then (some h) else (if inb l1 320 = true then (if inb (((320 : Int32) * (hI h l0 4)) + l1) 1600 = true then (f_X6_leavesState_l108 l0 fu1 (l1 + 1) (sI h (l0 + 4) (((320 : Int32) * (hI h l0 4)) + l1).toNatClampNeg (hI h (l0 + 2) l1.toNatClampNeg))) else none) else none))
theorem f_X6_leavesState_l108_s (l0 : Nat) (fu1 : Nat) (l1 : Int32) (h : Hp) : f_X6_leavesState_l108 l0 (fu1 + 1) l1 h = (if (320 : Int32) ≤ l1 then (some h) else (if inb l1 320 = true then (if inb (((320 : Int32) * (hI h l0 4)) + l1) 1600 = true then (f_X6_leavesState_l108 l0 fu1 (l1 + 1) (sI h (l0 + 4) (((320 : Int32) * (hI h l0 4)) + l1).toNatClampNeg (hI h (l0 + 2) l1.toNatClampNeg))) else none) else none)) := rfl
theorem f_X6_leavesState_l108_0 (l0 : Nat) (l1 : Int32) (h : Hp) : f_X6_leavesState_l108 l0 0 l1 h = none := rfl
set_option maxRecDepth 100000 in
set_option maxHeartbeats 4000000 in
theorem lp_X6_leavesState_108 {g : Gl} {l0 : Nat} {r : Option Value} {h2 : Hp} {h3 : Hp} (kl0 : KD g.1 l0 5 0) (hx0 : Ev yX6_leavesState cX6_leavesState 2 none 0 0 g 142 [] [(0, .ref l0)] h3 r h2) : ∀ (fu1 : Nat) (l1 : Int32) (h : Hp), f_X6_leavesState_l108 l0 fu1 l1 h = some h3 → Ev yX6_leavesState cX6_leavesState 2 none 0 0 g 108 [] [(0, .ref l0), (1, .int l1)] h r h2 := by
  intro fu1
  induction fu1 with
  | zero =>
    intro l1 h hf
    cases hf
  | succ fu1 ih =>
    intro l1 h hf
    rw [f_X6_leavesState_l108_s] at hf
    have hk := ih
    refine ev_iload_n (n := 1) dX6_leavesState_108 rfl rfl ?_
    refine ev_sipush (v := 320) dX6_leavesState_109 (by decide) ?_
    refine ev_icmp_ge (tgt := 142) dX6_leavesState_112 (by decide) (fun c1 => ?_) (fun c1 => ?_)
    · replace hf := if_t c1 hf
      refine ev_sub [0] rfl (lv2 := [(0, .ref l0)]) ?_
      obtain rfl := Option.some.inj hf
      exact hx0
    · replace hf := if_f c1 hf
      refine ev_aload_n (n := 0) dX6_leavesState_115 rfl rfl ?_
      refine ev_get (v := .ref (l0 + 4)) 5 kl0 rfl (by decide) rfl lk_611 dX6_leavesState_116 ?_
      refine ev_sipush (v := 320) dX6_leavesState_119 (by decide) ?_
      refine ev_aload_n (n := 0) dX6_leavesState_122 rfl rfl ?_
      refine ev_get (v := .int (hI h l0 4)) 4 kl0 rfl (by decide) rfl lk_610 dX6_leavesState_123 ?_
      refine ev_imul dX6_leavesState_126 ?_
      refine ev_iload_n (n := 1) dX6_leavesState_127 rfl rfl ?_
      refine ev_iadd dX6_leavesState_128 ?_
      refine ev_aload_n (n := 0) dX6_leavesState_129 rfl rfl ?_
      refine ev_get (v := .ref (l0 + 2)) 1 kl0 rfl (by decide) rfl lk_607 dX6_leavesState_130 ?_
      refine ev_iload_n (n := 1) dX6_leavesState_133 rfl rfl ?_
      obtain ⟨gd1, hf⟩ := gd_of hf
      refine ev_iald (kd_5_1 kl0) (inb_of gd1) dX6_leavesState_134 ?_
      obtain ⟨gd2, hf⟩ := gd_of hf
      refine ev_iast (kd_5_5 kl0) (inb_of gd2) dX6_leavesState_135 ?_
      refine ev_iinc (z := 1) (v := (l1 + 1)) (lv2 := [(1, .int (l1 + 1)), (0, .ref l0)]) dX6_leavesState_136 rfl rfl (by decide) rfl ?_
      refine ev_goto (tgt := 108) dX6_leavesState_139 (by decide) ?_
      refine ev_sub [1, 0] rfl (lv2 := [(0, .ref l0), (1, .int (l1 + 1))]) ?_
      exact hk _ _ hf
def f_X6_leavesState_l144 (l0 : Nat) : Nat → Int32 → Hp → Option (Hp)
  | 0, _, _ => none
  | fu1 + 1, l1, h => (if (36 : Int32) ≤ l1 then (some h) else (if inb l1 36 = true then (if inb (((36 : Int32) * (hI h l0 4)) + l1) 180 = true then (f_X6_leavesState_l144 l0 fu1 (l1 + 1) (sF h (l0 + 5) (((36 : Int32) * (hI h l0 4)) + l1).toNatClampNeg (hF h (l0 + 3) l1.toNatClampNeg))) else none) else none))
theorem f_X6_leavesState_l144_s (l0 : Nat) (fu1 : Nat) (l1 : Int32) (h : Hp) : f_X6_leavesState_l144 l0 (fu1 + 1) l1 h = (if (36 : Int32) ≤ l1 then (some h) else (if inb l1 36 = true then (if inb (((36 : Int32) * (hI h l0 4)) + l1) 180 = true then (f_X6_leavesState_l144 l0 fu1 (l1 + 1) (sF h (l0 + 5) (((36 : Int32) * (hI h l0 4)) + l1).toNatClampNeg (hF h (l0 + 3) l1.toNatClampNeg))) else none) else none)) := rfl
theorem f_X6_leavesState_l144_0 (l0 : Nat) (l1 : Int32) (h : Hp) : f_X6_leavesState_l144 l0 0 l1 h = none := rfl
set_option maxRecDepth 100000 in
set_option maxHeartbeats 4000000 in
theorem lp_X6_leavesState_144 {g : Gl} {l0 : Nat} {r : Option Value} {h2 : Hp} {h3 : Hp} (kl0 : KD g.1 l0 5 0) (hx0 : Ev yX6_leavesState cX6_leavesState 2 none 0 0 g 176 [] [(0, .ref l0)] h3 r h2) : ∀ (fu1 : Nat) (l1 : Int32) (h : Hp), f_X6_leavesState_l144 l0 fu1 l1 h = some h3 → Ev yX6_leavesState cX6_leavesState 2 none 0 0 g 144 [] [(0, .ref l0), (1, .int l1)] h r h2 := by
  intro fu1
  induction fu1 with
  | zero =>
    intro l1 h hf
    cases hf
  | succ fu1 ih =>
    intro l1 h hf
    rw [f_X6_leavesState_l144_s] at hf
    have hk := ih
    refine ev_iload_n (n := 1) dX6_leavesState_144 rfl rfl ?_
    refine ev_bipush (v := 36) dX6_leavesState_145 (by decide) ?_
    refine ev_icmp_ge (tgt := 176) dX6_leavesState_147 (by decide) (fun c1 => ?_) (fun c1 => ?_)
    · replace hf := if_t c1 hf
      refine ev_sub [0] rfl (lv2 := [(0, .ref l0)]) ?_
      obtain rfl := Option.some.inj hf
      exact hx0
    · replace hf := if_f c1 hf
      refine ev_aload_n (n := 0) dX6_leavesState_150 rfl rfl ?_
      refine ev_get (v := .ref (l0 + 5)) 6 kl0 rfl (by decide) rfl lk_612 dX6_leavesState_151 ?_
      refine ev_bipush (v := 36) dX6_leavesState_154 (by decide) ?_
      refine ev_aload_n (n := 0) dX6_leavesState_156 rfl rfl ?_
      refine ev_get (v := .int (hI h l0 4)) 4 kl0 rfl (by decide) rfl lk_610 dX6_leavesState_157 ?_
      refine ev_imul dX6_leavesState_160 ?_
      refine ev_iload_n (n := 1) dX6_leavesState_161 rfl rfl ?_
      refine ev_iadd dX6_leavesState_162 ?_
      refine ev_aload_n (n := 0) dX6_leavesState_163 rfl rfl ?_
      refine ev_get (v := .ref (l0 + 3)) 2 kl0 rfl (by decide) rfl lk_608 dX6_leavesState_164 ?_
      refine ev_iload_n (n := 1) dX6_leavesState_167 rfl rfl ?_
      obtain ⟨gd4, hf⟩ := gd_of hf
      refine ev_fald (kd_5_2 kl0) (inb_of gd4) dX6_leavesState_168 ?_
      obtain ⟨gd5, hf⟩ := gd_of hf
      refine ev_fast (kd_5_6 kl0) (inb_of gd5) dX6_leavesState_169 ?_
      refine ev_iinc (z := 1) (v := (l1 + 1)) (lv2 := [(1, .int (l1 + 1)), (0, .ref l0)]) dX6_leavesState_170 rfl rfl (by decide) rfl ?_
      refine ev_goto (tgt := 144) dX6_leavesState_173 (by decide) ?_
      refine ev_sub [1, 0] rfl (lv2 := [(0, .ref l0), (1, .int (l1 + 1))]) ?_
      exact hk _ _ hf
def f_X6_leavesState_j106 (h : Hp) (l0 : Nat) : Option (Hp) := (bn1 (f_X6_leavesState_l108 l0 fu (0 : Int32) h) (fun h3 => (bn1 (f_X6_leavesState_l144 l0 fu (0 : Int32) h3) (fun h6 => (if inb (hI h6 l0 4) 5 = true then (some (sI (sL h6 (l0 + 6) (hI h6 l0 4).toNatClampNeg (hL h6 l0 3)) l0 4 ((hI (sL h6 (l0 + 6) (hI h6 l0 4).toNatClampNeg (hL h6 l0 3)) l0 4) + (1 : Int32)))) else none)))))
set_option maxRecDepth 100000 in
set_option maxHeartbeats 4000000 in
theorem jn_X6_leavesState_106 {g : Gl} {h : Hp} {l0 : Nat}  {h2 : Hp} (kl0 : KD g.1 l0 5 0)   (hf : f_X6_leavesState_j106 h l0 = some h2) : Ev yX6_leavesState cX6_leavesState 2 none 0 0 g 106 [] [(0, .ref l0)] h none h2 := by
  unfold f_X6_leavesState_j106 at hf
  refine ev_iconst (v := 0) dX6_leavesState_106 (by decide) ?_
  refine ev_istore_n (lv2 := [(1, .int (0 : Int32)), (0, .ref l0)]) dX6_leavesState_107 rfl (by decide) rfl ?_
  obtain ⟨h3, e9, hf⟩ := bn1_of hf
  refine ev_sub [1, 0] rfl (lv2 := [(0, .ref l0), (1, .int (0 : Int32))]) ?_
  refine lp_X6_leavesState_108 kl0 ?_ fu _ _ e9
  refine ev_iconst (v := 0) dX6_leavesState_142 (by decide) ?_
  refine ev_istore_n (lv2 := [(1, .int (0 : Int32)), (0, .ref l0)]) dX6_leavesState_143 rfl (by decide) rfl ?_
  obtain ⟨h6, e8, hf⟩ := bn1_of hf
  refine ev_sub [1, 0] rfl (lv2 := [(0, .ref l0), (1, .int (0 : Int32))]) ?_
  refine lp_X6_leavesState_144 kl0 ?_ fu _ _ e8
  refine ev_aload_n (n := 0) dX6_leavesState_176 rfl rfl ?_
  refine ev_get (v := .ref (l0 + 6)) 7 kl0 rfl (by decide) rfl lk_613 dX6_leavesState_177 ?_
  refine ev_aload_n (n := 0) dX6_leavesState_180 rfl rfl ?_
  refine ev_get (v := .int (hI h6 l0 4)) 4 kl0 rfl (by decide) rfl lk_610 dX6_leavesState_181 ?_
  refine ev_aload_n (n := 0) dX6_leavesState_184 rfl rfl ?_
  refine ev_get (v := .long (hL h6 l0 3)) 3 kl0 rfl (by decide) rfl lk_609 dX6_leavesState_185 ?_
  obtain ⟨gd7, hf⟩ := gd_of hf
  refine ev_last (kd_5_7 kl0) (inb_of gd7) dX6_leavesState_188 ?_
  refine ev_aload_n (n := 0) dX6_leavesState_189 rfl rfl ?_
  refine ev_dup dX6_leavesState_190 rfl ?_
  refine ev_get (v := .int (hI (sL h6 (l0 + 6) (hI h6 l0 4).toNatClampNeg (hL h6 l0 3)) l0 4)) 4 kl0 rfl (by decide) rfl lk_610 dX6_leavesState_191 ?_
  refine ev_iconst (v := 1) dX6_leavesState_194 (by decide) ?_
  refine ev_iadd dX6_leavesState_195 ?_
  refine ev_putI 4 kl0 rfl (by decide) rfl (by decide +kernel) rfl (by exact Nat.le_of_ble_eq_true rfl) lk_610 dX6_leavesState_196 ?_
  obtain rfl := Option.some.inj hf
  exact ev_return_ dX6_leavesState_199 rfl
def f_X6_leavesState_l10 (l0 : Nat) : Nat → Int32 → Hp → Option (Hp)
  | 0, _, _ => none
  | fu1 + 1, l1, h => (if (1280 : Int32) ≤ l1 then (some h) else (if inb (l1 + (320 : Int32)) 1600 = true then (if inb l1 1600 = true then (f_X6_leavesState_l10 l0 fu1 (l1 + 1) (sI h (l0 + 4) l1.toNatClampNeg (hI h (l0 + 4) (l1 + (320 : Int32)).toNatClampNeg))) else none) else none))
theorem f_X6_leavesState_l10_s (l0 : Nat) (fu1 : Nat) (l1 : Int32) (h : Hp) : f_X6_leavesState_l10 l0 (fu1 + 1) l1 h = (if (1280 : Int32) ≤ l1 then (some h) else (if inb (l1 + (320 : Int32)) 1600 = true then (if inb l1 1600 = true then (f_X6_leavesState_l10 l0 fu1 (l1 + 1) (sI h (l0 + 4) l1.toNatClampNeg (hI h (l0 + 4) (l1 + (320 : Int32)).toNatClampNeg))) else none) else none)) := rfl
theorem f_X6_leavesState_l10_0 (l0 : Nat) (l1 : Int32) (h : Hp) : f_X6_leavesState_l10 l0 0 l1 h = none := rfl
set_option maxRecDepth 100000 in
set_option maxHeartbeats 4000000 in
theorem lp_X6_leavesState_10 {g : Gl} {l0 : Nat} {r : Option Value} {h2 : Hp} {h3 : Hp} (kl0 : KD g.1 l0 5 0) (hx0 : Ev yX6_leavesState cX6_leavesState 2 none 0 0 g 39 [] [(0, .ref l0)] h3 r h2) : ∀ (fu1 : Nat) (l1 : Int32) (h : Hp), f_X6_leavesState_l10 l0 fu1 l1 h = some h3 → Ev yX6_leavesState cX6_leavesState 2 none 0 0 g 10 [] [(0, .ref l0), (1, .int l1)] h r h2 := by
  intro fu1
  induction fu1 with
  | zero =>
    intro l1 h hf
    cases hf
  | succ fu1 ih =>
    intro l1 h hf
    rw [f_X6_leavesState_l10_s] at hf
    have hk := ih
    refine ev_iload_n (n := 1) dX6_leavesState_10 rfl rfl ?_
    refine ev_sipush (v := 1280) dX6_leavesState_11 (by decide) ?_
    refine ev_icmp_ge (tgt := 39) dX6_leavesState_14 (by decide) (fun c1 => ?_) (fun c1 => ?_)
    · replace hf := if_t c1 hf
      refine ev_sub [0] rfl (lv2 := [(0, .ref l0)]) ?_
      obtain rfl := Option.some.inj hf
      exact hx0
    · replace hf := if_f c1 hf
      refine ev_aload_n (n := 0) dX6_leavesState_17 rfl rfl ?_
      refine ev_get (v := .ref (l0 + 4)) 5 kl0 rfl (by decide) rfl lk_611 dX6_leavesState_18 ?_
      refine ev_iload_n (n := 1) dX6_leavesState_21 rfl rfl ?_
      refine ev_aload_n (n := 0) dX6_leavesState_22 rfl rfl ?_
      refine ev_get (v := .ref (l0 + 4)) 5 kl0 rfl (by decide) rfl lk_611 dX6_leavesState_23 ?_
      refine ev_iload_n (n := 1) dX6_leavesState_26 rfl rfl ?_
      refine ev_sipush (v := 320) dX6_leavesState_27 (by decide) ?_
      refine ev_iadd dX6_leavesState_30 ?_
      obtain ⟨gd10, hf⟩ := gd_of hf
      refine ev_iald (kd_5_5 kl0) (inb_of gd10) dX6_leavesState_31 ?_
      obtain ⟨gd11, hf⟩ := gd_of hf
      refine ev_iast (kd_5_5 kl0) (inb_of gd11) dX6_leavesState_32 ?_
      refine ev_iinc (z := 1) (v := (l1 + 1)) (lv2 := [(1, .int (l1 + 1)), (0, .ref l0)]) dX6_leavesState_33 rfl rfl (by decide) rfl ?_
      refine ev_goto (tgt := 10) dX6_leavesState_36 (by decide) ?_
      refine ev_sub [1, 0] rfl (lv2 := [(0, .ref l0), (1, .int (l1 + 1))]) ?_
      exact hk _ _ hf
def f_X6_leavesState_l41 (l0 : Nat) : Nat → Int32 → Hp → Option (Hp)
  | 0, _, _ => none
  | fu1 + 1, l1, h => (if (144 : Int32) ≤ l1 then (some h) else (if inb (l1 + (36 : Int32)) 180 = true then (if inb l1 180 = true then (f_X6_leavesState_l41 l0 fu1 (l1 + 1) (sF h (l0 + 5) l1.toNatClampNeg (hF h (l0 + 5) (l1 + (36 : Int32)).toNatClampNeg))) else none) else none))
theorem f_X6_leavesState_l41_s (l0 : Nat) (fu1 : Nat) (l1 : Int32) (h : Hp) : f_X6_leavesState_l41 l0 (fu1 + 1) l1 h = (if (144 : Int32) ≤ l1 then (some h) else (if inb (l1 + (36 : Int32)) 180 = true then (if inb l1 180 = true then (f_X6_leavesState_l41 l0 fu1 (l1 + 1) (sF h (l0 + 5) l1.toNatClampNeg (hF h (l0 + 5) (l1 + (36 : Int32)).toNatClampNeg))) else none) else none)) := rfl
theorem f_X6_leavesState_l41_0 (l0 : Nat) (l1 : Int32) (h : Hp) : f_X6_leavesState_l41 l0 0 l1 h = none := rfl
set_option maxRecDepth 100000 in
set_option maxHeartbeats 4000000 in
theorem lp_X6_leavesState_41 {g : Gl} {l0 : Nat} {r : Option Value} {h2 : Hp} {h3 : Hp} (kl0 : KD g.1 l0 5 0) (hx0 : Ev yX6_leavesState cX6_leavesState 2 none 0 0 g 69 [] [(0, .ref l0)] h3 r h2) : ∀ (fu1 : Nat) (l1 : Int32) (h : Hp), f_X6_leavesState_l41 l0 fu1 l1 h = some h3 → Ev yX6_leavesState cX6_leavesState 2 none 0 0 g 41 [] [(0, .ref l0), (1, .int l1)] h r h2 := by
  intro fu1
  induction fu1 with
  | zero =>
    intro l1 h hf
    cases hf
  | succ fu1 ih =>
    intro l1 h hf
    rw [f_X6_leavesState_l41_s] at hf
    have hk := ih
    refine ev_iload_n (n := 1) dX6_leavesState_41 rfl rfl ?_
    refine ev_sipush (v := 144) dX6_leavesState_42 (by decide) ?_
    refine ev_icmp_ge (tgt := 69) dX6_leavesState_45 (by decide) (fun c1 => ?_) (fun c1 => ?_)
    · replace hf := if_t c1 hf
      refine ev_sub [0] rfl (lv2 := [(0, .ref l0)]) ?_
      obtain rfl := Option.some.inj hf
      exact hx0
    · replace hf := if_f c1 hf
      refine ev_aload_n (n := 0) dX6_leavesState_48 rfl rfl ?_
      refine ev_get (v := .ref (l0 + 5)) 6 kl0 rfl (by decide) rfl lk_612 dX6_leavesState_49 ?_
      refine ev_iload_n (n := 1) dX6_leavesState_52 rfl rfl ?_
      refine ev_aload_n (n := 0) dX6_leavesState_53 rfl rfl ?_
      refine ev_get (v := .ref (l0 + 5)) 6 kl0 rfl (by decide) rfl lk_612 dX6_leavesState_54 ?_
      refine ev_iload_n (n := 1) dX6_leavesState_57 rfl rfl ?_
      refine ev_bipush (v := 36) dX6_leavesState_58 (by decide) ?_
      refine ev_iadd dX6_leavesState_60 ?_
      obtain ⟨gd13, hf⟩ := gd_of hf
      refine ev_fald (kd_5_6 kl0) (inb_of gd13) dX6_leavesState_61 ?_
      obtain ⟨gd14, hf⟩ := gd_of hf
      refine ev_fast (kd_5_6 kl0) (inb_of gd14) dX6_leavesState_62 ?_
      refine ev_iinc (z := 1) (v := (l1 + 1)) (lv2 := [(1, .int (l1 + 1)), (0, .ref l0)]) dX6_leavesState_63 rfl rfl (by decide) rfl ?_
      refine ev_goto (tgt := 41) dX6_leavesState_66 (by decide) ?_
      refine ev_sub [1, 0] rfl (lv2 := [(0, .ref l0), (1, .int (l1 + 1))]) ?_
      exact hk _ _ hf
def f_X6_leavesState_l71 (l0 : Nat) : Nat → Int32 → Hp → Option (Hp)
  | 0, _, _ => none
  | fu1 + 1, l1, h => (if (4 : Int32) ≤ l1 then (some h) else (if inb (l1 + (1 : Int32)) 5 = true then (if inb l1 5 = true then (f_X6_leavesState_l71 l0 fu1 (l1 + 1) (sL h (l0 + 6) l1.toNatClampNeg (hL h (l0 + 6) (l1 + (1 : Int32)).toNatClampNeg))) else none) else none))
theorem f_X6_leavesState_l71_s (l0 : Nat) (fu1 : Nat) (l1 : Int32) (h : Hp) : f_X6_leavesState_l71 l0 (fu1 + 1) l1 h = (if (4 : Int32) ≤ l1 then (some h) else (if inb (l1 + (1 : Int32)) 5 = true then (if inb l1 5 = true then (f_X6_leavesState_l71 l0 fu1 (l1 + 1) (sL h (l0 + 6) l1.toNatClampNeg (hL h (l0 + 6) (l1 + (1 : Int32)).toNatClampNeg))) else none) else none)) := rfl
theorem f_X6_leavesState_l71_0 (l0 : Nat) (l1 : Int32) (h : Hp) : f_X6_leavesState_l71 l0 0 l1 h = none := rfl
set_option maxRecDepth 100000 in
set_option maxHeartbeats 4000000 in
theorem lp_X6_leavesState_71 {g : Gl} {l0 : Nat} {r : Option Value} {h2 : Hp} {h3 : Hp} (kl0 : KD g.1 l0 5 0) (hx0 : Ev yX6_leavesState cX6_leavesState 2 none 0 0 g 96 [] [(0, .ref l0)] h3 r h2) : ∀ (fu1 : Nat) (l1 : Int32) (h : Hp), f_X6_leavesState_l71 l0 fu1 l1 h = some h3 → Ev yX6_leavesState cX6_leavesState 2 none 0 0 g 71 [] [(0, .ref l0), (1, .int l1)] h r h2 := by
  intro fu1
  induction fu1 with
  | zero =>
    intro l1 h hf
    cases hf
  | succ fu1 ih =>
    intro l1 h hf
    rw [f_X6_leavesState_l71_s] at hf
    have hk := ih
    refine ev_iload_n (n := 1) dX6_leavesState_71 rfl rfl ?_
    refine ev_iconst (v := 4) dX6_leavesState_72 (by decide) ?_
    refine ev_icmp_ge (tgt := 96) dX6_leavesState_73 (by decide) (fun c1 => ?_) (fun c1 => ?_)
    · replace hf := if_t c1 hf
      refine ev_sub [0] rfl (lv2 := [(0, .ref l0)]) ?_
      obtain rfl := Option.some.inj hf
      exact hx0
    · replace hf := if_f c1 hf
      refine ev_aload_n (n := 0) dX6_leavesState_76 rfl rfl ?_
      refine ev_get (v := .ref (l0 + 6)) 7 kl0 rfl (by decide) rfl lk_613 dX6_leavesState_77 ?_
      refine ev_iload_n (n := 1) dX6_leavesState_80 rfl rfl ?_
      refine ev_aload_n (n := 0) dX6_leavesState_81 rfl rfl ?_
      refine ev_get (v := .ref (l0 + 6)) 7 kl0 rfl (by decide) rfl lk_613 dX6_leavesState_82 ?_
      refine ev_iload_n (n := 1) dX6_leavesState_85 rfl rfl ?_
      refine ev_iconst (v := 1) dX6_leavesState_86 (by decide) ?_
      refine ev_iadd dX6_leavesState_87 ?_
      obtain ⟨gd16, hf⟩ := gd_of hf
      refine ev_lald (kd_5_7 kl0) (inb_of gd16) dX6_leavesState_88 ?_
      obtain ⟨gd17, hf⟩ := gd_of hf
      refine ev_last (kd_5_7 kl0) (inb_of gd17) dX6_leavesState_89 ?_
      refine ev_iinc (z := 1) (v := (l1 + 1)) (lv2 := [(1, .int (l1 + 1)), (0, .ref l0)]) dX6_leavesState_90 rfl rfl (by decide) rfl ?_
      refine ev_goto (tgt := 71) dX6_leavesState_93 (by decide) ?_
      refine ev_sub [1, 0] rfl (lv2 := [(0, .ref l0), (1, .int (l1 + 1))]) ?_
      exact hk _ _ hf
def f_X6_leavesState (h : Hp) (l0 : Nat) : Option (Hp) := (if (hI h l0 4) = (5 : Int32) then (bn1 (f_X6_leavesState_l10 l0 fu (0 : Int32) h) (fun h12 => (bn1 (f_X6_leavesState_l41 l0 fu (0 : Int32) h12) (fun h15 => (bn1 (f_X6_leavesState_l71 l0 fu (0 : Int32) h15) (fun h18 => (f_X6_leavesState_j106 (sI h18 l0 4 ((hI h18 l0 4) - (1 : Int32))) l0))))))) else (f_X6_leavesState_j106 h l0))
set_option maxRecDepth 100000 in
set_option maxHeartbeats 4000000 in
theorem ev_X6_leavesState {g : Gl} {h : Hp} {l0 : Nat} {h2 : Hp} (kl0 : KD g.1 l0 5 0) (hf : f_X6_leavesState h l0 = some h2) : Ev yX6_leavesState cX6_leavesState 2 none 0 0 g 0 [] [(0, .ref l0)] h none h2 := by
  unfold f_X6_leavesState at hf
  refine ev_aload_n (n := 0) dX6_leavesState_0 rfl rfl ?_
  refine ev_get (v := .int (hI h l0 4)) 4 kl0 rfl (by decide) rfl lk_610 dX6_leavesState_1 ?_
  refine ev_iconst (v := 5) dX6_leavesState_4 (by decide) ?_
  refine ev_icmp_ne (tgt := 106) dX6_leavesState_5 (by decide) (fun c1 => ?_) (fun c1 => ?_)
  · replace hf := if_f c1 hf
    exact jn_X6_leavesState_106 kl0 hf
  · replace hf := if_t c1 hf
    refine ev_iconst (v := 0) dX6_leavesState_8 (by decide) ?_
    refine ev_istore_n (lv2 := [(1, .int (0 : Int32)), (0, .ref l0)]) dX6_leavesState_9 rfl (by decide) rfl ?_
    obtain ⟨h12, e21, hf⟩ := bn1_of hf
    refine ev_sub [1, 0] rfl (lv2 := [(0, .ref l0), (1, .int (0 : Int32))]) ?_
    refine lp_X6_leavesState_10 kl0 ?_ fu _ _ e21
    refine ev_iconst (v := 0) dX6_leavesState_39 (by decide) ?_
    refine ev_istore_n (lv2 := [(1, .int (0 : Int32)), (0, .ref l0)]) dX6_leavesState_40 rfl (by decide) rfl ?_
    obtain ⟨h15, e20, hf⟩ := bn1_of hf
    refine ev_sub [1, 0] rfl (lv2 := [(0, .ref l0), (1, .int (0 : Int32))]) ?_
    refine lp_X6_leavesState_41 kl0 ?_ fu _ _ e20
    refine ev_iconst (v := 0) dX6_leavesState_69 (by decide) ?_
    refine ev_istore_n (lv2 := [(1, .int (0 : Int32)), (0, .ref l0)]) dX6_leavesState_70 rfl (by decide) rfl ?_
    obtain ⟨h18, e19, hf⟩ := bn1_of hf
    refine ev_sub [1, 0] rfl (lv2 := [(0, .ref l0), (1, .int (0 : Int32))]) ?_
    refine lp_X6_leavesState_71 kl0 ?_ fu _ _ e19
    refine ev_aload_n (n := 0) dX6_leavesState_96 rfl rfl ?_
    refine ev_dup dX6_leavesState_97 rfl ?_
    refine ev_get (v := .int (hI h18 l0 4)) 4 kl0 rfl (by decide) rfl lk_610 dX6_leavesState_98 ?_
    refine ev_iconst (v := 1) dX6_leavesState_101 (by decide) ?_
    refine ev_isub dX6_leavesState_102 ?_
    refine ev_putI 4 kl0 rfl (by decide) rfl (by decide +kernel) rfl (by exact Nat.le_of_ble_eq_true rfl) lk_610 dX6_leavesState_103 ?_
    exact jn_X6_leavesState_106 kl0 hf
def f_X6_back_l24 (l0 : Nat) : Nat → Int32 → Hp → Option (Hp)
  | 0, _, _ => none
  | fu1 + 1, l1, h => (if (320 : Int32) ≤ l1 then (some h) else (if inb (((320 : Int32) * (hI h l0 4)) + l1) 1600 = true then (if inb l1 320 = true then (f_X6_back_l24 l0 fu1 (l1 + 1) (sI h (l0 + 2) l1.toNatClampNeg (hI h (l0 + 4) (((320 : Int32) * (hI h l0 4)) + l1).toNatClampNeg))) else none) else none))
theorem f_X6_back_l24_s (l0 : Nat) (fu1 : Nat) (l1 : Int32) (h : Hp) : f_X6_back_l24 l0 (fu1 + 1) l1 h = (if (320 : Int32) ≤ l1 then (some h) else (if inb (((320 : Int32) * (hI h l0 4)) + l1) 1600 = true then (if inb l1 320 = true then (f_X6_back_l24 l0 fu1 (l1 + 1) (sI h (l0 + 2) l1.toNatClampNeg (hI h (l0 + 4) (((320 : Int32) * (hI h l0 4)) + l1).toNatClampNeg))) else none) else none)) := rfl
theorem f_X6_back_l24_0 (l0 : Nat) (l1 : Int32) (h : Hp) : f_X6_back_l24 l0 0 l1 h = none := rfl
set_option maxRecDepth 100000 in
set_option maxHeartbeats 4000000 in
theorem lp_X6_back_24 {g : Gl} {l0 : Nat} {r : Option Value} {h2 : Hp} {h3 : Hp} (kl0 : KD g.1 l0 5 0) (hx0 : Ev yX6_back cX6_back 2 (some .int) 1 20 g 58 [] [(0, .ref l0)] h3 r h2) : ∀ (fu1 : Nat) (l1 : Int32) (h : Hp), f_X6_back_l24 l0 fu1 l1 h = some h3 → Ev yX6_back cX6_back 2 (some .int) 1 20 g 24 [] [(0, .ref l0), (1, .int l1)] h r h2 := by
  intro fu1
  induction fu1 with
  | zero =>
    intro l1 h hf
    cases hf
  | succ fu1 ih =>
    intro l1 h hf
    rw [f_X6_back_l24_s] at hf
    have hk := ih
    refine ev_iload_n (n := 1) dX6_back_24 rfl rfl ?_
    refine ev_sipush (v := 320) dX6_back_25 (by decide) ?_
    refine ev_icmp_ge (tgt := 58) dX6_back_28 (by decide) (fun c1 => ?_) (fun c1 => ?_)
    · replace hf := if_t c1 hf
      refine ev_sub [0] rfl (lv2 := [(0, .ref l0)]) ?_
      obtain rfl := Option.some.inj hf
      exact hx0
    · replace hf := if_f c1 hf
      refine ev_aload_n (n := 0) dX6_back_31 rfl rfl ?_
      refine ev_get (v := .ref (l0 + 2)) 1 kl0 rfl (by decide) rfl lk_607 dX6_back_32 ?_
      refine ev_iload_n (n := 1) dX6_back_35 rfl rfl ?_
      refine ev_aload_n (n := 0) dX6_back_36 rfl rfl ?_
      refine ev_get (v := .ref (l0 + 4)) 5 kl0 rfl (by decide) rfl lk_611 dX6_back_37 ?_
      refine ev_sipush (v := 320) dX6_back_40 (by decide) ?_
      refine ev_aload_n (n := 0) dX6_back_43 rfl rfl ?_
      refine ev_get (v := .int (hI h l0 4)) 4 kl0 rfl (by decide) rfl lk_610 dX6_back_44 ?_
      refine ev_imul dX6_back_47 ?_
      refine ev_iload_n (n := 1) dX6_back_48 rfl rfl ?_
      refine ev_iadd dX6_back_49 ?_
      obtain ⟨gd1, hf⟩ := gd_of hf
      refine ev_iald (kd_5_5 kl0) (inb_of gd1) dX6_back_50 ?_
      obtain ⟨gd2, hf⟩ := gd_of hf
      refine ev_iast (kd_5_1 kl0) (inb_of gd2) dX6_back_51 ?_
      refine ev_iinc (z := 1) (v := (l1 + 1)) (lv2 := [(1, .int (l1 + 1)), (0, .ref l0)]) dX6_back_52 rfl rfl (by decide) rfl ?_
      refine ev_goto (tgt := 24) dX6_back_55 (by decide) ?_
      refine ev_sub [1, 0] rfl (lv2 := [(0, .ref l0), (1, .int (l1 + 1))]) ?_
      exact hk _ _ hf
def f_X6_back_l60 (l0 : Nat) : Nat → Int32 → Hp → Option (Hp)
  | 0, _, _ => none
  | fu1 + 1, l1, h => (if (36 : Int32) ≤ l1 then (some h) else (if inb (((36 : Int32) * (hI h l0 4)) + l1) 180 = true then (if inb l1 36 = true then (f_X6_back_l60 l0 fu1 (l1 + 1) (sF h (l0 + 3) l1.toNatClampNeg (hF h (l0 + 5) (((36 : Int32) * (hI h l0 4)) + l1).toNatClampNeg))) else none) else none))
theorem f_X6_back_l60_s (l0 : Nat) (fu1 : Nat) (l1 : Int32) (h : Hp) : f_X6_back_l60 l0 (fu1 + 1) l1 h = (if (36 : Int32) ≤ l1 then (some h) else (if inb (((36 : Int32) * (hI h l0 4)) + l1) 180 = true then (if inb l1 36 = true then (f_X6_back_l60 l0 fu1 (l1 + 1) (sF h (l0 + 3) l1.toNatClampNeg (hF h (l0 + 5) (((36 : Int32) * (hI h l0 4)) + l1).toNatClampNeg))) else none) else none)) := rfl
theorem f_X6_back_l60_0 (l0 : Nat) (l1 : Int32) (h : Hp) : f_X6_back_l60 l0 0 l1 h = none := rfl
set_option maxRecDepth 100000 in
set_option maxHeartbeats 4000000 in
theorem lp_X6_back_60 {g : Gl} {l0 : Nat} {r : Option Value} {h2 : Hp} {h3 : Hp} (kl0 : KD g.1 l0 5 0) (hx0 : Ev yX6_back cX6_back 2 (some .int) 1 20 g 92 [] [(0, .ref l0)] h3 r h2) : ∀ (fu1 : Nat) (l1 : Int32) (h : Hp), f_X6_back_l60 l0 fu1 l1 h = some h3 → Ev yX6_back cX6_back 2 (some .int) 1 20 g 60 [] [(0, .ref l0), (1, .int l1)] h r h2 := by
  intro fu1
  induction fu1 with
  | zero =>
    intro l1 h hf
    cases hf
  | succ fu1 ih =>
    intro l1 h hf
    rw [f_X6_back_l60_s] at hf
    have hk := ih
    refine ev_iload_n (n := 1) dX6_back_60 rfl rfl ?_
    refine ev_bipush (v := 36) dX6_back_61 (by decide) ?_
    refine ev_icmp_ge (tgt := 92) dX6_back_63 (by decide) (fun c1 => ?_) (fun c1 => ?_)
    · replace hf := if_t c1 hf
      refine ev_sub [0] rfl (lv2 := [(0, .ref l0)]) ?_
      obtain rfl := Option.some.inj hf
      exact hx0
    · replace hf := if_f c1 hf
      refine ev_aload_n (n := 0) dX6_back_66 rfl rfl ?_
      refine ev_get (v := .ref (l0 + 3)) 2 kl0 rfl (by decide) rfl lk_608 dX6_back_67 ?_
      refine ev_iload_n (n := 1) dX6_back_70 rfl rfl ?_
      refine ev_aload_n (n := 0) dX6_back_71 rfl rfl ?_
      refine ev_get (v := .ref (l0 + 5)) 6 kl0 rfl (by decide) rfl lk_612 dX6_back_72 ?_
      refine ev_bipush (v := 36) dX6_back_75 (by decide) ?_
      refine ev_aload_n (n := 0) dX6_back_77 rfl rfl ?_
      refine ev_get (v := .int (hI h l0 4)) 4 kl0 rfl (by decide) rfl lk_610 dX6_back_78 ?_
      refine ev_imul dX6_back_81 ?_
      refine ev_iload_n (n := 1) dX6_back_82 rfl rfl ?_
      refine ev_iadd dX6_back_83 ?_
      obtain ⟨gd4, hf⟩ := gd_of hf
      refine ev_fald (kd_5_6 kl0) (inb_of gd4) dX6_back_84 ?_
      obtain ⟨gd5, hf⟩ := gd_of hf
      refine ev_fast (kd_5_2 kl0) (inb_of gd5) dX6_back_85 ?_
      refine ev_iinc (z := 1) (v := (l1 + 1)) (lv2 := [(1, .int (l1 + 1)), (0, .ref l0)]) dX6_back_86 rfl rfl (by decide) rfl ?_
      refine ev_goto (tgt := 60) dX6_back_89 (by decide) ?_
      refine ev_sub [1, 0] rfl (lv2 := [(0, .ref l0), (1, .int (l1 + 1))]) ?_
      exact hk _ _ hf
def f_X6_back (h : Hp) (l0 : Nat) : Option (Int32 × Hp) := (if (hI h l0 4) = 0 then (bn2 (f_X6_no h l0) (fun v10 h11 => (some (v10, h11)))) else (bn1 (f_X6_back_l24 l0 fu (0 : Int32) (sI h l0 4 ((hI h l0 4) - (1 : Int32)))) (fun h3 => (bn1 (f_X6_back_l60 l0 fu (0 : Int32) h3) (fun h6 => (if inb (hI h6 l0 4) 5 = true then (some ((hI (sL h6 l0 3 (hL h6 (l0 + 6) (hI h6 l0 4).toNatClampNeg)) l0 4), (sL h6 l0 3 (hL h6 (l0 + 6) (hI h6 l0 4).toNatClampNeg)))) else none))))))
set_option maxRecDepth 100000 in
set_option maxHeartbeats 4000000 in
theorem ev_X6_back {g : Gl} {h : Hp} {l0 : Nat} {rv : Int32} {h2 : Hp} (kl0 : KD g.1 l0 5 0) (hf : f_X6_back h l0 = some (rv, h2)) : Ev yX6_back cX6_back 2 (some .int) 1 20 g 0 [] [(0, .ref l0)] h (some (.int rv)) h2 := by
  unfold f_X6_back at hf
  refine ev_aload_n (n := 0) dX6_back_0 rfl rfl ?_
  refine ev_get (v := .int (hI h l0 4)) 4 kl0 rfl (by decide) rfl lk_610 dX6_back_1 ?_
  refine ev_if_ne (tgt := 12) dX6_back_4 (by decide) (fun c1 => ?_) (fun c1 => ?_)
  · replace hf := if_f c1 hf
    refine ev_aload_n (n := 0) dX6_back_12 rfl rfl ?_
    refine ev_dup dX6_back_13 rfl ?_
    refine ev_get (v := .int (hI h l0 4)) 4 kl0 rfl (by decide) rfl lk_610 dX6_back_14 ?_
    refine ev_iconst (v := 1) dX6_back_17 (by decide) ?_
    refine ev_isub dX6_back_18 ?_
    refine ev_putI 4 kl0 rfl (by decide) rfl (by decide +kernel) rfl (by exact Nat.le_of_ble_eq_true rfl) lk_610 dX6_back_19 ?_
    refine ev_iconst (v := 0) dX6_back_22 (by decide) ?_
    refine ev_istore_n (lv2 := [(1, .int (0 : Int32)), (0, .ref l0)]) dX6_back_23 rfl (by decide) rfl ?_
    obtain ⟨h3, e9, hf⟩ := bn1_of hf
    refine ev_sub [1, 0] rfl (lv2 := [(0, .ref l0), (1, .int (0 : Int32))]) ?_
    refine lp_X6_back_24 kl0 ?_ fu _ _ e9
    refine ev_iconst (v := 0) dX6_back_58 (by decide) ?_
    refine ev_istore_n (lv2 := [(1, .int (0 : Int32)), (0, .ref l0)]) dX6_back_59 rfl (by decide) rfl ?_
    obtain ⟨h6, e8, hf⟩ := bn1_of hf
    refine ev_sub [1, 0] rfl (lv2 := [(0, .ref l0), (1, .int (0 : Int32))]) ?_
    refine lp_X6_back_60 kl0 ?_ fu _ _ e8
    refine ev_aload_n (n := 0) dX6_back_92 rfl rfl ?_
    refine ev_aload_n (n := 0) dX6_back_93 rfl rfl ?_
    refine ev_get (v := .ref (l0 + 6)) 7 kl0 rfl (by decide) rfl lk_613 dX6_back_94 ?_
    refine ev_aload_n (n := 0) dX6_back_97 rfl rfl ?_
    refine ev_get (v := .int (hI h6 l0 4)) 4 kl0 rfl (by decide) rfl lk_610 dX6_back_98 ?_
    obtain ⟨gd7, hf⟩ := gd_of hf
    refine ev_lald (kd_5_7 kl0) (inb_of gd7) dX6_back_101 ?_
    refine ev_putL 3 kl0 rfl (by decide) rfl (by decide +kernel) rfl (by exact Nat.le_of_ble_eq_true rfl) lk_609 dX6_back_102 ?_
    refine ev_aload_n (n := 0) dX6_back_105 rfl rfl ?_
    refine ev_get (v := .int (hI (sL h6 l0 3 (hL h6 (l0 + 6) (hI h6 l0 4).toNatClampNeg)) l0 4)) 4 kl0 rfl (by decide) rfl lk_610 dX6_back_106 ?_
    obtain ⟨rfl, rfl⟩ := Prod.mk.inj (Option.some.inj hf)
    exact ev_ireturn dX6_back_109 ⟨.int, rfl, rfl⟩
  · replace hf := if_t c1 hf
    refine ev_aload_n (n := 0) dX6_back_7 rfl rfl ?_
    obtain ⟨v10, h11, e12, hf⟩ := bn2_of hf
    refine ev_callVi (As := []) cal_X6_no kl0 rfl (ev_X6_no kl0 e12) (Nat.le_of_ble_eq_true rfl) rfl lk_661 (by decide) (by decide) (Nat.le_of_ble_eq_true rfl) dX6_back_8 rfl ?_
    obtain ⟨rfl, rfl⟩ := Prod.mk.inj (Option.some.inj hf)
    exact ev_ireturn dX6_back_11 ⟨.int, rfl, rfl⟩
def f_X6_at (h : Hp) (l0 : Int32) : Option (Int32) := (some ((14 : Int32) + ((48 : Int32) * l0)))
set_option maxRecDepth 100000 in
set_option maxHeartbeats 4000000 in
theorem ev_X6_at {g : Gl} {h : Hp} {l0 : Int32} {rv : Int32}  (hf : f_X6_at h l0 = some rv) : Ev yX6_at cX6_at 1 (some .int) 0 0 g 0 [] [(0, .int l0)] h (some (.int rv)) h := by
  unfold f_X6_at at hf
  refine ev_bipush (v := 14) dX6_at_0 (by decide) ?_
  refine ev_bipush (v := 48) dX6_at_2 (by decide) ?_
  refine ev_iload_n (n := 0) dX6_at_4 rfl rfl ?_
  refine ev_imul dX6_at_5 ?_
  refine ev_iadd dX6_at_6 ?_
  obtain rfl := Option.some.inj hf
  exact ev_ireturn dX6_at_7 ⟨.int, rfl, rfl⟩
def f_X6_cellOf (h : Hp) (l0 : Nat) (l1 : Int32) (l2 : Int32) : Option (Int32) := (bn1 (f_X6_at h l1) (fun v1 => (if inb (v1 + l2) 320 = true then (some (hI h (l0 + 2) (v1 + l2).toNatClampNeg)) else none)))
set_option maxRecDepth 100000 in
set_option maxHeartbeats 4000000 in
theorem ev_X6_cellOf {g : Gl} {h : Hp} {l0 : Nat} {l1 : Int32} {l2 : Int32} {rv : Int32} (kl0 : KD g.1 l0 5 0) (hf : f_X6_cellOf h l0 l1 l2 = some rv) : Ev yX6_cellOf cX6_cellOf 3 (some .int) 1 20 g 0 [] [(0, .ref l0), (1, .int l1), (2, .int l2)] h (some (.int rv)) h := by
  unfold f_X6_cellOf at hf
  refine ev_aload_n (n := 0) dX6_cellOf_0 rfl rfl ?_
  refine ev_get (v := .ref (l0 + 2)) 1 kl0 rfl (by decide) rfl lk_607 dX6_cellOf_1 ?_
  refine ev_iload_n (n := 1) dX6_cellOf_4 rfl rfl ?_
  obtain ⟨v1, e2, hf⟩ := bn1_of hf
  refine ev_callSi (As := [.int l1]) cal_X6_at (ev_X6_at e2) (Nat.le_of_ble_eq_true rfl) rfl lk_700 (by decide) (by decide) (Nat.le_of_ble_eq_true rfl) dX6_cellOf_5 rfl ?_
  refine ev_iload_n (n := 2) dX6_cellOf_8 rfl rfl ?_
  refine ev_iadd dX6_cellOf_9 ?_
  obtain ⟨gd3, hf⟩ := gd_of hf
  refine ev_iald (kd_5_1 kl0) (inb_of gd3) dX6_cellOf_10 ?_
  obtain rfl := Option.some.inj hf
  exact ev_ireturn dX6_cellOf_11 ⟨.int, rfl, rfl⟩
def f_X6_isPeer (h : Hp) (l0 : Nat) (l1 : Int32) : Option (Int32) := (bn1 (f_X6_in h l1 (0 : Int32) ((hI h (l0 + 2) (0 : Int32).toNatClampNeg) - (1 : Int32))) (fun v2 => (if isBb v2 = true then (some v2) else none)))
set_option maxRecDepth 100000 in
set_option maxHeartbeats 4000000 in
theorem ev_X6_isPeer {g : Gl} {h : Hp} {l0 : Nat} {l1 : Int32} {rv : Int32} (kl0 : KD g.1 l0 5 0) (hf : f_X6_isPeer h l0 l1 = some rv) : Ev yX6_isPeer cX6_isPeer 2 (some .boolean) 1 22 g 0 [] [(0, .ref l0), (1, .int l1)] h (some (.int rv)) h := by
  unfold f_X6_isPeer at hf
  refine ev_iload_n (n := 1) dX6_isPeer_0 rfl rfl ?_
  refine ev_iconst (v := 0) dX6_isPeer_1 (by decide) ?_
  refine ev_aload_n (n := 0) dX6_isPeer_2 rfl rfl ?_
  refine ev_get (v := .ref (l0 + 2)) 1 kl0 rfl (by decide) rfl lk_607 dX6_isPeer_3 ?_
  refine ev_iconst (v := 0) dX6_isPeer_6 (by decide) ?_
  refine ev_iald (kd_5_1 kl0) (by unfold vp_in; decide) dX6_isPeer_7 ?_
  refine ev_iconst (v := 1) dX6_isPeer_8 (by decide) ?_
  refine ev_isub dX6_isPeer_9 ?_
  obtain ⟨v2, e3, hf⟩ := bn1_of hf
  refine ev_callSi (As := [.int l1, .int (0 : Int32), .int ((hI h (l0 + 2) (0 : Int32).toNatClampNeg) - (1 : Int32))]) cal_X6_in (ev_X6_in e3) (Nat.le_of_ble_eq_true rfl) rfl lk_669 (by decide) (by decide) (Nat.le_of_ble_eq_true rfl) dX6_isPeer_10 rfl ?_
  obtain ⟨gd4, hf⟩ := gd_of hf
  obtain rfl := Option.some.inj hf
  exact ev_ireturn dX6_isPeer_13 ⟨.boolean, rfl, isB_nar (isBb_of gd4)⟩
def f_X6_allPieces (h : Hp) (l0 : Nat) : Option (Int32) := (some (((1 : Int32) <<< ((hI h (l0 + 2) (1 : Int32).toNatClampNeg) &&& 31)) - (1 : Int32)))
set_option maxRecDepth 100000 in
set_option maxHeartbeats 4000000 in
theorem ev_X6_allPieces {g : Gl} {h : Hp} {l0 : Nat} {rv : Int32} (kl0 : KD g.1 l0 5 0) (hf : f_X6_allPieces h l0 = some rv) : Ev yX6_allPieces cX6_allPieces 1 (some .int) 0 0 g 0 [] [(0, .ref l0)] h (some (.int rv)) h := by
  unfold f_X6_allPieces at hf
  refine ev_iconst (v := 1) dX6_allPieces_0 (by decide) ?_
  refine ev_aload_n (n := 0) dX6_allPieces_1 rfl rfl ?_
  refine ev_get (v := .ref (l0 + 2)) 1 kl0 rfl (by decide) rfl lk_607 dX6_allPieces_2 ?_
  refine ev_iconst (v := 1) dX6_allPieces_5 (by decide) ?_
  refine ev_iald (kd_5_1 kl0) (by unfold vp_in; decide) dX6_allPieces_6 ?_
  refine ev_ishl dX6_allPieces_7 ?_
  refine ev_iconst (v := 1) dX6_allPieces_8 (by decide) ?_
  refine ev_isub dX6_allPieces_9 ?_
  obtain rfl := Option.some.inj hf
  exact ev_ireturn dX6_allPieces_10 ⟨.int, rfl, rfl⟩
def f_X6_claims (h : Hp) (l0 : Nat) (l1 : Int32) : Option (Int32) := (bn1 (f_X6_cellOf h l0 l1 (0 : Int32)) (fun v1 => (if v1 = (2 : Int32) then (bn1 (f_X6_allPieces h l0) (fun v5 => (some v5))) else (bn1 (f_X6_cellOf h l0 l1 (2 : Int32)) (fun v3 => (some v3))))))
set_option maxRecDepth 100000 in
set_option maxHeartbeats 4000000 in
theorem ev_X6_claims {g : Gl} {h : Hp} {l0 : Nat} {l1 : Int32} {rv : Int32} (kl0 : KD g.1 l0 5 0) (hf : f_X6_claims h l0 l1 = some rv) : Ev yX6_claims cX6_claims 2 (some .int) 2 42 g 0 [] [(0, .ref l0), (1, .int l1)] h (some (.int rv)) h := by
  unfold f_X6_claims at hf
  refine ev_aload_n (n := 0) dX6_claims_0 rfl rfl ?_
  refine ev_iload_n (n := 1) dX6_claims_1 rfl rfl ?_
  refine ev_iconst (v := 0) dX6_claims_2 (by decide) ?_
  obtain ⟨v1, e2, hf⟩ := bn1_of hf
  refine ev_callVi (As := [.int l1, .int (0 : Int32)]) cal_X6_cellOf kl0 rfl (ev_X6_cellOf kl0 e2) (Nat.le_of_ble_eq_true rfl) rfl lk_719 (by decide) (by decide) (Nat.le_of_ble_eq_true rfl) dX6_claims_3 rfl ?_
  refine ev_iconst (v := 2) dX6_claims_6 (by decide) ?_
  refine ev_icmp_ne (tgt := 17) dX6_claims_7 (by decide) (fun c1 => ?_) (fun c1 => ?_)
  · replace hf := if_f c1 hf
    refine ev_aload_n (n := 0) dX6_claims_17 rfl rfl ?_
    refine ev_iload_n (n := 1) dX6_claims_18 rfl rfl ?_
    refine ev_iconst (v := 2) dX6_claims_19 (by decide) ?_
    obtain ⟨v3, e4, hf⟩ := bn1_of hf
    refine ev_callVi (As := [.int l1, .int (2 : Int32)]) cal_X6_cellOf kl0 rfl (ev_X6_cellOf kl0 e4) (Nat.le_of_ble_eq_true rfl) rfl lk_719 (by decide) (by decide) (Nat.le_of_ble_eq_true rfl) dX6_claims_20 rfl ?_
    obtain rfl := Option.some.inj hf
    exact ev_ireturn dX6_claims_23 ⟨.int, rfl, rfl⟩
  · replace hf := if_t c1 hf
    refine ev_aload_n (n := 0) dX6_claims_10 rfl rfl ?_
    obtain ⟨v5, e6, hf⟩ := bn1_of hf
    refine ev_callVi (As := []) cal_X6_allPieces kl0 rfl (ev_X6_allPieces kl0 e6) (Nat.le_of_ble_eq_true rfl) rfl lk_775 (by decide) (by decide) (Nat.le_of_ble_eq_true rfl) dX6_claims_11 rfl ?_
    refine ev_goto (tgt := 23) dX6_claims_14 (by decide) ?_
    obtain rfl := Option.some.inj hf
    exact ev_ireturn dX6_claims_23 ⟨.int, rfl, rfl⟩
def f_X6_copiesOf_l4 (h : Hp) (l0 : Nat) (l1 : Int32) : Nat → Int32 → Int32 → Option (Int32)
  | 0, _, _ => none
  | fu1 + 1, l2, l3 => (if (hI h (l0 + 2) (0 : Int32).toNatClampNeg) ≤ l3 then (some l2) else (bn1 (f_X6_claims h l0 l3) (fun v2 => (f_X6_copiesOf_l4 h l0 l1 fu1 (l2 + ((v2 >>> (l1 &&& 31)) &&& (1 : Int32))) (l3 + 1)))))
theorem f_X6_copiesOf_l4_s (h : Hp) (l0 : Nat) (l1 : Int32) (fu1 : Nat) (l2 : Int32) (l3 : Int32) : f_X6_copiesOf_l4 h l0 l1 (fu1 + 1) l2 l3 = (if (hI h (l0 + 2) (0 : Int32).toNatClampNeg) ≤ l3 then (some l2) else (bn1 (f_X6_claims h l0 l3) (fun v2 => (f_X6_copiesOf_l4 h l0 l1 fu1 (l2 + ((v2 >>> (l1 &&& 31)) &&& (1 : Int32))) (l3 + 1))))) := rfl
theorem f_X6_copiesOf_l4_0 (h : Hp) (l0 : Nat) (l1 : Int32) (l2 : Int32) (l3 : Int32) : f_X6_copiesOf_l4 h l0 l1 0 l2 l3 = none := rfl
set_option maxRecDepth 100000 in
set_option maxHeartbeats 4000000 in
theorem lp_X6_copiesOf_4 {g : Gl} {h : Hp} {l0 : Nat} {l1 : Int32} {r : Option Value} {h2 : Hp} {o2 : Int32} (kl0 : KD g.1 l0 5 0) (hx0 : Ev yX6_copiesOf cX6_copiesOf 4 (some .int) 3 63 g 32 [] [(2, .int o2)] h r h2) : ∀ (fu1 : Nat) (l2 : Int32) (l3 : Int32), f_X6_copiesOf_l4 h l0 l1 fu1 l2 l3 = some o2 → Ev yX6_copiesOf cX6_copiesOf 4 (some .int) 3 63 g 4 [] [(0, .ref l0), (1, .int l1), (2, .int l2), (3, .int l3)] h r h2 := by
  intro fu1
  induction fu1 with
  | zero =>
    intro l2 l3 hf
    cases hf
  | succ fu1 ih =>
    intro l2 l3 hf
    rw [f_X6_copiesOf_l4_s] at hf
    have hk := ih
    refine ev_iload_n (n := 3) dX6_copiesOf_4 rfl rfl ?_
    refine ev_aload_n (n := 0) dX6_copiesOf_5 rfl rfl ?_
    refine ev_get (v := .ref (l0 + 2)) 1 kl0 rfl (by decide) rfl lk_607 dX6_copiesOf_6 ?_
    refine ev_iconst (v := 0) dX6_copiesOf_9 (by decide) ?_
    refine ev_iald (kd_5_1 kl0) (by unfold vp_in; decide) dX6_copiesOf_10 ?_
    refine ev_icmp_ge (tgt := 32) dX6_copiesOf_11 (by decide) (fun c1 => ?_) (fun c1 => ?_)
    · replace hf := if_t c1 hf
      refine ev_sub [2] rfl (lv2 := [(2, .int l2)]) ?_
      obtain rfl := Option.some.inj hf
      exact hx0
    · replace hf := if_f c1 hf
      refine ev_iload_n (n := 2) dX6_copiesOf_14 rfl rfl ?_
      refine ev_aload_n (n := 0) dX6_copiesOf_15 rfl rfl ?_
      refine ev_iload_n (n := 3) dX6_copiesOf_16 rfl rfl ?_
      obtain ⟨v2, e3, hf⟩ := bn1_of hf
      refine ev_callVi (As := [.int l3]) cal_X6_claims kl0 rfl (ev_X6_claims kl0 e3) (Nat.le_of_ble_eq_true rfl) rfl lk_771 (by decide) (by decide) (Nat.le_of_ble_eq_true rfl) dX6_copiesOf_17 rfl ?_
      refine ev_iload_n (n := 1) dX6_copiesOf_20 rfl rfl ?_
      refine ev_ishr dX6_copiesOf_21 ?_
      refine ev_iconst (v := 1) dX6_copiesOf_22 (by decide) ?_
      refine ev_iand dX6_copiesOf_23 ?_
      refine ev_iadd dX6_copiesOf_24 ?_
      refine ev_istore_n (lv2 := [(2, .int (l2 + ((v2 >>> (l1 &&& 31)) &&& (1 : Int32)))), (0, .ref l0), (1, .int l1), (3, .int l3)]) dX6_copiesOf_25 rfl (by decide) rfl ?_
      refine ev_iinc (z := 3) (v := (l3 + 1)) (lv2 := [(3, .int (l3 + 1)), (2, .int (l2 + ((v2 >>> (l1 &&& 31)) &&& (1 : Int32)))), (0, .ref l0), (1, .int l1)]) dX6_copiesOf_26 rfl rfl (by decide) rfl ?_
      refine ev_goto (tgt := 4) dX6_copiesOf_29 (by decide) ?_
      refine ev_sub [2, 3, 1, 0] rfl (lv2 := [(0, .ref l0), (1, .int l1), (2, .int (l2 + ((v2 >>> (l1 &&& 31)) &&& (1 : Int32)))), (3, .int (l3 + 1))]) ?_
      exact hk _ _ hf
def f_X6_copiesOf (h : Hp) (l0 : Nat) (l1 : Int32) : Option (Int32) := (bn1 (f_X6_copiesOf_l4 h l0 l1 fu (0 : Int32) (0 : Int32)) (fun w2_4 => (some w2_4)))
set_option maxRecDepth 100000 in
set_option maxHeartbeats 4000000 in
theorem ev_X6_copiesOf {g : Gl} {h : Hp} {l0 : Nat} {l1 : Int32} {rv : Int32} (kl0 : KD g.1 l0 5 0) (hf : f_X6_copiesOf h l0 l1 = some rv) : Ev yX6_copiesOf cX6_copiesOf 4 (some .int) 3 63 g 0 [] [(0, .ref l0), (1, .int l1)] h (some (.int rv)) h := by
  unfold f_X6_copiesOf at hf
  refine ev_iconst (v := 0) dX6_copiesOf_0 (by decide) ?_
  refine ev_istore_n (lv2 := [(2, .int (0 : Int32)), (0, .ref l0), (1, .int l1)]) dX6_copiesOf_1 rfl (by decide) rfl ?_
  refine ev_iconst (v := 0) dX6_copiesOf_2 (by decide) ?_
  refine ev_istore_n (lv2 := [(3, .int (0 : Int32)), (2, .int (0 : Int32)), (0, .ref l0), (1, .int l1)]) dX6_copiesOf_3 rfl (by decide) rfl ?_
  obtain ⟨w2_4, e5, hf⟩ := bn1_of hf
  refine ev_sub [2, 3, 1, 0] rfl (lv2 := [(0, .ref l0), (1, .int l1), (2, .int (0 : Int32)), (3, .int (0 : Int32))]) ?_
  refine lp_X6_copiesOf_4 kl0 ?_ fu _ _ e5
  refine ev_iload_n (n := 0) dX6_copiesOf_32 rfl rfl ?_
  obtain rfl := Option.some.inj hf
  exact ev_ireturn dX6_copiesOf_33 ⟨.int, rfl, rfl⟩
def f_X6_source (h : Hp) (l0 : Nat) (l1 : Int32) (l2 : Int32) (l3 : Int32) : Option (Int32) := (bn1 (f_X6_at h l1) (fun v1 => (if inb (((v1 + (15 : Int32)) + ((4 : Int32) * l2)) + l3) 320 = true then (some (hI h (l0 + 2) (((v1 + (15 : Int32)) + ((4 : Int32) * l2)) + l3).toNatClampNeg)) else none)))
set_option maxRecDepth 100000 in
set_option maxHeartbeats 4000000 in
theorem ev_X6_source {g : Gl} {h : Hp} {l0 : Nat} {l1 : Int32} {l2 : Int32} {l3 : Int32} {rv : Int32} (kl0 : KD g.1 l0 5 0) (hf : f_X6_source h l0 l1 l2 l3 = some rv) : Ev yX6_source cX6_source 4 (some .int) 1 20 g 0 [] [(0, .ref l0), (1, .int l1), (2, .int l2), (3, .int l3)] h (some (.int rv)) h := by
  unfold f_X6_source at hf
  refine ev_aload_n (n := 0) dX6_source_0 rfl rfl ?_
  refine ev_get (v := .ref (l0 + 2)) 1 kl0 rfl (by decide) rfl lk_607 dX6_source_1 ?_
  refine ev_iload_n (n := 1) dX6_source_4 rfl rfl ?_
  obtain ⟨v1, e2, hf⟩ := bn1_of hf
  refine ev_callSi (As := [.int l1]) cal_X6_at (ev_X6_at e2) (Nat.le_of_ble_eq_true rfl) rfl lk_700 (by decide) (by decide) (Nat.le_of_ble_eq_true rfl) dX6_source_5 rfl ?_
  refine ev_bipush (v := 15) dX6_source_8 (by decide) ?_
  refine ev_iadd dX6_source_10 ?_
  refine ev_iconst (v := 4) dX6_source_11 (by decide) ?_
  refine ev_iload_n (n := 2) dX6_source_12 rfl rfl ?_
  refine ev_imul dX6_source_13 ?_
  refine ev_iadd dX6_source_14 ?_
  refine ev_iload_n (n := 3) dX6_source_15 rfl rfl ?_
  refine ev_iadd dX6_source_16 ?_
  obtain ⟨gd3, hf⟩ := gd_of hf
  refine ev_iald (kd_5_1 kl0) (inb_of gd3) dX6_source_17 ?_
  obtain rfl := Option.some.inj hf
  exact ev_ireturn dX6_source_18 ⟨.int, rfl, rfl⟩
def f_X6_has (h : Hp) (l0 : Nat) (l1 : Int32) (l2 : Int32) : Option (Int32) := (bn1 (f_X6_cellOf h l0 l1 (2 : Int32)) (fun v1 => (if ((v1 >>> (l2 &&& 31)) &&& (1 : Int32)) = (1 : Int32) then (some (1 : Int32)) else (some (0 : Int32)))))
set_option maxRecDepth 100000 in
set_option maxHeartbeats 4000000 in
theorem ev_X6_has {g : Gl} {h : Hp} {l0 : Nat} {l1 : Int32} {l2 : Int32} {rv : Int32} (kl0 : KD g.1 l0 5 0) (hf : f_X6_has h l0 l1 l2 = some rv) : Ev yX6_has cX6_has 3 (some .boolean) 2 42 g 0 [] [(0, .ref l0), (1, .int l1), (2, .int l2)] h (some (.int rv)) h := by
  unfold f_X6_has at hf
  refine ev_aload_n (n := 0) dX6_has_0 rfl rfl ?_
  refine ev_iload_n (n := 1) dX6_has_1 rfl rfl ?_
  refine ev_iconst (v := 2) dX6_has_2 (by decide) ?_
  obtain ⟨v1, e2, hf⟩ := bn1_of hf
  refine ev_callVi (As := [.int l1, .int (2 : Int32)]) cal_X6_cellOf kl0 rfl (ev_X6_cellOf kl0 e2) (Nat.le_of_ble_eq_true rfl) rfl lk_719 (by decide) (by decide) (Nat.le_of_ble_eq_true rfl) dX6_has_3 rfl ?_
  refine ev_iload_n (n := 2) dX6_has_6 rfl rfl ?_
  refine ev_ishr dX6_has_7 ?_
  refine ev_iconst (v := 1) dX6_has_8 (by decide) ?_
  refine ev_iand dX6_has_9 ?_
  refine ev_iconst (v := 1) dX6_has_10 (by decide) ?_
  refine ev_icmp_ne (tgt := 18) dX6_has_11 (by decide) (fun c1 => ?_) (fun c1 => ?_)
  · replace hf := if_f c1 hf
    refine ev_iconst (v := 0) dX6_has_18 (by decide) ?_
    obtain rfl := Option.some.inj hf
    exact ev_ireturn dX6_has_19 ⟨.boolean, rfl, rfl⟩
  · replace hf := if_t c1 hf
    refine ev_iconst (v := 1) dX6_has_14 (by decide) ?_
    refine ev_goto (tgt := 19) dX6_has_15 (by decide) ?_
    obtain rfl := Option.some.inj hf
    exact ev_ireturn dX6_has_19 ⟨.boolean, rfl, rfl⟩
def f_X6_left_j66 (kk : Int32 → Int32 → Option (Int32)) (h : Hp) (s0 : Int32) (s1 : Int32) (l0 : Nat) (l1 : Int32) (l3 : Int32) : Option (Int32) := (kk (s0 + s1) (l3 + 1))
set_option maxRecDepth 100000 in
set_option maxHeartbeats 4000000 in
theorem jn_X6_left_66 {g : Gl} {h : Hp} {kk : Int32 → Int32 → Option (Int32)} {s0 : Int32} {s1 : Int32} {l0 : Nat} {l1 : Int32} {l3 : Int32}  {r : Option Value} {h2 : Hp} {o2 : Int32} (kl0 : KD g.1 l0 5 0) (hx0 : Ev yX6_left cX6_left 6 (some .int) 3 64 g 74 [] [(2, .int o2)] h r h2) (hk : ∀ (x2 : Int32) (x3 : Int32), kk x2 x3 = some o2 → Ev yX6_left cX6_left 6 (some .int) 3 64 g 4 [] [(0, .ref l0), (1, .int l1), (2, .int x2), (3, .int x3)] h r h2) (hf : f_X6_left_j66 kk h s0 s1 l0 l1 l3 = some o2) : Ev yX6_left cX6_left 6 (some .int) 3 64 g 66 [.int s1, .int s0] [(0, .ref l0), (1, .int l1), (3, .int l3)] h r h2 := by
  unfold f_X6_left_j66 at hf
  refine ev_iadd dX6_left_66 ?_
  refine ev_istore_n (lv2 := [(2, .int (s0 + s1)), (0, .ref l0), (1, .int l1), (3, .int l3)]) dX6_left_67 rfl (by decide) rfl ?_
  refine ev_iinc (z := 3) (v := (l3 + 1)) (lv2 := [(3, .int (l3 + 1)), (2, .int (s0 + s1)), (0, .ref l0), (1, .int l1)]) dX6_left_68 rfl rfl (by decide) rfl ?_
  refine ev_goto (tgt := 4) dX6_left_71 (by decide) ?_
  refine ev_sub [2, 3, 1, 0] rfl (lv2 := [(0, .ref l0), (1, .int l1), (2, .int (s0 + s1)), (3, .int (l3 + 1))]) ?_
  exact hk _ _ hf
def f_X6_left_j65 (kk : Int32 → Int32 → Option (Int32)) (h : Hp) (s0 : Int32) (l0 : Nat) (l1 : Int32) (l3 : Int32) : Option (Int32) := (f_X6_left_j66 kk h s0 (0 : Int32) l0 l1 l3)
set_option maxRecDepth 100000 in
set_option maxHeartbeats 4000000 in
theorem jn_X6_left_65 {g : Gl} {h : Hp} {kk : Int32 → Int32 → Option (Int32)} {s0 : Int32} {l0 : Nat} {l1 : Int32} {l3 : Int32}  {r : Option Value} {h2 : Hp} {o2 : Int32} (kl0 : KD g.1 l0 5 0) (hx0 : Ev yX6_left cX6_left 6 (some .int) 3 64 g 74 [] [(2, .int o2)] h r h2) (hk : ∀ (x2 : Int32) (x3 : Int32), kk x2 x3 = some o2 → Ev yX6_left cX6_left 6 (some .int) 3 64 g 4 [] [(0, .ref l0), (1, .int l1), (2, .int x2), (3, .int x3)] h r h2) (hf : f_X6_left_j65 kk h s0 l0 l1 l3 = some o2) : Ev yX6_left cX6_left 6 (some .int) 3 64 g 65 [.int s0] [(0, .ref l0), (1, .int l1), (3, .int l3)] h r h2 := by
  unfold f_X6_left_j65 at hf
  refine ev_iconst (v := 0) dX6_left_65 (by decide) ?_
  exact jn_X6_left_66 kl0 hx0 hk hf
def f_X6_left_l4 (h : Hp) (l0 : Nat) (l1 : Int32) : Nat → Int32 → Int32 → Option (Int32)
  | 0, _, _ => none
  | fu1 + 1, l2, l3 => (if ((4 : Int32) * (hI h (l0 + 2) (1 : Int32).toNatClampNeg)) ≤ l3 then (some l2) else (bn1 (f_X6_has h l0 l1 (l3 / (4 : Int32))) (fun v2 => (if v2 = 0 then (if (hI h (l0 + 2) (2 : Int32).toNatClampNeg) ≤ (l3 - l3 / (4 : Int32) * (4 : Int32)) then (f_X6_left_j65 (f_X6_left_l4 h l0 l1 fu1) h l2 l0 l1 l3) else (bn1 (f_X6_source h l0 l1 (l3 / (4 : Int32)) (l3 - l3 / (4 : Int32) * (4 : Int32))) (fun v5 => (if v5 = (-1 : Int32) then (f_X6_left_j66 (f_X6_left_l4 h l0 l1 fu1) h l2 (1 : Int32) l0 l1 l3) else (f_X6_left_j65 (f_X6_left_l4 h l0 l1 fu1) h l2 l0 l1 l3))))) else (f_X6_left_j65 (f_X6_left_l4 h l0 l1 fu1) h l2 l0 l1 l3)))))
theorem f_X6_left_l4_s (h : Hp) (l0 : Nat) (l1 : Int32) (fu1 : Nat) (l2 : Int32) (l3 : Int32) : f_X6_left_l4 h l0 l1 (fu1 + 1) l2 l3 = (if ((4 : Int32) * (hI h (l0 + 2) (1 : Int32).toNatClampNeg)) ≤ l3 then (some l2) else (bn1 (f_X6_has h l0 l1 (l3 / (4 : Int32))) (fun v2 => (if v2 = 0 then (if (hI h (l0 + 2) (2 : Int32).toNatClampNeg) ≤ (l3 - l3 / (4 : Int32) * (4 : Int32)) then (f_X6_left_j65 (f_X6_left_l4 h l0 l1 fu1) h l2 l0 l1 l3) else (bn1 (f_X6_source h l0 l1 (l3 / (4 : Int32)) (l3 - l3 / (4 : Int32) * (4 : Int32))) (fun v5 => (if v5 = (-1 : Int32) then (f_X6_left_j66 (f_X6_left_l4 h l0 l1 fu1) h l2 (1 : Int32) l0 l1 l3) else (f_X6_left_j65 (f_X6_left_l4 h l0 l1 fu1) h l2 l0 l1 l3))))) else (f_X6_left_j65 (f_X6_left_l4 h l0 l1 fu1) h l2 l0 l1 l3))))) := rfl
theorem f_X6_left_l4_0 (h : Hp) (l0 : Nat) (l1 : Int32) (l2 : Int32) (l3 : Int32) : f_X6_left_l4 h l0 l1 0 l2 l3 = none := rfl
set_option maxRecDepth 100000 in
set_option maxHeartbeats 4000000 in
theorem lp_X6_left_4 {g : Gl} {h : Hp} {l0 : Nat} {l1 : Int32} {r : Option Value} {h2 : Hp} {o2 : Int32} (kl0 : KD g.1 l0 5 0) (hx0 : Ev yX6_left cX6_left 6 (some .int) 3 64 g 74 [] [(2, .int o2)] h r h2) : ∀ (fu1 : Nat) (l2 : Int32) (l3 : Int32), f_X6_left_l4 h l0 l1 fu1 l2 l3 = some o2 → Ev yX6_left cX6_left 6 (some .int) 3 64 g 4 [] [(0, .ref l0), (1, .int l1), (2, .int l2), (3, .int l3)] h r h2 := by
  intro fu1
  induction fu1 with
  | zero =>
    intro l2 l3 hf
    cases hf
  | succ fu1 ih =>
    intro l2 l3 hf
    rw [f_X6_left_l4_s] at hf
    have hk := ih
    refine ev_iload_n (n := 3) dX6_left_4 rfl rfl ?_
    refine ev_iconst (v := 4) dX6_left_5 (by decide) ?_
    refine ev_aload_n (n := 0) dX6_left_6 rfl rfl ?_
    refine ev_get (v := .ref (l0 + 2)) 1 kl0 rfl (by decide) rfl lk_607 dX6_left_7 ?_
    refine ev_iconst (v := 1) dX6_left_10 (by decide) ?_
    refine ev_iald (kd_5_1 kl0) (by unfold vp_in; decide) dX6_left_11 ?_
    refine ev_imul dX6_left_12 ?_
    refine ev_icmp_ge (tgt := 74) dX6_left_13 (by decide) (fun c1 => ?_) (fun c1 => ?_)
    · replace hf := if_t c1 hf
      refine ev_sub [2] rfl (lv2 := [(2, .int l2)]) ?_
      obtain rfl := Option.some.inj hf
      exact hx0
    · replace hf := if_f c1 hf
      refine ev_iload_n (n := 3) dX6_left_16 rfl rfl ?_
      refine ev_iconst (v := 4) dX6_left_17 (by decide) ?_
      refine ev_idiv dX6_left_18 (by decide) ?_
      refine ev_istore (lv2 := [(4, .int (l3 / (4 : Int32))), (0, .ref l0), (1, .int l1), (2, .int l2), (3, .int l3)]) dX6_left_19 (by decide) rfl ?_
      refine ev_iload_n (n := 4) dX6_left_21 rfl rfl ?_
      refine ev_iconst (v := 4) dX6_left_22 (by decide) ?_
      refine ev_irem dX6_left_23 (by decide) ?_
      refine ev_istore (lv2 := [(5, .int (l3 - l3 / (4 : Int32) * (4 : Int32))), (4, .int (l3 / (4 : Int32))), (0, .ref l0), (1, .int l1), (2, .int l2), (3, .int l3)]) dX6_left_24 (by decide) rfl ?_
      refine ev_iload_n (n := 4) dX6_left_26 rfl rfl ?_
      refine ev_aload_n (n := 2) dX6_left_27 rfl rfl ?_
      refine ev_iload_n (n := 3) dX6_left_28 rfl rfl ?_
      refine ev_iload (n := 1) dX6_left_29 rfl ?_
      obtain ⟨v2, e3, hf⟩ := bn1_of hf
      refine ev_callVi (As := [.int l1, .int (l3 / (4 : Int32))]) cal_X6_has kl0 rfl (ev_X6_has kl0 e3) (Nat.le_of_ble_eq_true rfl) rfl lk_715 (by decide) (by decide) (Nat.le_of_ble_eq_true rfl) dX6_left_31 rfl ?_
      refine ev_if_ne (tgt := 65) dX6_left_34 (by decide) (fun c1 => ?_) (fun c1 => ?_)
      · replace hf := if_f c1 hf
        refine ev_sub [2, 3, 5] rfl (lv2 := [(0, .ref l0), (1, .int l1), (3, .int l3)]) ?_
        exact jn_X6_left_65 kl0 hx0 hk hf
      · replace hf := if_t c1 hf
        refine ev_iload (n := 0) dX6_left_37 rfl ?_
        refine ev_aload_n (n := 2) dX6_left_39 rfl rfl ?_
        refine ev_get (v := .ref (l0 + 2)) 1 kl0 rfl (by decide) rfl lk_607 dX6_left_40 ?_
        refine ev_iconst (v := 2) dX6_left_43 (by decide) ?_
        refine ev_iald (kd_5_1 kl0) (by unfold vp_in; decide) dX6_left_44 ?_
        refine ev_icmp_ge (tgt := 65) dX6_left_45 (by decide) (fun c1 => ?_) (fun c1 => ?_)
        · replace hf := if_t c1 hf
          refine ev_sub [2, 3, 5] rfl (lv2 := [(0, .ref l0), (1, .int l1), (3, .int l3)]) ?_
          exact jn_X6_left_65 kl0 hx0 hk hf
        · replace hf := if_f c1 hf
          refine ev_aload_n (n := 2) dX6_left_48 rfl rfl ?_
          refine ev_iload_n (n := 3) dX6_left_49 rfl rfl ?_
          refine ev_iload (n := 1) dX6_left_50 rfl ?_
          refine ev_iload (n := 0) dX6_left_52 rfl ?_
          obtain ⟨v5, e6, hf⟩ := bn1_of hf
          refine ev_callVi (As := [.int l1, .int (l3 / (4 : Int32)), .int (l3 - l3 / (4 : Int32) * (4 : Int32))]) cal_X6_source kl0 rfl (ev_X6_source kl0 e6) (Nat.le_of_ble_eq_true rfl) rfl lk_817 (by decide) (by decide) (Nat.le_of_ble_eq_true rfl) dX6_left_54 rfl ?_
          refine ev_iconst (v := -1) dX6_left_57 (by decide) ?_
          refine ev_icmp_ne (tgt := 65) dX6_left_58 (by decide) (fun c1 => ?_) (fun c1 => ?_)
          · replace hf := if_f c1 hf
            refine ev_sub [2, 3, 5] rfl (lv2 := [(0, .ref l0), (1, .int l1), (3, .int l3)]) ?_
            exact jn_X6_left_65 kl0 hx0 hk hf
          · replace hf := if_t c1 hf
            refine ev_iconst (v := 1) dX6_left_61 (by decide) ?_
            refine ev_goto (tgt := 66) dX6_left_62 (by decide) ?_
            refine ev_sub [2, 3, 5] rfl (lv2 := [(0, .ref l0), (1, .int l1), (3, .int l3)]) ?_
            exact jn_X6_left_66 kl0 hx0 hk hf
def f_X6_left (h : Hp) (l0 : Nat) (l1 : Int32) : Option (Int32) := (bn1 (f_X6_left_l4 h l0 l1 fu (0 : Int32) (0 : Int32)) (fun w2_7 => (some w2_7)))
set_option maxRecDepth 100000 in
set_option maxHeartbeats 4000000 in
theorem ev_X6_left {g : Gl} {h : Hp} {l0 : Nat} {l1 : Int32} {rv : Int32} (kl0 : KD g.1 l0 5 0) (hf : f_X6_left h l0 l1 = some rv) : Ev yX6_left cX6_left 6 (some .int) 3 64 g 0 [] [(0, .ref l0), (1, .int l1)] h (some (.int rv)) h := by
  unfold f_X6_left at hf
  refine ev_iconst (v := 0) dX6_left_0 (by decide) ?_
  refine ev_istore_n (lv2 := [(2, .int (0 : Int32)), (0, .ref l0), (1, .int l1)]) dX6_left_1 rfl (by decide) rfl ?_
  refine ev_iconst (v := 0) dX6_left_2 (by decide) ?_
  refine ev_istore_n (lv2 := [(3, .int (0 : Int32)), (2, .int (0 : Int32)), (0, .ref l0), (1, .int l1)]) dX6_left_3 rfl (by decide) rfl ?_
  obtain ⟨w2_7, e8, hf⟩ := bn1_of hf
  refine ev_sub [2, 3, 1, 0] rfl (lv2 := [(0, .ref l0), (1, .int l1), (2, .int (0 : Int32)), (3, .int (0 : Int32))]) ?_
  refine lp_X6_left_4 kl0 ?_ fu _ _ e8
  refine ev_iload_n (n := 0) dX6_left_74 rfl rfl ?_
  obtain rfl := Option.some.inj hf
  exact ev_ireturn dX6_left_75 ⟨.int, rfl, rfl⟩
def f_X6_isBarred (h : Hp) (l0 : Nat) (l1 : Int32) (l2 : Int32) : Option (Int32) := (bn1 (f_X6_cellOf h l0 l1 (5 : Int32)) (fun v1 => (if ((v1 >>> (l2 &&& 31)) &&& (1 : Int32)) = (1 : Int32) then (some (1 : Int32)) else (some (0 : Int32)))))
set_option maxRecDepth 100000 in
set_option maxHeartbeats 4000000 in
theorem ev_X6_isBarred {g : Gl} {h : Hp} {l0 : Nat} {l1 : Int32} {l2 : Int32} {rv : Int32} (kl0 : KD g.1 l0 5 0) (hf : f_X6_isBarred h l0 l1 l2 = some rv) : Ev yX6_isBarred cX6_isBarred 3 (some .boolean) 2 42 g 0 [] [(0, .ref l0), (1, .int l1), (2, .int l2)] h (some (.int rv)) h := by
  unfold f_X6_isBarred at hf
  refine ev_aload_n (n := 0) dX6_isBarred_0 rfl rfl ?_
  refine ev_iload_n (n := 1) dX6_isBarred_1 rfl rfl ?_
  refine ev_iconst (v := 5) dX6_isBarred_2 (by decide) ?_
  obtain ⟨v1, e2, hf⟩ := bn1_of hf
  refine ev_callVi (As := [.int l1, .int (5 : Int32)]) cal_X6_cellOf kl0 rfl (ev_X6_cellOf kl0 e2) (Nat.le_of_ble_eq_true rfl) rfl lk_719 (by decide) (by decide) (Nat.le_of_ble_eq_true rfl) dX6_isBarred_3 rfl ?_
  refine ev_iload_n (n := 2) dX6_isBarred_6 rfl rfl ?_
  refine ev_ishr dX6_isBarred_7 ?_
  refine ev_iconst (v := 1) dX6_isBarred_8 (by decide) ?_
  refine ev_iand dX6_isBarred_9 ?_
  refine ev_iconst (v := 1) dX6_isBarred_10 (by decide) ?_
  refine ev_icmp_ne (tgt := 18) dX6_isBarred_11 (by decide) (fun c1 => ?_) (fun c1 => ?_)
  · replace hf := if_f c1 hf
    refine ev_iconst (v := 0) dX6_isBarred_18 (by decide) ?_
    obtain rfl := Option.some.inj hf
    exact ev_ireturn dX6_isBarred_19 ⟨.boolean, rfl, rfl⟩
  · replace hf := if_t c1 hf
    refine ev_iconst (v := 1) dX6_isBarred_14 (by decide) ?_
    refine ev_goto (tgt := 19) dX6_isBarred_15 (by decide) ?_
    obtain rfl := Option.some.inj hf
    exact ev_ireturn dX6_isBarred_19 ⟨.boolean, rfl, rfl⟩
def f_X6_wants_j54 (h : Hp)  : Option (Int32) := (some (0 : Int32))
set_option maxRecDepth 100000 in
set_option maxHeartbeats 4000000 in
theorem jn_X6_wants_54 {g : Gl} {h : Hp}   {rv : Int32}    (hf : f_X6_wants_j54 h = some rv) : Ev yX6_wants cX6_wants 3 (some .boolean) 3 64 g 54 [] [] h (some (.int rv)) h := by
  unfold f_X6_wants_j54 at hf
  refine ev_iconst (v := 0) dX6_wants_54 (by decide) ?_
  obtain rfl := Option.some.inj hf
  exact ev_ireturn dX6_wants_55 ⟨.boolean, rfl, rfl⟩
def f_X6_wants (h : Hp) (l0 : Nat) (l1 : Int32) (l2 : Int32) : Option (Int32) := (if l2 = l1 then (f_X6_wants_j54 h) else (bn1 (f_X6_cellOf h l0 l1 (0 : Int32)) (fun v1 => (if v1 = (2 : Int32) then (f_X6_wants_j54 h) else (bn1 (f_X6_isBarred h l0 l1 l2) (fun v3 => (if v3 = 0 then (bn1 (f_X6_isBarred h l0 l2 l1) (fun v5 => (if v5 = 0 then (bn1 (f_X6_claims h l0 l2) (fun v7 => (bn1 (f_X6_cellOf h l0 l1 (2 : Int32)) (fun v9 => (if (v7 &&& (v9 ^^^ (-1 : Int32))) = 0 then (f_X6_wants_j54 h) else (some (1 : Int32))))))) else (f_X6_wants_j54 h)))) else (f_X6_wants_j54 h))))))))
set_option maxRecDepth 100000 in
set_option maxHeartbeats 4000000 in
theorem ev_X6_wants {g : Gl} {h : Hp} {l0 : Nat} {l1 : Int32} {l2 : Int32} {rv : Int32} (kl0 : KD g.1 l0 5 0) (hf : f_X6_wants h l0 l1 l2 = some rv) : Ev yX6_wants cX6_wants 3 (some .boolean) 3 64 g 0 [] [(0, .ref l0), (1, .int l1), (2, .int l2)] h (some (.int rv)) h := by
  unfold f_X6_wants at hf
  refine ev_iload_n (n := 2) dX6_wants_0 rfl rfl ?_
  refine ev_iload_n (n := 1) dX6_wants_1 rfl rfl ?_
  refine ev_icmp_eq (tgt := 54) dX6_wants_2 (by decide) (fun c1 => ?_) (fun c1 => ?_)
  · replace hf := if_t c1 hf
    refine ev_sub [] rfl (lv2 := []) ?_
    exact jn_X6_wants_54 hf
  · replace hf := if_f c1 hf
    refine ev_aload_n (n := 0) dX6_wants_5 rfl rfl ?_
    refine ev_iload_n (n := 1) dX6_wants_6 rfl rfl ?_
    refine ev_iconst (v := 0) dX6_wants_7 (by decide) ?_
    obtain ⟨v1, e2, hf⟩ := bn1_of hf
    refine ev_callVi (As := [.int l1, .int (0 : Int32)]) cal_X6_cellOf kl0 rfl (ev_X6_cellOf kl0 e2) (Nat.le_of_ble_eq_true rfl) rfl lk_719 (by decide) (by decide) (Nat.le_of_ble_eq_true rfl) dX6_wants_8 rfl ?_
    refine ev_iconst (v := 2) dX6_wants_11 (by decide) ?_
    refine ev_icmp_eq (tgt := 54) dX6_wants_12 (by decide) (fun c1 => ?_) (fun c1 => ?_)
    · replace hf := if_t c1 hf
      refine ev_sub [] rfl (lv2 := []) ?_
      exact jn_X6_wants_54 hf
    · replace hf := if_f c1 hf
      refine ev_aload_n (n := 0) dX6_wants_15 rfl rfl ?_
      refine ev_iload_n (n := 1) dX6_wants_16 rfl rfl ?_
      refine ev_iload_n (n := 2) dX6_wants_17 rfl rfl ?_
      obtain ⟨v3, e4, hf⟩ := bn1_of hf
      refine ev_callVi (As := [.int l1, .int l2]) cal_X6_isBarred kl0 rfl (ev_X6_isBarred kl0 e4) (Nat.le_of_ble_eq_true rfl) rfl lk_767 (by decide) (by decide) (Nat.le_of_ble_eq_true rfl) dX6_wants_18 rfl ?_
      refine ev_if_ne (tgt := 54) dX6_wants_21 (by decide) (fun c1 => ?_) (fun c1 => ?_)
      · replace hf := if_f c1 hf
        refine ev_sub [] rfl (lv2 := []) ?_
        exact jn_X6_wants_54 hf
      · replace hf := if_t c1 hf
        refine ev_aload_n (n := 0) dX6_wants_24 rfl rfl ?_
        refine ev_iload_n (n := 2) dX6_wants_25 rfl rfl ?_
        refine ev_iload_n (n := 1) dX6_wants_26 rfl rfl ?_
        obtain ⟨v5, e6, hf⟩ := bn1_of hf
        refine ev_callVi (As := [.int l2, .int l1]) cal_X6_isBarred kl0 rfl (ev_X6_isBarred kl0 e6) (Nat.le_of_ble_eq_true rfl) rfl lk_767 (by decide) (by decide) (Nat.le_of_ble_eq_true rfl) dX6_wants_27 rfl ?_
        refine ev_if_ne (tgt := 54) dX6_wants_30 (by decide) (fun c1 => ?_) (fun c1 => ?_)
        · replace hf := if_f c1 hf
          refine ev_sub [] rfl (lv2 := []) ?_
          exact jn_X6_wants_54 hf
        · replace hf := if_t c1 hf
          refine ev_aload_n (n := 0) dX6_wants_33 rfl rfl ?_
          refine ev_iload_n (n := 2) dX6_wants_34 rfl rfl ?_
          obtain ⟨v7, e8, hf⟩ := bn1_of hf
          refine ev_callVi (As := [.int l2]) cal_X6_claims kl0 rfl (ev_X6_claims kl0 e8) (Nat.le_of_ble_eq_true rfl) rfl lk_771 (by decide) (by decide) (Nat.le_of_ble_eq_true rfl) dX6_wants_35 rfl ?_
          refine ev_aload_n (n := 0) dX6_wants_38 rfl rfl ?_
          refine ev_iload_n (n := 1) dX6_wants_39 rfl rfl ?_
          refine ev_iconst (v := 2) dX6_wants_40 (by decide) ?_
          obtain ⟨v9, e10, hf⟩ := bn1_of hf
          refine ev_callVi (As := [.int l1, .int (2 : Int32)]) cal_X6_cellOf kl0 rfl (ev_X6_cellOf kl0 e10) (Nat.le_of_ble_eq_true rfl) rfl lk_719 (by decide) (by decide) (Nat.le_of_ble_eq_true rfl) dX6_wants_41 rfl ?_
          refine ev_iconst (v := -1) dX6_wants_44 (by decide) ?_
          refine ev_ixor dX6_wants_45 ?_
          refine ev_iand dX6_wants_46 ?_
          refine ev_if_eq (tgt := 54) dX6_wants_47 (by decide) (fun c1 => ?_) (fun c1 => ?_)
          · replace hf := if_t c1 hf
            refine ev_sub [] rfl (lv2 := []) ?_
            exact jn_X6_wants_54 hf
          · replace hf := if_f c1 hf
            refine ev_iconst (v := 1) dX6_wants_50 (by decide) ?_
            refine ev_goto (tgt := 55) dX6_wants_51 (by decide) ?_
            obtain rfl := Option.some.inj hf
            exact ev_ireturn dX6_wants_55 ⟨.boolean, rfl, rfl⟩
def f_X6_drawBy (h : Hp) (l0 : Nat) (l1 : Int32) : Option (Int32 × Hp) := (if ¬ l1.toInt64 = 0 then (some ((((hL (sL h l0 3 ((((hL h l0 3) * (1103515245 : Int64)) + (12345 : Int64)) - (((hL h l0 3) * (1103515245 : Int64)) + (12345 : Int64)) / (2147483648 : Int64) * (2147483648 : Int64))) l0 3) / (65536 : Int64)) - ((hL (sL h l0 3 ((((hL h l0 3) * (1103515245 : Int64)) + (12345 : Int64)) - (((hL h l0 3) * (1103515245 : Int64)) + (12345 : Int64)) / (2147483648 : Int64) * (2147483648 : Int64))) l0 3) / (65536 : Int64)) / l1.toInt64 * l1.toInt64).toInt32, (sL h l0 3 ((((hL h l0 3) * (1103515245 : Int64)) + (12345 : Int64)) - (((hL h l0 3) * (1103515245 : Int64)) + (12345 : Int64)) / (2147483648 : Int64) * (2147483648 : Int64))))) else none)
set_option maxRecDepth 100000 in
set_option maxHeartbeats 4000000 in
theorem ev_X6_drawBy {g : Gl} {h : Hp} {l0 : Nat} {l1 : Int32} {rv : Int32} {h2 : Hp} (kl0 : KD g.1 l0 5 0) (hf : f_X6_drawBy h l0 l1 = some (rv, h2)) : Ev yX6_drawBy cX6_drawBy 2 (some .int) 0 0 g 0 [] [(0, .ref l0), (1, .int l1)] h (some (.int rv)) h2 := by
  unfold f_X6_drawBy at hf
  refine ev_aload_n (n := 0) dX6_drawBy_0 rfl rfl ?_
  refine ev_aload_n (n := 0) dX6_drawBy_1 rfl rfl ?_
  refine ev_get (v := .long (hL h l0 3)) 3 kl0 rfl (by decide) rfl lk_609 dX6_drawBy_2 ?_
  refine ev_ldc2 dX6_drawBy_5 lk_794 ?_
  refine ev_lmul dX6_drawBy_8 ?_
  refine ev_ldc2 dX6_drawBy_9 lk_795 ?_
  refine ev_ladd dX6_drawBy_12 ?_
  refine ev_ldc2 dX6_drawBy_13 lk_796 ?_
  refine ev_lrem dX6_drawBy_16 (by decide) ?_
  refine ev_putL 3 kl0 rfl (by decide) rfl (by decide +kernel) rfl (by exact Nat.le_of_ble_eq_true rfl) lk_609 dX6_drawBy_17 ?_
  refine ev_aload_n (n := 0) dX6_drawBy_20 rfl rfl ?_
  refine ev_get (v := .long (hL (sL h l0 3 ((((hL h l0 3) * (1103515245 : Int64)) + (12345 : Int64)) - (((hL h l0 3) * (1103515245 : Int64)) + (12345 : Int64)) / (2147483648 : Int64) * (2147483648 : Int64))) l0 3)) 3 kl0 rfl (by decide) rfl lk_609 dX6_drawBy_21 ?_
  refine ev_ldc2 dX6_drawBy_24 lk_797 ?_
  refine ev_ldiv dX6_drawBy_27 (by decide) ?_
  refine ev_iload_n (n := 1) dX6_drawBy_28 rfl rfl ?_
  refine ev_i2l dX6_drawBy_29 ?_
  obtain ⟨gd1, hf⟩ := gd_of hf
  refine ev_lrem dX6_drawBy_30 gd1 ?_
  refine ev_l2i dX6_drawBy_31 ?_
  obtain ⟨rfl, rfl⟩ := Prod.mk.inj (Option.some.inj hf)
  exact ev_ireturn dX6_drawBy_32 ⟨.int, rfl, rfl⟩
def f_X6_worth_j28 (h : Hp) (s0 : Int32) (l0 : Nat) (l1 : Int32) (l2 : Int32) : Option (UInt32) := (if s0 = 0 then (if inb (((6 : Int32) * l1) + l2) 36 = true then (some (hF h (l0 + 3) (((6 : Int32) * l1) + l2).toNatClampNeg)) else none) else (if inb (((6 : Int32) * l2) + l1) 36 = true then (some (hF h (l0 + 3) (((6 : Int32) * l2) + l1).toNatClampNeg)) else none))
set_option maxRecDepth 100000 in
set_option maxHeartbeats 4000000 in
theorem jn_X6_worth_28 {g : Gl} {h : Hp} {s0 : Int32} {l0 : Nat} {l1 : Int32} {l2 : Int32}  {rv : UInt32} (kl0 : KD g.1 l0 5 0)   (hf : f_X6_worth_j28 h s0 l0 l1 l2 = some rv) : Ev yX6_worth cX6_worth 4 (some .float) 2 42 g 28 [.int s0] [(0, .ref l0), (1, .int l1), (2, .int l2)] h (some (.float rv)) h := by
  unfold f_X6_worth_j28 at hf
  refine ev_istore_n (lv2 := [(3, .int s0), (0, .ref l0), (1, .int l1), (2, .int l2)]) dX6_worth_28 rfl (by decide) rfl ?_
  refine ev_iload_n (n := 0) dX6_worth_29 rfl rfl ?_
  refine ev_if_eq (tgt := 47) dX6_worth_30 (by decide) (fun c1 => ?_) (fun c1 => ?_)
  · replace hf := if_t c1 hf
    refine ev_aload_n (n := 1) dX6_worth_47 rfl rfl ?_
    refine ev_get (v := .ref (l0 + 3)) 2 kl0 rfl (by decide) rfl lk_608 dX6_worth_48 ?_
    refine ev_bipush (v := 6) dX6_worth_51 (by decide) ?_
    refine ev_iload_n (n := 2) dX6_worth_53 rfl rfl ?_
    refine ev_imul dX6_worth_54 ?_
    refine ev_iload_n (n := 3) dX6_worth_55 rfl rfl ?_
    refine ev_iadd dX6_worth_56 ?_
    obtain ⟨gd5, hf⟩ := gd_of hf
    refine ev_fald (kd_5_2 kl0) (inb_of gd5) dX6_worth_57 ?_
    obtain rfl := Option.some.inj hf
    exact ev_freturn dX6_worth_58 rfl
  · replace hf := if_f c1 hf
    refine ev_aload_n (n := 1) dX6_worth_33 rfl rfl ?_
    refine ev_get (v := .ref (l0 + 3)) 2 kl0 rfl (by decide) rfl lk_608 dX6_worth_34 ?_
    refine ev_bipush (v := 6) dX6_worth_37 (by decide) ?_
    refine ev_iload_n (n := 3) dX6_worth_39 rfl rfl ?_
    refine ev_imul dX6_worth_40 ?_
    refine ev_iload_n (n := 2) dX6_worth_41 rfl rfl ?_
    refine ev_iadd dX6_worth_42 ?_
    obtain ⟨gd6, hf⟩ := gd_of hf
    refine ev_fald (kd_5_2 kl0) (inb_of gd6) dX6_worth_43 ?_
    refine ev_goto (tgt := 58) dX6_worth_44 (by decide) ?_
    obtain rfl := Option.some.inj hf
    exact ev_freturn dX6_worth_58 rfl
def f_X6_worth_j23 (h : Hp) (l0 : Nat) (l1 : Int32) (l2 : Int32) : Option (UInt32) := (f_X6_worth_j28 h (1 : Int32) l0 l1 l2)
set_option maxRecDepth 100000 in
set_option maxHeartbeats 4000000 in
theorem jn_X6_worth_23 {g : Gl} {h : Hp} {l0 : Nat} {l1 : Int32} {l2 : Int32}  {rv : UInt32} (kl0 : KD g.1 l0 5 0)   (hf : f_X6_worth_j23 h l0 l1 l2 = some rv) : Ev yX6_worth cX6_worth 4 (some .float) 2 42 g 23 [] [(0, .ref l0), (1, .int l1), (2, .int l2)] h (some (.float rv)) h := by
  unfold f_X6_worth_j23 at hf
  refine ev_iconst (v := 1) dX6_worth_23 (by decide) ?_
  refine ev_goto (tgt := 28) dX6_worth_24 (by decide) ?_
  exact jn_X6_worth_28 kl0 hf
def f_X6_worth (h : Hp) (l0 : Nat) (l1 : Int32) (l2 : Int32) : Option (UInt32) := (bn1 (f_X6_cellOf h l0 l1 (2 : Int32)) (fun v1 => (bn1 (f_X6_allPieces h l0) (fun v3 => (if v1 = v3 then (f_X6_worth_j23 h l0 l1 l2) else (bn1 (f_X6_cellOf h l0 l1 (0 : Int32)) (fun v7 => (if v7 = (2 : Int32) then (f_X6_worth_j23 h l0 l1 l2) else (f_X6_worth_j28 h (0 : Int32) l0 l1 l2)))))))))
set_option maxRecDepth 100000 in
set_option maxHeartbeats 4000000 in
theorem ev_X6_worth {g : Gl} {h : Hp} {l0 : Nat} {l1 : Int32} {l2 : Int32} {rv : UInt32} (kl0 : KD g.1 l0 5 0) (hf : f_X6_worth h l0 l1 l2 = some rv) : Ev yX6_worth cX6_worth 4 (some .float) 2 42 g 0 [] [(0, .ref l0), (1, .int l1), (2, .int l2)] h (some (.float rv)) h := by
  unfold f_X6_worth at hf
  refine ev_aload_n (n := 0) dX6_worth_0 rfl rfl ?_
  refine ev_iload_n (n := 1) dX6_worth_1 rfl rfl ?_
  refine ev_iconst (v := 2) dX6_worth_2 (by decide) ?_
  obtain ⟨v1, e2, hf⟩ := bn1_of hf
  refine ev_callVi (As := [.int l1, .int (2 : Int32)]) cal_X6_cellOf kl0 rfl (ev_X6_cellOf kl0 e2) (Nat.le_of_ble_eq_true rfl) rfl lk_719 (by decide) (by decide) (Nat.le_of_ble_eq_true rfl) dX6_worth_3 rfl ?_
  refine ev_aload_n (n := 0) dX6_worth_6 rfl rfl ?_
  obtain ⟨v3, e4, hf⟩ := bn1_of hf
  refine ev_callVi (As := []) cal_X6_allPieces kl0 rfl (ev_X6_allPieces kl0 e4) (Nat.le_of_ble_eq_true rfl) rfl lk_775 (by decide) (by decide) (Nat.le_of_ble_eq_true rfl) dX6_worth_7 rfl ?_
  refine ev_icmp_eq (tgt := 23) dX6_worth_10 (by decide) (fun c1 => ?_) (fun c1 => ?_)
  · replace hf := if_t c1 hf
    exact jn_X6_worth_23 kl0 hf
  · replace hf := if_f c1 hf
    refine ev_aload_n (n := 0) dX6_worth_13 rfl rfl ?_
    refine ev_iload_n (n := 1) dX6_worth_14 rfl rfl ?_
    refine ev_iconst (v := 0) dX6_worth_15 (by decide) ?_
    obtain ⟨v7, e8, hf⟩ := bn1_of hf
    refine ev_callVi (As := [.int l1, .int (0 : Int32)]) cal_X6_cellOf kl0 rfl (ev_X6_cellOf kl0 e8) (Nat.le_of_ble_eq_true rfl) rfl lk_719 (by decide) (by decide) (Nat.le_of_ble_eq_true rfl) dX6_worth_16 rfl ?_
    refine ev_iconst (v := 2) dX6_worth_19 (by decide) ?_
    refine ev_icmp_ne (tgt := 27) dX6_worth_20 (by decide) (fun c1 => ?_) (fun c1 => ?_)
    · replace hf := if_f c1 hf
      refine ev_iconst (v := 0) dX6_worth_27 (by decide) ?_
      exact jn_X6_worth_28 kl0 hf
    · replace hf := if_t c1 hf
      exact jn_X6_worth_23 kl0 hf
def f_X6_best_j63 (kk : Int32 → Int32 → Option (Int32)) (h : Hp) (l0 : Nat) (l1 : Int32) (l2 : Int32) (l3 : Int32) (l4 : Int32) : Option (Int32) := (kk l3 (l4 + 1))
set_option maxRecDepth 100000 in
set_option maxHeartbeats 4000000 in
theorem jn_X6_best_63 {g : Gl} {h : Hp} {kk : Int32 → Int32 → Option (Int32)} {l0 : Nat} {l1 : Int32} {l2 : Int32} {l3 : Int32} {l4 : Int32}  {r : Option Value} {h2 : Hp} {o3 : Int32} (kl0 : KD g.1 l0 5 0) (hx0 : Ev yX6_best cX6_best 6 (some .int) 3 65 g 69 [] [(3, .int o3)] h r h2) (hk : ∀ (x3 : Int32) (x4 : Int32), kk x3 x4 = some o3 → Ev yX6_best cX6_best 6 (some .int) 3 65 g 5 [] [(0, .ref l0), (1, .int l1), (2, .int l2), (3, .int x3), (4, .int x4)] h r h2) (hf : f_X6_best_j63 kk h l0 l1 l2 l3 l4 = some o3) : Ev yX6_best cX6_best 6 (some .int) 3 65 g 63 [] [(0, .ref l0), (1, .int l1), (2, .int l2), (3, .int l3), (4, .int l4)] h r h2 := by
  unfold f_X6_best_j63 at hf
  refine ev_iinc (z := 4) (v := (l4 + 1)) (lv2 := [(4, .int (l4 + 1)), (0, .ref l0), (1, .int l1), (2, .int l2), (3, .int l3)]) dX6_best_63 rfl rfl (by decide) rfl ?_
  refine ev_goto (tgt := 5) dX6_best_66 (by decide) ?_
  refine ev_sub [1, 2, 3, 4, 0] rfl (lv2 := [(0, .ref l0), (1, .int l1), (2, .int l2), (3, .int l3), (4, .int (l4 + 1))]) ?_
  exact hk _ _ hf
def f_X6_best_j60 (kk : Int32 → Int32 → Option (Int32)) (h : Hp) (l0 : Nat) (l1 : Int32) (l2 : Int32) (l4 : Int32) : Option (Int32) := (f_X6_best_j63 kk h l0 l1 l2 l4 l4)
set_option maxRecDepth 100000 in
set_option maxHeartbeats 4000000 in
theorem jn_X6_best_60 {g : Gl} {h : Hp} {kk : Int32 → Int32 → Option (Int32)} {l0 : Nat} {l1 : Int32} {l2 : Int32} {l4 : Int32}  {r : Option Value} {h2 : Hp} {o3 : Int32} (kl0 : KD g.1 l0 5 0) (hx0 : Ev yX6_best cX6_best 6 (some .int) 3 65 g 69 [] [(3, .int o3)] h r h2) (hk : ∀ (x3 : Int32) (x4 : Int32), kk x3 x4 = some o3 → Ev yX6_best cX6_best 6 (some .int) 3 65 g 5 [] [(0, .ref l0), (1, .int l1), (2, .int l2), (3, .int x3), (4, .int x4)] h r h2) (hf : f_X6_best_j60 kk h l0 l1 l2 l4 = some o3) : Ev yX6_best cX6_best 6 (some .int) 3 65 g 60 [] [(0, .ref l0), (1, .int l1), (2, .int l2), (4, .int l4)] h r h2 := by
  unfold f_X6_best_j60 at hf
  refine ev_iload (n := 3) dX6_best_60 rfl ?_
  refine ev_istore_n (lv2 := [(3, .int l4), (0, .ref l0), (1, .int l1), (2, .int l2), (4, .int l4)]) dX6_best_62 rfl (by decide) rfl ?_
  refine ev_sub [1, 2, 3, 0, 4] rfl (lv2 := [(0, .ref l0), (1, .int l1), (2, .int l2), (3, .int l4), (4, .int l4)]) ?_
  exact jn_X6_best_63 kl0 hx0 hk hf
def f_X6_best_j31 (kk : Int32 → Int32 → Option (Int32)) (h : Hp) (s0 : Int32) (l0 : Nat) (l1 : Int32) (l2 : Int32) (l3 : Int32) (l4 : Int32) : Option (Int32) := (if s0 = 0 then (f_X6_best_j63 kk h l0 l1 l2 l3 l4) else (if l3 = (-1 : Int32) then (f_X6_best_j60 kk h l0 l1 l2 l4) else (bn1 (f_X6_worth h l0 l1 l4) (fun v2 => (bn1 (f_X6_worth h l0 l1 l3) (fun v4 => (if (Op.cmpValue (FP.fcmp v2 v4) .l) ≤ 0 then (f_X6_best_j63 kk h l0 l1 l2 l3 l4) else (f_X6_best_j60 kk h l0 l1 l2 l4))))))))
set_option maxRecDepth 100000 in
set_option maxHeartbeats 4000000 in
theorem jn_X6_best_31 {g : Gl} {h : Hp} {kk : Int32 → Int32 → Option (Int32)} {s0 : Int32} {l0 : Nat} {l1 : Int32} {l2 : Int32} {l3 : Int32} {l4 : Int32}  {r : Option Value} {h2 : Hp} {o3 : Int32} (kl0 : KD g.1 l0 5 0) (hx0 : Ev yX6_best cX6_best 6 (some .int) 3 65 g 69 [] [(3, .int o3)] h r h2) (hk : ∀ (x3 : Int32) (x4 : Int32), kk x3 x4 = some o3 → Ev yX6_best cX6_best 6 (some .int) 3 65 g 5 [] [(0, .ref l0), (1, .int l1), (2, .int l2), (3, .int x3), (4, .int x4)] h r h2) (hf : f_X6_best_j31 kk h s0 l0 l1 l2 l3 l4 = some o3) : Ev yX6_best cX6_best 6 (some .int) 3 65 g 31 [.int s0] [(0, .ref l0), (1, .int l1), (2, .int l2), (3, .int l3), (4, .int l4)] h r h2 := by
  unfold f_X6_best_j31 at hf
  refine ev_istore (lv2 := [(5, .int s0), (0, .ref l0), (1, .int l1), (2, .int l2), (3, .int l3), (4, .int l4)]) dX6_best_31 (by decide) rfl ?_
  refine ev_iload (n := 0) dX6_best_33 rfl ?_
  refine ev_if_eq (tgt := 63) dX6_best_35 (by decide) (fun c1 => ?_) (fun c1 => ?_)
  · replace hf := if_t c1 hf
    refine ev_sub [1, 2, 3, 4, 5] rfl (lv2 := [(0, .ref l0), (1, .int l1), (2, .int l2), (3, .int l3), (4, .int l4)]) ?_
    exact jn_X6_best_63 kl0 hx0 hk hf
  · replace hf := if_f c1 hf
    refine ev_iload_n (n := 4) dX6_best_38 rfl rfl ?_
    refine ev_iconst (v := -1) dX6_best_39 (by decide) ?_
    refine ev_icmp_eq (tgt := 60) dX6_best_40 (by decide) (fun c1 => ?_) (fun c1 => ?_)
    · replace hf := if_t c1 hf
      refine ev_sub [1, 2, 3, 5] rfl (lv2 := [(0, .ref l0), (1, .int l1), (2, .int l2), (4, .int l4)]) ?_
      exact jn_X6_best_60 kl0 hx0 hk hf
    · replace hf := if_f c1 hf
      refine ev_aload_n (n := 1) dX6_best_43 rfl rfl ?_
      refine ev_iload_n (n := 2) dX6_best_44 rfl rfl ?_
      refine ev_iload (n := 5) dX6_best_45 rfl ?_
      obtain ⟨v2, e3, hf⟩ := bn1_of hf
      refine ev_callVf (As := [.int l1, .int l4]) cal_X6_worth kl0 rfl (ev_X6_worth kl0 e3) (Nat.le_of_ble_eq_true rfl) rfl lk_783 (by decide) (by decide) (Nat.le_of_ble_eq_true rfl) dX6_best_47 rfl ?_
      refine ev_aload_n (n := 1) dX6_best_50 rfl rfl ?_
      refine ev_iload_n (n := 2) dX6_best_51 rfl rfl ?_
      refine ev_iload_n (n := 4) dX6_best_52 rfl rfl ?_
      obtain ⟨v4, e5, hf⟩ := bn1_of hf
      refine ev_callVf (As := [.int l1, .int l3]) cal_X6_worth kl0 rfl (ev_X6_worth kl0 e5) (Nat.le_of_ble_eq_true rfl) rfl lk_783 (by decide) (by decide) (Nat.le_of_ble_eq_true rfl) dX6_best_53 rfl ?_
      refine ev_fcmp dX6_best_56 ?_
      refine ev_if_le (tgt := 63) dX6_best_57 (by decide) (fun c1 => ?_) (fun c1 => ?_)
      · replace hf := if_t c1 hf
        refine ev_sub [1, 2, 3, 4, 5] rfl (lv2 := [(0, .ref l0), (1, .int l1), (2, .int l2), (3, .int l3), (4, .int l4)]) ?_
        exact jn_X6_best_63 kl0 hx0 hk hf
      · replace hf := if_f c1 hf
        refine ev_sub [1, 2, 3, 5] rfl (lv2 := [(0, .ref l0), (1, .int l1), (2, .int l2), (4, .int l4)]) ?_
        exact jn_X6_best_60 kl0 hx0 hk hf
def f_X6_best_l5 (h : Hp) (l0 : Nat) (l1 : Int32) (l2 : Int32) : Nat → Int32 → Int32 → Option (Int32)
  | 0, _, _ => none
  | fu1 + 1, l3, l4 => (if (hI h (l0 + 2) (0 : Int32).toNatClampNeg) ≤ l4 then (some l3) else (if ((l2 >>> (l4 &&& 31)) &&& (1 : Int32)) = (1 : Int32) then (f_X6_best_j31 (f_X6_best_l5 h l0 l1 l2 fu1) h (1 : Int32) l0 l1 l2 l3 l4) else (f_X6_best_j31 (f_X6_best_l5 h l0 l1 l2 fu1) h (0 : Int32) l0 l1 l2 l3 l4)))
theorem f_X6_best_l5_s (h : Hp) (l0 : Nat) (l1 : Int32) (l2 : Int32) (fu1 : Nat) (l3 : Int32) (l4 : Int32) : f_X6_best_l5 h l0 l1 l2 (fu1 + 1) l3 l4 = (if (hI h (l0 + 2) (0 : Int32).toNatClampNeg) ≤ l4 then (some l3) else (if ((l2 >>> (l4 &&& 31)) &&& (1 : Int32)) = (1 : Int32) then (f_X6_best_j31 (f_X6_best_l5 h l0 l1 l2 fu1) h (1 : Int32) l0 l1 l2 l3 l4) else (f_X6_best_j31 (f_X6_best_l5 h l0 l1 l2 fu1) h (0 : Int32) l0 l1 l2 l3 l4))) := rfl
theorem f_X6_best_l5_0 (h : Hp) (l0 : Nat) (l1 : Int32) (l2 : Int32) (l3 : Int32) (l4 : Int32) : f_X6_best_l5 h l0 l1 l2 0 l3 l4 = none := rfl
set_option maxRecDepth 100000 in
set_option maxHeartbeats 4000000 in
theorem lp_X6_best_5 {g : Gl} {h : Hp} {l0 : Nat} {l1 : Int32} {l2 : Int32} {r : Option Value} {h2 : Hp} {o3 : Int32} (kl0 : KD g.1 l0 5 0) (hx0 : Ev yX6_best cX6_best 6 (some .int) 3 65 g 69 [] [(3, .int o3)] h r h2) : ∀ (fu1 : Nat) (l3 : Int32) (l4 : Int32), f_X6_best_l5 h l0 l1 l2 fu1 l3 l4 = some o3 → Ev yX6_best cX6_best 6 (some .int) 3 65 g 5 [] [(0, .ref l0), (1, .int l1), (2, .int l2), (3, .int l3), (4, .int l4)] h r h2 := by
  intro fu1
  induction fu1 with
  | zero =>
    intro l3 l4 hf
    cases hf
  | succ fu1 ih =>
    intro l3 l4 hf
    rw [f_X6_best_l5_s] at hf
    have hk := ih
    refine ev_iload (n := 4) dX6_best_5 rfl ?_
    refine ev_aload_n (n := 0) dX6_best_7 rfl rfl ?_
    refine ev_get (v := .ref (l0 + 2)) 1 kl0 rfl (by decide) rfl lk_607 dX6_best_8 ?_
    refine ev_iconst (v := 0) dX6_best_11 (by decide) ?_
    refine ev_iald (kd_5_1 kl0) (by unfold vp_in; decide) dX6_best_12 ?_
    refine ev_icmp_ge (tgt := 69) dX6_best_13 (by decide) (fun c1 => ?_) (fun c1 => ?_)
    · replace hf := if_t c1 hf
      refine ev_sub [3] rfl (lv2 := [(3, .int l3)]) ?_
      obtain rfl := Option.some.inj hf
      exact hx0
    · replace hf := if_f c1 hf
      refine ev_iload_n (n := 2) dX6_best_16 rfl rfl ?_
      refine ev_iload (n := 4) dX6_best_17 rfl ?_
      refine ev_ishr dX6_best_19 ?_
      refine ev_iconst (v := 1) dX6_best_20 (by decide) ?_
      refine ev_iand dX6_best_21 ?_
      refine ev_iconst (v := 1) dX6_best_22 (by decide) ?_
      refine ev_icmp_ne (tgt := 30) dX6_best_23 (by decide) (fun c1 => ?_) (fun c1 => ?_)
      · replace hf := if_f c1 hf
        refine ev_iconst (v := 0) dX6_best_30 (by decide) ?_
        exact jn_X6_best_31 kl0 hx0 hk hf
      · replace hf := if_t c1 hf
        refine ev_iconst (v := 1) dX6_best_26 (by decide) ?_
        refine ev_goto (tgt := 31) dX6_best_27 (by decide) ?_
        exact jn_X6_best_31 kl0 hx0 hk hf
def f_X6_best (h : Hp) (l0 : Nat) (l1 : Int32) (l2 : Int32) : Option (Int32) := (bn1 (f_X6_best_l5 h l0 l1 l2 fu (-1 : Int32) (0 : Int32)) (fun w3_6 => (some w3_6)))
set_option maxRecDepth 100000 in
set_option maxHeartbeats 4000000 in
theorem ev_X6_best {g : Gl} {h : Hp} {l0 : Nat} {l1 : Int32} {l2 : Int32} {rv : Int32} (kl0 : KD g.1 l0 5 0) (hf : f_X6_best h l0 l1 l2 = some rv) : Ev yX6_best cX6_best 6 (some .int) 3 65 g 0 [] [(0, .ref l0), (1, .int l1), (2, .int l2)] h (some (.int rv)) h := by
  unfold f_X6_best at hf
  refine ev_iconst (v := -1) dX6_best_0 (by decide) ?_
  refine ev_istore_n (lv2 := [(3, .int (-1 : Int32)), (0, .ref l0), (1, .int l1), (2, .int l2)]) dX6_best_1 rfl (by decide) rfl ?_
  refine ev_iconst (v := 0) dX6_best_2 (by decide) ?_
  refine ev_istore (lv2 := [(4, .int (0 : Int32)), (3, .int (-1 : Int32)), (0, .ref l0), (1, .int l1), (2, .int l2)]) dX6_best_3 (by decide) rfl ?_
  obtain ⟨w3_6, e7, hf⟩ := bn1_of hf
  refine ev_sub [2, 3, 4, 1, 0] rfl (lv2 := [(0, .ref l0), (1, .int l1), (2, .int l2), (3, .int (-1 : Int32)), (4, .int (0 : Int32))]) ?_
  refine lp_X6_best_5 kl0 ?_ fu _ _ e7
  refine ev_iload_n (n := 0) dX6_best_69 rfl rfl ?_
  obtain rfl := Option.some.inj hf
  exact ev_ireturn dX6_best_70 ⟨.int, rfl, rfl⟩
def f_X6_bits_l4 (h : Hp) (l0 : Int32) : Nat → Int32 → Int32 → Option (Int32)
  | 0, _, _ => none
  | fu1 + 1, l1, l2 => (if (6 : Int32) ≤ l2 then (some l1) else (f_X6_bits_l4 h l0 fu1 (l1 + ((l0 >>> (l2 &&& 31)) &&& (1 : Int32))) (l2 + 1)))
theorem f_X6_bits_l4_s (h : Hp) (l0 : Int32) (fu1 : Nat) (l1 : Int32) (l2 : Int32) : f_X6_bits_l4 h l0 (fu1 + 1) l1 l2 = (if (6 : Int32) ≤ l2 then (some l1) else (f_X6_bits_l4 h l0 fu1 (l1 + ((l0 >>> (l2 &&& 31)) &&& (1 : Int32))) (l2 + 1))) := rfl
theorem f_X6_bits_l4_0 (h : Hp) (l0 : Int32) (l1 : Int32) (l2 : Int32) : f_X6_bits_l4 h l0 0 l1 l2 = none := rfl
set_option maxRecDepth 100000 in
set_option maxHeartbeats 4000000 in
theorem lp_X6_bits_4 {g : Gl} {h : Hp} {l0 : Int32} {r : Option Value} {h2 : Hp} {o1 : Int32}  (hx0 : Ev yX6_bits cX6_bits 3 (some .int) 0 0 g 24 [] [(1, .int o1)] h r h2) : ∀ (fu1 : Nat) (l1 : Int32) (l2 : Int32), f_X6_bits_l4 h l0 fu1 l1 l2 = some o1 → Ev yX6_bits cX6_bits 3 (some .int) 0 0 g 4 [] [(0, .int l0), (1, .int l1), (2, .int l2)] h r h2 := by
  intro fu1
  induction fu1 with
  | zero =>
    intro l1 l2 hf
    cases hf
  | succ fu1 ih =>
    intro l1 l2 hf
    rw [f_X6_bits_l4_s] at hf
    have hk := ih
    refine ev_iload_n (n := 2) dX6_bits_4 rfl rfl ?_
    refine ev_bipush (v := 6) dX6_bits_5 (by decide) ?_
    refine ev_icmp_ge (tgt := 24) dX6_bits_7 (by decide) (fun c1 => ?_) (fun c1 => ?_)
    · replace hf := if_t c1 hf
      refine ev_sub [1] rfl (lv2 := [(1, .int l1)]) ?_
      obtain rfl := Option.some.inj hf
      exact hx0
    · replace hf := if_f c1 hf
      refine ev_iload_n (n := 1) dX6_bits_10 rfl rfl ?_
      refine ev_iload_n (n := 0) dX6_bits_11 rfl rfl ?_
      refine ev_iload_n (n := 2) dX6_bits_12 rfl rfl ?_
      refine ev_ishr dX6_bits_13 ?_
      refine ev_iconst (v := 1) dX6_bits_14 (by decide) ?_
      refine ev_iand dX6_bits_15 ?_
      refine ev_iadd dX6_bits_16 ?_
      refine ev_istore_n (lv2 := [(1, .int (l1 + ((l0 >>> (l2 &&& 31)) &&& (1 : Int32)))), (0, .int l0), (2, .int l2)]) dX6_bits_17 rfl (by decide) rfl ?_
      refine ev_iinc (z := 2) (v := (l2 + 1)) (lv2 := [(2, .int (l2 + 1)), (1, .int (l1 + ((l0 >>> (l2 &&& 31)) &&& (1 : Int32)))), (0, .int l0)]) dX6_bits_18 rfl rfl (by decide) rfl ?_
      refine ev_goto (tgt := 4) dX6_bits_21 (by decide) ?_
      refine ev_sub [2, 1, 0] rfl (lv2 := [(0, .int l0), (1, .int (l1 + ((l0 >>> (l2 &&& 31)) &&& (1 : Int32)))), (2, .int (l2 + 1))]) ?_
      exact hk _ _ hf
def f_X6_bits (h : Hp) (l0 : Int32) : Option (Int32) := (bn1 (f_X6_bits_l4 h l0 fu (0 : Int32) (0 : Int32)) (fun w1_1 => (some w1_1)))
set_option maxRecDepth 100000 in
set_option maxHeartbeats 4000000 in
theorem ev_X6_bits {g : Gl} {h : Hp} {l0 : Int32} {rv : Int32}  (hf : f_X6_bits h l0 = some rv) : Ev yX6_bits cX6_bits 3 (some .int) 0 0 g 0 [] [(0, .int l0)] h (some (.int rv)) h := by
  unfold f_X6_bits at hf
  refine ev_iconst (v := 0) dX6_bits_0 (by decide) ?_
  refine ev_istore_n (lv2 := [(1, .int (0 : Int32)), (0, .int l0)]) dX6_bits_1 rfl (by decide) rfl ?_
  refine ev_iconst (v := 0) dX6_bits_2 (by decide) ?_
  refine ev_istore_n (lv2 := [(2, .int (0 : Int32)), (1, .int (0 : Int32)), (0, .int l0)]) dX6_bits_3 rfl (by decide) rfl ?_
  obtain ⟨w1_1, e2, hf⟩ := bn1_of hf
  refine ev_sub [2, 1, 0] rfl (lv2 := [(0, .int l0), (1, .int (0 : Int32)), (2, .int (0 : Int32))]) ?_
  refine lp_X6_bits_4  ?_ fu _ _ e2
  refine ev_iload_n (n := 0) dX6_bits_24 rfl rfl ?_
  obtain rfl := Option.some.inj hf
  exact ev_ireturn dX6_bits_25 ⟨.int, rfl, rfl⟩
def f_X6_bitAt_j63 (kk : Int32 → Int32 → Int32 → Option (Int32)) (h : Hp) (s0 : Int32) (s1 : Int32) (l0 : Int32) (l3 : Int32) (l4 : Int32) : Option (Int32) := (kk (s0 - s1) l3 (l4 + 1))
set_option maxRecDepth 100000 in
set_option maxHeartbeats 4000000 in
theorem jn_X6_bitAt_63 {g : Gl} {h : Hp} {kk : Int32 → Int32 → Int32 → Option (Int32)} {s0 : Int32} {s1 : Int32} {l0 : Int32} {l3 : Int32} {l4 : Int32}  {r : Option Value} {h2 : Hp} {o3 : Int32}  (hx0 : Ev yX6_bitAt cX6_bitAt 6 (some .int) 0 0 g 71 [] [(3, .int o3)] h r h2) (hk : ∀ (x2 : Int32) (x3 : Int32) (x4 : Int32), kk x2 x3 x4 = some o3 → Ev yX6_bitAt cX6_bitAt 6 (some .int) 0 0 g 7 [] [(0, .int l0), (2, .int x2), (3, .int x3), (4, .int x4)] h r h2) (hf : f_X6_bitAt_j63 kk h s0 s1 l0 l3 l4 = some o3) : Ev yX6_bitAt cX6_bitAt 6 (some .int) 0 0 g 63 [.int s1, .int s0] [(0, .int l0), (3, .int l3), (4, .int l4)] h r h2 := by
  unfold f_X6_bitAt_j63 at hf
  refine ev_isub dX6_bitAt_63 ?_
  refine ev_istore_n (lv2 := [(2, .int (s0 - s1)), (0, .int l0), (3, .int l3), (4, .int l4)]) dX6_bitAt_64 rfl (by decide) rfl ?_
  refine ev_iinc (z := 3) (v := (l4 + 1)) (lv2 := [(4, .int (l4 + 1)), (2, .int (s0 - s1)), (0, .int l0), (3, .int l3)]) dX6_bitAt_65 rfl rfl (by decide) rfl ?_
  refine ev_goto (tgt := 7) dX6_bitAt_68 (by decide) ?_
  refine ev_sub [2, 1, 3, 0] rfl (lv2 := [(0, .int l0), (2, .int (s0 - s1)), (3, .int l3), (4, .int (l4 + 1))]) ?_
  exact hk _ _ _ hf
def f_X6_bitAt_j51 (kk : Int32 → Int32 → Int32 → Option (Int32)) (h : Hp) (s0 : Int32) (l0 : Int32) (l2 : Int32) (l4 : Int32) (l5 : Int32) : Option (Int32) := (if l5 = 0 then (f_X6_bitAt_j63 kk h l2 (0 : Int32) l0 s0 l4) else (f_X6_bitAt_j63 kk h l2 (1 : Int32) l0 s0 l4))
set_option maxRecDepth 100000 in
set_option maxHeartbeats 4000000 in
theorem jn_X6_bitAt_51 {g : Gl} {h : Hp} {kk : Int32 → Int32 → Int32 → Option (Int32)} {s0 : Int32} {l0 : Int32} {l2 : Int32} {l4 : Int32} {l5 : Int32}  {r : Option Value} {h2 : Hp} {o3 : Int32}  (hx0 : Ev yX6_bitAt cX6_bitAt 6 (some .int) 0 0 g 71 [] [(3, .int o3)] h r h2) (hk : ∀ (x2 : Int32) (x3 : Int32) (x4 : Int32), kk x2 x3 x4 = some o3 → Ev yX6_bitAt cX6_bitAt 6 (some .int) 0 0 g 7 [] [(0, .int l0), (2, .int x2), (3, .int x3), (4, .int x4)] h r h2) (hf : f_X6_bitAt_j51 kk h s0 l0 l2 l4 l5 = some o3) : Ev yX6_bitAt cX6_bitAt 6 (some .int) 0 0 g 51 [.int s0] [(0, .int l0), (2, .int l2), (4, .int l4), (5, .int l5)] h r h2 := by
  unfold f_X6_bitAt_j51 at hf
  refine ev_istore_n (lv2 := [(3, .int s0), (0, .int l0), (2, .int l2), (4, .int l4), (5, .int l5)]) dX6_bitAt_51 rfl (by decide) rfl ?_
  refine ev_iload_n (n := 2) dX6_bitAt_52 rfl rfl ?_
  refine ev_iload (n := 4) dX6_bitAt_53 rfl ?_
  refine ev_if_eq (tgt := 62) dX6_bitAt_55 (by decide) (fun c1 => ?_) (fun c1 => ?_)
  · replace hf := if_t c1 hf
    refine ev_iconst (v := 0) dX6_bitAt_62 (by decide) ?_
    refine ev_sub [1, 0, 3] rfl (lv2 := [(0, .int l0), (3, .int s0), (4, .int l4)]) ?_
    exact jn_X6_bitAt_63 hx0 hk hf
  · replace hf := if_f c1 hf
    refine ev_iconst (v := 1) dX6_bitAt_58 (by decide) ?_
    refine ev_goto (tgt := 63) dX6_bitAt_59 (by decide) ?_
    refine ev_sub [1, 0, 3] rfl (lv2 := [(0, .int l0), (3, .int s0), (4, .int l4)]) ?_
    exact jn_X6_bitAt_63 hx0 hk hf
def f_X6_bitAt_j50 (kk : Int32 → Int32 → Int32 → Option (Int32)) (h : Hp) (l0 : Int32) (l2 : Int32) (l4 : Int32) (l5 : Int32) : Option (Int32) := (f_X6_bitAt_j51 kk h (-1 : Int32) l0 l2 l4 l5)
set_option maxRecDepth 100000 in
set_option maxHeartbeats 4000000 in
theorem jn_X6_bitAt_50 {g : Gl} {h : Hp} {kk : Int32 → Int32 → Int32 → Option (Int32)} {l0 : Int32} {l2 : Int32} {l4 : Int32} {l5 : Int32}  {r : Option Value} {h2 : Hp} {o3 : Int32}  (hx0 : Ev yX6_bitAt cX6_bitAt 6 (some .int) 0 0 g 71 [] [(3, .int o3)] h r h2) (hk : ∀ (x2 : Int32) (x3 : Int32) (x4 : Int32), kk x2 x3 x4 = some o3 → Ev yX6_bitAt cX6_bitAt 6 (some .int) 0 0 g 7 [] [(0, .int l0), (2, .int x2), (3, .int x3), (4, .int x4)] h r h2) (hf : f_X6_bitAt_j50 kk h l0 l2 l4 l5 = some o3) : Ev yX6_bitAt cX6_bitAt 6 (some .int) 0 0 g 50 [] [(0, .int l0), (2, .int l2), (4, .int l4), (5, .int l5)] h r h2 := by
  unfold f_X6_bitAt_j50 at hf
  refine ev_iconst (v := -1) dX6_bitAt_50 (by decide) ?_
  exact jn_X6_bitAt_51 hx0 hk hf
def f_X6_bitAt_j34 (kk : Int32 → Int32 → Int32 → Option (Int32)) (h : Hp) (s0 : Int32) (l0 : Int32) (l2 : Int32) (l4 : Int32) : Option (Int32) := (if s0 = 0 then (f_X6_bitAt_j50 kk h l0 l2 l4 s0) else (if l2 = 0 then (f_X6_bitAt_j51 kk h l4 l0 l2 l4 s0) else (f_X6_bitAt_j50 kk h l0 l2 l4 s0)))
set_option maxRecDepth 100000 in
set_option maxHeartbeats 4000000 in
theorem jn_X6_bitAt_34 {g : Gl} {h : Hp} {kk : Int32 → Int32 → Int32 → Option (Int32)} {s0 : Int32} {l0 : Int32} {l2 : Int32} {l4 : Int32}  {r : Option Value} {h2 : Hp} {o3 : Int32}  (hx0 : Ev yX6_bitAt cX6_bitAt 6 (some .int) 0 0 g 71 [] [(3, .int o3)] h r h2) (hk : ∀ (x2 : Int32) (x3 : Int32) (x4 : Int32), kk x2 x3 x4 = some o3 → Ev yX6_bitAt cX6_bitAt 6 (some .int) 0 0 g 7 [] [(0, .int l0), (2, .int x2), (3, .int x3), (4, .int x4)] h r h2) (hf : f_X6_bitAt_j34 kk h s0 l0 l2 l4 = some o3) : Ev yX6_bitAt cX6_bitAt 6 (some .int) 0 0 g 34 [.int s0] [(0, .int l0), (2, .int l2), (4, .int l4)] h r h2 := by
  unfold f_X6_bitAt_j34 at hf
  refine ev_istore (lv2 := [(5, .int s0), (0, .int l0), (2, .int l2), (4, .int l4)]) dX6_bitAt_34 (by decide) rfl ?_
  refine ev_iload (n := 0) dX6_bitAt_36 rfl ?_
  refine ev_if_eq (tgt := 50) dX6_bitAt_38 (by decide) (fun c1 => ?_) (fun c1 => ?_)
  · replace hf := if_t c1 hf
    refine ev_sub [1, 2, 3, 0] rfl (lv2 := [(0, .int l0), (2, .int l2), (4, .int l4), (5, .int s0)]) ?_
    exact jn_X6_bitAt_50 hx0 hk hf
  · replace hf := if_f c1 hf
    refine ev_iload_n (n := 2) dX6_bitAt_41 rfl rfl ?_
    refine ev_if_ne (tgt := 50) dX6_bitAt_42 (by decide) (fun c1 => ?_) (fun c1 => ?_)
    · replace hf := if_f c1 hf
      refine ev_sub [1, 2, 3, 0] rfl (lv2 := [(0, .int l0), (2, .int l2), (4, .int l4), (5, .int s0)]) ?_
      exact jn_X6_bitAt_50 hx0 hk hf
    · replace hf := if_t c1 hf
      refine ev_iload (n := 3) dX6_bitAt_45 rfl ?_
      refine ev_goto (tgt := 51) dX6_bitAt_47 (by decide) ?_
      refine ev_sub [1, 2, 3, 0] rfl (lv2 := [(0, .int l0), (2, .int l2), (4, .int l4), (5, .int s0)]) ?_
      exact jn_X6_bitAt_51 hx0 hk hf
def f_X6_bitAt_l7 (h : Hp) (l0 : Int32) : Nat → Int32 → Int32 → Int32 → Option (Int32)
  | 0, _, _, _ => none
  | fu1 + 1, l2, l3, l4 => (if (6 : Int32) ≤ l4 then (some l3) else (if l3 = (-1 : Int32) then (if ((l0 >>> (l4 &&& 31)) &&& (1 : Int32)) = (1 : Int32) then (f_X6_bitAt_j34 (f_X6_bitAt_l7 h l0 fu1) h (1 : Int32) l0 l2 l4) else (f_X6_bitAt_j34 (f_X6_bitAt_l7 h l0 fu1) h (0 : Int32) l0 l2 l4)) else (some l3)))
theorem f_X6_bitAt_l7_s (h : Hp) (l0 : Int32) (fu1 : Nat) (l2 : Int32) (l3 : Int32) (l4 : Int32) : f_X6_bitAt_l7 h l0 (fu1 + 1) l2 l3 l4 = (if (6 : Int32) ≤ l4 then (some l3) else (if l3 = (-1 : Int32) then (if ((l0 >>> (l4 &&& 31)) &&& (1 : Int32)) = (1 : Int32) then (f_X6_bitAt_j34 (f_X6_bitAt_l7 h l0 fu1) h (1 : Int32) l0 l2 l4) else (f_X6_bitAt_j34 (f_X6_bitAt_l7 h l0 fu1) h (0 : Int32) l0 l2 l4)) else (some l3))) := rfl
theorem f_X6_bitAt_l7_0 (h : Hp) (l0 : Int32) (l2 : Int32) (l3 : Int32) (l4 : Int32) : f_X6_bitAt_l7 h l0 0 l2 l3 l4 = none := rfl
set_option maxRecDepth 100000 in
set_option maxHeartbeats 4000000 in
theorem lp_X6_bitAt_7 {g : Gl} {h : Hp} {l0 : Int32} {r : Option Value} {h2 : Hp} {o3 : Int32}  (hx0 : Ev yX6_bitAt cX6_bitAt 6 (some .int) 0 0 g 71 [] [(3, .int o3)] h r h2) : ∀ (fu1 : Nat) (l2 : Int32) (l3 : Int32) (l4 : Int32), f_X6_bitAt_l7 h l0 fu1 l2 l3 l4 = some o3 → Ev yX6_bitAt cX6_bitAt 6 (some .int) 0 0 g 7 [] [(0, .int l0), (2, .int l2), (3, .int l3), (4, .int l4)] h r h2 := by
  intro fu1
  induction fu1 with
  | zero =>
    intro l2 l3 l4 hf
    cases hf
  | succ fu1 ih =>
    intro l2 l3 l4 hf
    rw [f_X6_bitAt_l7_s] at hf
    have hk := ih
    refine ev_iload (n := 3) dX6_bitAt_7 rfl ?_
    refine ev_bipush (v := 6) dX6_bitAt_9 (by decide) ?_
    refine ev_icmp_ge (tgt := 71) dX6_bitAt_11 (by decide) (fun c1 => ?_) (fun c1 => ?_)
    · replace hf := if_t c1 hf
      refine ev_sub [2] rfl (lv2 := [(3, .int l3)]) ?_
      obtain rfl := Option.some.inj hf
      exact hx0
    · replace hf := if_f c1 hf
      refine ev_iload_n (n := 2) dX6_bitAt_14 rfl rfl ?_
      refine ev_iconst (v := -1) dX6_bitAt_15 (by decide) ?_
      refine ev_icmp_ne (tgt := 71) dX6_bitAt_16 (by decide) (fun c1 => ?_) (fun c1 => ?_)
      · replace hf := if_f c1 hf
        refine ev_sub [2] rfl (lv2 := [(3, .int l3)]) ?_
        obtain rfl := Option.some.inj hf
        exact hx0
      · replace hf := if_t c1 hf
        refine ev_iload_n (n := 0) dX6_bitAt_19 rfl rfl ?_
        refine ev_iload (n := 3) dX6_bitAt_20 rfl ?_
        refine ev_ishr dX6_bitAt_22 ?_
        refine ev_iconst (v := 1) dX6_bitAt_23 (by decide) ?_
        refine ev_iand dX6_bitAt_24 ?_
        refine ev_iconst (v := 1) dX6_bitAt_25 (by decide) ?_
        refine ev_icmp_ne (tgt := 33) dX6_bitAt_26 (by decide) (fun c1 => ?_) (fun c1 => ?_)
        · replace hf := if_f c1 hf
          refine ev_iconst (v := 0) dX6_bitAt_33 (by decide) ?_
          refine ev_sub [0, 1, 3] rfl (lv2 := [(0, .int l0), (2, .int l2), (4, .int l4)]) ?_
          exact jn_X6_bitAt_34 hx0 hk hf
        · replace hf := if_t c1 hf
          refine ev_iconst (v := 1) dX6_bitAt_29 (by decide) ?_
          refine ev_goto (tgt := 34) dX6_bitAt_30 (by decide) ?_
          refine ev_sub [0, 1, 3] rfl (lv2 := [(0, .int l0), (2, .int l2), (4, .int l4)]) ?_
          exact jn_X6_bitAt_34 hx0 hk hf
def f_X6_bitAt_j71 (h : Hp) (l3 : Int32) : Option (Int32) := (some l3)
set_option maxRecDepth 100000 in
set_option maxHeartbeats 4000000 in
theorem jn_X6_bitAt_71 {g : Gl} {h : Hp} {l3 : Int32}  {rv : Int32}    (hf : f_X6_bitAt_j71 h l3 = some rv) : Ev yX6_bitAt cX6_bitAt 6 (some .int) 0 0 g 71 [] [(3, .int l3)] h (some (.int rv)) h := by
  unfold f_X6_bitAt_j71 at hf
  refine ev_iload_n (n := 0) dX6_bitAt_71 rfl rfl ?_
  obtain rfl := Option.some.inj hf
  exact ev_ireturn dX6_bitAt_72 ⟨.int, rfl, rfl⟩
def f_X6_bitAt (h : Hp) (l0 : Int32) (l1 : Int32) : Option (Int32) := (bn1 (f_X6_bitAt_l7 h l0 fu l1 (-1 : Int32) (0 : Int32)) (fun w3_1 => (f_X6_bitAt_j71 h w3_1)))
set_option maxRecDepth 100000 in
set_option maxHeartbeats 4000000 in
theorem ev_X6_bitAt {g : Gl} {h : Hp} {l0 : Int32} {l1 : Int32} {rv : Int32}  (hf : f_X6_bitAt h l0 l1 = some rv) : Ev yX6_bitAt cX6_bitAt 6 (some .int) 0 0 g 0 [] [(0, .int l0), (1, .int l1)] h (some (.int rv)) h := by
  unfold f_X6_bitAt at hf
  refine ev_iload_n (n := 1) dX6_bitAt_0 rfl rfl ?_
  refine ev_istore_n (lv2 := [(2, .int l1), (0, .int l0), (1, .int l1)]) dX6_bitAt_1 rfl (by decide) rfl ?_
  refine ev_iconst (v := -1) dX6_bitAt_2 (by decide) ?_
  refine ev_istore_n (lv2 := [(3, .int (-1 : Int32)), (2, .int l1), (0, .int l0), (1, .int l1)]) dX6_bitAt_3 rfl (by decide) rfl ?_
  refine ev_iconst (v := 0) dX6_bitAt_4 (by decide) ?_
  refine ev_istore (lv2 := [(4, .int (0 : Int32)), (3, .int (-1 : Int32)), (2, .int l1), (0, .int l0), (1, .int l1)]) dX6_bitAt_5 (by decide) rfl ?_
  obtain ⟨w3_1, e2, hf⟩ := bn1_of hf
  refine ev_sub [3, 2, 1, 0] rfl (lv2 := [(0, .int l0), (2, .int l1), (3, .int (-1 : Int32)), (4, .int (0 : Int32))]) ?_
  refine lp_X6_bitAt_7  ?_ fu _ _ _ e2
  exact jn_X6_bitAt_71 hf
def f_X6_opens_j31 (kk : Int32 → Int32 → Option (Int32)) (h : Hp) (s0 : Int32) (s1 : Int32) (l0 : Nat) (l1 : Int32) (l3 : Int32) : Option (Int32) := (kk (s0 ||| s1) (l3 + 1))
set_option maxRecDepth 100000 in
set_option maxHeartbeats 4000000 in
theorem jn_X6_opens_31 {g : Gl} {h : Hp} {kk : Int32 → Int32 → Option (Int32)} {s0 : Int32} {s1 : Int32} {l0 : Nat} {l1 : Int32} {l3 : Int32}  {r : Option Value} {h2 : Hp} {o2 : Int32} (kl0 : KD g.1 l0 5 0) (hx0 : Ev yX6_opens cX6_opens 7 none 4 90 g 39 [] [(0, .ref l0), (1, .int l1), (2, .int o2)] h r h2) (hk : ∀ (x2 : Int32) (x3 : Int32), kk x2 x3 = some o2 → Ev yX6_opens cX6_opens 7 none 4 90 g 4 [] [(0, .ref l0), (1, .int l1), (2, .int x2), (3, .int x3)] h r h2) (hf : f_X6_opens_j31 kk h s0 s1 l0 l1 l3 = some o2) : Ev yX6_opens cX6_opens 7 none 4 90 g 31 [.int s1, .int s0] [(0, .ref l0), (1, .int l1), (3, .int l3)] h r h2 := by
  unfold f_X6_opens_j31 at hf
  refine ev_ior dX6_opens_31 ?_
  refine ev_istore_n (lv2 := [(2, .int (s0 ||| s1)), (0, .ref l0), (1, .int l1), (3, .int l3)]) dX6_opens_32 rfl (by decide) rfl ?_
  refine ev_iinc (z := 3) (v := (l3 + 1)) (lv2 := [(3, .int (l3 + 1)), (2, .int (s0 ||| s1)), (0, .ref l0), (1, .int l1)]) dX6_opens_33 rfl rfl (by decide) rfl ?_
  refine ev_goto (tgt := 4) dX6_opens_36 (by decide) ?_
  refine ev_sub [2, 3, 1, 0] rfl (lv2 := [(0, .ref l0), (1, .int l1), (2, .int (s0 ||| s1)), (3, .int (l3 + 1))]) ?_
  exact hk _ _ hf
def f_X6_opens_l4 (h : Hp) (l0 : Nat) (l1 : Int32) : Nat → Int32 → Int32 → Option (Int32)
  | 0, _, _ => none
  | fu1 + 1, l2, l3 => (if (hI h (l0 + 2) (0 : Int32).toNatClampNeg) ≤ l3 then (some l2) else (bn1 (f_X6_wants h l0 l3 l1) (fun v2 => (if v2 = 0 then (f_X6_opens_j31 (f_X6_opens_l4 h l0 l1 fu1) h l2 (0 : Int32) l0 l1 l3) else (f_X6_opens_j31 (f_X6_opens_l4 h l0 l1 fu1) h l2 ((1 : Int32) <<< (l3 &&& 31)) l0 l1 l3)))))
theorem f_X6_opens_l4_s (h : Hp) (l0 : Nat) (l1 : Int32) (fu1 : Nat) (l2 : Int32) (l3 : Int32) : f_X6_opens_l4 h l0 l1 (fu1 + 1) l2 l3 = (if (hI h (l0 + 2) (0 : Int32).toNatClampNeg) ≤ l3 then (some l2) else (bn1 (f_X6_wants h l0 l3 l1) (fun v2 => (if v2 = 0 then (f_X6_opens_j31 (f_X6_opens_l4 h l0 l1 fu1) h l2 (0 : Int32) l0 l1 l3) else (f_X6_opens_j31 (f_X6_opens_l4 h l0 l1 fu1) h l2 ((1 : Int32) <<< (l3 &&& 31)) l0 l1 l3))))) := rfl
theorem f_X6_opens_l4_0 (h : Hp) (l0 : Nat) (l1 : Int32) (l2 : Int32) (l3 : Int32) : f_X6_opens_l4 h l0 l1 0 l2 l3 = none := rfl
set_option maxRecDepth 100000 in
set_option maxHeartbeats 4000000 in
theorem lp_X6_opens_4 {g : Gl} {h : Hp} {l0 : Nat} {l1 : Int32} {r : Option Value} {h2 : Hp} {o2 : Int32} (kl0 : KD g.1 l0 5 0) (hx0 : Ev yX6_opens cX6_opens 7 none 4 90 g 39 [] [(0, .ref l0), (1, .int l1), (2, .int o2)] h r h2) : ∀ (fu1 : Nat) (l2 : Int32) (l3 : Int32), f_X6_opens_l4 h l0 l1 fu1 l2 l3 = some o2 → Ev yX6_opens cX6_opens 7 none 4 90 g 4 [] [(0, .ref l0), (1, .int l1), (2, .int l2), (3, .int l3)] h r h2 := by
  intro fu1
  induction fu1 with
  | zero =>
    intro l2 l3 hf
    cases hf
  | succ fu1 ih =>
    intro l2 l3 hf
    rw [f_X6_opens_l4_s] at hf
    have hk := ih
    refine ev_iload_n (n := 3) dX6_opens_4 rfl rfl ?_
    refine ev_aload_n (n := 0) dX6_opens_5 rfl rfl ?_
    refine ev_get (v := .ref (l0 + 2)) 1 kl0 rfl (by decide) rfl lk_607 dX6_opens_6 ?_
    refine ev_iconst (v := 0) dX6_opens_9 (by decide) ?_
    refine ev_iald (kd_5_1 kl0) (by unfold vp_in; decide) dX6_opens_10 ?_
    refine ev_icmp_ge (tgt := 39) dX6_opens_11 (by decide) (fun c1 => ?_) (fun c1 => ?_)
    · replace hf := if_t c1 hf
      refine ev_sub [0, 1, 2] rfl (lv2 := [(0, .ref l0), (1, .int l1), (2, .int l2)]) ?_
      obtain rfl := Option.some.inj hf
      exact hx0
    · replace hf := if_f c1 hf
      refine ev_iload_n (n := 2) dX6_opens_14 rfl rfl ?_
      refine ev_aload_n (n := 0) dX6_opens_15 rfl rfl ?_
      refine ev_iload_n (n := 3) dX6_opens_16 rfl rfl ?_
      refine ev_iload_n (n := 1) dX6_opens_17 rfl rfl ?_
      obtain ⟨v2, e3, hf⟩ := bn1_of hf
      refine ev_callVi (As := [.int l3, .int l1]) cal_X6_wants kl0 rfl (ev_X6_wants kl0 e3) (Nat.le_of_ble_eq_true rfl) rfl lk_763 (by decide) (by decide) (Nat.le_of_ble_eq_true rfl) dX6_opens_18 rfl ?_
      refine ev_if_eq (tgt := 30) dX6_opens_21 (by decide) (fun c1 => ?_) (fun c1 => ?_)
      · replace hf := if_t c1 hf
        refine ev_iconst (v := 0) dX6_opens_30 (by decide) ?_
        refine ev_sub [0, 1, 3] rfl (lv2 := [(0, .ref l0), (1, .int l1), (3, .int l3)]) ?_
        exact jn_X6_opens_31 kl0 hx0 hk hf
      · replace hf := if_f c1 hf
        refine ev_iconst (v := 1) dX6_opens_24 (by decide) ?_
        refine ev_iload_n (n := 3) dX6_opens_25 rfl rfl ?_
        refine ev_ishl dX6_opens_26 ?_
        refine ev_goto (tgt := 31) dX6_opens_27 (by decide) ?_
        refine ev_sub [0, 1, 3] rfl (lv2 := [(0, .ref l0), (1, .int l1), (3, .int l3)]) ?_
        exact jn_X6_opens_31 kl0 hx0 hk hf
def f_X6_opens_j83 (kk : Int32 → Int32 → Option (Int32)) (h : Hp) (s0 : Int32) (s1 : Int32) (l0 : Nat) (l1 : Int32) (l2 : Int32) (l4 : Int32) : Option (Int32) := (kk (s0 ||| s1) (l4 + 1))
set_option maxRecDepth 100000 in
set_option maxHeartbeats 4000000 in
theorem jn_X6_opens_83 {g : Gl} {h : Hp} {kk : Int32 → Int32 → Option (Int32)} {s0 : Int32} {s1 : Int32} {l0 : Nat} {l1 : Int32} {l2 : Int32} {l4 : Int32}  {r : Option Value} {h2 : Hp} {o3 : Int32} (kl0 : KD g.1 l0 5 0) (hx0 : Ev yX6_opens cX6_opens 7 none 4 90 g 91 [] [(0, .ref l0), (1, .int l1), (2, .int l2), (3, .int o3)] h r h2) (hk : ∀ (x3 : Int32) (x4 : Int32), kk x3 x4 = some o3 → Ev yX6_opens cX6_opens 7 none 4 90 g 44 [] [(0, .ref l0), (1, .int l1), (2, .int l2), (3, .int x3), (4, .int x4)] h r h2) (hf : f_X6_opens_j83 kk h s0 s1 l0 l1 l2 l4 = some o3) : Ev yX6_opens cX6_opens 7 none 4 90 g 83 [.int s1, .int s0] [(0, .ref l0), (1, .int l1), (2, .int l2), (4, .int l4)] h r h2 := by
  unfold f_X6_opens_j83 at hf
  refine ev_ior dX6_opens_83 ?_
  refine ev_istore_n (lv2 := [(3, .int (s0 ||| s1)), (0, .ref l0), (1, .int l1), (2, .int l2), (4, .int l4)]) dX6_opens_84 rfl (by decide) rfl ?_
  refine ev_iinc (z := 4) (v := (l4 + 1)) (lv2 := [(4, .int (l4 + 1)), (3, .int (s0 ||| s1)), (0, .ref l0), (1, .int l1), (2, .int l2)]) dX6_opens_85 rfl rfl (by decide) rfl ?_
  refine ev_goto (tgt := 44) dX6_opens_88 (by decide) ?_
  refine ev_sub [2, 3, 4, 1, 0] rfl (lv2 := [(0, .ref l0), (1, .int l1), (2, .int l2), (3, .int (s0 ||| s1)), (4, .int (l4 + 1))]) ?_
  exact hk _ _ hf
def f_X6_opens_l44 (h : Hp) (l0 : Nat) (l1 : Int32) (l2 : Int32) : Nat → Int32 → Int32 → Option (Int32)
  | 0, _, _ => none
  | fu1 + 1, l3, l4 => (if (hI h (l0 + 2) (8 : Int32).toNatClampNeg) ≤ l4 then (some l3) else (bn1 (f_X6_best h l0 l1 (l2 &&& (l3 ^^^ (-1 : Int32)))) (fun v6 => (if v6 = (-1 : Int32) then (f_X6_opens_j83 (f_X6_opens_l44 h l0 l1 l2 fu1) h l3 (0 : Int32) l0 l1 l2 l4) else (f_X6_opens_j83 (f_X6_opens_l44 h l0 l1 l2 fu1) h l3 ((1 : Int32) <<< (v6 &&& 31)) l0 l1 l2 l4)))))
theorem f_X6_opens_l44_s (h : Hp) (l0 : Nat) (l1 : Int32) (l2 : Int32) (fu1 : Nat) (l3 : Int32) (l4 : Int32) : f_X6_opens_l44 h l0 l1 l2 (fu1 + 1) l3 l4 = (if (hI h (l0 + 2) (8 : Int32).toNatClampNeg) ≤ l4 then (some l3) else (bn1 (f_X6_best h l0 l1 (l2 &&& (l3 ^^^ (-1 : Int32)))) (fun v6 => (if v6 = (-1 : Int32) then (f_X6_opens_j83 (f_X6_opens_l44 h l0 l1 l2 fu1) h l3 (0 : Int32) l0 l1 l2 l4) else (f_X6_opens_j83 (f_X6_opens_l44 h l0 l1 l2 fu1) h l3 ((1 : Int32) <<< (v6 &&& 31)) l0 l1 l2 l4))))) := rfl
theorem f_X6_opens_l44_0 (h : Hp) (l0 : Nat) (l1 : Int32) (l2 : Int32) (l3 : Int32) (l4 : Int32) : f_X6_opens_l44 h l0 l1 l2 0 l3 l4 = none := rfl
set_option maxRecDepth 100000 in
set_option maxHeartbeats 4000000 in
theorem lp_X6_opens_44 {g : Gl} {h : Hp} {l0 : Nat} {l1 : Int32} {l2 : Int32} {r : Option Value} {h2 : Hp} {o3 : Int32} (kl0 : KD g.1 l0 5 0) (hx0 : Ev yX6_opens cX6_opens 7 none 4 90 g 91 [] [(0, .ref l0), (1, .int l1), (2, .int l2), (3, .int o3)] h r h2) : ∀ (fu1 : Nat) (l3 : Int32) (l4 : Int32), f_X6_opens_l44 h l0 l1 l2 fu1 l3 l4 = some o3 → Ev yX6_opens cX6_opens 7 none 4 90 g 44 [] [(0, .ref l0), (1, .int l1), (2, .int l2), (3, .int l3), (4, .int l4)] h r h2 := by
  intro fu1
  induction fu1 with
  | zero =>
    intro l3 l4 hf
    cases hf
  | succ fu1 ih =>
    intro l3 l4 hf
    rw [f_X6_opens_l44_s] at hf
    have hk := ih
    refine ev_iload (n := 4) dX6_opens_44 rfl ?_
    refine ev_aload_n (n := 0) dX6_opens_46 rfl rfl ?_
    refine ev_get (v := .ref (l0 + 2)) 1 kl0 rfl (by decide) rfl lk_607 dX6_opens_47 ?_
    refine ev_bipush (v := 8) dX6_opens_50 (by decide) ?_
    refine ev_iald (kd_5_1 kl0) (by unfold vp_in; decide) dX6_opens_52 ?_
    refine ev_icmp_ge (tgt := 91) dX6_opens_53 (by decide) (fun c1 => ?_) (fun c1 => ?_)
    · replace hf := if_t c1 hf
      refine ev_sub [0, 1, 2, 3] rfl (lv2 := [(0, .ref l0), (1, .int l1), (2, .int l2), (3, .int l3)]) ?_
      obtain rfl := Option.some.inj hf
      exact hx0
    · replace hf := if_f c1 hf
      refine ev_aload_n (n := 0) dX6_opens_56 rfl rfl ?_
      refine ev_iload_n (n := 1) dX6_opens_57 rfl rfl ?_
      refine ev_iload_n (n := 2) dX6_opens_58 rfl rfl ?_
      refine ev_iload_n (n := 3) dX6_opens_59 rfl rfl ?_
      refine ev_iconst (v := -1) dX6_opens_60 (by decide) ?_
      refine ev_ixor dX6_opens_61 ?_
      refine ev_iand dX6_opens_62 ?_
      obtain ⟨v6, e7, hf⟩ := bn1_of hf
      refine ev_callVi (As := [.int l1, .int (l2 &&& (l3 ^^^ (-1 : Int32)))]) cal_X6_best kl0 rfl (ev_X6_best kl0 e7) (Nat.le_of_ble_eq_true rfl) rfl lk_779 (by decide) (by decide) (Nat.le_of_ble_eq_true rfl) dX6_opens_63 rfl ?_
      refine ev_istore (lv2 := [(5, .int v6), (0, .ref l0), (1, .int l1), (2, .int l2), (3, .int l3), (4, .int l4)]) dX6_opens_66 (by decide) rfl ?_
      refine ev_iload_n (n := 4) dX6_opens_68 rfl rfl ?_
      refine ev_iload (n := 0) dX6_opens_69 rfl ?_
      refine ev_iconst (v := -1) dX6_opens_71 (by decide) ?_
      refine ev_icmp_ne (tgt := 79) dX6_opens_72 (by decide) (fun c1 => ?_) (fun c1 => ?_)
      · replace hf := if_f c1 hf
        refine ev_iconst (v := 1) dX6_opens_79 (by decide) ?_
        refine ev_iload (n := 0) dX6_opens_80 rfl ?_
        refine ev_ishl dX6_opens_82 ?_
        refine ev_sub [1, 2, 3, 5] rfl (lv2 := [(0, .ref l0), (1, .int l1), (2, .int l2), (4, .int l4)]) ?_
        exact jn_X6_opens_83 kl0 hx0 hk hf
      · replace hf := if_t c1 hf
        refine ev_iconst (v := 0) dX6_opens_75 (by decide) ?_
        refine ev_goto (tgt := 83) dX6_opens_76 (by decide) ?_
        refine ev_sub [1, 2, 3, 5] rfl (lv2 := [(0, .ref l0), (1, .int l1), (2, .int l2), (4, .int l4)]) ?_
        exact jn_X6_opens_83 kl0 hx0 hk hf
def f_X6_opens_j215 (h : Hp) (s0 : Nat) (s1 : Int32) (s2 : Int32) (s3 : Int32) : Option (Hp) := (if inb s1 320 = true then (some (sI h s0 s1.toNatClampNeg (s2 ||| s3))) else none)
set_option maxRecDepth 100000 in
set_option maxHeartbeats 4000000 in
theorem jn_X6_opens_215 {g : Gl} {h : Hp} {s0 : Nat} {s1 : Int32} {s2 : Int32} {s3 : Int32}  {h2 : Hp} (ks0 : KD g.1 s0 6 320)   (hf : f_X6_opens_j215 h s0 s1 s2 s3 = some h2) : Ev yX6_opens cX6_opens 7 none 4 90 g 215 [.int s3, .int s2, .int s1, .ref s0] [] h none h2 := by
  unfold f_X6_opens_j215 at hf
  refine ev_ior dX6_opens_215 ?_
  obtain ⟨gd16, hf⟩ := gd_of hf
  refine ev_iast ks0 (inb_of gd16) dX6_opens_216 ?_
  obtain rfl := Option.some.inj hf
  exact ev_return_ dX6_opens_217 rfl
def f_X6_opens_j177 (h : Hp) (l0 : Nat) (l1 : Int32) (l3 : Int32) (l5 : Int32) : Option (Hp) := (bn1 (f_X6_at h l1) (fun v11 => (if inb (v11 + (4 : Int32)) 320 = true then (bn1 (f_X6_at (sI h (l0 + 2) (v11 + (4 : Int32)).toNatClampNeg l5) l1) (fun v14 => (if l5 = (-1 : Int32) then (f_X6_opens_j215 (sI h (l0 + 2) (v11 + (4 : Int32)).toNatClampNeg l5) (l0 + 2) (v14 + (3 : Int32)) l3 (0 : Int32)) else (f_X6_opens_j215 (sI h (l0 + 2) (v11 + (4 : Int32)).toNatClampNeg l5) (l0 + 2) (v14 + (3 : Int32)) l3 ((1 : Int32) <<< (l5 &&& 31)))))) else none)))
set_option maxRecDepth 100000 in
set_option maxHeartbeats 4000000 in
theorem jn_X6_opens_177 {g : Gl} {h : Hp} {l0 : Nat} {l1 : Int32} {l3 : Int32} {l5 : Int32}  {h2 : Hp} (kl0 : KD g.1 l0 5 0)   (hf : f_X6_opens_j177 h l0 l1 l3 l5 = some h2) : Ev yX6_opens cX6_opens 7 none 4 90 g 177 [] [(0, .ref l0), (1, .int l1), (3, .int l3), (5, .int l5)] h none h2 := by
  unfold f_X6_opens_j177 at hf
  refine ev_aload_n (n := 0) dX6_opens_177 rfl rfl ?_
  refine ev_get (v := .ref (l0 + 2)) 1 kl0 rfl (by decide) rfl lk_607 dX6_opens_178 ?_
  refine ev_iload_n (n := 1) dX6_opens_181 rfl rfl ?_
  obtain ⟨v11, e12, hf⟩ := bn1_of hf
  refine ev_callSi (As := [.int l1]) cal_X6_at (ev_X6_at e12) (Nat.le_of_ble_eq_true rfl) rfl lk_700 (by decide) (by decide) (Nat.le_of_ble_eq_true rfl) dX6_opens_182 rfl ?_
  refine ev_iconst (v := 4) dX6_opens_185 (by decide) ?_
  refine ev_iadd dX6_opens_186 ?_
  refine ev_iload (n := 3) dX6_opens_187 rfl ?_
  obtain ⟨gd13, hf⟩ := gd_of hf
  refine ev_iast (kd_5_1 kl0) (inb_of gd13) dX6_opens_189 ?_
  refine ev_aload_n (n := 0) dX6_opens_190 rfl rfl ?_
  refine ev_get (v := .ref (l0 + 2)) 1 kl0 rfl (by decide) rfl lk_607 dX6_opens_191 ?_
  refine ev_iload_n (n := 1) dX6_opens_194 rfl rfl ?_
  obtain ⟨v14, e15, hf⟩ := bn1_of hf
  refine ev_callSi (As := [.int l1]) cal_X6_at (ev_X6_at e15) (Nat.le_of_ble_eq_true rfl) rfl lk_700 (by decide) (by decide) (Nat.le_of_ble_eq_true rfl) dX6_opens_195 rfl ?_
  refine ev_iconst (v := 3) dX6_opens_198 (by decide) ?_
  refine ev_iadd dX6_opens_199 ?_
  refine ev_iload_n (n := 2) dX6_opens_200 rfl rfl ?_
  refine ev_iload (n := 3) dX6_opens_201 rfl ?_
  refine ev_iconst (v := -1) dX6_opens_203 (by decide) ?_
  refine ev_icmp_ne (tgt := 211) dX6_opens_204 (by decide) (fun c1 => ?_) (fun c1 => ?_)
  · replace hf := if_f c1 hf
    refine ev_iconst (v := 1) dX6_opens_211 (by decide) ?_
    refine ev_iload (n := 3) dX6_opens_212 rfl ?_
    refine ev_ishl dX6_opens_214 ?_
    refine ev_sub [] rfl (lv2 := []) ?_
    exact jn_X6_opens_215 (kd_5_1 kl0) hf
  · replace hf := if_t c1 hf
    refine ev_iconst (v := 0) dX6_opens_207 (by decide) ?_
    refine ev_goto (tgt := 215) dX6_opens_208 (by decide) ?_
    refine ev_sub [] rfl (lv2 := []) ?_
    exact jn_X6_opens_215 (kd_5_1 kl0) hf
def f_X6_opens_j175 (h : Hp) (s0 : Int32) (l0 : Nat) (l1 : Int32) (l3 : Int32) : Option (Hp) := (f_X6_opens_j177 h l0 l1 l3 s0)
set_option maxRecDepth 100000 in
set_option maxHeartbeats 4000000 in
theorem jn_X6_opens_175 {g : Gl} {h : Hp} {s0 : Int32} {l0 : Nat} {l1 : Int32} {l3 : Int32}  {h2 : Hp} (kl0 : KD g.1 l0 5 0)   (hf : f_X6_opens_j175 h s0 l0 l1 l3 = some h2) : Ev yX6_opens cX6_opens 7 none 4 90 g 175 [.int s0] [(0, .ref l0), (1, .int l1), (3, .int l3)] h none h2 := by
  unfold f_X6_opens_j175 at hf
  refine ev_istore (lv2 := [(5, .int s0), (0, .ref l0), (1, .int l1), (3, .int l3)]) dX6_opens_175 (by decide) rfl ?_
  refine ev_sub [1, 2, 3, 0] rfl (lv2 := [(0, .ref l0), (1, .int l1), (3, .int l3), (5, .int s0)]) ?_
  exact jn_X6_opens_177 kl0 hf
def f_X6_opens_j145 (h : Hp) (s0 : Int32) (l0 : Nat) (l1 : Int32) (l3 : Int32) (l4 : Int32) (l5 : Int32) : Option (Hp) := (if s0 = 0 then (if l4 = 0 then (f_X6_opens_j175 h (-1 : Int32) l0 l1 l3) else (bn1 (f_X6_bits h l4) (fun v17 => (bn2 (f_X6_drawBy h l0 v17) (fun v19 h20 => (bn1 (f_X6_bitAt h20 l4 v19) (fun v22 => (f_X6_opens_j175 h20 v22 l0 l1 l3)))))))) else (f_X6_opens_j177 h l0 l1 l3 l5))
set_option maxRecDepth 100000 in
set_option maxHeartbeats 4000000 in
theorem jn_X6_opens_145 {g : Gl} {h : Hp} {s0 : Int32} {l0 : Nat} {l1 : Int32} {l3 : Int32} {l4 : Int32} {l5 : Int32}  {h2 : Hp} (kl0 : KD g.1 l0 5 0)   (hf : f_X6_opens_j145 h s0 l0 l1 l3 l4 l5 = some h2) : Ev yX6_opens cX6_opens 7 none 4 90 g 145 [.int s0] [(0, .ref l0), (1, .int l1), (3, .int l3), (4, .int l4), (5, .int l5)] h none h2 := by
  unfold f_X6_opens_j145 at hf
  refine ev_istore (lv2 := [(6, .int s0), (0, .ref l0), (1, .int l1), (3, .int l3), (4, .int l4), (5, .int l5)]) dX6_opens_145 (by decide) rfl ?_
  refine ev_iload (n := 0) dX6_opens_147 rfl ?_
  refine ev_if_ne (tgt := 177) dX6_opens_149 (by decide) (fun c1 => ?_) (fun c1 => ?_)
  · replace hf := if_f c1 hf
    refine ev_sub [1, 2, 3, 5] rfl (lv2 := [(0, .ref l0), (1, .int l1), (3, .int l3), (5, .int l5)]) ?_
    exact jn_X6_opens_177 kl0 hf
  · replace hf := if_t c1 hf
    refine ev_iload (n := 4) dX6_opens_152 rfl ?_
    refine ev_if_ne (tgt := 161) dX6_opens_154 (by decide) (fun c1 => ?_) (fun c1 => ?_)
    · replace hf := if_f c1 hf
      refine ev_iload (n := 4) dX6_opens_161 rfl ?_
      refine ev_aload_n (n := 1) dX6_opens_163 rfl rfl ?_
      refine ev_iload (n := 4) dX6_opens_164 rfl ?_
      obtain ⟨v17, e18, hf⟩ := bn1_of hf
      refine ev_callSi (As := [.int l4]) cal_X6_bits (ev_X6_bits e18) (Nat.le_of_ble_eq_true rfl) rfl lk_787 (by decide) (by decide) (Nat.le_of_ble_eq_true rfl) dX6_opens_166 rfl ?_
      obtain ⟨v19, h20, e21, hf⟩ := bn2_of hf
      refine ev_callVi (As := [.int v17]) cal_X6_drawBy kl0 rfl (ev_X6_drawBy kl0 e21) (Nat.le_of_ble_eq_true rfl) rfl lk_790 (by decide) (by decide) (Nat.le_of_ble_eq_true rfl) dX6_opens_169 rfl ?_
      obtain ⟨v22, e23, hf⟩ := bn1_of hf
      refine ev_callSi (As := [.int l4, .int v19]) cal_X6_bitAt (ev_X6_bitAt e23) (Nat.le_of_ble_eq_true rfl) rfl lk_798 (by decide) (by decide) (Nat.le_of_ble_eq_true rfl) dX6_opens_172 rfl ?_
      refine ev_sub [1, 2, 3] rfl (lv2 := [(0, .ref l0), (1, .int l1), (3, .int l3)]) ?_
      exact jn_X6_opens_175 kl0 hf
    · replace hf := if_t c1 hf
      refine ev_iconst (v := -1) dX6_opens_157 (by decide) ?_
      refine ev_goto (tgt := 175) dX6_opens_158 (by decide) ?_
      refine ev_sub [1, 2, 3] rfl (lv2 := [(0, .ref l0), (1, .int l1), (3, .int l3)]) ?_
      exact jn_X6_opens_175 kl0 hf
def f_X6_opens_j144 (h : Hp) (l0 : Nat) (l1 : Int32) (l3 : Int32) (l4 : Int32) (l5 : Int32) : Option (Hp) := (f_X6_opens_j145 h (0 : Int32) l0 l1 l3 l4 l5)
set_option maxRecDepth 100000 in
set_option maxHeartbeats 4000000 in
theorem jn_X6_opens_144 {g : Gl} {h : Hp} {l0 : Nat} {l1 : Int32} {l3 : Int32} {l4 : Int32} {l5 : Int32}  {h2 : Hp} (kl0 : KD g.1 l0 5 0)   (hf : f_X6_opens_j144 h l0 l1 l3 l4 l5 = some h2) : Ev yX6_opens cX6_opens 7 none 4 90 g 144 [] [(0, .ref l0), (1, .int l1), (3, .int l3), (4, .int l4), (5, .int l5)] h none h2 := by
  unfold f_X6_opens_j144 at hf
  refine ev_iconst (v := 0) dX6_opens_144 (by decide) ?_
  exact jn_X6_opens_145 kl0 hf
def f_X6_opens (h : Hp) (l0 : Nat) (l1 : Int32) : Option (Hp) := (bn1 (f_X6_opens_l4 h l0 l1 fu (0 : Int32) (0 : Int32)) (fun w2_4 => (bn1 (f_X6_opens_l44 h l0 l1 w2_4 fu (0 : Int32) (1 : Int32)) (fun w3_8 => (bn1 (f_X6_cellOf h l0 l1 (4 : Int32)) (fun v9 => (if v9 = (-1 : Int32) then (f_X6_opens_j144 h l0 l1 w3_8 (w2_4 &&& (w3_8 ^^^ (-1 : Int32))) v9) else (if ¬ (hI h (l0 + 2) (11 : Int32).toNatClampNeg) = 0 then (if ((hI h (l0 + 2) (3 : Int32).toNatClampNeg) - (hI h (l0 + 2) (3 : Int32).toNatClampNeg) / (hI h (l0 + 2) (11 : Int32).toNatClampNeg) * (hI h (l0 + 2) (11 : Int32).toNatClampNeg)) = 0 then (f_X6_opens_j144 h l0 l1 w3_8 (w2_4 &&& (w3_8 ^^^ (-1 : Int32))) v9) else (if (((w2_4 &&& (w3_8 ^^^ (-1 : Int32))) >>> (v9 &&& 31)) &&& (1 : Int32)) = (1 : Int32) then (f_X6_opens_j145 h (1 : Int32) l0 l1 w3_8 (w2_4 &&& (w3_8 ^^^ (-1 : Int32))) v9) else (f_X6_opens_j144 h l0 l1 w3_8 (w2_4 &&& (w3_8 ^^^ (-1 : Int32))) v9))) else none))))))))
set_option maxRecDepth 100000 in
set_option maxHeartbeats 4000000 in
theorem ev_X6_opens {g : Gl} {h : Hp} {l0 : Nat} {l1 : Int32} {h2 : Hp} (kl0 : KD g.1 l0 5 0) (hf : f_X6_opens h l0 l1 = some h2) : Ev yX6_opens cX6_opens 7 none 4 90 g 0 [] [(0, .ref l0), (1, .int l1)] h none h2 := by
  unfold f_X6_opens at hf
  refine ev_iconst (v := 0) dX6_opens_0 (by decide) ?_
  refine ev_istore_n (lv2 := [(2, .int (0 : Int32)), (0, .ref l0), (1, .int l1)]) dX6_opens_1 rfl (by decide) rfl ?_
  refine ev_iconst (v := 0) dX6_opens_2 (by decide) ?_
  refine ev_istore_n (lv2 := [(3, .int (0 : Int32)), (2, .int (0 : Int32)), (0, .ref l0), (1, .int l1)]) dX6_opens_3 rfl (by decide) rfl ?_
  obtain ⟨w2_4, e28, hf⟩ := bn1_of hf
  refine ev_sub [2, 3, 1, 0] rfl (lv2 := [(0, .ref l0), (1, .int l1), (2, .int (0 : Int32)), (3, .int (0 : Int32))]) ?_
  refine lp_X6_opens_4 kl0 ?_ fu _ _ e28
  refine ev_iconst (v := 0) dX6_opens_39 (by decide) ?_
  refine ev_istore_n (lv2 := [(3, .int (0 : Int32)), (0, .ref l0), (1, .int l1), (2, .int w2_4)]) dX6_opens_40 rfl (by decide) rfl ?_
  refine ev_iconst (v := 1) dX6_opens_41 (by decide) ?_
  refine ev_istore (lv2 := [(4, .int (1 : Int32)), (3, .int (0 : Int32)), (0, .ref l0), (1, .int l1), (2, .int w2_4)]) dX6_opens_42 (by decide) rfl ?_
  obtain ⟨w3_8, e27, hf⟩ := bn1_of hf
  refine ev_sub [2, 3, 4, 1, 0] rfl (lv2 := [(0, .ref l0), (1, .int l1), (2, .int w2_4), (3, .int (0 : Int32)), (4, .int (1 : Int32))]) ?_
  refine lp_X6_opens_44 kl0 ?_ fu _ _ e27
  refine ev_iload_n (n := 2) dX6_opens_91 rfl rfl ?_
  refine ev_iload_n (n := 3) dX6_opens_92 rfl rfl ?_
  refine ev_iconst (v := -1) dX6_opens_93 (by decide) ?_
  refine ev_ixor dX6_opens_94 ?_
  refine ev_iand dX6_opens_95 ?_
  refine ev_istore (lv2 := [(4, .int (w2_4 &&& (w3_8 ^^^ (-1 : Int32)))), (0, .ref l0), (1, .int l1), (2, .int w2_4), (3, .int w3_8)]) dX6_opens_96 (by decide) rfl ?_
  refine ev_aload_n (n := 1) dX6_opens_98 rfl rfl ?_
  refine ev_iload_n (n := 2) dX6_opens_99 rfl rfl ?_
  refine ev_iconst (v := 4) dX6_opens_100 (by decide) ?_
  obtain ⟨v9, e10, hf⟩ := bn1_of hf
  refine ev_callVi (As := [.int l1, .int (4 : Int32)]) cal_X6_cellOf kl0 rfl (ev_X6_cellOf kl0 e10) (Nat.le_of_ble_eq_true rfl) rfl lk_719 (by decide) (by decide) (Nat.le_of_ble_eq_true rfl) dX6_opens_101 rfl ?_
  refine ev_istore (lv2 := [(5, .int v9), (4, .int (w2_4 &&& (w3_8 ^^^ (-1 : Int32)))), (0, .ref l0), (1, .int l1), (2, .int w2_4), (3, .int w3_8)]) dX6_opens_104 (by decide) rfl ?_
  refine ev_iload (n := 0) dX6_opens_106 rfl ?_
  refine ev_iconst (v := -1) dX6_opens_108 (by decide) ?_
  refine ev_icmp_eq (tgt := 144) dX6_opens_109 (by decide) (fun c1 => ?_) (fun c1 => ?_)
  · replace hf := if_t c1 hf
    refine ev_sub [2, 3, 5, 1, 0] rfl (lv2 := [(0, .ref l0), (1, .int l1), (3, .int w3_8), (4, .int (w2_4 &&& (w3_8 ^^^ (-1 : Int32)))), (5, .int v9)]) ?_
    exact jn_X6_opens_144 kl0 hf
  · replace hf := if_f c1 hf
    refine ev_aload_n (n := 2) dX6_opens_112 rfl rfl ?_
    refine ev_get (v := .ref (l0 + 2)) 1 kl0 rfl (by decide) rfl lk_607 dX6_opens_113 ?_
    refine ev_iconst (v := 3) dX6_opens_116 (by decide) ?_
    refine ev_iald (kd_5_1 kl0) (by unfold vp_in; decide) dX6_opens_117 ?_
    refine ev_aload_n (n := 2) dX6_opens_118 rfl rfl ?_
    refine ev_get (v := .ref (l0 + 2)) 1 kl0 rfl (by decide) rfl lk_607 dX6_opens_119 ?_
    refine ev_bipush (v := 11) dX6_opens_122 (by decide) ?_
    refine ev_iald (kd_5_1 kl0) (by unfold vp_in; decide) dX6_opens_124 ?_
    obtain ⟨gd26, hf⟩ := gd_of hf
    refine ev_irem dX6_opens_125 gd26 ?_
    refine ev_if_eq (tgt := 144) dX6_opens_126 (by decide) (fun c1 => ?_) (fun c1 => ?_)
    · replace hf := if_t c1 hf
      refine ev_sub [2, 3, 5, 1, 0] rfl (lv2 := [(0, .ref l0), (1, .int l1), (3, .int w3_8), (4, .int (w2_4 &&& (w3_8 ^^^ (-1 : Int32)))), (5, .int v9)]) ?_
      exact jn_X6_opens_144 kl0 hf
    · replace hf := if_f c1 hf
      refine ev_iload (n := 1) dX6_opens_129 rfl ?_
      refine ev_iload (n := 0) dX6_opens_131 rfl ?_
      refine ev_ishr dX6_opens_133 ?_
      refine ev_iconst (v := 1) dX6_opens_134 (by decide) ?_
      refine ev_iand dX6_opens_135 ?_
      refine ev_iconst (v := 1) dX6_opens_136 (by decide) ?_
      refine ev_icmp_ne (tgt := 144) dX6_opens_137 (by decide) (fun c1 => ?_) (fun c1 => ?_)
      · replace hf := if_f c1 hf
        refine ev_sub [2, 3, 5, 1, 0] rfl (lv2 := [(0, .ref l0), (1, .int l1), (3, .int w3_8), (4, .int (w2_4 &&& (w3_8 ^^^ (-1 : Int32)))), (5, .int v9)]) ?_
        exact jn_X6_opens_144 kl0 hf
      · replace hf := if_t c1 hf
        refine ev_iconst (v := 1) dX6_opens_140 (by decide) ?_
        refine ev_goto (tgt := 145) dX6_opens_141 (by decide) ?_
        refine ev_sub [2, 3, 5, 1, 0] rfl (lv2 := [(0, .ref l0), (1, .int l1), (3, .int w3_8), (4, .int (w2_4 &&& (w3_8 ^^^ (-1 : Int32)))), (5, .int v9)]) ?_
        exact jn_X6_opens_145 kl0 hf
