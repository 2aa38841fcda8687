def f_X6_pairs_l4 (h : Hp) (l0 : Nat) : Nat → Int32 → Int32 → Option (Int32)
  | 0, _, _ => none
  | fu1 + 1, l1, l2 => (if (hI h (l0 + 2) (0 : Int32).toNatClampNeg) ≤ l2 then (some l1) else (bn1 (f_X6_cellOf h l0 l2 (5 : Int32)) (fun v2 => (bn1 (f_X6_bits h v2) (fun v4 => (f_X6_pairs_l4 h l0 fu1 (l1 + v4) (l2 + 1)))))))
theorem f_X6_pairs_l4_s (h : Hp) (l0 : Nat) (fu1 : Nat) (l1 : Int32) (l2 : Int32) : f_X6_pairs_l4 h l0 (fu1 + 1) l1 l2 = (if (hI h (l0 + 2) (0 : Int32).toNatClampNeg) ≤ l2 then (some l1) else (bn1 (f_X6_cellOf h l0 l2 (5 : Int32)) (fun v2 => (bn1 (f_X6_bits h v2) (fun v4 => (f_X6_pairs_l4 h l0 fu1 (l1 + v4) (l2 + 1))))))) := rfl
theorem f_X6_pairs_l4_0 (h : Hp) (l0 : Nat) (l1 : Int32) (l2 : Int32) : f_X6_pairs_l4 h l0 0 l1 l2 = none := rfl
set_option maxRecDepth 100000 in
set_option maxHeartbeats 4000000 in
theorem lp_X6_pairs_4 {g : Gl} {h : Hp} {l0 : Nat} {r : Option Value} {h2 : Hp} {o1 : Int32} (kl0 : KD g.1 l0 5 0) (hx0 : Ev yX6_pairs cX6_pairs 3 (some .int) 2 42 g 32 [] [(1, .int o1)] h r h2) : ∀ (fu1 : Nat) (l1 : Int32) (l2 : Int32), f_X6_pairs_l4 h l0 fu1 l1 l2 = some o1 → Ev yX6_pairs cX6_pairs 3 (some .int) 2 42 g 4 [] [(0, .ref l0), (1, .int l1), (2, .int l2)] h r h2 := by
  intro fu1
  induction fu1 with
  | zero =>
    intro l1 l2 hf
    cases hf
  | succ fu1 ih =>
    intro l1 l2 hf
    rw [f_X6_pairs_l4_s] at hf
    have hk := ih
    refine ev_iload_n (n := 2) dX6_pairs_4 rfl rfl ?_
    refine ev_aload_n (n := 0) dX6_pairs_5 rfl rfl ?_
    refine ev_get (v := .ref (l0 + 2)) 1 kl0 rfl (by decide) rfl lk_607 dX6_pairs_6 ?_
    refine ev_iconst (v := 0) dX6_pairs_9 (by decide) ?_
    refine ev_iald (kd_5_1 kl0) (by unfold vp_in; decide) dX6_pairs_10 ?_
    refine ev_icmp_ge (tgt := 32) dX6_pairs_11 (by decide) (fun c1 => ?_) (fun c1 => ?_)
    · replace hf := if_t c1 hf
      refine ev_sub [1] rfl (lv2 := [(1, .int l1)]) ?_
      obtain rfl := Option.some.inj hf
      exact hx0
    · replace hf := if_f c1 hf
      refine ev_iload_n (n := 1) dX6_pairs_14 rfl rfl ?_
      refine ev_aload_n (n := 0) dX6_pairs_15 rfl rfl ?_
      refine ev_iload_n (n := 2) dX6_pairs_16 rfl rfl ?_
      refine ev_iconst (v := 5) dX6_pairs_17 (by decide) ?_
      obtain ⟨v2, e3, hf⟩ := bn1_of hf
      refine ev_callVi (As := [.int l2, .int (5 : Int32)]) cal_X6_cellOf kl0 rfl (ev_X6_cellOf kl0 e3) (Nat.le_of_ble_eq_true rfl) rfl lk_719 (by decide) (by decide) (Nat.le_of_ble_eq_true rfl) dX6_pairs_18 rfl ?_
      obtain ⟨v4, e5, hf⟩ := bn1_of hf
      refine ev_callSi (As := [.int v2]) cal_X6_bits (ev_X6_bits e5) (Nat.le_of_ble_eq_true rfl) rfl lk_787 (by decide) (by decide) (Nat.le_of_ble_eq_true rfl) dX6_pairs_21 rfl ?_
      refine ev_iadd dX6_pairs_24 ?_
      refine ev_istore_n (lv2 := [(1, .int (l1 + v4)), (0, .ref l0), (2, .int l2)]) dX6_pairs_25 rfl (by decide) rfl ?_
      refine ev_iinc (z := 2) (v := (l2 + 1)) (lv2 := [(2, .int (l2 + 1)), (1, .int (l1 + v4)), (0, .ref l0)]) dX6_pairs_26 rfl rfl (by decide) rfl ?_
      refine ev_goto (tgt := 4) dX6_pairs_29 (by decide) ?_
      refine ev_sub [2, 1, 0] rfl (lv2 := [(0, .ref l0), (1, .int (l1 + v4)), (2, .int (l2 + 1))]) ?_
      exact hk _ _ hf
def f_X6_pairs (h : Hp) (l0 : Nat) : Option (Int32) := (bn1 (f_X6_pairs_l4 h l0 fu (0 : Int32) (0 : Int32)) (fun w1_6 => (some w1_6)))
set_option maxRecDepth 100000 in
set_option maxHeartbeats 4000000 in
theorem ev_X6_pairs {g : Gl} {h : Hp} {l0 : Nat} {rv : Int32} (kl0 : KD g.1 l0 5 0) (hf : f_X6_pairs h l0 = some rv) : Ev yX6_pairs cX6_pairs 3 (some .int) 2 42 g 0 [] [(0, .ref l0)] h (some (.int rv)) h := by
  unfold f_X6_pairs at hf
  refine ev_iconst (v := 0) dX6_pairs_0 (by decide) ?_
  refine ev_istore_n (lv2 := [(1, .int (0 : Int32)), (0, .ref l0)]) dX6_pairs_1 rfl (by decide) rfl ?_
  refine ev_iconst (v := 0) dX6_pairs_2 (by decide) ?_
  refine ev_istore_n (lv2 := [(2, .int (0 : Int32)), (1, .int (0 : Int32)), (0, .ref l0)]) dX6_pairs_3 rfl (by decide) rfl ?_
  obtain ⟨w1_6, e7, hf⟩ := bn1_of hf
  refine ev_sub [2, 1, 0] rfl (lv2 := [(0, .ref l0), (1, .int (0 : Int32)), (2, .int (0 : Int32))]) ?_
  refine lp_X6_pairs_4 kl0 ?_ fu _ _ e7
  refine ev_iload_n (n := 0) dX6_pairs_32 rfl rfl ?_
  obtain rfl := Option.some.inj hf
  exact ev_ireturn dX6_pairs_33 ⟨.int, rfl, rfl⟩
def f_X6_countOf (h : Hp) (l0 : Nat) (l1 : Int32) : Option (Int32) := (if l1 = 0 then (some (hI h (l0 + 2) (0 : Int32).toNatClampNeg)) else (if l1 = 1 then (some (hI h (l0 + 2) (1 : Int32).toNatClampNeg)) else (if l1 = 2 then (some (hI h (l0 + 2) (2 : Int32).toNatClampNeg)) else (if l1 = 3 then (some (hI h (l0 + 2) (3 : Int32).toNatClampNeg)) else (if l1 = 4 then (some (hI h (l0 + 2) (4 : Int32).toNatClampNeg)) else (if l1 = 5 then (some (hI h (l0 + 2) (5 : Int32).toNatClampNeg)) else (if l1 = 6 then (some (hI h (l0 + 2) (6 : Int32).toNatClampNeg)) else (if l1 = 7 then (some (hI h (l0 + 2) (7 : Int32).toNatClampNeg)) else (if l1 = 8 then (bn1 (f_X6_pairs h l0) (fun v3 => (some v3))) else (bn1 (f_X6_areDone h l0) (fun v1 => (if v1 = 0 then (some (0 : Int32)) else (some (1 : Int32))))))))))))))
set_option maxRecDepth 100000 in
set_option maxHeartbeats 4000000 in
theorem ev_X6_countOf {g : Gl} {h : Hp} {l0 : Nat} {l1 : Int32} {rv : Int32} (kl0 : KD g.1 l0 5 0) (hf : f_X6_countOf h l0 l1 = some rv) : Ev yX6_countOf cX6_countOf 2 (some .int) 3 64 g 0 [] [(0, .ref l0), (1, .int l1)] h (some (.int rv)) h := by
  unfold f_X6_countOf at hf
  refine ev_iload_n (n := 1) dX6_countOf_0 rfl rfl ?_
  by_cases sw0 : l1 = 0
  · replace hf := if_t sw0 hf
    refine ev_tableIn (tgt := 52) dX6_countOf_1 (by rw [sw0]; decide) (by rw [sw0]; decide) (by rw [sw0]; rfl) (by decide) ?_
    refine ev_aload_n (n := 0) dX6_countOf_52 rfl rfl ?_
    refine ev_get (v := .ref (l0 + 2)) 1 kl0 rfl (by decide) rfl lk_607 dX6_countOf_53 ?_
    refine ev_iconst (v := 0) dX6_countOf_56 (by decide) ?_
    refine ev_iald (kd_5_1 kl0) (by unfold vp_in; decide) dX6_countOf_57 ?_
    obtain rfl := Option.some.inj hf
    exact ev_ireturn dX6_countOf_58 ⟨.int, rfl, rfl⟩
  replace hf := if_f sw0 hf
  by_cases sw1 : l1 = 1
  · replace hf := if_t sw1 hf
    refine ev_tableIn (tgt := 59) dX6_countOf_1 (by rw [sw1]; decide) (by rw [sw1]; decide) (by rw [sw1]; rfl) (by decide) ?_
    refine ev_aload_n (n := 0) dX6_countOf_59 rfl rfl ?_
    refine ev_get (v := .ref (l0 + 2)) 1 kl0 rfl (by decide) rfl lk_607 dX6_countOf_60 ?_
    refine ev_iconst (v := 1) dX6_countOf_63 (by decide) ?_
    refine ev_iald (kd_5_1 kl0) (by unfold vp_in; decide) dX6_countOf_64 ?_
    obtain rfl := Option.some.inj hf
    exact ev_ireturn dX6_countOf_65 ⟨.int, rfl, rfl⟩
  replace hf := if_f sw1 hf
  by_cases sw2 : l1 = 2
  · replace hf := if_t sw2 hf
    refine ev_tableIn (tgt := 66) dX6_countOf_1 (by rw [sw2]; decide) (by rw [sw2]; decide) (by rw [sw2]; rfl) (by decide) ?_
    refine ev_aload_n (n := 0) dX6_countOf_66 rfl rfl ?_
    refine ev_get (v := .ref (l0 + 2)) 1 kl0 rfl (by decide) rfl lk_607 dX6_countOf_67 ?_
    refine ev_iconst (v := 2) dX6_countOf_70 (by decide) ?_
    refine ev_iald (kd_5_1 kl0) (by unfold vp_in; decide) dX6_countOf_71 ?_
    obtain rfl := Option.some.inj hf
    exact ev_ireturn dX6_countOf_72 ⟨.int, rfl, rfl⟩
  replace hf := if_f sw2 hf
  by_cases sw3 : l1 = 3
  · replace hf := if_t sw3 hf
    refine ev_tableIn (tgt := 73) dX6_countOf_1 (by rw [sw3]; decide) (by rw [sw3]; decide) (by rw [sw3]; rfl) (by decide) ?_
    refine ev_aload_n (n := 0) dX6_countOf_73 rfl rfl ?_
    refine ev_get (v := .ref (l0 + 2)) 1 kl0 rfl (by decide) rfl lk_607 dX6_countOf_74 ?_
    refine ev_iconst (v := 3) dX6_countOf_77 (by decide) ?_
    refine ev_iald (kd_5_1 kl0) (by unfold vp_in; decide) dX6_countOf_78 ?_
    obtain rfl := Option.some.inj hf
    exact ev_ireturn dX6_countOf_79 ⟨.int, rfl, rfl⟩
  replace hf := if_f sw3 hf
  by_cases sw4 : l1 = 4
  · replace hf := if_t sw4 hf
    refine ev_tableIn (tgt := 80) dX6_countOf_1 (by rw [sw4]; decide) (by rw [sw4]; decide) (by rw [sw4]; rfl) (by decide) ?_
    refine ev_aload_n (n := 0) dX6_countOf_80 rfl rfl ?_
    refine ev_get (v := .ref (l0 + 2)) 1 kl0 rfl (by decide) rfl lk_607 dX6_countOf_81 ?_
    refine ev_iconst (v := 4) dX6_countOf_84 (by decide) ?_
    refine ev_iald (kd_5_1 kl0) (by unfold vp_in; decide) dX6_countOf_85 ?_
    obtain rfl := Option.some.inj hf
    exact ev_ireturn dX6_countOf_86 ⟨.int, rfl, rfl⟩
  replace hf := if_f sw4 hf
  by_cases sw5 : l1 = 5
  · replace hf := if_t sw5 hf
    refine ev_tableIn (tgt := 87) dX6_countOf_1 (by rw [sw5]; decide) (by rw [sw5]; decide) (by rw [sw5]; rfl) (by decide) ?_
    refine ev_aload_n (n := 0) dX6_countOf_87 rfl rfl ?_
    refine ev_get (v := .ref (l0 + 2)) 1 kl0 rfl (by decide) rfl lk_607 dX6_countOf_88 ?_
    refine ev_iconst (v := 5) dX6_countOf_91 (by decide) ?_
    refine ev_iald (kd_5_1 kl0) (by unfold vp_in; decide) dX6_countOf_92 ?_
    obtain rfl := Option.some.inj hf
    exact ev_ireturn dX6_countOf_93 ⟨.int, rfl, rfl⟩
  replace hf := if_f sw5 hf
  by_cases sw6 : l1 = 6
  · replace hf := if_t sw6 hf
    refine ev_tableIn (tgt := 94) dX6_countOf_1 (by rw [sw6]; decide) (by rw [sw6]; decide) (by rw [sw6]; rfl) (by decide) ?_
    refine ev_aload_n (n := 0) dX6_countOf_94 rfl rfl ?_
    refine ev_get (v := .ref (l0 + 2)) 1 kl0 rfl (by decide) rfl lk_607 dX6_countOf_95 ?_
    refine ev_bipush (v := 6) dX6_countOf_98 (by decide) ?_
    refine ev_iald (kd_5_1 kl0) (by unfold vp_in; decide) dX6_countOf_100 ?_
    obtain rfl := Option.some.inj hf
    exact ev_ireturn dX6_countOf_101 ⟨.int, rfl, rfl⟩
  replace hf := if_f sw6 hf
  by_cases sw7 : l1 = 7
  · replace hf := if_t sw7 hf
    refine ev_tableIn (tgt := 102) dX6_countOf_1 (by rw [sw7]; decide) (by rw [sw7]; decide) (by rw [sw7]; rfl) (by decide) ?_
    refine ev_aload_n (n := 0) dX6_countOf_102 rfl rfl ?_
    refine ev_get (v := .ref (l0 + 2)) 1 kl0 rfl (by decide) rfl lk_607 dX6_countOf_103 ?_
    refine ev_bipush (v := 7) dX6_countOf_106 (by decide) ?_
    refine ev_iald (kd_5_1 kl0) (by unfold vp_in; decide) dX6_countOf_108 ?_
    obtain rfl := Option.some.inj hf
    exact ev_ireturn dX6_countOf_109 ⟨.int, rfl, rfl⟩
  replace hf := if_f sw7 hf
  by_cases sw8 : l1 = 8
  · replace hf := if_t sw8 hf
    refine ev_tableIn (tgt := 110) dX6_countOf_1 (by rw [sw8]; decide) (by rw [sw8]; decide) (by rw [sw8]; rfl) (by decide) ?_
    refine ev_aload_n (n := 0) dX6_countOf_110 rfl rfl ?_
    obtain ⟨v3, e4, hf⟩ := bn1_of hf
    refine ev_callVi (As := []) cal_X6_pairs kl0 rfl (ev_X6_pairs kl0 e4) (Nat.le_of_ble_eq_true rfl) rfl lk_950 (by decide) (by decide) (Nat.le_of_ble_eq_true rfl) dX6_countOf_111 rfl ?_
    obtain rfl := Option.some.inj hf
    exact ev_ireturn dX6_countOf_114 ⟨.int, rfl, rfl⟩
  replace hf := if_f sw8 hf
  · refine ev_tableOut (tgt := 115) dX6_countOf_1 (tsw8 sw0 sw1 sw2 sw3 sw4 sw5 sw6 sw7 sw8) (by decide) ?_
    refine ev_aload_n (n := 0) dX6_countOf_115 rfl rfl ?_
    obtain ⟨v1, e2, hf⟩ := bn1_of hf
    refine ev_callVi (As := []) cal_X6_areDone kl0 rfl (ev_X6_areDone kl0 e2) (Nat.le_of_ble_eq_true rfl) rfl lk_866 (by decide) (by decide) (Nat.le_of_ble_eq_true rfl) dX6_countOf_116 rfl ?_
    refine ev_if_eq (tgt := 126) dX6_countOf_119 (by decide) (fun c1 => ?_) (fun c1 => ?_)
    · replace hf := if_t c1 hf
      refine ev_iconst (v := 0) dX6_countOf_126 (by decide) ?_
      obtain rfl := Option.some.inj hf
      exact ev_ireturn dX6_countOf_127 ⟨.int, rfl, rfl⟩
    · replace hf := if_f c1 hf
      refine ev_iconst (v := 1) dX6_countOf_122 (by decide) ?_
      refine ev_goto (tgt := 127) dX6_countOf_123 (by decide) ?_
      obtain rfl := Option.some.inj hf
      exact ev_ireturn dX6_countOf_127 ⟨.int, rfl, rfl⟩
def f_X6_count (h : Hp) (l0 : Nat) (l1 : Int32) : Option (Int32 × Hp) := (bn1 (f_X6_in h l1 (0 : Int32) (9 : Int32)) (fun v1 => (if v1 = 0 then (bn2 (f_X6_bad h l0) (fun v3 h4 => (some (v3, h4)))) else (bn1 (f_X6_countOf h l0 l1) (fun v6 => (some (v6, h)))))))
set_option maxRecDepth 100000 in
set_option maxHeartbeats 4000000 in
theorem ev_X6_count {g : Gl} {h : Hp} {l0 : Nat} {l1 : Int32} {rv : Int32} {h2 : Hp} (kl0 : KD g.1 l0 5 0) (hf : f_X6_count h l0 l1 = some (rv, h2)) : Ev yX6_count cX6_count 2 (some .int) 4 85 g 0 [] [(0, .ref l0), (1, .int l1)] h (some (.int rv)) h2 := by
  unfold f_X6_count at hf
  refine ev_iload_n (n := 1) dX6_count_0 rfl rfl ?_
  refine ev_iconst (v := 0) dX6_count_1 (by decide) ?_
  refine ev_bipush (v := 9) dX6_count_2 (by decide) ?_
  obtain ⟨v1, e2, hf⟩ := bn1_of hf
  refine ev_callSi (As := [.int l1, .int (0 : Int32), .int (9 : Int32)]) cal_X6_in (ev_X6_in e2) (Nat.le_of_ble_eq_true rfl) rfl lk_669 (by decide) (by decide) (Nat.le_of_ble_eq_true rfl) dX6_count_4 rfl ?_
  refine ev_if_eq (tgt := 18) dX6_count_7 (by decide) (fun c1 => ?_) (fun c1 => ?_)
  · replace hf := if_t c1 hf
    refine ev_aload_n (n := 0) dX6_count_18 rfl rfl ?_
    obtain ⟨v3, h4, e5, hf⟩ := bn2_of hf
    refine ev_callVi (As := []) cal_X6_bad kl0 rfl (ev_X6_bad kl0 e5) (Nat.le_of_ble_eq_true rfl) rfl lk_672 (by decide) (by decide) (Nat.le_of_ble_eq_true rfl) dX6_count_19 rfl ?_
    obtain ⟨rfl, rfl⟩ := Prod.mk.inj (Option.some.inj hf)
    exact ev_ireturn dX6_count_22 ⟨.int, rfl, rfl⟩
  · replace hf := if_f c1 hf
    refine ev_aload_n (n := 0) dX6_count_10 rfl rfl ?_
    refine ev_iload_n (n := 1) dX6_count_11 rfl rfl ?_
    obtain ⟨v6, e7, hf⟩ := bn1_of hf
    refine ev_callVi (As := [.int l1]) cal_X6_countOf kl0 rfl (ev_X6_countOf kl0 e7) (Nat.le_of_ble_eq_true rfl) rfl lk_946 (by decide) (by decide) (Nat.le_of_ble_eq_true rfl) dX6_count_12 rfl ?_
    refine ev_goto (tgt := 22) dX6_count_15 (by decide) ?_
    obtain ⟨rfl, rfl⟩ := Prod.mk.inj (Option.some.inj hf)
    exact ev_ireturn dX6_count_22 ⟨.int, rfl, rfl⟩
def f_X6_type (h : Hp) (l0 : Nat) (l1 : Int32) : Option (Int32 × Hp) := (bn1 (f_X6_in h l1 (0 : Int32) (127 : Int32)) (fun v1 => (if v1 = 0 then (bn2 (f_X6_bad h l0) (fun v7 h8 => (some (v7, h8)))) else (if (hI h l0 12) = (120 : Int32) then (bn2 (f_X6_full h l0) (fun v4 h5 => (some (v4, h5)))) else (if inb (hI h l0 12) 120 = true then (some ((hI (sI (sI h (l0 + 10) (hI h l0 12).toNatClampNeg l1) l0 12 ((hI (sI h (l0 + 10) (hI h l0 12).toNatClampNeg l1) l0 12) + (1 : Int32))) l0 12), (sI (sI h (l0 + 10) (hI h l0 12).toNatClampNeg l1) l0 12 ((hI (sI h (l0 + 10) (hI h l0 12).toNatClampNeg l1) l0 12) + (1 : Int32))))) else none)))))
set_option maxRecDepth 100000 in
set_option maxHeartbeats 4000000 in
theorem ev_X6_type {g : Gl} {h : Hp} {l0 : Nat} {l1 : Int32} {rv : Int32} {h2 : Hp} (kl0 : KD g.1 l0 5 0) (hf : f_X6_type h l0 l1 = some (rv, h2)) : Ev yX6_type cX6_type 2 (some .int) 1 22 g 0 [] [(0, .ref l0), (1, .int l1)] h (some (.int rv)) h2 := by
  unfold f_X6_type at hf
  refine ev_iload_n (n := 1) dX6_type_0 rfl rfl ?_
  refine ev_iconst (v := 0) dX6_type_1 (by decide) ?_
  refine ev_bipush (v := 127) dX6_type_2 (by decide) ?_
  obtain ⟨v1, e2, hf⟩ := bn1_of hf
  refine ev_callSi (As := [.int l1, .int (0 : Int32), .int (127 : Int32)]) cal_X6_in (ev_X6_in e2) (Nat.le_of_ble_eq_true rfl) rfl lk_669 (by decide) (by decide) (Nat.le_of_ble_eq_true rfl) dX6_type_4 rfl ?_
  refine ev_if_ne (tgt := 15) dX6_type_7 (by decide) (fun c1 => ?_) (fun c1 => ?_)
  · replace hf := if_f c1 hf
    refine ev_aload_n (n := 0) dX6_type_15 rfl rfl ?_
    refine ev_get (v := .int (hI h l0 12)) 12 kl0 rfl (by decide) rfl lk_618 dX6_type_16 ?_
    refine ev_bipush (v := 120) dX6_type_19 (by decide) ?_
    refine ev_icmp_ne (tgt := 29) dX6_type_21 (by decide) (fun c1 => ?_) (fun c1 => ?_)
    · replace hf := if_f c1 hf
      refine ev_aload_n (n := 0) dX6_type_29 rfl rfl ?_
      refine ev_get (v := .ref (l0 + 10)) 11 kl0 rfl (by decide) rfl lk_617 dX6_type_30 ?_
      refine ev_aload_n (n := 0) dX6_type_33 rfl rfl ?_
      refine ev_get (v := .int (hI h l0 12)) 12 kl0 rfl (by decide) rfl lk_618 dX6_type_34 ?_
      refine ev_iload_n (n := 1) dX6_type_37 rfl rfl ?_
      obtain ⟨gd3, hf⟩ := gd_of hf
      refine ev_iast (kd_5_11 kl0) (inb_of gd3) dX6_type_38 ?_
      refine ev_aload_n (n := 0) dX6_type_39 rfl rfl ?_
      refine ev_dup dX6_type_40 rfl ?_
      refine ev_get (v := .int (hI (sI h (l0 + 10) (hI h l0 12).toNatClampNeg l1) l0 12)) 12 kl0 rfl (by decide) rfl lk_618 dX6_type_41 ?_
      refine ev_iconst (v := 1) dX6_type_44 (by decide) ?_
      refine ev_iadd dX6_type_45 ?_
      refine ev_putI 12 kl0 rfl (by decide) rfl (by decide +kernel) rfl (by exact Nat.le_of_ble_eq_true rfl) lk_618 dX6_type_46 ?_
      refine ev_aload_n (n := 0) dX6_type_49 rfl rfl ?_
      refine ev_get (v := .int (hI (sI (sI h (l0 + 10) (hI h l0 12).toNatClampNeg l1) l0 12 ((hI (sI h (l0 + 10) (hI h l0 12).toNatClampNeg l1) l0 12) + (1 : Int32))) l0 12)) 12 kl0 rfl (by decide) rfl lk_618 dX6_type_50 ?_
      obtain ⟨rfl, rfl⟩ := Prod.mk.inj (Option.some.inj hf)
      exact ev_ireturn dX6_type_53 ⟨.int, rfl, rfl⟩
    · replace hf := if_t c1 hf
      refine ev_aload_n (n := 0) dX6_type_24 rfl rfl ?_
      obtain ⟨v4, h5, e6, hf⟩ := bn2_of hf
      refine ev_callVi (As := []) cal_X6_full kl0 rfl (ev_X6_full kl0 e6) (Nat.le_of_ble_eq_true rfl) rfl lk_692 (by decide) (by decide) (Nat.le_of_ble_eq_true rfl) dX6_type_25 rfl ?_
      obtain ⟨rfl, rfl⟩ := Prod.mk.inj (Option.some.inj hf)
      exact ev_ireturn dX6_type_28 ⟨.int, rfl, rfl⟩
  · replace hf := if_t c1 hf
    refine ev_aload_n (n := 0) dX6_type_10 rfl rfl ?_
    obtain ⟨v7, h8, e9, hf⟩ := bn2_of hf
    refine ev_callVi (As := []) cal_X6_bad kl0 rfl (ev_X6_bad kl0 e9) (Nat.le_of_ble_eq_true rfl) rfl lk_672 (by decide) (by decide) (Nat.le_of_ble_eq_true rfl) dX6_type_11 rfl ?_
    obtain ⟨rfl, rfl⟩ := Prod.mk.inj (Option.some.inj hf)
    exact ev_ireturn dX6_type_14 ⟨.int, rfl, rfl⟩
def f_X6_clear (h : Hp) (l0 : Nat) : Option (Int32 × Hp) := (some ((hI h l0 12), (sI h l0 12 (0 : Int32))))
set_option maxRecDepth 100000 in
set_option maxHeartbeats 4000000 in
theorem ev_X6_clear {g : Gl} {h : Hp} {l0 : Nat} {rv : Int32} {h2 : Hp} (kl0 : KD g.1 l0 5 0) (hf : f_X6_clear h l0 = some (rv, h2)) : Ev yX6_clear cX6_clear 2 (some .int) 0 0 g 0 [] [(0, .ref l0)] h (some (.int rv)) h2 := by
  unfold f_X6_clear at hf
  refine ev_aload_n (n := 0) dX6_clear_0 rfl rfl ?_
  refine ev_get (v := .int (hI h l0 12)) 12 kl0 rfl (by decide) rfl lk_618 dX6_clear_1 ?_
  refine ev_istore_n (lv2 := [(1, .int (hI h l0 12)), (0, .ref l0)]) dX6_clear_4 rfl (by decide) rfl ?_
  refine ev_aload_n (n := 1) dX6_clear_5 rfl rfl ?_
  refine ev_iconst (v := 0) dX6_clear_6 (by decide) ?_
  refine ev_putI 12 kl0 rfl (by decide) rfl (by decide +kernel) rfl (by exact Nat.le_of_ble_eq_true rfl) lk_618 dX6_clear_7 ?_
  refine ev_iload_n (n := 0) dX6_clear_10 rfl rfl ?_
  obtain ⟨rfl, rfl⟩ := Prod.mk.inj (Option.some.inj hf)
  exact ev_ireturn dX6_clear_11 ⟨.int, rfl, rfl⟩
def f_X6_isAt_j32 (h : Hp)  : Option (Int32) := (some (0 : Int32))
set_option maxRecDepth 100000 in
set_option maxHeartbeats 4000000 in
theorem jn_X6_isAt_32 {g : Gl} {h : Hp}   {rv : Int32}    (hf : f_X6_isAt_j32 h = some rv) : Ev yX6_isAt cX6_isAt 3 (some .boolean) 1 22 g 32 [] [] h (some (.int rv)) h := by
  unfold f_X6_isAt_j32 at hf
  refine ev_iconst (v := 0) dX6_isAt_32 (by decide) ?_
  obtain rfl := Option.some.inj hf
  exact ev_ireturn dX6_isAt_33 ⟨.boolean, rfl, rfl⟩
def f_X6_isAt (h : Hp) (l0 : Nat) (l1 : Int32) (l2 : Int32) : Option (Int32) := (if (hI h l0 12) ≤ (hI h l0 13) then (f_X6_isAt_j32 h) else (if inb (hI h l0 13) 120 = true then (bn1 (f_X6_in h (hI h (l0 + 10) (hI h l0 13).toNatClampNeg) l1 l2) (fun v2 => (if v2 = 0 then (f_X6_isAt_j32 h) else (some (1 : Int32))))) else none))
set_option maxRecDepth 100000 in
set_option maxHeartbeats 4000000 in
theorem ev_X6_isAt {g : Gl} {h : Hp} {l0 : Nat} {l1 : Int32} {l2 : Int32} {rv : Int32} (kl0 : KD g.1 l0 5 0) (hf : f_X6_isAt h l0 l1 l2 = some rv) : Ev yX6_isAt cX6_isAt 3 (some .boolean) 1 22 g 0 [] [(0, .ref l0), (1, .int l1), (2, .int l2)] h (some (.int rv)) h := by
  unfold f_X6_isAt at hf
  refine ev_aload_n (n := 0) dX6_isAt_0 rfl rfl ?_
  refine ev_get (v := .int (hI h l0 13)) 13 kl0 rfl (by decide) rfl lk_619 dX6_isAt_1 ?_
  refine ev_aload_n (n := 0) dX6_isAt_4 rfl rfl ?_
  refine ev_get (v := .int (hI h l0 12)) 12 kl0 rfl (by decide) rfl lk_618 dX6_isAt_5 ?_
  refine ev_icmp_ge (tgt := 32) dX6_isAt_8 (by decide) (fun c1 => ?_) (fun c1 => ?_)
  · replace hf := if_t c1 hf
    refine ev_sub [] rfl (lv2 := []) ?_
    exact jn_X6_isAt_32 hf
  · replace hf := if_f c1 hf
    refine ev_aload_n (n := 0) dX6_isAt_11 rfl rfl ?_
    refine ev_get (v := .ref (l0 + 10)) 11 kl0 rfl (by decide) rfl lk_617 dX6_isAt_12 ?_
    refine ev_aload_n (n := 0) dX6_isAt_15 rfl rfl ?_
    refine ev_get (v := .int (hI h l0 13)) 13 kl0 rfl (by decide) rfl lk_619 dX6_isAt_16 ?_
    obtain ⟨gd1, hf⟩ := gd_of hf
    refine ev_iald (kd_5_11 kl0) (inb_of gd1) dX6_isAt_19 ?_
    refine ev_iload_n (n := 1) dX6_isAt_20 rfl rfl ?_
    refine ev_iload_n (n := 2) dX6_isAt_21 rfl rfl ?_
    obtain ⟨v2, e3, hf⟩ := bn1_of hf
    refine ev_callSi (As := [.int (hI h (l0 + 10) (hI h l0 13).toNatClampNeg), .int l1, .int l2]) cal_X6_in (ev_X6_in e3) (Nat.le_of_ble_eq_true rfl) rfl lk_669 (by decide) (by decide) (Nat.le_of_ble_eq_true rfl) dX6_isAt_22 rfl ?_
    refine ev_if_eq (tgt := 32) dX6_isAt_25 (by decide) (fun c1 => ?_) (fun c1 => ?_)
    · replace hf := if_t c1 hf
      refine ev_sub [] rfl (lv2 := []) ?_
      exact jn_X6_isAt_32 hf
    · replace hf := if_f c1 hf
      refine ev_iconst (v := 1) dX6_isAt_28 (by decide) ?_
      refine ev_goto (tgt := 33) dX6_isAt_29 (by decide) ?_
      obtain rfl := Option.some.inj hf
      exact ev_ireturn dX6_isAt_33 ⟨.boolean, rfl, rfl⟩
def f_X6_blanks_l0 (l0 : Nat) : Nat → Hp → Option (Hp)
  | 0, _ => none
  | fu1 + 1, h => (bn1 (f_X6_isAt h l0 (32 : Int32) (32 : Int32)) (fun v1 => (if v1 = 0 then (some h) else (f_X6_blanks_l0 l0 fu1 (sI h l0 13 ((hI h l0 13) + (1 : Int32)))))))
theorem f_X6_blanks_l0_s (l0 : Nat) (fu1 : Nat) (h : Hp) : f_X6_blanks_l0 l0 (fu1 + 1) h = (bn1 (f_X6_isAt h l0 (32 : Int32) (32 : Int32)) (fun v1 => (if v1 = 0 then (some h) else (f_X6_blanks_l0 l0 fu1 (sI h l0 13 ((hI h l0 13) + (1 : Int32))))))) := rfl
theorem f_X6_blanks_l0_0 (l0 : Nat) (h : Hp) : f_X6_blanks_l0 l0 0 h = none := rfl
set_option maxRecDepth 100000 in
set_option maxHeartbeats 4000000 in
theorem lp_X6_blanks_0 {g : Gl} {l0 : Nat} {r : Option Value} {h2 : Hp} {h3 : Hp} (kl0 : KD g.1 l0 5 0) (hx0 : Ev yX6_blanks cX6_blanks 1 none 2 44 g 24 [] [] h3 r h2) : ∀ (fu1 : Nat) (h : Hp), f_X6_blanks_l0 l0 fu1 h = some h3 → Ev yX6_blanks cX6_blanks 1 none 2 44 g 0 [] [(0, .ref l0)] h r h2 := by
  intro fu1
  induction fu1 with
  | zero =>
    intro h hf
    cases hf
  | succ fu1 ih =>
    intro h hf
    rw [f_X6_blanks_l0_s] at hf
    have hk := ih
    refine ev_aload_n (n := 0) dX6_blanks_0 rfl rfl ?_
    refine ev_bipush (v := 32) dX6_blanks_1 (by decide) ?_
    refine ev_bipush (v := 32) dX6_blanks_3 (by decide) ?_
    obtain ⟨v1, e2, hf⟩ := bn1_of hf
    refine ev_callVi (As := [.int (32 : Int32), .int (32 : Int32)]) cal_X6_isAt kl0 rfl (ev_X6_isAt kl0 e2) (Nat.le_of_ble_eq_true rfl) rfl lk_974 (by decide) (by decide) (Nat.le_of_ble_eq_true rfl) dX6_blanks_5 rfl ?_
    refine ev_if_eq (tgt := 24) dX6_blanks_8 (by decide) (fun c1 => ?_) (fun c1 => ?_)
    · replace hf := if_t c1 hf
      refine ev_sub [] rfl (lv2 := []) ?_
      obtain rfl := Option.some.inj hf
      exact hx0
    · replace hf := if_f c1 hf
      refine ev_aload_n (n := 0) dX6_blanks_11 rfl rfl ?_
      refine ev_dup dX6_blanks_12 rfl ?_
      refine ev_get (v := .int (hI h l0 13)) 13 kl0 rfl (by decide) rfl lk_619 dX6_blanks_13 ?_
      refine ev_iconst (v := 1) dX6_blanks_16 (by decide) ?_
      refine ev_iadd dX6_blanks_17 ?_
      refine ev_putI 13 kl0 rfl (by decide) rfl (by decide +kernel) rfl (by exact Nat.le_of_ble_eq_true rfl) lk_619 dX6_blanks_18 ?_
      refine ev_goto (tgt := 0) dX6_blanks_21 (by decide) ?_
      exact hk _ hf
def f_X6_blanks (h : Hp) (l0 : Nat) : Option (Hp) := (bn1 (f_X6_blanks_l0 l0 fu h) (fun h3 => (some h3)))
set_option maxRecDepth 100000 in
set_option maxHeartbeats 4000000 in
theorem ev_X6_blanks {g : Gl} {h : Hp} {l0 : Nat} {h2 : Hp} (kl0 : KD g.1 l0 5 0) (hf : f_X6_blanks h l0 = some h2) : Ev yX6_blanks cX6_blanks 1 none 2 44 g 0 [] [(0, .ref l0)] h none h2 := by
  unfold f_X6_blanks at hf
  obtain ⟨h3, e4, hf⟩ := bn1_of hf
  refine lp_X6_blanks_0 kl0 ?_ fu _ e4
  obtain rfl := Option.some.inj hf
  exact ev_return_ dX6_blanks_24 rfl
def f_X6_number_j116 (kk : Int32 → Int32 → Hp → Option (Int32 × Hp)) (h : Hp) (s0 : Nat) (s1 : Int32) (s2 : Int32) (l0 : Nat) (l1 : Int32) (l2 : Int32) : Option (Int32 × Hp) := (kk l1 l2 (sI h s0 13 (s1 + s2)))
set_option maxRecDepth 100000 in
set_option maxHeartbeats 4000000 in
theorem jn_X6_number_116 {g : Gl} {h : Hp} {kk : Int32 → Int32 → Hp → Option (Int32 × Hp)} {s0 : Nat} {s1 : Int32} {s2 : Int32} {l0 : Nat} {l1 : Int32} {l2 : Int32}  {r : Option Value} {h2 : Hp} {o1 : Int32} {h3 : Hp} (ks0 : KD g.1 s0 5 0) (kl0 : KD g.1 l0 5 0) (hx0 : Ev yX6_number cX6_number 3 (some .int) 3 64 g 123 [] [(1, .int o1)] h3 r h2) (hk : ∀ (x1 : Int32) (x2 : Int32) (hq : Hp), kk x1 x2 hq = some (o1, h3) → Ev yX6_number cX6_number 3 (some .int) 3 64 g 35 [] [(0, .ref l0), (1, .int x1), (2, .int x2)] hq r h2) (hf : f_X6_number_j116 kk h s0 s1 s2 l0 l1 l2 = some (o1, h3)) : Ev yX6_number cX6_number 3 (some .int) 3 64 g 116 [.int s2, .int s1, .ref s0] [(0, .ref l0), (1, .int l1), (2, .int l2)] h r h2 := by
  unfold f_X6_number_j116 at hf
  refine ev_iadd dX6_number_116 ?_
  refine ev_putI 13 ks0 rfl (by decide) rfl (by decide +kernel) rfl (by exact Nat.le_of_ble_eq_true rfl) lk_619 dX6_number_117 ?_
  refine ev_goto (tgt := 35) dX6_number_120 (by decide) ?_
  exact hk _ _ _ hf
def f_X6_number_j98 (kk : Int32 → Int32 → Hp → Option (Int32 × Hp)) (h : Hp) (s0 : Int32) (l0 : Nat) (l2 : Int32) : Option (Int32 × Hp) := (if (hI h l0 14) = 0 then (f_X6_number_j116 kk h l0 (hI h l0 13) (1 : Int32) l0 s0 l2) else (f_X6_number_j116 kk h l0 (hI h l0 13) (0 : Int32) l0 s0 l2))
set_option maxRecDepth 100000 in
set_option maxHeartbeats 4000000 in
theorem jn_X6_number_98 {g : Gl} {h : Hp} {kk : Int32 → Int32 → Hp → Option (Int32 × Hp)} {s0 : Int32} {l0 : Nat} {l2 : Int32}  {r : Option Value} {h2 : Hp} {o1 : Int32} {h3 : Hp} (kl0 : KD g.1 l0 5 0) (hx0 : Ev yX6_number cX6_number 3 (some .int) 3 64 g 123 [] [(1, .int o1)] h3 r h2) (hk : ∀ (x1 : Int32) (x2 : Int32) (hq : Hp), kk x1 x2 hq = some (o1, h3) → Ev yX6_number cX6_number 3 (some .int) 3 64 g 35 [] [(0, .ref l0), (1, .int x1), (2, .int x2)] hq r h2) (hf : f_X6_number_j98 kk h s0 l0 l2 = some (o1, h3)) : Ev yX6_number cX6_number 3 (some .int) 3 64 g 98 [.int s0] [(0, .ref l0), (2, .int l2)] h r h2 := by
  unfold f_X6_number_j98 at hf
  refine ev_istore_n (lv2 := [(1, .int s0), (0, .ref l0), (2, .int l2)]) dX6_number_98 rfl (by decide) rfl ?_
  refine ev_aload_n (n := 1) dX6_number_99 rfl rfl ?_
  refine ev_dup dX6_number_100 rfl ?_
  refine ev_get (v := .int (hI h l0 13)) 13 kl0 rfl (by decide) rfl lk_619 dX6_number_101 ?_
  refine ev_aload_n (n := 1) dX6_number_104 rfl rfl ?_
  refine ev_get (v := .int (hI h l0 14)) 14 kl0 rfl (by decide) rfl lk_620 dX6_number_105 ?_
  refine ev_if_eq (tgt := 115) dX6_number_108 (by decide) (fun c1 => ?_) (fun c1 => ?_)
  · replace hf := if_t c1 hf
    refine ev_iconst (v := 1) dX6_number_115 (by decide) ?_
    refine ev_sub [1, 0, 2] rfl (lv2 := [(0, .ref l0), (1, .int s0), (2, .int l2)]) ?_
    exact jn_X6_number_116 kl0 kl0 hx0 hk hf
  · replace hf := if_f c1 hf
    refine ev_iconst (v := 0) dX6_number_111 (by decide) ?_
    refine ev_goto (tgt := 116) dX6_number_112 (by decide) ?_
    refine ev_sub [1, 0, 2] rfl (lv2 := [(0, .ref l0), (1, .int s0), (2, .int l2)]) ?_
    exact jn_X6_number_116 kl0 kl0 hx0 hk hf
def f_X6_number_j67 (kk : Int32 → Int32 → Hp → Option (Int32 × Hp)) (h : Hp) (s0 : Nat) (s1 : Int32) (l0 : Nat) (l1 : Int32) (l2 : Int32) : Option (Int32 × Hp) := (if isBb s1 = true then (if (hI (sI h s0 14 s1) l0 14) = 0 then (if inb (hI (sI h s0 14 s1) l0 13) 120 = true then (f_X6_number_j98 kk (sI h s0 14 s1) ((((10 : Int32) * l1) + (hI (sI h s0 14 s1) (l0 + 10) (hI (sI h s0 14 s1) l0 13).toNatClampNeg)) - (48 : Int32)) l0 l2) else none) else (f_X6_number_j98 kk (sI h s0 14 s1) l1 l0 l2)) else none)
set_option maxRecDepth 100000 in
set_option maxHeartbeats 4000000 in
theorem jn_X6_number_67 {g : Gl} {h : Hp} {kk : Int32 → Int32 → Hp → Option (Int32 × Hp)} {s0 : Nat} {s1 : Int32} {l0 : Nat} {l1 : Int32} {l2 : Int32}  {r : Option Value} {h2 : Hp} {o1 : Int32} {h3 : Hp} (ks0 : KD g.1 s0 5 0) (kl0 : KD g.1 l0 5 0) (hx0 : Ev yX6_number cX6_number 3 (some .int) 3 64 g 123 [] [(1, .int o1)] h3 r h2) (hk : ∀ (x1 : Int32) (x2 : Int32) (hq : Hp), kk x1 x2 hq = some (o1, h3) → Ev yX6_number cX6_number 3 (some .int) 3 64 g 35 [] [(0, .ref l0), (1, .int x1), (2, .int x2)] hq r h2) (hf : f_X6_number_j67 kk h s0 s1 l0 l1 l2 = some (o1, h3)) : Ev yX6_number cX6_number 3 (some .int) 3 64 g 67 [.int s1, .ref s0] [(0, .ref l0), (1, .int l1), (2, .int l2)] h r h2 := by
  unfold f_X6_number_j67 at hf
  obtain ⟨gd6, hf⟩ := gd_of hf
  refine ev_putZ 14 ks0 rfl (by decide) rfl (by decide +kernel) (isBb_of gd6) rfl (by exact Nat.le_of_ble_eq_true rfl) lk_620 dX6_number_67 ?_
  refine ev_aload_n (n := 0) dX6_number_70 rfl rfl ?_
  refine ev_get (v := .int (hI (sI h s0 14 s1) l0 14)) 14 kl0 rfl (by decide) rfl lk_620 dX6_number_71 ?_
  refine ev_if_eq (tgt := 81) dX6_number_74 (by decide) (fun c1 => ?_) (fun c1 => ?_)
  · replace hf := if_t c1 hf
    refine ev_bipush (v := 10) dX6_number_81 (by decide) ?_
    refine ev_iload_n (n := 1) dX6_number_83 rfl rfl ?_
    refine ev_imul dX6_number_84 ?_
    refine ev_aload_n (n := 0) dX6_number_85 rfl rfl ?_
    refine ev_get (v := .ref (l0 + 10)) 11 kl0 rfl (by decide) rfl lk_617 dX6_number_86 ?_
    refine ev_aload_n (n := 0) dX6_number_89 rfl rfl ?_
    refine ev_get (v := .int (hI (sI h s0 14 s1) l0 13)) 13 kl0 rfl (by decide) rfl lk_619 dX6_number_90 ?_
    obtain ⟨gd7, hf⟩ := gd_of hf
    refine ev_iald (kd_5_11 kl0) (inb_of gd7) dX6_number_93 ?_
    refine ev_iadd dX6_number_94 ?_
    refine ev_bipush (v := 48) dX6_number_95 (by decide) ?_
    refine ev_isub dX6_number_97 ?_
    refine ev_sub [0, 2] rfl (lv2 := [(0, .ref l0), (2, .int l2)]) ?_
    exact jn_X6_number_98 kl0 hx0 hk hf
  · replace hf := if_f c1 hf
    refine ev_iload_n (n := 1) dX6_number_77 rfl rfl ?_
    refine ev_goto (tgt := 98) dX6_number_78 (by decide) ?_
    refine ev_sub [0, 2] rfl (lv2 := [(0, .ref l0), (2, .int l2)]) ?_
    exact jn_X6_number_98 kl0 hx0 hk hf
def f_X6_number_l35 (l0 : Nat) : Nat → Int32 → Int32 → Hp → Option (Int32 × Hp)
  | 0, _, _, _ => none
  | fu1 + 1, l1, l2, h => (if (hI h l0 14) = 0 then (bn1 (f_X6_isAt h l0 (48 : Int32) (57 : Int32)) (fun v4 => (if v4 = 0 then (some (l1, h)) else (if (l2 + 1) ≤ (2 : Int32) then (f_X6_number_j67 (f_X6_number_l35 l0 fu1) h l0 (0 : Int32) l0 l1 (l2 + 1)) else (f_X6_number_j67 (f_X6_number_l35 l0 fu1) h l0 (1 : Int32) l0 l1 (l2 + 1)))))) else (some (l1, h)))
theorem f_X6_number_l35_s (l0 : Nat) (fu1 : Nat) (l1 : Int32) (l2 : Int32) (h : Hp) : f_X6_number_l35 l0 (fu1 + 1) l1 l2 h = (if (hI h l0 14) = 0 then (bn1 (f_X6_isAt h l0 (48 : Int32) (57 : Int32)) (fun v4 => (if v4 = 0 then (some (l1, h)) else (if (l2 + 1) ≤ (2 : Int32) then (f_X6_number_j67 (f_X6_number_l35 l0 fu1) h l0 (0 : Int32) l0 l1 (l2 + 1)) else (f_X6_number_j67 (f_X6_number_l35 l0 fu1) h l0 (1 : Int32) l0 l1 (l2 + 1)))))) else (some (l1, h))) := rfl
theorem f_X6_number_l35_0 (l0 : Nat) (l1 : Int32) (l2 : Int32) (h : Hp) : f_X6_number_l35 l0 0 l1 l2 h = none := rfl
set_option maxRecDepth 100000 in
set_option maxHeartbeats 4000000 in
theorem lp_X6_number_35 {g : Gl} {l0 : Nat} {r : Option Value} {h2 : Hp} {o1 : Int32} {h3 : Hp} (kl0 : KD g.1 l0 5 0) (hx0 : Ev yX6_number cX6_number 3 (some .int) 3 64 g 123 [] [(1, .int o1)] h3 r h2) : ∀ (fu1 : Nat) (l1 : Int32) (l2 : Int32) (h : Hp), f_X6_number_l35 l0 fu1 l1 l2 h = some (o1, h3) → Ev yX6_number cX6_number 3 (some .int) 3 64 g 35 [] [(0, .ref l0), (1, .int l1), (2, .int l2)] h r h2 := by
  intro fu1
  induction fu1 with
  | zero =>
    intro l1 l2 h hf
    cases hf
  | succ fu1 ih =>
    intro l1 l2 h hf
    rw [f_X6_number_l35_s] at hf
    have hk := ih
    refine ev_aload_n (n := 0) dX6_number_35 rfl rfl ?_
    refine ev_get (v := .int (hI h l0 14)) 14 kl0 rfl (by decide) rfl lk_620 dX6_number_36 ?_
    refine ev_if_ne (tgt := 123) dX6_number_39 (by decide) (fun c1 => ?_) (fun c1 => ?_)
    · replace hf := if_f c1 hf
      refine ev_sub [1] rfl (lv2 := [(1, .int l1)]) ?_
      obtain ⟨rfl, rfl⟩ := Prod.mk.inj (Option.some.inj hf)
      exact hx0
    · replace hf := if_t c1 hf
      refine ev_aload_n (n := 0) dX6_number_42 rfl rfl ?_
      refine ev_bipush (v := 48) dX6_number_43 (by decide) ?_
      refine ev_bipush (v := 57) dX6_number_45 (by decide) ?_
      obtain ⟨v4, e5, hf⟩ := bn1_of hf
      refine ev_callVi (As := [.int (48 : Int32), .int (57 : Int32)]) cal_X6_isAt kl0 rfl (ev_X6_isAt kl0 e5) (Nat.le_of_ble_eq_true rfl) rfl lk_974 (by decide) (by decide) (Nat.le_of_ble_eq_true rfl) dX6_number_47 rfl ?_
      refine ev_if_eq (tgt := 123) dX6_number_50 (by decide) (fun c1 => ?_) (fun c1 => ?_)
      · replace hf := if_t c1 hf
        refine ev_sub [1] rfl (lv2 := [(1, .int l1)]) ?_
        obtain ⟨rfl, rfl⟩ := Prod.mk.inj (Option.some.inj hf)
        exact hx0
      · replace hf := if_f c1 hf
        refine ev_iinc (z := 2) (v := (l2 + 1)) (lv2 := [(2, .int (l2 + 1)), (0, .ref l0), (1, .int l1)]) dX6_number_53 rfl rfl (by decide) rfl ?_
        refine ev_aload_n (n := 1) dX6_number_56 rfl rfl ?_
        refine ev_iload_n (n := 0) dX6_number_57 rfl rfl ?_
        refine ev_iconst (v := 2) dX6_number_58 (by decide) ?_
        refine ev_icmp_le (tgt := 66) dX6_number_59 (by decide) (fun c1 => ?_) (fun c1 => ?_)
        · replace hf := if_t c1 hf
          refine ev_iconst (v := 0) dX6_number_66 (by decide) ?_
          refine ev_sub [1, 2, 0] rfl (lv2 := [(0, .ref l0), (1, .int l1), (2, .int (l2 + 1))]) ?_
          exact jn_X6_number_67 kl0 kl0 hx0 hk hf
        · replace hf := if_f c1 hf
          refine ev_iconst (v := 1) dX6_number_62 (by decide) ?_
          refine ev_goto (tgt := 67) dX6_number_63 (by decide) ?_
          refine ev_sub [1, 2, 0] rfl (lv2 := [(0, .ref l0), (1, .int l1), (2, .int (l2 + 1))]) ?_
          exact jn_X6_number_67 kl0 kl0 hx0 hk hf
def f_X6_number_j123 (h : Hp) (l1 : Int32) : Option (Int32 × Hp) := (some (l1, h))
set_option maxRecDepth 100000 in
set_option maxHeartbeats 4000000 in
theorem jn_X6_number_123 {g : Gl} {h : Hp} {l1 : Int32}  {rv : Int32} {h2 : Hp}    (hf : f_X6_number_j123 h l1 = some (rv, h2)) : Ev yX6_number cX6_number 3 (some .int) 3 64 g 123 [] [(1, .int l1)] h (some (.int rv)) h2 := by
  unfold f_X6_number_j123 at hf
  refine ev_iload_n (n := 0) dX6_number_123 rfl rfl ?_
  obtain ⟨rfl, rfl⟩ := Prod.mk.inj (Option.some.inj hf)
  exact ev_ireturn dX6_number_124 ⟨.int, rfl, rfl⟩
def f_X6_number_j32 (h : Hp) (s0 : Nat) (s1 : Int32) (l0 : Nat) (l1 : Int32) (l2 : Int32) : Option (Int32 × Hp) := (if isBb s1 = true then (bn2 (f_X6_number_l35 l0 fu l1 l2 (sI h s0 14 s1)) (fun w1_8 h9 => (f_X6_number_j123 h9 w1_8))) else none)
set_option maxRecDepth 100000 in
set_option maxHeartbeats 4000000 in
theorem jn_X6_number_32 {g : Gl} {h : Hp} {s0 : Nat} {s1 : Int32} {l0 : Nat} {l1 : Int32} {l2 : Int32}  {rv : Int32} {h2 : Hp} (ks0 : KD g.1 s0 5 0) (kl0 : KD g.1 l0 5 0)   (hf : f_X6_number_j32 h s0 s1 l0 l1 l2 = some (rv, h2)) : Ev yX6_number cX6_number 3 (some .int) 3 64 g 32 [.int s1, .ref s0] [(0, .ref l0), (1, .int l1), (2, .int l2)] h (some (.int rv)) h2 := by
  unfold f_X6_number_j32 at hf
  obtain ⟨gd3, hf⟩ := gd_of hf
  refine ev_putZ 14 ks0 rfl (by decide) rfl (by decide +kernel) (isBb_of gd3) rfl (by exact Nat.le_of_ble_eq_true rfl) lk_620 dX6_number_32 ?_
  obtain ⟨w1_8, h9, e10, hf⟩ := bn2_of hf
  refine lp_X6_number_35 kl0 ?_ fu _ _ _ e10
  exact jn_X6_number_123 hf
def f_X6_number_j27 (h : Hp) (s0 : Nat) (l0 : Nat) (l1 : Int32) (l2 : Int32) : Option (Int32 × Hp) := (f_X6_number_j32 h s0 (1 : Int32) l0 l1 l2)
set_option maxRecDepth 100000 in
set_option maxHeartbeats 4000000 in
theorem jn_X6_number_27 {g : Gl} {h : Hp} {s0 : Nat} {l0 : Nat} {l1 : Int32} {l2 : Int32}  {rv : Int32} {h2 : Hp} (ks0 : KD g.1 s0 5 0) (kl0 : KD g.1 l0 5 0)   (hf : f_X6_number_j27 h s0 l0 l1 l2 = some (rv, h2)) : Ev yX6_number cX6_number 3 (some .int) 3 64 g 27 [.ref s0] [(0, .ref l0), (1, .int l1), (2, .int l2)] h (some (.int rv)) h2 := by
  unfold f_X6_number_j27 at hf
  refine ev_iconst (v := 1) dX6_number_27 (by decide) ?_
  refine ev_goto (tgt := 32) dX6_number_28 (by decide) ?_
  exact jn_X6_number_32 ks0 kl0 hf
def f_X6_number (h : Hp) (l0 : Nat) : Option (Int32 × Hp) := (bn1 (f_X6_blanks h l0) (fun h1 => (if (hI h1 l0 14) = 0 then (bn1 (f_X6_isAt h1 l0 (48 : Int32) (57 : Int32)) (fun v11 => (if v11 = 0 then (f_X6_number_j27 h1 l0 l0 (0 : Int32) (0 : Int32)) else (f_X6_number_j32 h1 l0 (0 : Int32) l0 (0 : Int32) (0 : Int32))))) else (f_X6_number_j27 h1 l0 l0 (0 : Int32) (0 : Int32)))))
set_option maxRecDepth 100000 in
set_option maxHeartbeats 4000000 in
theorem ev_X6_number {g : Gl} {h : Hp} {l0 : Nat} {rv : Int32} {h2 : Hp} (kl0 : KD g.1 l0 5 0) (hf : f_X6_number h l0 = some (rv, h2)) : Ev yX6_number cX6_number 3 (some .int) 3 64 g 0 [] [(0, .ref l0)] h (some (.int rv)) h2 := by
  unfold f_X6_number at hf
  refine ev_aload_n (n := 0) dX6_number_0 rfl rfl ?_
  obtain ⟨h1, e2, hf⟩ := bn1_of hf
  refine ev_callVv (As := []) cal_X6_blanks kl0 rfl (ev_X6_blanks kl0 e2) (Nat.le_of_ble_eq_true rfl) rfl lk_970 (by decide) (by decide) (Nat.le_of_ble_eq_true rfl) dX6_number_1 rfl ?_
  refine ev_iconst (v := 0) dX6_number_4 (by decide) ?_
  refine ev_istore_n (lv2 := [(1, .int (0 : Int32)), (0, .ref l0)]) dX6_number_5 rfl (by decide) rfl ?_
  refine ev_iconst (v := 0) dX6_number_6 (by decide) ?_
  refine ev_istore_n (lv2 := [(2, .int (0 : Int32)), (1, .int (0 : Int32)), (0, .ref l0)]) dX6_number_7 rfl (by decide) rfl ?_
  refine ev_aload_n (n := 2) dX6_number_8 rfl rfl ?_
  refine ev_aload_n (n := 2) dX6_number_9 rfl rfl ?_
  refine ev_get (v := .int (hI h1 l0 14)) 14 kl0 rfl (by decide) rfl lk_620 dX6_number_10 ?_
  refine ev_if_ne (tgt := 27) dX6_number_13 (by decide) (fun c1 => ?_) (fun c1 => ?_)
  · replace hf := if_f c1 hf
    refine ev_sub [2, 1, 0] rfl (lv2 := [(0, .ref l0), (1, .int (0 : Int32)), (2, .int (0 : Int32))]) ?_
    exact jn_X6_number_27 kl0 kl0 hf
  · replace hf := if_t c1 hf
    refine ev_aload_n (n := 2) dX6_number_16 rfl rfl ?_
    refine ev_bipush (v := 48) dX6_number_17 (by decide) ?_
    refine ev_bipush (v := 57) dX6_number_19 (by decide) ?_
    obtain ⟨v11, e12, hf⟩ := bn1_of hf
    refine ev_callVi (As := [.int (48 : Int32), .int (57 : Int32)]) cal_X6_isAt kl0 rfl (ev_X6_isAt kl0 e12) (Nat.le_of_ble_eq_true rfl) rfl lk_974 (by decide) (by decide) (Nat.le_of_ble_eq_true rfl) dX6_number_21 rfl ?_
    refine ev_if_ne (tgt := 31) dX6_number_24 (by decide) (fun c1 => ?_) (fun c1 => ?_)
    · replace hf := if_f c1 hf
      refine ev_iconst (v := 0) dX6_number_31 (by decide) ?_
      refine ev_sub [2, 1, 0] rfl (lv2 := [(0, .ref l0), (1, .int (0 : Int32)), (2, .int (0 : Int32))]) ?_
      exact jn_X6_number_32 kl0 kl0 hf
    · replace hf := if_t c1 hf
      refine ev_sub [2, 1, 0] rfl (lv2 := [(0, .ref l0), (1, .int (0 : Int32)), (2, .int (0 : Int32))]) ?_
      exact jn_X6_number_27 kl0 kl0 hf
def f_X6_isDone_j133 (h : Hp) (s0 : Int32) : Option (Int32 × Hp) := (if s0 < 0 then (some ((0 : Int32), h)) else (some ((1 : Int32), h)))
set_option maxRecDepth 100000 in
set_option maxHeartbeats 4000000 in
theorem jn_X6_isDone_133 {g : Gl} {h : Hp} {s0 : Int32}  {rv : Int32} {h2 : Hp}    (hf : f_X6_isDone_j133 h s0 = some (rv, h2)) : Ev yX6_isDone cX6_isDone 6 (some .boolean) 9 203 g 133 [.int s0] [] h (some (.int rv)) h2 := by
  unfold f_X6_isDone_j133 at hf
  refine ev_istore (lv2 := [(5, .int s0)]) dX6_isDone_133 (by decide) rfl ?_
  refine ev_iload (n := 0) dX6_isDone_135 rfl ?_
  refine ev_if_lt (tgt := 144) dX6_isDone_137 (by decide) (fun c1 => ?_) (fun c1 => ?_)
  · replace hf := if_t c1 hf
    refine ev_iconst (v := 0) dX6_isDone_144 (by decide) ?_
    obtain ⟨rfl, rfl⟩ := Prod.mk.inj (Option.some.inj hf)
    exact ev_ireturn dX6_isDone_145 ⟨.boolean, rfl, rfl⟩
  · replace hf := if_f c1 hf
    refine ev_iconst (v := 1) dX6_isDone_140 (by decide) ?_
    refine ev_goto (tgt := 145) dX6_isDone_141 (by decide) ?_
    obtain ⟨rfl, rfl⟩ := Prod.mk.inj (Option.some.inj hf)
    exact ev_ireturn dX6_isDone_145 ⟨.boolean, rfl, rfl⟩
def f_X6_isDone_j74 (h : Hp) (s0 : Int32) (l0 : Nat) (l1 : Int32) (l2 : Int32) (l3 : Int32) : Option (Int32 × Hp) := (if 0 ≤ s0 then (if l1 = (112 : Int32) then (bn2 (f_X6_peerComes h l0 l2 l3) (fun v14 h15 => (f_X6_isDone_j133 h15 v14))) else (if l1 = (103 : Int32) then (bn2 (f_X6_give h l0 l2 l3) (fun v11 h12 => (f_X6_isDone_j133 h12 v11))) else (if l1 = (115 : Int32) then (bn2 (f_X6_set h l0 l2 l3) (fun v8 h9 => (f_X6_isDone_j133 h9 v8))) else (bn2 (f_X6_goRounds h l0 l2) (fun v5 h6 => (f_X6_isDone_j133 h6 v5)))))) else (some ((0 : Int32), h)))
set_option maxRecDepth 100000 in
set_option maxHeartbeats 4000000 in
theorem jn_X6_isDone_74 {g : Gl} {h : Hp} {s0 : Int32} {l0 : Nat} {l1 : Int32} {l2 : Int32} {l3 : Int32}  {rv : Int32} {h2 : Hp} (kl0 : KD g.1 l0 5 0)   (hf : f_X6_isDone_j74 h s0 l0 l1 l2 l3 = some (rv, h2)) : Ev yX6_isDone cX6_isDone 6 (some .boolean) 9 203 g 74 [.int s0] [(0, .ref l0), (1, .int l1), (2, .int l2), (3, .int l3)] h (some (.int rv)) h2 := by
  unfold f_X6_isDone_j74 at hf
  refine ev_istore (lv2 := [(4, .int s0), (0, .ref l0), (1, .int l1), (2, .int l2), (3, .int l3)]) dX6_isDone_74 (by decide) rfl ?_
  refine ev_iload (n := 0) dX6_isDone_76 rfl ?_
  refine ev_if_ge (tgt := 83) dX6_isDone_78 (by decide) (fun c1 => ?_) (fun c1 => ?_)
  · replace hf := if_t c1 hf
    refine ev_iload_n (n := 2) dX6_isDone_83 rfl rfl ?_
    refine ev_bipush (v := 112) dX6_isDone_84 (by decide) ?_
    refine ev_icmp_ne (tgt := 98) dX6_isDone_86 (by decide) (fun c1 => ?_) (fun c1 => ?_)
    · replace hf := if_f c1 hf
      refine ev_iload_n (n := 2) dX6_isDone_98 rfl rfl ?_
      refine ev_bipush (v := 103) dX6_isDone_99 (by decide) ?_
      refine ev_icmp_ne (tgt := 113) dX6_isDone_101 (by decide) (fun c1 => ?_) (fun c1 => ?_)
      · replace hf := if_f c1 hf
        refine ev_iload_n (n := 2) dX6_isDone_113 rfl rfl ?_
        refine ev_bipush (v := 115) dX6_isDone_114 (by decide) ?_
        refine ev_icmp_ne (tgt := 128) dX6_isDone_116 (by decide) (fun c1 => ?_) (fun c1 => ?_)
        · replace hf := if_f c1 hf
          refine ev_aload_n (n := 1) dX6_isDone_128 rfl rfl ?_
          refine ev_iload_n (n := 3) dX6_isDone_129 rfl rfl ?_
          obtain ⟨v5, h6, e7, hf⟩ := bn2_of hf
          refine ev_callVi (As := [.int l2]) cal_X6_goRounds kl0 rfl (ev_X6_goRounds kl0 e7) (Nat.le_of_ble_eq_true rfl) rfl lk_751 (by decide) (by decide) (Nat.le_of_ble_eq_true rfl) dX6_isDone_130 rfl ?_
          refine ev_sub [] rfl (lv2 := []) ?_
          exact jn_X6_isDone_133 hf
        · replace hf := if_t c1 hf
          refine ev_aload_n (n := 1) dX6_isDone_119 rfl rfl ?_
          refine ev_iload_n (n := 3) dX6_isDone_120 rfl rfl ?_
          refine ev_iload_n (n := 4) dX6_isDone_121 rfl rfl ?_
          obtain ⟨v8, h9, e10, hf⟩ := bn2_of hf
          refine ev_callVi (As := [.int l2, .int l3]) cal_X6_set kl0 rfl (ev_X6_set kl0 e10) (Nat.le_of_ble_eq_true rfl) rfl lk_743 (by decide) (by decide) (Nat.le_of_ble_eq_true rfl) dX6_isDone_122 rfl ?_
          refine ev_goto (tgt := 133) dX6_isDone_125 (by decide) ?_
          refine ev_sub [] rfl (lv2 := []) ?_
          exact jn_X6_isDone_133 hf
      · replace hf := if_t c1 hf
        refine ev_aload_n (n := 1) dX6_isDone_104 rfl rfl ?_
        refine ev_iload_n (n := 3) dX6_isDone_105 rfl rfl ?_
        refine ev_iload_n (n := 4) dX6_isDone_106 rfl rfl ?_
        obtain ⟨v11, h12, e13, hf⟩ := bn2_of hf
        refine ev_callVi (As := [.int l2, .int l3]) cal_X6_give kl0 rfl (ev_X6_give kl0 e13) (Nat.le_of_ble_eq_true rfl) rfl lk_723 (by decide) (by decide) (Nat.le_of_ble_eq_true rfl) dX6_isDone_107 rfl ?_
        refine ev_goto (tgt := 133) dX6_isDone_110 (by decide) ?_
        refine ev_sub [] rfl (lv2 := []) ?_
        exact jn_X6_isDone_133 hf
    · replace hf := if_t c1 hf
      refine ev_aload_n (n := 1) dX6_isDone_89 rfl rfl ?_
      refine ev_iload_n (n := 3) dX6_isDone_90 rfl rfl ?_
      refine ev_iload_n (n := 4) dX6_isDone_91 rfl rfl ?_
      obtain ⟨v14, h15, e16, hf⟩ := bn2_of hf
      refine ev_callVi (As := [.int l2, .int l3]) cal_X6_peerComes kl0 rfl (ev_X6_peerComes kl0 e16) (Nat.le_of_ble_eq_true rfl) rfl lk_696 (by decide) (by decide) (Nat.le_of_ble_eq_true rfl) dX6_isDone_92 rfl ?_
      refine ev_goto (tgt := 133) dX6_isDone_95 (by decide) ?_
      refine ev_sub [] rfl (lv2 := []) ?_
      exact jn_X6_isDone_133 hf
  · replace hf := if_f c1 hf
    refine ev_iconst (v := 0) dX6_isDone_81 (by decide) ?_
    obtain ⟨rfl, rfl⟩ := Prod.mk.inj (Option.some.inj hf)
    exact ev_ireturn dX6_isDone_82 ⟨.boolean, rfl, rfl⟩
def f_X6_isDone (h : Hp) (l0 : Nat) (l1 : Int32) : Option (Int32 × Hp) := (if l1 = (112 : Int32) then (bn1 (f_X6_canPeer h l0 (hI h (l0 + 11) (0 : Int32).toNatClampNeg) (hI h (l0 + 11) (1 : Int32).toNatClampNeg)) (fun v21 => (f_X6_isDone_j74 h v21 l0 l1 (hI h (l0 + 11) (0 : Int32).toNatClampNeg) (hI h (l0 + 11) (1 : Int32).toNatClampNeg)))) else (if l1 = (103 : Int32) then (bn1 (f_X6_canGive h l0 (hI h (l0 + 11) (0 : Int32).toNatClampNeg) (hI h (l0 + 11) (1 : Int32).toNatClampNeg)) (fun v19 => (f_X6_isDone_j74 h v19 l0 l1 (hI h (l0 + 11) (0 : Int32).toNatClampNeg) (hI h (l0 + 11) (1 : Int32).toNatClampNeg)))) else (if l1 = (115 : Int32) then (bn1 (f_X6_canSet h (hI h (l0 + 11) (0 : Int32).toNatClampNeg) (hI h (l0 + 11) (1 : Int32).toNatClampNeg)) (fun v17 => (f_X6_isDone_j74 h v17 l0 l1 (hI h (l0 + 11) (0 : Int32).toNatClampNeg) (hI h (l0 + 11) (1 : Int32).toNatClampNeg)))) else (bn1 (f_X6_in h (hI h (l0 + 11) (0 : Int32).toNatClampNeg) (1 : Int32) (30 : Int32)) (fun v3 => (if v3 = 0 then (f_X6_isDone_j74 h (-2 : Int32) l0 l1 (hI h (l0 + 11) (0 : Int32).toNatClampNeg) (hI h (l0 + 11) (1 : Int32).toNatClampNeg)) else (f_X6_isDone_j74 h (0 : Int32) l0 l1 (hI h (l0 + 11) (0 : Int32).toNatClampNeg) (hI h (l0 + 11) (1 : Int32).toNatClampNeg))))))))
set_option maxRecDepth 100000 in
set_option maxHeartbeats 4000000 in
theorem ev_X6_isDone {g : Gl} {h : Hp} {l0 : Nat} {l1 : Int32} {rv : Int32} {h2 : Hp} (kl0 : KD g.1 l0 5 0) (hf : f_X6_isDone h l0 l1 = some (rv, h2)) : Ev yX6_isDone cX6_isDone 6 (some .boolean) 9 203 g 0 [] [(0, .ref l0), (1, .int l1)] h (some (.int rv)) h2 := by
  unfold f_X6_isDone at hf
  refine ev_aload_n (n := 0) dX6_isDone_0 rfl rfl ?_
  refine ev_get (v := .ref (l0 + 11)) 15 kl0 rfl (by decide) rfl lk_621 dX6_isDone_1 ?_
  refine ev_iconst (v := 0) dX6_isDone_4 (by decide) ?_
  refine ev_iald (kd_5_15 kl0) (by unfold vp_in; decide) dX6_isDone_5 ?_
  refine ev_istore_n (lv2 := [(2, .int (hI h (l0 + 11) (0 : Int32).toNatClampNeg)), (0, .ref l0), (1, .int l1)]) dX6_isDone_6 rfl (by decide) rfl ?_
  refine ev_aload_n (n := 1) dX6_isDone_7 rfl rfl ?_
  refine ev_get (v := .ref (l0 + 11)) 15 kl0 rfl (by decide) rfl lk_621 dX6_isDone_8 ?_
  refine ev_iconst (v := 1) dX6_isDone_11 (by decide) ?_
  refine ev_iald (kd_5_15 kl0) (by unfold vp_in; decide) dX6_isDone_12 ?_
  refine ev_istore_n (lv2 := [(3, .int (hI h (l0 + 11) (1 : Int32).toNatClampNeg)), (2, .int (hI h (l0 + 11) (0 : Int32).toNatClampNeg)), (0, .ref l0), (1, .int l1)]) dX6_isDone_13 rfl (by decide) rfl ?_
  refine ev_iload_n (n := 3) dX6_isDone_14 rfl rfl ?_
  refine ev_bipush (v := 112) dX6_isDone_15 (by decide) ?_
  refine ev_icmp_ne (tgt := 29) dX6_isDone_17 (by decide) (fun c1 => ?_) (fun c1 => ?_)
  · replace hf := if_f c1 hf
    refine ev_iload_n (n := 3) dX6_isDone_29 rfl rfl ?_
    refine ev_bipush (v := 103) dX6_isDone_30 (by decide) ?_
    refine ev_icmp_ne (tgt := 44) dX6_isDone_32 (by decide) (fun c1 => ?_) (fun c1 => ?_)
    · replace hf := if_f c1 hf
      refine ev_iload_n (n := 3) dX6_isDone_44 rfl rfl ?_
      refine ev_bipush (v := 115) dX6_isDone_45 (by decide) ?_
      refine ev_icmp_ne (tgt := 58) dX6_isDone_47 (by decide) (fun c1 => ?_) (fun c1 => ?_)
      · replace hf := if_f c1 hf
        refine ev_iload_n (n := 1) dX6_isDone_58 rfl rfl ?_
        refine ev_iconst (v := 1) dX6_isDone_59 (by decide) ?_
        refine ev_bipush (v := 30) dX6_isDone_60 (by decide) ?_
        obtain ⟨v3, e4, hf⟩ := bn1_of hf
        refine ev_callSi (As := [.int (hI h (l0 + 11) (0 : Int32).toNatClampNeg), .int (1 : Int32), .int (30 : Int32)]) cal_X6_in (ev_X6_in e4) (Nat.le_of_ble_eq_true rfl) rfl lk_669 (by decide) (by decide) (Nat.le_of_ble_eq_true rfl) dX6_isDone_62 rfl ?_
        refine ev_if_eq (tgt := 72) dX6_isDone_65 (by decide) (fun c1 => ?_) (fun c1 => ?_)
        · replace hf := if_t c1 hf
          refine ev_bipush (v := -2) dX6_isDone_72 (by decide) ?_
          refine ev_sub [2, 3, 1, 0] rfl (lv2 := [(0, .ref l0), (1, .int l1), (2, .int (hI h (l0 + 11) (0 : Int32).toNatClampNeg)), (3, .int (hI h (l0 + 11) (1 : Int32).toNatClampNeg))]) ?_
          exact jn_X6_isDone_74 kl0 hf
        · replace hf := if_f c1 hf
          refine ev_iconst (v := 0) dX6_isDone_68 (by decide) ?_
          refine ev_goto (tgt := 74) dX6_isDone_69 (by decide) ?_
          refine ev_sub [2, 3, 1, 0] rfl (lv2 := [(0, .ref l0), (1, .int l1), (2, .int (hI h (l0 + 11) (0 : Int32).toNatClampNeg)), (3, .int (hI h (l0 + 11) (1 : Int32).toNatClampNeg))]) ?_
          exact jn_X6_isDone_74 kl0 hf
      · replace hf := if_t c1 hf
        refine ev_iload_n (n := 1) dX6_isDone_50 rfl rfl ?_
        refine ev_iload_n (n := 0) dX6_isDone_51 rfl rfl ?_
        obtain ⟨v17, e18, hf⟩ := bn1_of hf
        refine ev_callSi (As := [.int (hI h (l0 + 11) (0 : Int32).toNatClampNeg), .int (hI h (l0 + 11) (1 : Int32).toNatClampNeg)]) cal_X6_canSet (ev_X6_canSet e18) (Nat.le_of_ble_eq_true rfl) rfl lk_734 (by decide) (by decide) (Nat.le_of_ble_eq_true rfl) dX6_isDone_52 rfl ?_
        refine ev_goto (tgt := 74) dX6_isDone_55 (by decide) ?_
        refine ev_sub [2, 3, 1, 0] rfl (lv2 := [(0, .ref l0), (1, .int l1), (2, .int (hI h (l0 + 11) (0 : Int32).toNatClampNeg)), (3, .int (hI h (l0 + 11) (1 : Int32).toNatClampNeg))]) ?_
        exact jn_X6_isDone_74 kl0 hf
    · replace hf := if_t c1 hf
      refine ev_aload_n (n := 2) dX6_isDone_35 rfl rfl ?_
      refine ev_iload_n (n := 1) dX6_isDone_36 rfl rfl ?_
      refine ev_iload_n (n := 0) dX6_isDone_37 rfl rfl ?_
      obtain ⟨v19, e20, hf⟩ := bn1_of hf
      refine ev_callVi (As := [.int (hI h (l0 + 11) (0 : Int32).toNatClampNeg), .int (hI h (l0 + 11) (1 : Int32).toNatClampNeg)]) cal_X6_canGive kl0 rfl (ev_X6_canGive kl0 e20) (Nat.le_of_ble_eq_true rfl) rfl lk_707 (by decide) (by decide) (Nat.le_of_ble_eq_true rfl) dX6_isDone_38 rfl ?_
      refine ev_goto (tgt := 74) dX6_isDone_41 (by decide) ?_
      refine ev_sub [2, 3, 1, 0] rfl (lv2 := [(0, .ref l0), (1, .int l1), (2, .int (hI h (l0 + 11) (0 : Int32).toNatClampNeg)), (3, .int (hI h (l0 + 11) (1 : Int32).toNatClampNeg))]) ?_
      exact jn_X6_isDone_74 kl0 hf
  · replace hf := if_t c1 hf
    refine ev_aload_n (n := 2) dX6_isDone_20 rfl rfl ?_
    refine ev_iload_n (n := 1) dX6_isDone_21 rfl rfl ?_
    refine ev_iload_n (n := 0) dX6_isDone_22 rfl rfl ?_
    obtain ⟨v21, e22, hf⟩ := bn1_of hf
    refine ev_callVi (As := [.int (hI h (l0 + 11) (0 : Int32).toNatClampNeg), .int (hI h (l0 + 11) (1 : Int32).toNatClampNeg)]) cal_X6_canPeer kl0 rfl (ev_X6_canPeer kl0 e22) (Nat.le_of_ble_eq_true rfl) rfl lk_684 (by decide) (by decide) (Nat.le_of_ble_eq_true rfl) dX6_isDone_23 rfl ?_
    refine ev_goto (tgt := 74) dX6_isDone_26 (by decide) ?_
    refine ev_sub [2, 3, 1, 0] rfl (lv2 := [(0, .ref l0), (1, .int l1), (2, .int (hI h (l0 + 11) (0 : Int32).toNatClampNeg)), (3, .int (hI h (l0 + 11) (1 : Int32).toNatClampNeg))]) ?_
    exact jn_X6_isDone_74 kl0 hf
def f_X6_reads_j249 (kk : Int32 → Hp → Option (Int32 × Hp)) (h : Hp) (l0 : Nat) (l1 : Int32) (l2 : Int32) : Option (Int32 × Hp) := (kk l2 h)
set_option maxRecDepth 100000 in
set_option maxHeartbeats 4000000 in
theorem jn_X6_reads_249 {g : Gl} {h : Hp} {kk : Int32 → Hp → Option (Int32 × Hp)} {l0 : Nat} {l1 : Int32} {l2 : Int32}  {r : Option Value} {h2 : Hp} {o2 : Int32} {h3 : Hp} (kl0 : KD g.1 l0 5 0) (hx0 : Ev yX6_reads cX6_reads 4 (some .int) 10 228 g 252 [] [(0, .ref l0), (2, .int o2)] h3 r h2) (hk : ∀ (x2 : Int32) (hq : Hp), kk x2 hq = some (o2, h3) → Ev yX6_reads cX6_reads 4 (some .int) 10 228 g 36 [] [(0, .ref l0), (1, .int l1), (2, .int x2)] hq r h2) (hf : f_X6_reads_j249 kk h l0 l1 l2 = some (o2, h3)) : Ev yX6_reads cX6_reads 4 (some .int) 10 228 g 249 [] [(0, .ref l0), (1, .int l1), (2, .int l2)] h r h2 := by
  unfold f_X6_reads_j249 at hf
  refine ev_goto (tgt := 36) dX6_reads_249 (by decide) ?_
  exact hk _ _ hf
def f_X6_reads_j247 (kk : Int32 → Hp → Option (Int32 × Hp)) (h : Hp) (s0 : Int32) (s1 : Int32) (l0 : Nat) (l1 : Int32) : Option (Int32 × Hp) := (f_X6_reads_j249 kk h l0 l1 (s0 + s1))
set_option maxRecDepth 100000 in
set_option maxHeartbeats 4000000 in
theorem jn_X6_reads_247 {g : Gl} {h : Hp} {kk : Int32 → Hp → Option (Int32 × Hp)} {s0 : Int32} {s1 : Int32} {l0 : Nat} {l1 : Int32}  {r : Option Value} {h2 : Hp} {o2 : Int32} {h3 : Hp} (kl0 : KD g.1 l0 5 0) (hx0 : Ev yX6_reads cX6_reads 4 (some .int) 10 228 g 252 [] [(0, .ref l0), (2, .int o2)] h3 r h2) (hk : ∀ (x2 : Int32) (hq : Hp), kk x2 hq = some (o2, h3) → Ev yX6_reads cX6_reads 4 (some .int) 10 228 g 36 [] [(0, .ref l0), (1, .int l1), (2, .int x2)] hq r h2) (hf : f_X6_reads_j247 kk h s0 s1 l0 l1 = some (o2, h3)) : Ev yX6_reads cX6_reads 4 (some .int) 10 228 g 247 [.int s1, .int s0] [(0, .ref l0), (1, .int l1)] h r h2 := by
  unfold f_X6_reads_j247 at hf
  refine ev_iadd dX6_reads_247 ?_
  refine ev_istore_n (lv2 := [(2, .int (s0 + s1)), (0, .ref l0), (1, .int l1)]) dX6_reads_248 rfl (by decide) rfl ?_
  refine ev_sub [1, 2, 0] rfl (lv2 := [(0, .ref l0), (1, .int l1), (2, .int (s0 + s1))]) ?_
  exact jn_X6_reads_249 kl0 hx0 hk hf
def f_X6_reads_j246 (kk : Int32 → Hp → Option (Int32 × Hp)) (h : Hp) (s0 : Int32) (l0 : Nat) (l1 : Int32) : Option (Int32 × Hp) := (f_X6_reads_j247 kk h s0 (0 : Int32) l0 l1)
set_option maxRecDepth 100000 in
set_option maxHeartbeats 4000000 in
theorem jn_X6_reads_246 {g : Gl} {h : Hp} {kk : Int32 → Hp → Option (Int32 × Hp)} {s0 : Int32} {l0 : Nat} {l1 : Int32}  {r : Option Value} {h2 : Hp} {o2 : Int32} {h3 : Hp} (kl0 : KD g.1 l0 5 0) (hx0 : Ev yX6_reads cX6_reads 4 (some .int) 10 228 g 252 [] [(0, .ref l0), (2, .int o2)] h3 r h2) (hk : ∀ (x2 : Int32) (hq : Hp), kk x2 hq = some (o2, h3) → Ev yX6_reads cX6_reads 4 (some .int) 10 228 g 36 [] [(0, .ref l0), (1, .int l1), (2, .int x2)] hq r h2) (hf : f_X6_reads_j246 kk h s0 l0 l1 = some (o2, h3)) : Ev yX6_reads cX6_reads 4 (some .int) 10 228 g 246 [.int s0] [(0, .ref l0), (1, .int l1)] h r h2 := by
  unfold f_X6_reads_j246 at hf
  refine ev_iconst (v := 0) dX6_reads_246 (by decide) ?_
  exact jn_X6_reads_247 kl0 hx0 hk hf
def f_X6_reads_j218 (kk : Int32 → Hp → Option (Int32 × Hp)) (h : Hp) (l0 : Nat) (l1 : Int32) (l2 : Int32) (l3 : Int32) : Option (Int32 × Hp) := (if (hI h l0 14) = 0 then (bn1 (f_X6_blanks h l0) (fun h12 => (if l1 = 0 then (f_X6_reads_j246 kk h12 l2 l0 l1) else (bn2 (f_X6_isDone h12 l0 l3) (fun v14 h15 => (if v14 = 0 then (f_X6_reads_j246 kk h15 l2 l0 l1) else (f_X6_reads_j247 kk h15 l2 (1 : Int32) l0 l1))))))) else (f_X6_reads_j249 kk h l0 l1 l2))
set_option maxRecDepth 100000 in
set_option maxHeartbeats 4000000 in
theorem jn_X6_reads_218 {g : Gl} {h : Hp} {kk : Int32 → Hp → Option (Int32 × Hp)} {l0 : Nat} {l1 : Int32} {l2 : Int32} {l3 : Int32}  {r : Option Value} {h2 : Hp} {o2 : Int32} {h3 : Hp} (kl0 : KD g.1 l0 5 0) (hx0 : Ev yX6_reads cX6_reads 4 (some .int) 10 228 g 252 [] [(0, .ref l0), (2, .int o2)] h3 r h2) (hk : ∀ (x2 : Int32) (hq : Hp), kk x2 hq = some (o2, h3) → Ev yX6_reads cX6_reads 4 (some .int) 10 228 g 36 [] [(0, .ref l0), (1, .int l1), (2, .int x2)] hq r h2) (hf : f_X6_reads_j218 kk h l0 l1 l2 l3 = some (o2, h3)) : Ev yX6_reads cX6_reads 4 (some .int) 10 228 g 218 [] [(0, .ref l0), (1, .int l1), (2, .int l2), (3, .int l3)] h r h2 := by
  unfold f_X6_reads_j218 at hf
  refine ev_aload_n (n := 0) dX6_reads_218 rfl rfl ?_
  refine ev_get (v := .int (hI h l0 14)) 14 kl0 rfl (by decide) rfl lk_620 dX6_reads_219 ?_
  refine ev_if_ne (tgt := 249) dX6_reads_222 (by decide) (fun c1 => ?_) (fun c1 => ?_)
  · replace hf := if_f c1 hf
    refine ev_sub [0, 1, 2] rfl (lv2 := [(0, .ref l0), (1, .int l1), (2, .int l2)]) ?_
    exact jn_X6_reads_249 kl0 hx0 hk hf
  · replace hf := if_t c1 hf
    refine ev_aload_n (n := 0) dX6_reads_225 rfl rfl ?_
    obtain ⟨h12, e13, hf⟩ := bn1_of hf
    refine ev_callVv (As := []) cal_X6_blanks kl0 rfl (ev_X6_blanks kl0 e13) (Nat.le_of_ble_eq_true rfl) rfl lk_970 (by decide) (by decide) (Nat.le_of_ble_eq_true rfl) dX6_reads_226 rfl ?_
    refine ev_iload_n (n := 2) dX6_reads_229 rfl rfl ?_
    refine ev_iload_n (n := 1) dX6_reads_230 rfl rfl ?_
    refine ev_if_eq (tgt := 246) dX6_reads_231 (by decide) (fun c1 => ?_) (fun c1 => ?_)
    · replace hf := if_t c1 hf
      refine ev_sub [0, 1] rfl (lv2 := [(0, .ref l0), (1, .int l1)]) ?_
      exact jn_X6_reads_246 kl0 hx0 hk hf
    · replace hf := if_f c1 hf
      refine ev_aload_n (n := 0) dX6_reads_234 rfl rfl ?_
      refine ev_iload_n (n := 3) dX6_reads_235 rfl rfl ?_
      obtain ⟨v14, h15, e16, hf⟩ := bn2_of hf
      refine ev_callVi (As := [.int l3]) cal_X6_isDone kl0 rfl (ev_X6_isDone kl0 e16) (Nat.le_of_ble_eq_true rfl) rfl lk_982 (by decide) (by decide) (Nat.le_of_ble_eq_true rfl) dX6_reads_236 rfl ?_
      refine ev_if_eq (tgt := 246) dX6_reads_239 (by decide) (fun c1 => ?_) (fun c1 => ?_)
      · replace hf := if_t c1 hf
        refine ev_sub [0, 1] rfl (lv2 := [(0, .ref l0), (1, .int l1)]) ?_
        exact jn_X6_reads_246 kl0 hx0 hk hf
      · replace hf := if_f c1 hf
        refine ev_iconst (v := 1) dX6_reads_242 (by decide) ?_
        refine ev_goto (tgt := 247) dX6_reads_243 (by decide) ?_
        refine ev_sub [0, 1] rfl (lv2 := [(0, .ref l0), (1, .int l1)]) ?_
        exact jn_X6_reads_247 kl0 hx0 hk hf
def f_X6_reads_j214 (kk : Int32 → Hp → Option (Int32 × Hp)) (h : Hp) (s0 : Nat) (s1 : Int32) (s2 : Int32) (l0 : Nat) (l1 : Int32) (l2 : Int32) (l3 : Int32) : Option (Int32 × Hp) := (f_X6_reads_j218 kk (sI h s0 13 (s1 + s2)) l0 l1 l2 l3)
set_option maxRecDepth 100000 in
set_option maxHeartbeats 4000000 in
theorem jn_X6_reads_214 {g : Gl} {h : Hp} {kk : Int32 → Hp → Option (Int32 × Hp)} {s0 : Nat} {s1 : Int32} {s2 : Int32} {l0 : Nat} {l1 : Int32} {l2 : Int32} {l3 : Int32}  {r : Option Value} {h2 : Hp} {o2 : Int32} {h3 : Hp} (ks0 : KD g.1 s0 5 0) (kl0 : KD g.1 l0 5 0) (hx0 : Ev yX6_reads cX6_reads 4 (some .int) 10 228 g 252 [] [(0, .ref l0), (2, .int o2)] h3 r h2) (hk : ∀ (x2 : Int32) (hq : Hp), kk x2 hq = some (o2, h3) → Ev yX6_reads cX6_reads 4 (some .int) 10 228 g 36 [] [(0, .ref l0), (1, .int l1), (2, .int x2)] hq r h2) (hf : f_X6_reads_j214 kk h s0 s1 s2 l0 l1 l2 l3 = some (o2, h3)) : Ev yX6_reads cX6_reads 4 (some .int) 10 228 g 214 [.int s2, .int s1, .ref s0] [(0, .ref l0), (1, .int l1), (2, .int l2), (3, .int l3)] h r h2 := by
  unfold f_X6_reads_j214 at hf
  refine ev_iadd dX6_reads_214 ?_
  refine ev_putI 13 ks0 rfl (by decide) rfl (by decide +kernel) rfl (by exact Nat.le_of_ble_eq_true rfl) lk_619 dX6_reads_215 ?_
  exact jn_X6_reads_218 kl0 hx0 hk hf
def f_X6_reads_j194 (kk : Int32 → Hp → Option (Int32 × Hp)) (h : Hp) (s0 : Nat) (s1 : Int32) (l0 : Nat) (l1 : Int32) (l2 : Int32) (l3 : Int32) : Option (Int32 × Hp) := (if isBb s1 = true then (if (hI (sI h s0 14 s1) l0 14) = 0 then (f_X6_reads_j214 kk (sI h s0 14 s1) l0 (hI (sI h s0 14 s1) l0 13) (1 : Int32) l0 l1 l2 l3) else (f_X6_reads_j214 kk (sI h s0 14 s1) l0 (hI (sI h s0 14 s1) l0 13) (0 : Int32) l0 l1 l2 l3)) else none)
set_option maxRecDepth 100000 in
set_option maxHeartbeats 4000000 in
theorem jn_X6_reads_194 {g : Gl} {h : Hp} {kk : Int32 → Hp → Option (Int32 × Hp)} {s0 : Nat} {s1 : Int32} {l0 : Nat} {l1 : Int32} {l2 : Int32} {l3 : Int32}  {r : Option Value} {h2 : Hp} {o2 : Int32} {h3 : Hp} (ks0 : KD g.1 s0 5 0) (kl0 : KD g.1 l0 5 0) (hx0 : Ev yX6_reads cX6_reads 4 (some .int) 10 228 g 252 [] [(0, .ref l0), (2, .int o2)] h3 r h2) (hk : ∀ (x2 : Int32) (hq : Hp), kk x2 hq = some (o2, h3) → Ev yX6_reads cX6_reads 4 (some .int) 10 228 g 36 [] [(0, .ref l0), (1, .int l1), (2, .int x2)] hq r h2) (hf : f_X6_reads_j194 kk h s0 s1 l0 l1 l2 l3 = some (o2, h3)) : Ev yX6_reads cX6_reads 4 (some .int) 10 228 g 194 [.int s1, .ref s0] [(0, .ref l0), (1, .int l1), (2, .int l2), (3, .int l3)] h r h2 := by
  unfold f_X6_reads_j194 at hf
  obtain ⟨gd21, hf⟩ := gd_of hf
  refine ev_putZ 14 ks0 rfl (by decide) rfl (by decide +kernel) (isBb_of gd21) rfl (by exact Nat.le_of_ble_eq_true rfl) lk_620 dX6_reads_194 ?_
  refine ev_aload_n (n := 0) dX6_reads_197 rfl rfl ?_
  refine ev_dup dX6_reads_198 rfl ?_
  refine ev_get (v := .int (hI (sI h s0 14 s1) l0 13)) 13 kl0 rfl (by decide) rfl lk_619 dX6_reads_199 ?_
  refine ev_aload_n (n := 0) dX6_reads_202 rfl rfl ?_
  refine ev_get (v := .int (hI (sI h s0 14 s1) l0 14)) 14 kl0 rfl (by decide) rfl lk_620 dX6_reads_203 ?_
  refine ev_if_eq (tgt := 213) dX6_reads_206 (by decide) (fun c1 => ?_) (fun c1 => ?_)
  · replace hf := if_t c1 hf
    refine ev_iconst (v := 1) dX6_reads_213 (by decide) ?_
    exact jn_X6_reads_214 kl0 kl0 hx0 hk hf
  · replace hf := if_f c1 hf
    refine ev_iconst (v := 0) dX6_reads_209 (by decide) ?_
    refine ev_goto (tgt := 214) dX6_reads_210 (by decide) ?_
    exact jn_X6_reads_214 kl0 kl0 hx0 hk hf
def f_X6_reads_j165 (kk : Int32 → Hp → Option (Int32 × Hp)) (h : Hp) (s0 : Nat) (s1 : Int32) (s2 : Int32) (l0 : Nat) (l1 : Int32) (l2 : Int32) (l3 : Int32) : Option (Int32 × Hp) := (if inb s1 2 = true then (if (hI (sI h s0 s1.toNatClampNeg s2) l0 14) = 0 then (bn1 (f_X6_blanks (sI h s0 s1.toNatClampNeg s2) l0) (fun h17 => (bn1 (f_X6_isAt h17 l0 (59 : Int32) (59 : Int32)) (fun v19 => (if v19 = 0 then (f_X6_reads_j194 kk h17 l0 (1 : Int32) l0 l1 l2 l3) else (f_X6_reads_j194 kk h17 l0 (0 : Int32) l0 l1 l2 l3)))))) else (f_X6_reads_j218 kk (sI h s0 s1.toNatClampNeg s2) l0 l1 l2 l3)) else none)
set_option maxRecDepth 100000 in
set_option maxHeartbeats 4000000 in
theorem jn_X6_reads_165 {g : Gl} {h : Hp} {kk : Int32 → Hp → Option (Int32 × Hp)} {s0 : Nat} {s1 : Int32} {s2 : Int32} {l0 : Nat} {l1 : Int32} {l2 : Int32} {l3 : Int32}  {r : Option Value} {h2 : Hp} {o2 : Int32} {h3 : Hp} (ks0 : KD g.1 s0 6 2) (kl0 : KD g.1 l0 5 0) (hx0 : Ev yX6_reads cX6_reads 4 (some .int) 10 228 g 252 [] [(0, .ref l0), (2, .int o2)] h3 r h2) (hk : ∀ (x2 : Int32) (hq : Hp), kk x2 hq = some (o2, h3) → Ev yX6_reads cX6_reads 4 (some .int) 10 228 g 36 [] [(0, .ref l0), (1, .int l1), (2, .int x2)] hq r h2) (hf : f_X6_reads_j165 kk h s0 s1 s2 l0 l1 l2 l3 = some (o2, h3)) : Ev yX6_reads cX6_reads 4 (some .int) 10 228 g 165 [.int s2, .int s1, .ref s0] [(0, .ref l0), (1, .int l1), (2, .int l2), (3, .int l3)] h r h2 := by
  unfold f_X6_reads_j165 at hf
  obtain ⟨gd11, hf⟩ := gd_of hf
  refine ev_iast ks0 (inb_of gd11) dX6_reads_165 ?_
  refine ev_aload_n (n := 0) dX6_reads_166 rfl rfl ?_
  refine ev_get (v := .int (hI (sI h s0 s1.toNatClampNeg s2) l0 14)) 14 kl0 rfl (by decide) rfl lk_620 dX6_reads_167 ?_
  refine ev_if_ne (tgt := 218) dX6_reads_170 (by decide) (fun c1 => ?_) (fun c1 => ?_)
  · replace hf := if_f c1 hf
    exact jn_X6_reads_218 kl0 hx0 hk hf
  · replace hf := if_t c1 hf
    refine ev_aload_n (n := 0) dX6_reads_173 rfl rfl ?_
    obtain ⟨h17, e18, hf⟩ := bn1_of hf
    refine ev_callVv (As := []) cal_X6_blanks kl0 rfl (ev_X6_blanks kl0 e18) (Nat.le_of_ble_eq_true rfl) rfl lk_970 (by decide) (by decide) (Nat.le_of_ble_eq_true rfl) dX6_reads_174 rfl ?_
    refine ev_aload_n (n := 0) dX6_reads_177 rfl rfl ?_
    refine ev_aload_n (n := 0) dX6_reads_178 rfl rfl ?_
    refine ev_bipush (v := 59) dX6_reads_179 (by decide) ?_
    refine ev_bipush (v := 59) dX6_reads_181 (by decide) ?_
    obtain ⟨v19, e20, hf⟩ := bn1_of hf
    refine ev_callVi (As := [.int (59 : Int32), .int (59 : Int32)]) cal_X6_isAt kl0 rfl (ev_X6_isAt kl0 e20) (Nat.le_of_ble_eq_true rfl) rfl lk_974 (by decide) (by decide) (Nat.le_of_ble_eq_true rfl) dX6_reads_183 rfl ?_
    refine ev_if_ne (tgt := 193) dX6_reads_186 (by decide) (fun c1 => ?_) (fun c1 => ?_)
    · replace hf := if_f c1 hf
      refine ev_iconst (v := 0) dX6_reads_193 (by decide) ?_
      exact jn_X6_reads_194 kl0 kl0 hx0 hk hf
    · replace hf := if_t c1 hf
      refine ev_iconst (v := 1) dX6_reads_189 (by decide) ?_
      refine ev_goto (tgt := 194) dX6_reads_190 (by decide) ?_
      exact jn_X6_reads_194 kl0 kl0 hx0 hk hf
def f_X6_reads_j157 (kk : Int32 → Hp → Option (Int32 × Hp)) (h : Hp) (s0 : Nat) (s1 : Int32) (l0 : Nat) (l1 : Int32) (l2 : Int32) (l3 : Int32) : Option (Int32 × Hp) := (f_X6_reads_j165 kk h s0 s1 (0 : Int32) l0 l1 l2 l3)
set_option maxRecDepth 100000 in
set_option maxHeartbeats 4000000 in
theorem jn_X6_reads_157 {g : Gl} {h : Hp} {kk : Int32 → Hp → Option (Int32 × Hp)} {s0 : Nat} {s1 : Int32} {l0 : Nat} {l1 : Int32} {l2 : Int32} {l3 : Int32}  {r : Option Value} {h2 : Hp} {o2 : Int32} {h3 : Hp} (ks0 : KD g.1 s0 6 2) (kl0 : KD g.1 l0 5 0) (hx0 : Ev yX6_reads cX6_reads 4 (some .int) 10 228 g 252 [] [(0, .ref l0), (2, .int o2)] h3 r h2) (hk : ∀ (x2 : Int32) (hq : Hp), kk x2 hq = some (o2, h3) → Ev yX6_reads cX6_reads 4 (some .int) 10 228 g 36 [] [(0, .ref l0), (1, .int l1), (2, .int x2)] hq r h2) (hf : f_X6_reads_j157 kk h s0 s1 l0 l1 l2 l3 = some (o2, h3)) : Ev yX6_reads cX6_reads 4 (some .int) 10 228 g 157 [.int s1, .ref s0] [(0, .ref l0), (1, .int l1), (2, .int l2), (3, .int l3)] h r h2 := by
  unfold f_X6_reads_j157 at hf
  refine ev_iconst (v := 0) dX6_reads_157 (by decide) ?_
  refine ev_goto (tgt := 165) dX6_reads_158 (by decide) ?_
  exact jn_X6_reads_165 ks0 kl0 hx0 hk hf
def f_X6_reads_j138 (kk : Int32 → Hp → Option (Int32 × Hp)) (h : Hp) (s0 : Nat) (s1 : Int32) (s2 : Int32) (l0 : Nat) (l1 : Int32) (l2 : Int32) (l3 : Int32) : Option (Int32 × Hp) := (if inb s1 2 = true then (if (hI (sI h s0 s1.toNatClampNeg s2) l0 14) = 0 then (if l3 = (114 : Int32) then (f_X6_reads_j157 kk (sI h s0 s1.toNatClampNeg s2) (l0 + 11) (1 : Int32) l0 l1 l2 l3) else (bn2 (f_X6_number (sI h s0 s1.toNatClampNeg s2) l0) (fun v22 h23 => (f_X6_reads_j165 kk h23 (l0 + 11) (1 : Int32) v22 l0 l1 l2 l3)))) else (f_X6_reads_j157 kk (sI h s0 s1.toNatClampNeg s2) (l0 + 11) (1 : Int32) l0 l1 l2 l3)) else none)
set_option maxRecDepth 100000 in
set_option maxHeartbeats 4000000 in
theorem jn_X6_reads_138 {g : Gl} {h : Hp} {kk : Int32 → Hp → Option (Int32 × Hp)} {s0 : Nat} {s1 : Int32} {s2 : Int32} {l0 : Nat} {l1 : Int32} {l2 : Int32} {l3 : Int32}  {r : Option Value} {h2 : Hp} {o2 : Int32} {h3 : Hp} (ks0 : KD g.1 s0 6 2) (kl0 : KD g.1 l0 5 0) (hx0 : Ev yX6_reads cX6_reads 4 (some .int) 10 228 g 252 [] [(0, .ref l0), (2, .int o2)] h3 r h2) (hk : ∀ (x2 : Int32) (hq : Hp), kk x2 hq = some (o2, h3) → Ev yX6_reads cX6_reads 4 (some .int) 10 228 g 36 [] [(0, .ref l0), (1, .int l1), (2, .int x2)] hq r h2) (hf : f_X6_reads_j138 kk h s0 s1 s2 l0 l1 l2 l3 = some (o2, h3)) : Ev yX6_reads cX6_reads 4 (some .int) 10 228 g 138 [.int s2, .int s1, .ref s0] [(0, .ref l0), (1, .int l1), (2, .int l2), (3, .int l3)] h r h2 := by
  unfold f_X6_reads_j138 at hf
  obtain ⟨gd10, hf⟩ := gd_of hf
  refine ev_iast ks0 (inb_of gd10) dX6_reads_138 ?_
  refine ev_aload_n (n := 0) dX6_reads_139 rfl rfl ?_
  refine ev_get (v := .ref (l0 + 11)) 15 kl0 rfl (by decide) rfl lk_621 dX6_reads_140 ?_
  refine ev_iconst (v := 1) dX6_reads_143 (by decide) ?_
  refine ev_aload_n (n := 0) dX6_reads_144 rfl rfl ?_
  refine ev_get (v := .int (hI (sI h s0 s1.toNatClampNeg s2) l0 14)) 14 kl0 rfl (by decide) rfl lk_620 dX6_reads_145 ?_
  refine ev_if_ne (tgt := 157) dX6_reads_148 (by decide) (fun c1 => ?_) (fun c1 => ?_)
  · replace hf := if_f c1 hf
    exact jn_X6_reads_157 (kd_5_15 kl0) kl0 hx0 hk hf
  · replace hf := if_t c1 hf
    refine ev_iload_n (n := 3) dX6_reads_151 rfl rfl ?_
    refine ev_bipush (v := 114) dX6_reads_152 (by decide) ?_
    refine ev_icmp_ne (tgt := 161) dX6_reads_154 (by decide) (fun c1 => ?_) (fun c1 => ?_)
    · replace hf := if_f c1 hf
      refine ev_aload_n (n := 0) dX6_reads_161 rfl rfl ?_
      obtain ⟨v22, h23, e24, hf⟩ := bn2_of hf
      refine ev_callVi (As := []) cal_X6_number kl0 rfl (ev_X6_number kl0 e24) (Nat.le_of_ble_eq_true rfl) rfl lk_978 (by decide) (by decide) (Nat.le_of_ble_eq_true rfl) dX6_reads_162 rfl ?_
      exact jn_X6_reads_165 (kd_5_15 kl0) kl0 hx0 hk hf
    · replace hf := if_t c1 hf
      exact jn_X6_reads_157 (kd_5_15 kl0) kl0 hx0 hk hf
def f_X6_reads_j114 (kk : Int32 → Hp → Option (Int32 × Hp)) (h : Hp) (s0 : Nat) (s1 : Int32) (s2 : Int32) (l0 : Nat) (l1 : Int32) (l2 : Int32) (l3 : Int32) : Option (Int32 × Hp) := (if (hI (sI h s0 13 (s1 + s2)) l0 14) = 0 then (bn2 (f_X6_number (sI h s0 13 (s1 + s2)) l0) (fun v7 h8 => (f_X6_reads_j138 kk h8 (l0 + 11) (0 : Int32) v7 l0 l1 l2 l3))) else (f_X6_reads_j138 kk (sI h s0 13 (s1 + s2)) (l0 + 11) (0 : Int32) (0 : Int32) l0 l1 l2 l3))
set_option maxRecDepth 100000 in
set_option maxHeartbeats 4000000 in
theorem jn_X6_reads_114 {g : Gl} {h : Hp} {kk : Int32 → Hp → Option (Int32 × Hp)} {s0 : Nat} {s1 : Int32} {s2 : Int32} {l0 : Nat} {l1 : Int32} {l2 : Int32} {l3 : Int32}  {r : Option Value} {h2 : Hp} {o2 : Int32} {h3 : Hp} (ks0 : KD g.1 s0 5 0) (kl0 : KD g.1 l0 5 0) (hx0 : Ev yX6_reads cX6_reads 4 (some .int) 10 228 g 252 [] [(0, .ref l0), (2, .int o2)] h3 r h2) (hk : ∀ (x2 : Int32) (hq : Hp), kk x2 hq = some (o2, h3) → Ev yX6_reads cX6_reads 4 (some .int) 10 228 g 36 [] [(0, .ref l0), (1, .int l1), (2, .int x2)] hq r h2) (hf : f_X6_reads_j114 kk h s0 s1 s2 l0 l1 l2 l3 = some (o2, h3)) : Ev yX6_reads cX6_reads 4 (some .int) 10 228 g 114 [.int s2, .int s1, .ref s0] [(0, .ref l0), (1, .int l1), (2, .int l2), (3, .int l3)] h r h2 := by
  unfold f_X6_reads_j114 at hf
  refine ev_iadd dX6_reads_114 ?_
  refine ev_putI 13 ks0 rfl (by decide) rfl (by decide +kernel) rfl (by exact Nat.le_of_ble_eq_true rfl) lk_619 dX6_reads_115 ?_
  refine ev_aload_n (n := 0) dX6_reads_118 rfl rfl ?_
  refine ev_get (v := .ref (l0 + 11)) 15 kl0 rfl (by decide) rfl lk_621 dX6_reads_119 ?_
  refine ev_iconst (v := 0) dX6_reads_122 (by decide) ?_
  refine ev_aload_n (n := 0) dX6_reads_123 rfl rfl ?_
  refine ev_get (v := .int (hI (sI h s0 13 (s1 + s2)) l0 14)) 14 kl0 rfl (by decide) rfl lk_620 dX6_reads_124 ?_
  refine ev_if_eq (tgt := 134) dX6_reads_127 (by decide) (fun c1 => ?_) (fun c1 => ?_)
  · replace hf := if_t c1 hf
    refine ev_aload_n (n := 0) dX6_reads_134 rfl rfl ?_
    obtain ⟨v7, h8, e9, hf⟩ := bn2_of hf
    refine ev_callVi (As := []) cal_X6_number kl0 rfl (ev_X6_number kl0 e9) (Nat.le_of_ble_eq_true rfl) rfl lk_978 (by decide) (by decide) (Nat.le_of_ble_eq_true rfl) dX6_reads_135 rfl ?_
    exact jn_X6_reads_138 (kd_5_15 kl0) kl0 hx0 hk hf
  · replace hf := if_f c1 hf
    refine ev_iconst (v := 0) dX6_reads_130 (by decide) ?_
    refine ev_goto (tgt := 138) dX6_reads_131 (by decide) ?_
    exact jn_X6_reads_138 (kd_5_15 kl0) kl0 hx0 hk hf
def f_X6_reads_j94 (kk : Int32 → Hp → Option (Int32 × Hp)) (h : Hp) (s0 : Nat) (s1 : Int32) (l0 : Nat) (l1 : Int32) (l2 : Int32) (l3 : Int32) : Option (Int32 × Hp) := (if isBb s1 = true then (if (hI (sI h s0 14 s1) l0 14) = 0 then (f_X6_reads_j114 kk (sI h s0 14 s1) l0 (hI (sI h s0 14 s1) l0 13) (1 : Int32) l0 l1 l2 l3) else (f_X6_reads_j114 kk (sI h s0 14 s1) l0 (hI (sI h s0 14 s1) l0 13) (0 : Int32) l0 l1 l2 l3)) else none)
set_option maxRecDepth 100000 in
set_option maxHeartbeats 4000000 in
theorem jn_X6_reads_94 {g : Gl} {h : Hp} {kk : Int32 → Hp → Option (Int32 × Hp)} {s0 : Nat} {s1 : Int32} {l0 : Nat} {l1 : Int32} {l2 : Int32} {l3 : Int32}  {r : Option Value} {h2 : Hp} {o2 : Int32} {h3 : Hp} (ks0 : KD g.1 s0 5 0) (kl0 : KD g.1 l0 5 0) (hx0 : Ev yX6_reads cX6_reads 4 (some .int) 10 228 g 252 [] [(0, .ref l0), (2, .int o2)] h3 r h2) (hk : ∀ (x2 : Int32) (hq : Hp), kk x2 hq = some (o2, h3) → Ev yX6_reads cX6_reads 4 (some .int) 10 228 g 36 [] [(0, .ref l0), (1, .int l1), (2, .int x2)] hq r h2) (hf : f_X6_reads_j94 kk h s0 s1 l0 l1 l2 l3 = some (o2, h3)) : Ev yX6_reads cX6_reads 4 (some .int) 10 228 g 94 [.int s1, .ref s0] [(0, .ref l0), (1, .int l1), (2, .int l2), (3, .int l3)] h r h2 := by
  unfold f_X6_reads_j94 at hf
  obtain ⟨gd6, hf⟩ := gd_of hf
  refine ev_putZ 14 ks0 rfl (by decide) rfl (by decide +kernel) (isBb_of gd6) rfl (by exact Nat.le_of_ble_eq_true rfl) lk_620 dX6_reads_94 ?_
  refine ev_aload_n (n := 0) dX6_reads_97 rfl rfl ?_
  refine ev_dup dX6_reads_98 rfl ?_
  refine ev_get (v := .int (hI (sI h s0 14 s1) l0 13)) 13 kl0 rfl (by decide) rfl lk_619 dX6_reads_99 ?_
  refine ev_aload_n (n := 0) dX6_reads_102 rfl rfl ?_
  refine ev_get (v := .int (hI (sI h s0 14 s1) l0 14)) 14 kl0 rfl (by decide) rfl lk_620 dX6_reads_103 ?_
  refine ev_if_eq (tgt := 113) dX6_reads_106 (by decide) (fun c1 => ?_) (fun c1 => ?_)
  · replace hf := if_t c1 hf
    refine ev_iconst (v := 1) dX6_reads_113 (by decide) ?_
    exact jn_X6_reads_114 kl0 kl0 hx0 hk hf
  · replace hf := if_f c1 hf
    refine ev_iconst (v := 0) dX6_reads_109 (by decide) ?_
    refine ev_goto (tgt := 114) dX6_reads_110 (by decide) ?_
    exact jn_X6_reads_114 kl0 kl0 hx0 hk hf
def f_X6_reads_j93 (kk : Int32 → Hp → Option (Int32 × Hp)) (h : Hp) (s0 : Nat) (l0 : Nat) (l1 : Int32) (l2 : Int32) (l3 : Int32) : Option (Int32 × Hp) := (f_X6_reads_j94 kk h s0 (0 : Int32) l0 l1 l2 l3)
set_option maxRecDepth 100000 in
set_option maxHeartbeats 4000000 in
theorem jn_X6_reads_93 {g : Gl} {h : Hp} {kk : Int32 → Hp → Option (Int32 × Hp)} {s0 : Nat} {l0 : Nat} {l1 : Int32} {l2 : Int32} {l3 : Int32}  {r : Option Value} {h2 : Hp} {o2 : Int32} {h3 : Hp} (ks0 : KD g.1 s0 5 0) (kl0 : KD g.1 l0 5 0) (hx0 : Ev yX6_reads cX6_reads 4 (some .int) 10 228 g 252 [] [(0, .ref l0), (2, .int o2)] h3 r h2) (hk : ∀ (x2 : Int32) (hq : Hp), kk x2 hq = some (o2, h3) → Ev yX6_reads cX6_reads 4 (some .int) 10 228 g 36 [] [(0, .ref l0), (1, .int l1), (2, .int x2)] hq r h2) (hf : f_X6_reads_j93 kk h s0 l0 l1 l2 l3 = some (o2, h3)) : Ev yX6_reads cX6_reads 4 (some .int) 10 228 g 93 [.ref s0] [(0, .ref l0), (1, .int l1), (2, .int l2), (3, .int l3)] h r h2 := by
  unfold f_X6_reads_j93 at hf
  refine ev_iconst (v := 0) dX6_reads_93 (by decide) ?_
  exact jn_X6_reads_94 ks0 kl0 hx0 hk hf
def f_X6_reads_l36 (l0 : Nat) (l1 : Int32) : Nat → Int32 → Hp → Option (Int32 × Hp)
  | 0, _, _ => none
  | fu1 + 1, l2, h => (if (hI h l0 14) = 0 then (if (hI h l0 12) ≤ (hI h l0 13) then (some (l2, h)) else (if inb (hI h l0 13) 120 = true then (if (hI h (l0 + 10) (hI h l0 13).toNatClampNeg) = (112 : Int32) then (f_X6_reads_j93 (f_X6_reads_l36 l0 l1 fu1) h l0 l0 l1 l2 (hI h (l0 + 10) (hI h l0 13).toNatClampNeg)) else (if (hI h (l0 + 10) (hI h l0 13).toNatClampNeg) = (103 : Int32) then (f_X6_reads_j93 (f_X6_reads_l36 l0 l1 fu1) h l0 l0 l1 l2 (hI h (l0 + 10) (hI h l0 13).toNatClampNeg)) else (if (hI h (l0 + 10) (hI h l0 13).toNatClampNeg) = (114 : Int32) then (f_X6_reads_j93 (f_X6_reads_l36 l0 l1 fu1) h l0 l0 l1 l2 (hI h (l0 + 10) (hI h l0 13).toNatClampNeg)) else (if (hI h (l0 + 10) (hI h l0 13).toNatClampNeg) = (115 : Int32) then (f_X6_reads_j93 (f_X6_reads_l36 l0 l1 fu1) h l0 l0 l1 l2 (hI h (l0 + 10) (hI h l0 13).toNatClampNeg)) else (f_X6_reads_j94 (f_X6_reads_l36 l0 l1 fu1) h l0 (1 : Int32) l0 l1 l2 (hI h (l0 + 10) (hI h l0 13).toNatClampNeg)))))) else none)) else (some (l2, h)))
theorem f_X6_reads_l36_s (l0 : Nat) (l1 : Int32) (fu1 : Nat) (l2 : Int32) (h : Hp) : f_X6_reads_l36 l0 l1 (fu1 + 1) l2 h = (if (hI h l0 14) = 0 then (if (hI h l0 12) ≤ (hI h l0 13) then (some (l2, h)) else (if inb (hI h l0 13) 120 = true then (if (hI h (l0 + 10) (hI h l0 13).toNatClampNeg) = (112 : Int32) then (f_X6_reads_j93 (f_X6_reads_l36 l0 l1 fu1) h l0 l0 l1 l2 (hI h (l0 + 10) (hI h l0 13).toNatClampNeg)) else (if (hI h (l0 + 10) (hI h l0 13).toNatClampNeg) = (103 : Int32) then (f_X6_reads_j93 (f_X6_reads_l36 l0 l1 fu1) h l0 l0 l1 l2 (hI h (l0 + 10) (hI h l0 13).toNatClampNeg)) else (if (hI h (l0 + 10) (hI h l0 13).toNatClampNeg) = (114 : Int32) then (f_X6_reads_j93 (f_X6_reads_l36 l0 l1 fu1) h l0 l0 l1 l2 (hI h (l0 + 10) (hI h l0 13).toNatClampNeg)) else (if (hI h (l0 + 10) (hI h l0 13).toNatClampNeg) = (115 : Int32) then (f_X6_reads_j93 (f_X6_reads_l36 l0 l1 fu1) h l0 l0 l1 l2 (hI h (l0 + 10) (hI h l0 13).toNatClampNeg)) else (f_X6_reads_j94 (f_X6_reads_l36 l0 l1 fu1) h l0 (1 : Int32) l0 l1 l2 (hI h (l0 + 10) (hI h l0 13).toNatClampNeg)))))) else none)) else (some (l2, h))) := rfl
theorem f_X6_reads_l36_0 (l0 : Nat) (l1 : Int32) (l2 : Int32) (h : Hp) : f_X6_reads_l36 l0 l1 0 l2 h = none := rfl
set_option maxRecDepth 100000 in
set_option maxHeartbeats 4000000 in
theorem lp_X6_reads_36 {g : Gl} {l0 : Nat} {l1 : Int32} {r : Option Value} {h2 : Hp} {o2 : Int32} {h3 : Hp} (kl0 : KD g.1 l0 5 0) (hx0 : Ev yX6_reads cX6_reads 4 (some .int) 10 228 g 252 [] [(0, .ref l0), (2, .int o2)] h3 r h2) : ∀ (fu1 : Nat) (l2 : Int32) (h : Hp), f_X6_reads_l36 l0 l1 fu1 l2 h = some (o2, h3) → Ev yX6_reads cX6_reads 4 (some .int) 10 228 g 36 [] [(0, .ref l0), (1, .int l1), (2, .int l2)] h r h2 := by
  intro fu1
  induction fu1 with
  | zero =>
    intro l2 h hf
    cases hf
  | succ fu1 ih =>
    intro l2 h hf
    rw [f_X6_reads_l36_s] at hf
    have hk := ih
    refine ev_aload_n (n := 0) dX6_reads_36 rfl rfl ?_
    refine ev_get (v := .int (hI h l0 14)) 14 kl0 rfl (by decide) rfl lk_620 dX6_reads_37 ?_
    refine ev_if_ne (tgt := 252) dX6_reads_40 (by decide) (fun c1 => ?_) (fun c1 => ?_)
    · replace hf := if_f c1 hf
      refine ev_sub [0, 2] rfl (lv2 := [(0, .ref l0), (2, .int l2)]) ?_
      obtain ⟨rfl, rfl⟩ := Prod.mk.inj (Option.some.inj hf)
      exact hx0
    · replace hf := if_t c1 hf
      refine ev_aload_n (n := 0) dX6_reads_43 rfl rfl ?_
      refine ev_get (v := .int (hI h l0 13)) 13 kl0 rfl (by decide) rfl lk_619 dX6_reads_44 ?_
      refine ev_aload_n (n := 0) dX6_reads_47 rfl rfl ?_
      refine ev_get (v := .int (hI h l0 12)) 12 kl0 rfl (by decide) rfl lk_618 dX6_reads_48 ?_
      refine ev_icmp_ge (tgt := 252) dX6_reads_51 (by decide) (fun c1 => ?_) (fun c1 => ?_)
      · replace hf := if_t c1 hf
        refine ev_sub [0, 2] rfl (lv2 := [(0, .ref l0), (2, .int l2)]) ?_
        obtain ⟨rfl, rfl⟩ := Prod.mk.inj (Option.some.inj hf)
        exact hx0
      · replace hf := if_f c1 hf
        refine ev_aload_n (n := 0) dX6_reads_54 rfl rfl ?_
        refine ev_get (v := .ref (l0 + 10)) 11 kl0 rfl (by decide) rfl lk_617 dX6_reads_55 ?_
        refine ev_aload_n (n := 0) dX6_reads_58 rfl rfl ?_
        refine ev_get (v := .int (hI h l0 13)) 13 kl0 rfl (by decide) rfl lk_619 dX6_reads_59 ?_
        obtain ⟨gd5, hf⟩ := gd_of hf
        refine ev_iald (kd_5_11 kl0) (inb_of gd5) dX6_reads_62 ?_
        refine ev_istore_n (lv2 := [(3, .int (hI h (l0 + 10) (hI h l0 13).toNatClampNeg)), (0, .ref l0), (1, .int l1), (2, .int l2)]) dX6_reads_63 rfl (by decide) rfl ?_
        refine ev_aload_n (n := 1) dX6_reads_64 rfl rfl ?_
        refine ev_iload_n (n := 0) dX6_reads_65 rfl rfl ?_
        refine ev_bipush (v := 112) dX6_reads_66 (by decide) ?_
        refine ev_icmp_eq (tgt := 93) dX6_reads_68 (by decide) (fun c1 => ?_) (fun c1 => ?_)
        · replace hf := if_t c1 hf
          refine ev_sub [1, 2, 3, 0] rfl (lv2 := [(0, .ref l0), (1, .int l1), (2, .int l2), (3, .int (hI h (l0 + 10) (hI h l0 13).toNatClampNeg))]) ?_
          exact jn_X6_reads_93 kl0 kl0 hx0 hk hf
        · replace hf := if_f c1 hf
          refine ev_iload_n (n := 0) dX6_reads_71 rfl rfl ?_
          refine ev_bipush (v := 103) dX6_reads_72 (by decide) ?_
          refine ev_icmp_eq (tgt := 93) dX6_reads_74 (by decide) (fun c1 => ?_) (fun c1 => ?_)
          · replace hf := if_t c1 hf
            refine ev_sub [1, 2, 3, 0] rfl (lv2 := [(0, .ref l0), (1, .int l1), (2, .int l2), (3, .int (hI h (l0 + 10) (hI h l0 13).toNatClampNeg))]) ?_
            exact jn_X6_reads_93 kl0 kl0 hx0 hk hf
          · replace hf := if_f c1 hf
            refine ev_iload_n (n := 0) dX6_reads_77 rfl rfl ?_
            refine ev_bipush (v := 114) dX6_reads_78 (by decide) ?_
            refine ev_icmp_eq (tgt := 93) dX6_reads_80 (by decide) (fun c1 => ?_) (fun c1 => ?_)
            · replace hf := if_t c1 hf
              refine ev_sub [1, 2, 3, 0] rfl (lv2 := [(0, .ref l0), (1, .int l1), (2, .int l2), (3, .int (hI h (l0 + 10) (hI h l0 13).toNatClampNeg))]) ?_
              exact jn_X6_reads_93 kl0 kl0 hx0 hk hf
            · replace hf := if_f c1 hf
              refine ev_iload_n (n := 0) dX6_reads_83 rfl rfl ?_
              refine ev_bipush (v := 115) dX6_reads_84 (by decide) ?_
              refine ev_icmp_eq (tgt := 93) dX6_reads_86 (by decide) (fun c1 => ?_) (fun c1 => ?_)
              · replace hf := if_t c1 hf
                refine ev_sub [1, 2, 3, 0] rfl (lv2 := [(0, .ref l0), (1, .int l1), (2, .int l2), (3, .int (hI h (l0 + 10) (hI h l0 13).toNatClampNeg))]) ?_
                exact jn_X6_reads_93 kl0 kl0 hx0 hk hf
              · replace hf := if_f c1 hf
                refine ev_iconst (v := 1) dX6_reads_89 (by decide) ?_
                refine ev_goto (tgt := 94) dX6_reads_90 (by decide) ?_
                refine ev_sub [1, 2, 3, 0] rfl (lv2 := [(0, .ref l0), (1, .int l1), (2, .int l2), (3, .int (hI h (l0 + 10) (hI h l0 13).toNatClampNeg))]) ?_
                exact jn_X6_reads_94 kl0 kl0 hx0 hk hf
def f_X6_reads_j252 (h : Hp) (l0 : Nat) (l2 : Int32) : Option (Int32 × Hp) := (if (hI h l0 14) = 0 then (some (l2, h)) else (some ((-1 : Int32), h)))
set_option maxRecDepth 100000 in
set_option maxHeartbeats 4000000 in
theorem jn_X6_reads_252 {g : Gl} {h : Hp} {l0 : Nat} {l2 : Int32}  {rv : Int32} {h2 : Hp} (kl0 : KD g.1 l0 5 0)   (hf : f_X6_reads_j252 h l0 l2 = some (rv, h2)) : Ev yX6_reads cX6_reads 4 (some .int) 10 228 g 252 [] [(0, .ref l0), (2, .int l2)] h (some (.int rv)) h2 := by
  unfold f_X6_reads_j252 at hf
  refine ev_aload_n (n := 0) dX6_reads_252 rfl rfl ?_
  refine ev_get (v := .int (hI h l0 14)) 14 kl0 rfl (by decide) rfl lk_620 dX6_reads_253 ?_
  refine ev_if_eq (tgt := 263) dX6_reads_256 (by decide) (fun c1 => ?_) (fun c1 => ?_)
  · replace hf := if_t c1 hf
    refine ev_iload_n (n := 1) dX6_reads_263 rfl rfl ?_
    obtain ⟨rfl, rfl⟩ := Prod.mk.inj (Option.some.inj hf)
    exact ev_ireturn dX6_reads_264 ⟨.int, rfl, rfl⟩
  · replace hf := if_f c1 hf
    refine ev_iconst (v := -1) dX6_reads_259 (by decide) ?_
    refine ev_goto (tgt := 264) dX6_reads_260 (by decide) ?_
    obtain ⟨rfl, rfl⟩ := Prod.mk.inj (Option.some.inj hf)
    exact ev_ireturn dX6_reads_264 ⟨.int, rfl, rfl⟩
def f_X6_reads_j33 (h : Hp) (s0 : Nat) (s1 : Int32) (l0 : Nat) (l1 : Int32) (l2 : Int32) : Option (Int32 × Hp) := (if isBb s1 = true then (bn2 (f_X6_reads_l36 l0 l1 fu l2 (sI h s0 14 s1)) (fun w2_25 h26 => (f_X6_reads_j252 h26 l0 w2_25))) else none)
set_option maxRecDepth 100000 in
set_option maxHeartbeats 4000000 in
theorem jn_X6_reads_33 {g : Gl} {h : Hp} {s0 : Nat} {s1 : Int32} {l0 : Nat} {l1 : Int32} {l2 : Int32}  {rv : Int32} {h2 : Hp} (ks0 : KD g.1 s0 5 0) (kl0 : KD g.1 l0 5 0)   (hf : f_X6_reads_j33 h s0 s1 l0 l1 l2 = some (rv, h2)) : Ev yX6_reads cX6_reads 4 (some .int) 10 228 g 33 [.int s1, .ref s0] [(0, .ref l0), (1, .int l1), (2, .int l2)] h (some (.int rv)) h2 := by
  unfold f_X6_reads_j33 at hf
  obtain ⟨gd4, hf⟩ := gd_of hf
  refine ev_putZ 14 ks0 rfl (by decide) rfl (by decide +kernel) (isBb_of gd4) rfl (by exact Nat.le_of_ble_eq_true rfl) lk_620 dX6_reads_33 ?_
  obtain ⟨w2_25, h26, e27, hf⟩ := bn2_of hf
  refine lp_X6_reads_36 kl0 ?_ fu _ _ e27
  exact jn_X6_reads_252 kl0 hf
def f_X6_reads (h : Hp) (l0 : Nat) (l1 : Int32) : Option (Int32 × Hp) := (if isBb (0 : Int32) = true then (bn1 (f_X6_blanks (sI (sI h l0 13 (0 : Int32)) l0 14 (0 : Int32)) l0) (fun h2 => (if (hI h2 l0 13) = (hI h2 l0 12) then (f_X6_reads_j33 h2 l0 (1 : Int32) l0 l1 (0 : Int32)) else (f_X6_reads_j33 h2 l0 (0 : Int32) l0 l1 (0 : Int32))))) else none)
set_option maxRecDepth 100000 in
set_option maxHeartbeats 4000000 in
theorem ev_X6_reads {g : Gl} {h : Hp} {l0 : Nat} {l1 : Int32} {rv : Int32} {h2 : Hp} (kl0 : KD g.1 l0 5 0) (hf : f_X6_reads h l0 l1 = some (rv, h2)) : Ev yX6_reads cX6_reads 4 (some .int) 10 228 g 0 [] [(0, .ref l0), (1, .int l1)] h (some (.int rv)) h2 := by
  unfold f_X6_reads at hf
  refine ev_aload_n (n := 0) dX6_reads_0 rfl rfl ?_
  refine ev_iconst (v := 0) dX6_reads_1 (by decide) ?_
  refine ev_putI 13 kl0 rfl (by decide) rfl (by decide +kernel) rfl (by exact Nat.le_of_ble_eq_true rfl) lk_619 dX6_reads_2 ?_
  refine ev_aload_n (n := 0) dX6_reads_5 rfl rfl ?_
  refine ev_iconst (v := 0) dX6_reads_6 (by decide) ?_
  obtain ⟨gd1, hf⟩ := gd_of hf
  refine ev_putZ 14 kl0 rfl (by decide) rfl (by decide +kernel) (isBb_of gd1) rfl (by exact Nat.le_of_ble_eq_true rfl) lk_620 dX6_reads_7 ?_
  refine ev_iconst (v := 0) dX6_reads_10 (by decide) ?_
  refine ev_istore_n (lv2 := [(2, .int (0 : Int32)), (0, .ref l0), (1, .int l1)]) dX6_reads_11 rfl (by decide) rfl ?_
  refine ev_aload_n (n := 1) dX6_reads_12 rfl rfl ?_
  obtain ⟨h2, e3, hf⟩ := bn1_of hf
  refine ev_callVv (As := []) cal_X6_blanks kl0 rfl (ev_X6_blanks kl0 e3) (Nat.le_of_ble_eq_true rfl) rfl lk_970 (by decide) (by decide) (Nat.le_of_ble_eq_true rfl) dX6_reads_13 rfl ?_
  refine ev_aload_n (n := 1) dX6_reads_16 rfl rfl ?_
  refine ev_aload_n (n := 1) dX6_reads_17 rfl rfl ?_
  refine ev_get (v := .int (hI h2 l0 13)) 13 kl0 rfl (by decide) rfl lk_619 dX6_reads_18 ?_
  refine ev_aload_n (n := 1) dX6_reads_21 rfl rfl ?_
  refine ev_get (v := .int (hI h2 l0 12)) 12 kl0 rfl (by decide) rfl lk_618 dX6_reads_22 ?_
  refine ev_icmp_ne (tgt := 32) dX6_reads_25 (by decide) (fun c1 => ?_) (fun c1 => ?_)
  · replace hf := if_f c1 hf
    refine ev_iconst (v := 0) dX6_reads_32 (by decide) ?_
    refine ev_sub [1, 2, 0] rfl (lv2 := [(0, .ref l0), (1, .int l1), (2, .int (0 : Int32))]) ?_
    exact jn_X6_reads_33 kl0 kl0 hf
  · replace hf := if_t c1 hf
    refine ev_iconst (v := 1) dX6_reads_28 (by decide) ?_
    refine ev_goto (tgt := 33) dX6_reads_29 (by decide) ?_
    refine ev_sub [1, 2, 0] rfl (lv2 := [(0, .ref l0), (1, .int l1), (2, .int (0 : Int32))]) ?_
    exact jn_X6_reads_33 kl0 kl0 hf
def f_X6_does (h : Hp) (l0 : Nat) : Option (Int32 × Hp) := (bn2 (f_X6_reads h l0 (0 : Int32)) (fun v1 h2 => (if v1 = (-1 : Int32) then (some (((-10 : Int32) - (hI h2 l0 13)), h2)) else (bn1 (f_X6_leavesState h2 l0) (fun h4 => (bn2 (f_X6_reads h4 l0 (1 : Int32)) (fun v6 h7 => (some (v6, h7)))))))))
set_option maxRecDepth 100000 in
set_option maxHeartbeats 4000000 in
theorem ev_X6_does {g : Gl} {h : Hp} {l0 : Nat} {rv : Int32} {h2 : Hp} (kl0 : KD g.1 l0 5 0) (hf : f_X6_does h l0 = some (rv, h2)) : Ev yX6_does cX6_does 1 (some .int) 11 251 g 0 [] [(0, .ref l0)] h (some (.int rv)) h2 := by
  unfold f_X6_does at hf
  refine ev_aload_n (n := 0) dX6_does_0 rfl rfl ?_
  refine ev_iconst (v := 0) dX6_does_1 (by decide) ?_
  obtain ⟨v1, h2, e3, hf⟩ := bn2_of hf
  refine ev_callVi (As := [.int (0 : Int32)]) cal_X6_reads kl0 rfl (ev_X6_reads kl0 e3) (Nat.le_of_ble_eq_true rfl) rfl lk_966 (by decide) (by decide) (Nat.le_of_ble_eq_true rfl) dX6_does_2 rfl ?_
  refine ev_iconst (v := -1) dX6_does_5 (by decide) ?_
  refine ev_icmp_ne (tgt := 17) dX6_does_6 (by decide) (fun c1 => ?_) (fun c1 => ?_)
  · replace hf := if_f c1 hf
    refine ev_aload_n (n := 0) dX6_does_17 rfl rfl ?_
    obtain ⟨h4, e5, hf⟩ := bn1_of hf
    refine ev_callVv (As := []) cal_X6_leavesState kl0 rfl (ev_X6_leavesState kl0 e5) (Nat.le_of_ble_eq_true rfl) rfl lk_676 (by decide) (by decide) (Nat.le_of_ble_eq_true rfl) dX6_does_18 rfl ?_
    refine ev_aload_n (n := 0) dX6_does_21 rfl rfl ?_
    refine ev_iconst (v := 1) dX6_does_22 (by decide) ?_
    obtain ⟨v6, h7, e8, hf⟩ := bn2_of hf
    refine ev_callVi (As := [.int (1 : Int32)]) cal_X6_reads kl0 rfl (ev_X6_reads kl0 e8) (Nat.le_of_ble_eq_true rfl) rfl lk_966 (by decide) (by decide) (Nat.le_of_ble_eq_true rfl) dX6_does_23 rfl ?_
    obtain ⟨rfl, rfl⟩ := Prod.mk.inj (Option.some.inj hf)
    exact ev_ireturn dX6_does_26 ⟨.int, rfl, rfl⟩
  · replace hf := if_t c1 hf
    refine ev_bipush (v := -10) dX6_does_9 (by decide) ?_
    refine ev_aload_n (n := 0) dX6_does_11 rfl rfl ?_
    refine ev_get (v := .int (hI h2 l0 13)) 13 kl0 rfl (by decide) rfl lk_619 dX6_does_12 ?_
    refine ev_isub dX6_does_15 ?_
    obtain ⟨rfl, rfl⟩ := Prod.mk.inj (Option.some.inj hf)
    exact ev_ireturn dX6_does_16 ⟨.int, rfl, rfl⟩
def f_X6_toldOf (h : Hp) (l0 : Nat) (l1 : Int32) : Option (Int32) := (if (3 : Int32) ≤ l1 then (if (7 : Int32) ≤ l1 then (if l1 = (7 : Int32) then (some (hI h l0 12)) else (some (hI h l0 4))) else (if inb (((8 : Int32) + l1) - (3 : Int32)) 320 = true then (some (hI h (l0 + 2) (((8 : Int32) + l1) - (3 : Int32)).toNatClampNeg)) else none)) else (if inb l1 3 = true then (some (hI h (l0 + 1) l1.toNatClampNeg)) else none))
set_option maxRecDepth 100000 in
set_option maxHeartbeats 4000000 in
theorem ev_X6_toldOf {g : Gl} {h : Hp} {l0 : Nat} {l1 : Int32} {rv : Int32} (kl0 : KD g.1 l0 5 0) (hf : f_X6_toldOf h l0 l1 = some rv) : Ev yX6_toldOf cX6_toldOf 2 (some .int) 0 0 g 0 [] [(0, .ref l0), (1, .int l1)] h (some (.int rv)) h := by
  unfold f_X6_toldOf at hf
  refine ev_iload_n (n := 1) dX6_toldOf_0 rfl rfl ?_
  refine ev_iconst (v := 3) dX6_toldOf_1 (by decide) ?_
  refine ev_icmp_ge (tgt := 14) dX6_toldOf_2 (by decide) (fun c1 => ?_) (fun c1 => ?_)
  · replace hf := if_t c1 hf
    refine ev_iload_n (n := 1) dX6_toldOf_14 rfl rfl ?_
    refine ev_bipush (v := 7) dX6_toldOf_15 (by decide) ?_
    refine ev_icmp_ge (tgt := 34) dX6_toldOf_17 (by decide) (fun c1 => ?_) (fun c1 => ?_)
    · replace hf := if_t c1 hf
      refine ev_iload_n (n := 1) dX6_toldOf_34 rfl rfl ?_
      refine ev_bipush (v := 7) dX6_toldOf_35 (by decide) ?_
      refine ev_icmp_ne (tgt := 47) dX6_toldOf_37 (by decide) (fun c1 => ?_) (fun c1 => ?_)
      · replace hf := if_f c1 hf
        refine ev_aload_n (n := 0) dX6_toldOf_47 rfl rfl ?_
        refine ev_get (v := .int (hI h l0 4)) 4 kl0 rfl (by decide) rfl lk_610 dX6_toldOf_48 ?_
        obtain rfl := Option.some.inj hf
        exact ev_ireturn dX6_toldOf_51 ⟨.int, rfl, rfl⟩
      · replace hf := if_t c1 hf
        refine ev_aload_n (n := 0) dX6_toldOf_40 rfl rfl ?_
        refine ev_get (v := .int (hI h l0 12)) 12 kl0 rfl (by decide) rfl lk_618 dX6_toldOf_41 ?_
        refine ev_goto (tgt := 51) dX6_toldOf_44 (by decide) ?_
        obtain rfl := Option.some.inj hf
        exact ev_ireturn dX6_toldOf_51 ⟨.int, rfl, rfl⟩
    · replace hf := if_f c1 hf
      refine ev_aload_n (n := 0) dX6_toldOf_20 rfl rfl ?_
      refine ev_get (v := .ref (l0 + 2)) 1 kl0 rfl (by decide) rfl lk_607 dX6_toldOf_21 ?_
      refine ev_bipush (v := 8) dX6_toldOf_24 (by decide) ?_
      refine ev_iload_n (n := 1) dX6_toldOf_26 rfl rfl ?_
      refine ev_iadd dX6_toldOf_27 ?_
      refine ev_iconst (v := 3) dX6_toldOf_28 (by decide) ?_
      refine ev_isub dX6_toldOf_29 ?_
      obtain ⟨gd1, hf⟩ := gd_of hf
      refine ev_iald (kd_5_1 kl0) (inb_of gd1) dX6_toldOf_30 ?_
      refine ev_goto (tgt := 51) dX6_toldOf_31 (by decide) ?_
      obtain rfl := Option.some.inj hf
      exact ev_ireturn dX6_toldOf_51 ⟨.int, rfl, rfl⟩
  · replace hf := if_f c1 hf
    refine ev_aload_n (n := 0) dX6_toldOf_5 rfl rfl ?_
    refine ev_get (v := .ref (l0 + 1)) 0 kl0 rfl (by decide) rfl lk_606 dX6_toldOf_6 ?_
    refine ev_iload_n (n := 1) dX6_toldOf_9 rfl rfl ?_
    obtain ⟨gd2, hf⟩ := gd_of hf
    refine ev_iald (kd_5_0 kl0) (inb_of gd2) dX6_toldOf_10 ?_
    refine ev_goto (tgt := 51) dX6_toldOf_11 (by decide) ?_
    obtain rfl := Option.some.inj hf
    exact ev_ireturn dX6_toldOf_51 ⟨.int, rfl, rfl⟩
def f_X6_told (h : Hp) (l0 : Nat) (l1 : Int32) : Option (Int32 × Hp) := (bn1 (f_X6_in h l1 (0 : Int32) (8 : Int32)) (fun v1 => (if v1 = 0 then (bn2 (f_X6_bad h l0) (fun v3 h4 => (some (v3, h4)))) else (bn1 (f_X6_toldOf h l0 l1) (fun v6 => (some (v6, h)))))))
set_option maxRecDepth 100000 in
set_option maxHeartbeats 4000000 in
theorem ev_X6_told {g : Gl} {h : Hp} {l0 : Nat} {l1 : Int32} {rv : Int32} {h2 : Hp} (kl0 : KD g.1 l0 5 0) (hf : f_X6_told h l0 l1 = some (rv, h2)) : Ev yX6_told cX6_told 2 (some .int) 1 22 g 0 [] [(0, .ref l0), (1, .int l1)] h (some (.int rv)) h2 := by
  unfold f_X6_told at hf
  refine ev_iload_n (n := 1) dX6_told_0 rfl rfl ?_
  refine ev_iconst (v := 0) dX6_told_1 (by decide) ?_
  refine ev_bipush (v := 8) dX6_told_2 (by decide) ?_
  obtain ⟨v1, e2, hf⟩ := bn1_of hf
  refine ev_callSi (As := [.int l1, .int (0 : Int32), .int (8 : Int32)]) cal_X6_in (ev_X6_in e2) (Nat.le_of_ble_eq_true rfl) rfl lk_669 (by decide) (by decide) (Nat.le_of_ble_eq_true rfl) dX6_told_4 rfl ?_
  refine ev_if_eq (tgt := 18) dX6_told_7 (by decide) (fun c1 => ?_) (fun c1 => ?_)
  · replace hf := if_t c1 hf
    refine ev_aload_n (n := 0) dX6_told_18 rfl rfl ?_
    obtain ⟨v3, h4, e5, hf⟩ := bn2_of hf
    refine ev_callVi (As := []) cal_X6_bad kl0 rfl (ev_X6_bad kl0 e5) (Nat.le_of_ble_eq_true rfl) rfl lk_672 (by decide) (by decide) (Nat.le_of_ble_eq_true rfl) dX6_told_19 rfl ?_
    obtain ⟨rfl, rfl⟩ := Prod.mk.inj (Option.some.inj hf)
    exact ev_ireturn dX6_told_22 ⟨.int, rfl, rfl⟩
  · replace hf := if_f c1 hf
    refine ev_aload_n (n := 0) dX6_told_10 rfl rfl ?_
    refine ev_iload_n (n := 1) dX6_told_11 rfl rfl ?_
    obtain ⟨v6, e7, hf⟩ := bn1_of hf
    refine ev_callVi (As := [.int l1]) cal_X6_toldOf kl0 rfl (ev_X6_toldOf kl0 e7) (Nat.le_of_ble_eq_true rfl) rfl lk_990 (by decide) (by decide) (Nat.le_of_ble_eq_true rfl) dX6_told_12 rfl ?_
    refine ev_goto (tgt := 22) dX6_told_15 (by decide) ?_
    obtain ⟨rfl, rfl⟩ := Prod.mk.inj (Option.some.inj hf)
    exact ev_ireturn dX6_told_22 ⟨.int, rfl, rfl⟩
def f_X6_digest_l6 (h : Hp) (l0 : Nat) : Nat → Int64 → Int32 → Option (Int64)
  | 0, _, _ => none
  | fu1 + 1, l1, l3 => (if (9 : Int32) ≤ l3 then (some l1) else (bn1 (f_X6_toldOf h l0 l3) (fun v1 => (f_X6_digest_l6 h l0 fu1 (((31 : Int64) * l1) + v1.toInt64) (l3 + 1)))))
theorem f_X6_digest_l6_s (h : Hp) (l0 : Nat) (fu1 : Nat) (l1 : Int64) (l3 : Int32) : f_X6_digest_l6 h l0 (fu1 + 1) l1 l3 = (if (9 : Int32) ≤ l3 then (some l1) else (bn1 (f_X6_toldOf h l0 l3) (fun v1 => (f_X6_digest_l6 h l0 fu1 (((31 : Int64) * l1) + v1.toInt64) (l3 + 1))))) := rfl
theorem f_X6_digest_l6_0 (h : Hp) (l0 : Nat) (l1 : Int64) (l3 : Int32) : f_X6_digest_l6 h l0 0 l1 l3 = none := rfl
set_option maxRecDepth 100000 in
set_option maxHeartbeats 4000000 in
theorem lp_X6_digest_6 {g : Gl} {h : Hp} {l0 : Nat} {r : Option Value} {h2 : Hp} {o1 : Int64} (kl0 : KD g.1 l0 5 0) (hx0 : Ev yX6_digest cX6_digest 5 (some .long) 5 111 g 31 [] [(0, .ref l0), (1, .long o1)] h r h2) : ∀ (fu1 : Nat) (l1 : Int64) (l3 : Int32), f_X6_digest_l6 h l0 fu1 l1 l3 = some o1 → Ev yX6_digest cX6_digest 5 (some .long) 5 111 g 6 [] [(0, .ref l0), (1, .long l1), (3, .int l3)] h r h2 := by
  intro fu1
  induction fu1 with
  | zero =>
    intro l1 l3 hf
    cases hf
  | succ fu1 ih =>
    intro l1 l3 hf
    rw [f_X6_digest_l6_s] at hf
    have hk := ih
    refine ev_iload_n (n := 2) dX6_digest_6 rfl rfl ?_
    refine ev_bipush (v := 9) dX6_digest_7 (by decide) ?_
    refine ev_icmp_ge (tgt := 31) dX6_digest_9 (by decide) (fun c1 => ?_) (fun c1 => ?_)
    · replace hf := if_t c1 hf
      refine ev_sub [0, 1] rfl (lv2 := [(0, .ref l0), (1, .long l1)]) ?_
      obtain rfl := Option.some.inj hf
      exact hx0
    · replace hf := if_f c1 hf
      refine ev_ldc2 dX6_digest_12 lk_999 ?_
      refine ev_lload_n (n := 1) dX6_digest_15 rfl rfl ?_
      refine ev_lmul dX6_digest_16 ?_
      refine ev_aload_n (n := 0) dX6_digest_17 rfl rfl ?_
      refine ev_iload_n (n := 2) dX6_digest_18 rfl rfl ?_
      obtain ⟨v1, e2, hf⟩ := bn1_of hf
      refine ev_callVi (As := [.int l3]) cal_X6_toldOf kl0 rfl (ev_X6_toldOf kl0 e2) (Nat.le_of_ble_eq_true rfl) rfl lk_990 (by decide) (by decide) (Nat.le_of_ble_eq_true rfl) dX6_digest_19 rfl ?_
      refine ev_i2l dX6_digest_22 ?_
      refine ev_ladd dX6_digest_23 ?_
      refine ev_lstore_n (lv2 := [(1, .long (((31 : Int64) * l1) + v1.toInt64)), (0, .ref l0), (3, .int l3)]) dX6_digest_24 rfl (by decide) rfl ?_
      refine ev_iinc (z := 2) (v := (l3 + 1)) (lv2 := [(3, .int (l3 + 1)), (1, .long (((31 : Int64) * l1) + v1.toInt64)), (0, .ref l0)]) dX6_digest_25 rfl rfl (by decide) rfl ?_
      refine ev_goto (tgt := 6) dX6_digest_28 (by decide) ?_
      refine ev_sub [2, 1, 0] rfl (lv2 := [(0, .ref l0), (1, .long (((31 : Int64) * l1) + v1.toInt64)), (3, .int (l3 + 1))]) ?_
      exact hk _ _ hf
def f_X6_digest_l33 (h : Hp) (l0 : Nat) : Nat → Int64 → Int32 → Option (Int64)
  | 0, _, _ => none
  | fu1 + 1, l1, l3 => (if (10 : Int32) ≤ l3 then (some l1) else (bn1 (f_X6_countOf h l0 l3) (fun v4 => (f_X6_digest_l33 h l0 fu1 (((31 : Int64) * l1) + v4.toInt64) (l3 + 1)))))
theorem f_X6_digest_l33_s (h : Hp) (l0 : Nat) (fu1 : Nat) (l1 : Int64) (l3 : Int32) : f_X6_digest_l33 h l0 (fu1 + 1) l1 l3 = (if (10 : Int32) ≤ l3 then (some l1) else (bn1 (f_X6_countOf h l0 l3) (fun v4 => (f_X6_digest_l33 h l0 fu1 (((31 : Int64) * l1) + v4.toInt64) (l3 + 1))))) := rfl
theorem f_X6_digest_l33_0 (h : Hp) (l0 : Nat) (l1 : Int64) (l3 : Int32) : f_X6_digest_l33 h l0 0 l1 l3 = none := rfl
set_option maxRecDepth 100000 in
set_option maxHeartbeats 4000000 in
theorem lp_X6_digest_33 {g : Gl} {h : Hp} {l0 : Nat} {r : Option Value} {h2 : Hp} {o1 : Int64} (kl0 : KD g.1 l0 5 0) (hx0 : Ev yX6_digest cX6_digest 5 (some .long) 5 111 g 58 [] [(0, .ref l0), (1, .long o1)] h r h2) : ∀ (fu1 : Nat) (l1 : Int64) (l3 : Int32), f_X6_digest_l33 h l0 fu1 l1 l3 = some o1 → Ev yX6_digest cX6_digest 5 (some .long) 5 111 g 33 [] [(0, .ref l0), (1, .long l1), (3, .int l3)] h r h2 := by
  intro fu1
  induction fu1 with
  | zero =>
    intro l1 l3 hf
    cases hf
  | succ fu1 ih =>
    intro l1 l3 hf
    rw [f_X6_digest_l33_s] at hf
    have hk := ih
    refine ev_iload_n (n := 2) dX6_digest_33 rfl rfl ?_
    refine ev_bipush (v := 10) dX6_digest_34 (by decide) ?_
    refine ev_icmp_ge (tgt := 58) dX6_digest_36 (by decide) (fun c1 => ?_) (fun c1 => ?_)
    · replace hf := if_t c1 hf
      refine ev_sub [0, 1] rfl (lv2 := [(0, .ref l0), (1, .long l1)]) ?_
      obtain rfl := Option.some.inj hf
      exact hx0
    · replace hf := if_f c1 hf
      refine ev_ldc2 dX6_digest_39 lk_999 ?_
      refine ev_lload_n (n := 1) dX6_digest_42 rfl rfl ?_
      refine ev_lmul dX6_digest_43 ?_
      refine ev_aload_n (n := 0) dX6_digest_44 rfl rfl ?_
      refine ev_iload_n (n := 2) dX6_digest_45 rfl rfl ?_
      obtain ⟨v4, e5, hf⟩ := bn1_of hf
      refine ev_callVi (As := [.int l3]) cal_X6_countOf kl0 rfl (ev_X6_countOf kl0 e5) (Nat.le_of_ble_eq_true rfl) rfl lk_946 (by decide) (by decide) (Nat.le_of_ble_eq_true rfl) dX6_digest_46 rfl ?_
      refine ev_i2l dX6_digest_49 ?_
      refine ev_ladd dX6_digest_50 ?_
      refine ev_lstore_n (lv2 := [(1, .long (((31 : Int64) * l1) + v4.toInt64)), (0, .ref l0), (3, .int l3)]) dX6_digest_51 rfl (by decide) rfl ?_
      refine ev_iinc (z := 2) (v := (l3 + 1)) (lv2 := [(3, .int (l3 + 1)), (1, .long (((31 : Int64) * l1) + v4.toInt64)), (0, .ref l0)]) dX6_digest_52 rfl rfl (by decide) rfl ?_
      refine ev_goto (tgt := 33) dX6_digest_55 (by decide) ?_
      refine ev_sub [2, 1, 0] rfl (lv2 := [(0, .ref l0), (1, .long (((31 : Int64) * l1) + v4.toInt64)), (3, .int (l3 + 1))]) ?_
      exact hk _ _ hf
def f_X6_digest_l73 (h : Hp) (l0 : Nat) (l3 : Int32) : Nat → Int64 → Int32 → Option (Int64)
  | 0, _, _ => none
  | fu1 + 1, l1, l4 => (if (10 : Int32) ≤ l4 then (some l1) else (bn1 (f_X6_ofPeer h l0 l3 l4) (fun v8 => (f_X6_digest_l73 h l0 l3 fu1 (((31 : Int64) * l1) + v8.toInt64) (l4 + 1)))))
theorem f_X6_digest_l73_s (h : Hp) (l0 : Nat) (l3 : Int32) (fu1 : Nat) (l1 : Int64) (l4 : Int32) : f_X6_digest_l73 h l0 l3 (fu1 + 1) l1 l4 = (if (10 : Int32) ≤ l4 then (some l1) else (bn1 (f_X6_ofPeer h l0 l3 l4) (fun v8 => (f_X6_digest_l73 h l0 l3 fu1 (((31 : Int64) * l1) + v8.toInt64) (l4 + 1))))) := rfl
theorem f_X6_digest_l73_0 (h : Hp) (l0 : Nat) (l3 : Int32) (l1 : Int64) (l4 : Int32) : f_X6_digest_l73 h l0 l3 0 l1 l4 = none := rfl
set_option maxRecDepth 100000 in
set_option maxHeartbeats 4000000 in
theorem lp_X6_digest_73 {g : Gl} {h : Hp} {l0 : Nat} {l3 : Int32} {r : Option Value} {h2 : Hp} {o1 : Int64} (kl0 : KD g.1 l0 5 0) (hx0 : Ev yX6_digest cX6_digest 5 (some .long) 5 111 g 101 [] [(0, .ref l0), (1, .long o1), (3, .int l3)] h r h2) : ∀ (fu1 : Nat) (l1 : Int64) (l4 : Int32), f_X6_digest_l73 h l0 l3 fu1 l1 l4 = some o1 → Ev yX6_digest cX6_digest 5 (some .long) 5 111 g 73 [] [(0, .ref l0), (1, .long l1), (3, .int l3), (4, .int l4)] h r h2 := by
  intro fu1
  induction fu1 with
  | zero =>
    intro l1 l4 hf
    cases hf
  | succ fu1 ih =>
    intro l1 l4 hf
    rw [f_X6_digest_l73_s] at hf
    have hk := ih
    refine ev_iload (n := 3) dX6_digest_73 rfl ?_
    refine ev_bipush (v := 10) dX6_digest_75 (by decide) ?_
    refine ev_icmp_ge (tgt := 101) dX6_digest_77 (by decide) (fun c1 => ?_) (fun c1 => ?_)
    · replace hf := if_t c1 hf
      refine ev_sub [0, 1, 2] rfl (lv2 := [(0, .ref l0), (1, .long l1), (3, .int l3)]) ?_
      obtain rfl := Option.some.inj hf
      exact hx0
    · replace hf := if_f c1 hf
      refine ev_ldc2 dX6_digest_80 lk_999 ?_
      refine ev_lload_n (n := 1) dX6_digest_83 rfl rfl ?_
      refine ev_lmul dX6_digest_84 ?_
      refine ev_aload_n (n := 0) dX6_digest_85 rfl rfl ?_
      refine ev_iload_n (n := 2) dX6_digest_86 rfl rfl ?_
      refine ev_iload (n := 3) dX6_digest_87 rfl ?_
      obtain ⟨v8, e9, hf⟩ := bn1_of hf
      refine ev_callVi (As := [.int l3, .int l4]) cal_X6_ofPeer kl0 rfl (ev_X6_ofPeer kl0 e9) (Nat.le_of_ble_eq_true rfl) rfl lk_874 (by decide) (by decide) (Nat.le_of_ble_eq_true rfl) dX6_digest_89 rfl ?_
      refine ev_i2l dX6_digest_92 ?_
      refine ev_ladd dX6_digest_93 ?_
      refine ev_lstore_n (lv2 := [(1, .long (((31 : Int64) * l1) + v8.toInt64)), (0, .ref l0), (3, .int l3), (4, .int l4)]) dX6_digest_94 rfl (by decide) rfl ?_
      refine ev_iinc (z := 3) (v := (l4 + 1)) (lv2 := [(4, .int (l4 + 1)), (1, .long (((31 : Int64) * l1) + v8.toInt64)), (0, .ref l0), (3, .int l3)]) dX6_digest_95 rfl rfl (by decide) rfl ?_
      refine ev_goto (tgt := 73) dX6_digest_98 (by decide) ?_
      refine ev_sub [2, 1, 3, 0] rfl (lv2 := [(0, .ref l0), (1, .long (((31 : Int64) * l1) + v8.toInt64)), (3, .int l3), (4, .int (l4 + 1))]) ?_
      exact hk _ _ hf
def f_X6_digest_l104 (h : Hp) (l0 : Nat) (l3 : Int32) : Nat → Int64 → Int32 → Option (Int64)
  | 0, _, _ => none
  | fu1 + 1, l1, l4 => (if ((hI h (l0 + 2) (1 : Int32).toNatClampNeg) * (hI h (l0 + 2) (2 : Int32).toNatClampNeg)) ≤ l4 then (some l1) else (if ¬ (hI h (l0 + 2) (2 : Int32).toNatClampNeg) = 0 then (if ¬ (hI h (l0 + 2) (2 : Int32).toNatClampNeg) = 0 then (bn1 (f_X6_blockOf h l0 l3 (l4 / (hI h (l0 + 2) (2 : Int32).toNatClampNeg)) (l4 - l4 / (hI h (l0 + 2) (2 : Int32).toNatClampNeg) * (hI h (l0 + 2) (2 : Int32).toNatClampNeg))) (fun v17 => (f_X6_digest_l104 h l0 l3 fu1 (((31 : Int64) * l1) + v17.toInt64) (l4 + 1)))) else none) else none))
theorem f_X6_digest_l104_s (h : Hp) (l0 : Nat) (l3 : Int32) (fu1 : Nat) (l1 : Int64) (l4 : Int32) : f_X6_digest_l104 h l0 l3 (fu1 + 1) l1 l4 = (if ((hI h (l0 + 2) (1 : Int32).toNatClampNeg) * (hI h (l0 + 2) (2 : Int32).toNatClampNeg)) ≤ l4 then (some l1) else (if ¬ (hI h (l0 + 2) (2 : Int32).toNatClampNeg) = 0 then (if ¬ (hI h (l0 + 2) (2 : Int32).toNatClampNeg) = 0 then (bn1 (f_X6_blockOf h l0 l3 (l4 / (hI h (l0 + 2) (2 : Int32).toNatClampNeg)) (l4 - l4 / (hI h (l0 + 2) (2 : Int32).toNatClampNeg) * (hI h (l0 + 2) (2 : Int32).toNatClampNeg))) (fun v17 => (f_X6_digest_l104 h l0 l3 fu1 (((31 : Int64) * l1) + v17.toInt64) (l4 + 1)))) else none) else none)) := rfl
theorem f_X6_digest_l104_0 (h : Hp) (l0 : Nat) (l3 : Int32) (l1 : Int64) (l4 : Int32) : f_X6_digest_l104 h l0 l3 0 l1 l4 = none := rfl
set_option maxRecDepth 100000 in
set_option maxHeartbeats 4000000 in
theorem lp_X6_digest_104 {g : Gl} {h : Hp} {l0 : Nat} {l3 : Int32} {r : Option Value} {h2 : Hp} {o1 : Int64} (kl0 : KD g.1 l0 5 0) (hx0 : Ev yX6_digest cX6_digest 5 (some .long) 5 111 g 159 [] [(0, .ref l0), (1, .long o1), (3, .int l3)] h r h2) : ∀ (fu1 : Nat) (l1 : Int64) (l4 : Int32), f_X6_digest_l104 h l0 l3 fu1 l1 l4 = some o1 → Ev yX6_digest cX6_digest 5 (some .long) 5 111 g 104 [] [(0, .ref l0), (1, .long l1), (3, .int l3), (4, .int l4)] h r h2 := by
  intro fu1
  induction fu1 with
  | zero =>
    intro l1 l4 hf
    cases hf
  | succ fu1 ih =>
    intro l1 l4 hf
    rw [f_X6_digest_l104_s] at hf
    have hk := ih
    refine ev_iload (n := 3) dX6_digest_104 rfl ?_
    refine ev_aload_n (n := 0) dX6_digest_106 rfl rfl ?_
    refine ev_get (v := .ref (l0 + 2)) 1 kl0 rfl (by decide) rfl lk_607 dX6_digest_107 ?_
    refine ev_iconst (v := 1) dX6_digest_110 (by decide) ?_
    refine ev_iald (kd_5_1 kl0) (by unfold vp_in; decide) dX6_digest_111 ?_
    refine ev_aload_n (n := 0) dX6_digest_112 rfl rfl ?_
    refine ev_get (v := .ref (l0 + 2)) 1 kl0 rfl (by decide) rfl lk_607 dX6_digest_113 ?_
    refine ev_iconst (v := 2) dX6_digest_116 (by decide) ?_
    refine ev_iald (kd_5_1 kl0) (by unfold vp_in; decide) dX6_digest_117 ?_
    refine ev_imul dX6_digest_118 ?_
    refine ev_icmp_ge (tgt := 159) dX6_digest_119 (by decide) (fun c1 => ?_) (fun c1 => ?_)
    · replace hf := if_t c1 hf
      refine ev_sub [0, 1, 2] rfl (lv2 := [(0, .ref l0), (1, .long l1), (3, .int l3)]) ?_
      obtain rfl := Option.some.inj hf
      exact hx0
    · replace hf := if_f c1 hf
      refine ev_ldc2 dX6_digest_122 lk_999 ?_
      refine ev_lload_n (n := 1) dX6_digest_125 rfl rfl ?_
      refine ev_lmul dX6_digest_126 ?_
      refine ev_aload_n (n := 0) dX6_digest_127 rfl rfl ?_
      refine ev_iload_n (n := 2) dX6_digest_128 rfl rfl ?_
      refine ev_iload (n := 3) dX6_digest_129 rfl ?_
      refine ev_aload_n (n := 0) dX6_digest_131 rfl rfl ?_
      refine ev_get (v := .ref (l0 + 2)) 1 kl0 rfl (by decide) rfl lk_607 dX6_digest_132 ?_
      refine ev_iconst (v := 2) dX6_digest_135 (by decide) ?_
      refine ev_iald (kd_5_1 kl0) (by unfold vp_in; decide) dX6_digest_136 ?_
      obtain ⟨gd14, hf⟩ := gd_of hf
      refine ev_idiv dX6_digest_137 gd14 ?_
      refine ev_iload (n := 3) dX6_digest_138 rfl ?_
      refine ev_aload_n (n := 0) dX6_digest_140 rfl rfl ?_
      refine ev_get (v := .ref (l0 + 2)) 1 kl0 rfl (by decide) rfl lk_607 dX6_digest_141 ?_
      refine ev_iconst (v := 2) dX6_digest_144 (by decide) ?_
      refine ev_iald (kd_5_1 kl0) (by unfold vp_in; decide) dX6_digest_145 ?_
      obtain ⟨gd16, hf⟩ := gd_of hf
      refine ev_irem dX6_digest_146 gd16 ?_
      obtain ⟨v17, e18, hf⟩ := bn1_of hf
      refine ev_callVi (As := [.int l3, .int (l4 / (hI h (l0 + 2) (2 : Int32).toNatClampNeg)), .int (l4 - l4 / (hI h (l0 + 2) (2 : Int32).toNatClampNeg) * (hI h (l0 + 2) (2 : Int32).toNatClampNeg))]) cal_X6_blockOf kl0 rfl (ev_X6_blockOf kl0 e18) (Nat.le_of_ble_eq_true rfl) rfl lk_882 (by decide) (by decide) (Nat.le_of_ble_eq_true rfl) dX6_digest_147 rfl ?_
      refine ev_i2l dX6_digest_150 ?_
      refine ev_ladd dX6_digest_151 ?_
      refine ev_lstore_n (lv2 := [(1, .long (((31 : Int64) * l1) + v17.toInt64)), (0, .ref l0), (3, .int l3), (4, .int l4)]) dX6_digest_152 rfl (by decide) rfl ?_
      refine ev_iinc (z := 3) (v := (l4 + 1)) (lv2 := [(4, .int (l4 + 1)), (1, .long (((31 : Int64) * l1) + v17.toInt64)), (0, .ref l0), (3, .int l3)]) dX6_digest_153 rfl rfl (by decide) rfl ?_
      refine ev_goto (tgt := 104) dX6_digest_156 (by decide) ?_
      refine ev_sub [2, 1, 3, 0] rfl (lv2 := [(0, .ref l0), (1, .long (((31 : Int64) * l1) + v17.toInt64)), (3, .int l3), (4, .int (l4 + 1))]) ?_
      exact hk _ _ hf
def f_X6_digest_j210 (kk : Int64 → Int32 → Option (Int64)) (h : Hp) (l0 : Nat) (l1 : Int64) (l3 : Int32) (l4 : Int32) : Option (Int64) := (kk l1 (l4 + 1))
set_option maxRecDepth 100000 in
set_option maxHeartbeats 4000000 in
theorem jn_X6_digest_210 {g : Gl} {h : Hp} {kk : Int64 → Int32 → Option (Int64)} {l0 : Nat} {l1 : Int64} {l3 : Int32} {l4 : Int32}  {r : Option Value} {h2 : Hp} {o1 : Int64} (kl0 : KD g.1 l0 5 0) (hx0 : Ev yX6_digest cX6_digest 5 (some .long) 5 111 g 216 [] [(0, .ref l0), (1, .long o1), (3, .int l3)] h r h2) (hk : ∀ (x1 : Int64) (x4 : Int32), kk x1 x4 = some o1 → Ev yX6_digest cX6_digest 5 (some .long) 5 111 g 162 [] [(0, .ref l0), (1, .long x1), (3, .int l3), (4, .int x4)] h r h2) (hf : f_X6_digest_j210 kk h l0 l1 l3 l4 = some o1) : Ev yX6_digest cX6_digest 5 (some .long) 5 111 g 210 [] [(0, .ref l0), (1, .long l1), (3, .int l3), (4, .int l4)] h r h2 := by
  unfold f_X6_digest_j210 at hf
  refine ev_iinc (z := 3) (v := (l4 + 1)) (lv2 := [(4, .int (l4 + 1)), (0, .ref l0), (1, .long l1), (3, .int l3)]) dX6_digest_210 rfl rfl (by decide) rfl ?_
  refine ev_goto (tgt := 162) dX6_digest_213 (by decide) ?_
  refine ev_sub [1, 2, 3, 0] rfl (lv2 := [(0, .ref l0), (1, .long l1), (3, .int l3), (4, .int (l4 + 1))]) ?_
  exact hk _ _ hf
def f_X6_digest_l162 (h : Hp) (l0 : Nat) (l3 : Int32) : Nat → Int64 → Int32 → Option (Int64)
  | 0, _, _ => none
  | fu1 + 1, l1, l4 => (if (hI h (l0 + 2) (0 : Int32).toNatClampNeg) ≤ l4 then (some l1) else (if l4 = l3 then (f_X6_digest_j210 (f_X6_digest_l162 h l0 l3 fu1) h l0 l1 l3 l4) else (bn1 (f_X6_rateOf h l0 l3 l4) (fun v21 => (bn1 (f_X6_cellOf h l0 l3 ((8 : Int32) + l4)) (fun v23 => (f_X6_digest_j210 (f_X6_digest_l162 h l0 l3 fu1) h l0 (((31 : Int64) * (((31 : Int64) * l1) + v21.toInt64)) + v23.toInt64) l3 l4)))))))
theorem f_X6_digest_l162_s (h : Hp) (l0 : Nat) (l3 : Int32) (fu1 : Nat) (l1 : Int64) (l4 : Int32) : f_X6_digest_l162 h l0 l3 (fu1 + 1) l1 l4 = (if (hI h (l0 + 2) (0 : Int32).toNatClampNeg) ≤ l4 then (some l1) else (if l4 = l3 then (f_X6_digest_j210 (f_X6_digest_l162 h l0 l3 fu1) h l0 l1 l3 l4) else (bn1 (f_X6_rateOf h l0 l3 l4) (fun v21 => (bn1 (f_X6_cellOf h l0 l3 ((8 : Int32) + l4)) (fun v23 => (f_X6_digest_j210 (f_X6_digest_l162 h l0 l3 fu1) h l0 (((31 : Int64) * (((31 : Int64) * l1) + v21.toInt64)) + v23.toInt64) l3 l4))))))) := rfl
theorem f_X6_digest_l162_0 (h : Hp) (l0 : Nat) (l3 : Int32) (l1 : Int64) (l4 : Int32) : f_X6_digest_l162 h l0 l3 0 l1 l4 = none := rfl
set_option maxRecDepth 100000 in
set_option maxHeartbeats 4000000 in
theorem lp_X6_digest_162 {g : Gl} {h : Hp} {l0 : Nat} {l3 : Int32} {r : Option Value} {h2 : Hp} {o1 : Int64} (kl0 : KD g.1 l0 5 0) (hx0 : Ev yX6_digest cX6_digest 5 (some .long) 5 111 g 216 [] [(0, .ref l0), (1, .long o1), (3, .int l3)] h r h2) : ∀ (fu1 : Nat) (l1 : Int64) (l4 : Int32), f_X6_digest_l162 h l0 l3 fu1 l1 l4 = some o1 → Ev yX6_digest cX6_digest 5 (some .long) 5 111 g 162 [] [(0, .ref l0), (1, .long l1), (3, .int l3), (4, .int l4)] h r h2 := by
  intro fu1
  induction fu1 with
  | zero =>
    intro l1 l4 hf
    cases hf
  | succ fu1 ih =>
    intro l1 l4 hf
    rw [f_X6_digest_l162_s] at hf
    have hk := ih
    refine ev_iload (n := 3) dX6_digest_162 rfl ?_
    refine ev_aload_n (n := 0) dX6_digest_164 rfl rfl ?_
    refine ev_get (v := .ref (l0 + 2)) 1 kl0 rfl (by decide) rfl lk_607 dX6_digest_165 ?_
    refine ev_iconst (v := 0) dX6_digest_168 (by decide) ?_
    refine ev_iald (kd_5_1 kl0) (by unfold vp_in; decide) dX6_digest_169 ?_
    refine ev_icmp_ge (tgt := 216) dX6_digest_170 (by decide) (fun c1 => ?_) (fun c1 => ?_)
    · replace hf := if_t c1 hf
      refine ev_sub [0, 1, 2] rfl (lv2 := [(0, .ref l0), (1, .long l1), (3, .int l3)]) ?_
      obtain rfl := Option.some.inj hf
      exact hx0
    · replace hf := if_f c1 hf
      refine ev_iload (n := 3) dX6_digest_173 rfl ?_
      refine ev_iload_n (n := 2) dX6_digest_175 rfl rfl ?_
      refine ev_icmp_eq (tgt := 210) dX6_digest_176 (by decide) (fun c1 => ?_) (fun c1 => ?_)
      · replace hf := if_t c1 hf
        exact jn_X6_digest_210 kl0 hx0 hk hf
      · replace hf := if_f c1 hf
        refine ev_ldc2 dX6_digest_179 lk_999 ?_
        refine ev_ldc2 dX6_digest_182 lk_999 ?_
        refine ev_lload_n (n := 1) dX6_digest_185 rfl rfl ?_
        refine ev_lmul dX6_digest_186 ?_
        refine ev_aload_n (n := 0) dX6_digest_187 rfl rfl ?_
        refine ev_iload_n (n := 2) dX6_digest_188 rfl rfl ?_
        refine ev_iload (n := 3) dX6_digest_189 rfl ?_
        obtain ⟨v21, e22, hf⟩ := bn1_of hf
        refine ev_callVi (As := [.int l3, .int l4]) cal_X6_rateOf kl0 rfl (ev_X6_rateOf kl0 e22) (Nat.le_of_ble_eq_true rfl) rfl lk_894 (by decide) (by decide) (Nat.le_of_ble_eq_true rfl) dX6_digest_191 rfl ?_
        refine ev_i2l dX6_digest_194 ?_
        refine ev_ladd dX6_digest_195 ?_
        refine ev_lmul dX6_digest_196 ?_
        refine ev_aload_n (n := 0) dX6_digest_197 rfl rfl ?_
        refine ev_iload_n (n := 2) dX6_digest_198 rfl rfl ?_
        refine ev_bipush (v := 8) dX6_digest_199 (by decide) ?_
        refine ev_iload (n := 3) dX6_digest_201 rfl ?_
        refine ev_iadd dX6_digest_203 ?_
        obtain ⟨v23, e24, hf⟩ := bn1_of hf
        refine ev_callVi (As := [.int l3, .int ((8 : Int32) + l4)]) cal_X6_cellOf kl0 rfl (ev_X6_cellOf kl0 e24) (Nat.le_of_ble_eq_true rfl) rfl lk_719 (by decide) (by decide) (Nat.le_of_ble_eq_true rfl) dX6_digest_204 rfl ?_
        refine ev_i2l dX6_digest_207 ?_
        refine ev_ladd dX6_digest_208 ?_
        refine ev_lstore_n (lv2 := [(1, .long (((31 : Int64) * (((31 : Int64) * l1) + v21.toInt64)) + v23.toInt64)), (0, .ref l0), (3, .int l3), (4, .int l4)]) dX6_digest_209 rfl (by decide) rfl ?_
        refine ev_sub [1, 0, 2, 3] rfl (lv2 := [(0, .ref l0), (1, .long (((31 : Int64) * (((31 : Int64) * l1) + v21.toInt64)) + v23.toInt64)), (3, .int l3), (4, .int l4)]) ?_
        exact jn_X6_digest_210 kl0 hx0 hk hf
def f_X6_digest_l60 (h : Hp) (l0 : Nat) : Nat → Int64 → Int32 → Option (Int64)
  | 0, _, _ => none
  | fu1 + 1, l1, l3 => (if (hI h (l0 + 2) (0 : Int32).toNatClampNeg) ≤ l3 then (some l1) else (bn1 (f_X6_digest_l73 h l0 l3 fu l1 (0 : Int32)) (fun w1_10 => (bn1 (f_X6_digest_l104 h l0 l3 fu w1_10 (0 : Int32)) (fun w1_19 => (bn1 (f_X6_digest_l162 h l0 l3 fu w1_19 (0 : Int32)) (fun w1_25 => (f_X6_digest_l60 h l0 fu1 w1_25 (l3 + 1)))))))))
theorem f_X6_digest_l60_s (h : Hp) (l0 : Nat) (fu1 : Nat) (l1 : Int64) (l3 : Int32) : f_X6_digest_l60 h l0 (fu1 + 1) l1 l3 = (if (hI h (l0 + 2) (0 : Int32).toNatClampNeg) ≤ l3 then (some l1) else (bn1 (f_X6_digest_l73 h l0 l3 fu l1 (0 : Int32)) (fun w1_10 => (bn1 (f_X6_digest_l104 h l0 l3 fu w1_10 (0 : Int32)) (fun w1_19 => (bn1 (f_X6_digest_l162 h l0 l3 fu w1_19 (0 : Int32)) (fun w1_25 => (f_X6_digest_l60 h l0 fu1 w1_25 (l3 + 1))))))))) := rfl
theorem f_X6_digest_l60_0 (h : Hp) (l0 : Nat) (l1 : Int64) (l3 : Int32) : f_X6_digest_l60 h l0 0 l1 l3 = none := rfl
set_option maxRecDepth 100000 in
set_option maxHeartbeats 4000000 in
theorem lp_X6_digest_60 {g : Gl} {h : Hp} {l0 : Nat} {r : Option Value} {h2 : Hp} {o1 : Int64} (kl0 : KD g.1 l0 5 0) (hx0 : Ev yX6_digest cX6_digest 5 (some .long) 5 111 g 222 [] [(0, .ref l0), (1, .long o1)] h r h2) : ∀ (fu1 : Nat) (l1 : Int64) (l3 : Int32), f_X6_digest_l60 h l0 fu1 l1 l3 = some o1 → Ev yX6_digest cX6_digest 5 (some .long) 5 111 g 60 [] [(0, .ref l0), (1, .long l1), (3, .int l3)] h r h2 := by
  intro fu1
  induction fu1 with
  | zero =>
    intro l1 l3 hf
    cases hf
  | succ fu1 ih =>
    intro l1 l3 hf
    rw [f_X6_digest_l60_s] at hf
    have hk := ih
    refine ev_iload_n (n := 2) dX6_digest_60 rfl rfl ?_
    refine ev_aload_n (n := 0) dX6_digest_61 rfl rfl ?_
    refine ev_get (v := .ref (l0 + 2)) 1 kl0 rfl (by decide) rfl lk_607 dX6_digest_62 ?_
    refine ev_iconst (v := 0) dX6_digest_65 (by decide) ?_
    refine ev_iald (kd_5_1 kl0) (by unfold vp_in; decide) dX6_digest_66 ?_
    refine ev_icmp_ge (tgt := 222) dX6_digest_67 (by decide) (fun c1 => ?_) (fun c1 => ?_)
    · replace hf := if_t c1 hf
      refine ev_sub [0, 1] rfl (lv2 := [(0, .ref l0), (1, .long l1)]) ?_
      obtain rfl := Option.some.inj hf
      exact hx0
    · replace hf := if_f c1 hf
      refine ev_iconst (v := 0) dX6_digest_70 (by decide) ?_
      refine ev_istore (lv2 := [(4, .int (0 : Int32)), (0, .ref l0), (1, .long l1), (3, .int l3)]) dX6_digest_71 (by decide) rfl ?_
      obtain ⟨w1_10, e28, hf⟩ := bn1_of hf
      refine ev_sub [1, 2, 3, 0] rfl (lv2 := [(0, .ref l0), (1, .long l1), (3, .int l3), (4, .int (0 : Int32))]) ?_
      refine lp_X6_digest_73 kl0 ?_ fu _ _ e28
      refine ev_iconst (v := 0) dX6_digest_101 (by decide) ?_
      refine ev_istore (lv2 := [(4, .int (0 : Int32)), (0, .ref l0), (1, .long w1_10), (3, .int l3)]) dX6_digest_102 (by decide) rfl ?_
      obtain ⟨w1_19, e27, hf⟩ := bn1_of hf
      refine ev_sub [1, 2, 3, 0] rfl (lv2 := [(0, .ref l0), (1, .long w1_10), (3, .int l3), (4, .int (0 : Int32))]) ?_
      refine lp_X6_digest_104 kl0 ?_ fu _ _ e27
      refine ev_iconst (v := 0) dX6_digest_159 (by decide) ?_
      refine ev_istore (lv2 := [(4, .int (0 : Int32)), (0, .ref l0), (1, .long w1_19), (3, .int l3)]) dX6_digest_160 (by decide) rfl ?_
      obtain ⟨w1_25, e26, hf⟩ := bn1_of hf
      refine ev_sub [1, 2, 3, 0] rfl (lv2 := [(0, .ref l0), (1, .long w1_19), (3, .int l3), (4, .int (0 : Int32))]) ?_
      refine lp_X6_digest_162 kl0 ?_ fu _ _ e26
      refine ev_iinc (z := 2) (v := (l3 + 1)) (lv2 := [(3, .int (l3 + 1)), (0, .ref l0), (1, .long w1_25)]) dX6_digest_216 rfl rfl (by decide) rfl ?_
      refine ev_goto (tgt := 60) dX6_digest_219 (by decide) ?_
      refine ev_sub [1, 2, 0] rfl (lv2 := [(0, .ref l0), (1, .long w1_25), (3, .int (l3 + 1))]) ?_
      exact hk _ _ hf
def f_X6_digest (h : Hp) (l0 : Nat) : Option (Int64) := (bn1 (f_X6_digest_l6 h l0 fu (2559 : Int64) (0 : Int32)) (fun w1_3 => (bn1 (f_X6_digest_l33 h l0 fu w1_3 (0 : Int32)) (fun w1_6 => (bn1 (f_X6_digest_l60 h l0 fu w1_6 (0 : Int32)) (fun w1_29 => (bn1 (f_X6_spread h l0) (fun v30 => (bn1 (f_X6_fairness h l0) (fun v32 => (some (((31 : Int64) * (((31 : Int64) * w1_29) + v30.toInt64)) + v32))))))))))))
set_option maxRecDepth 100000 in
set_option maxHeartbeats 4000000 in
theorem ev_X6_digest {g : Gl} {h : Hp} {l0 : Nat} {rv : Int64} (kl0 : KD g.1 l0 5 0) (hf : f_X6_digest h l0 = some rv) : Ev yX6_digest cX6_digest 5 (some .long) 5 111 g 0 [] [(0, .ref l0)] h (some (.long rv)) h := by
  unfold f_X6_digest at hf
  refine ev_ldc2 dX6_digest_0 lk_998 ?_
  refine ev_lstore_n (lv2 := [(1, .long (2559 : Int64)), (0, .ref l0)]) dX6_digest_3 rfl (by decide) rfl ?_
  refine ev_iconst (v := 0) dX6_digest_4 (by decide) ?_
  refine ev_istore_n (lv2 := [(3, .int (0 : Int32)), (1, .long (2559 : Int64)), (0, .ref l0)]) dX6_digest_5 rfl (by decide) rfl ?_
  obtain ⟨w1_3, e36, hf⟩ := bn1_of hf
  refine ev_sub [2, 1, 0] rfl (lv2 := [(0, .ref l0), (1, .long (2559 : Int64)), (3, .int (0 : Int32))]) ?_
  refine lp_X6_digest_6 kl0 ?_ fu _ _ e36
  refine ev_iconst (v := 0) dX6_digest_31 (by decide) ?_
  refine ev_istore_n (lv2 := [(3, .int (0 : Int32)), (0, .ref l0), (1, .long w1_3)]) dX6_digest_32 rfl (by decide) rfl ?_
  obtain ⟨w1_6, e35, hf⟩ := bn1_of hf
  refine ev_sub [1, 2, 0] rfl (lv2 := [(0, .ref l0), (1, .long w1_3), (3, .int (0 : Int32))]) ?_
  refine lp_X6_digest_33 kl0 ?_ fu _ _ e35
  refine ev_iconst (v := 0) dX6_digest_58 (by decide) ?_
  refine ev_istore_n (lv2 := [(3, .int (0 : Int32)), (0, .ref l0), (1, .long w1_6)]) dX6_digest_59 rfl (by decide) rfl ?_
  obtain ⟨w1_29, e34, hf⟩ := bn1_of hf
  refine ev_sub [1, 2, 0] rfl (lv2 := [(0, .ref l0), (1, .long w1_6), (3, .int (0 : Int32))]) ?_
  refine lp_X6_digest_60 kl0 ?_ fu _ _ e34
  refine ev_ldc2 dX6_digest_222 lk_999 ?_
  refine ev_ldc2 dX6_digest_225 lk_999 ?_
  refine ev_lload_n (n := 1) dX6_digest_228 rfl rfl ?_
  refine ev_lmul dX6_digest_229 ?_
  refine ev_aload_n (n := 0) dX6_digest_230 rfl rfl ?_
  obtain ⟨v30, e31, hf⟩ := bn1_of hf
  refine ev_callVi (As := []) cal_X6_spread kl0 rfl (ev_X6_spread kl0 e31) (Nat.le_of_ble_eq_true rfl) rfl lk_1000 (by decide) (by decide) (Nat.le_of_ble_eq_true rfl) dX6_digest_231 rfl ?_
  refine ev_i2l dX6_digest_234 ?_
  refine ev_ladd dX6_digest_235 ?_
  refine ev_lmul dX6_digest_236 ?_
  refine ev_aload_n (n := 0) dX6_digest_237 rfl rfl ?_
  obtain ⟨v32, e33, hf⟩ := bn1_of hf
  refine ev_callVl (As := []) cal_X6_fairness kl0 rfl (ev_X6_fairness kl0 e33) (Nat.le_of_ble_eq_true rfl) rfl lk_1001 (by decide) (by decide) (Nat.le_of_ble_eq_true rfl) dX6_digest_238 rfl ?_
  refine ev_ladd dX6_digest_241 ?_
  obtain rfl := Option.some.inj hf
  exact ev_lreturn dX6_digest_242 rfl
