def f_X0_ofFloat_l15 (h : Hp)  : Nat → UInt32 → Int32 → Int32 → Option (UInt32 × Int32)
  | 0, _, _, _ => none
  | fu1 + 1, l1, l2, l3 => (if (127 : Int32) ≤ l3 then (some (l1, l2)) else (if (Op.cmpValue (FP.fcmp l1 FP.fconst2) .l) < 0 then (some (l1, l2)) else (if nn32 (FP.fdiv l1 FP.fconst2) = true then (f_X0_ofFloat_l15 h fu1 (FP.fdiv l1 FP.fconst2) (l2 + 1) (l3 + 1)) else none)))
theorem f_X0_ofFloat_l15_s (h : Hp)  (fu1 : Nat) (l1 : UInt32) (l2 : Int32) (l3 : Int32) : f_X0_ofFloat_l15 h (fu1 + 1) l1 l2 l3 = (if (127 : Int32) ≤ l3 then (some (l1, l2)) else (if (Op.cmpValue (FP.fcmp l1 FP.fconst2) .l) < 0 then (some (l1, l2)) else (if nn32 (FP.fdiv l1 FP.fconst2) = true then (f_X0_ofFloat_l15 h fu1 (FP.fdiv l1 FP.fconst2) (l2 + 1) (l3 + 1)) else none))) := rfl
theorem f_X0_ofFloat_l15_0 (h : Hp)  (l1 : UInt32) (l2 : Int32) (l3 : Int32) : f_X0_ofFloat_l15 h 0 l1 l2 l3 = none := rfl
set_option maxRecDepth 100000 in
set_option maxHeartbeats 4000000 in
theorem lp_X0_ofFloat_15 {g : Gl} {h : Hp}  {r : Option Value} {h2 : Hp} {o1 : UInt32} {o2 : Int32}  (hx0 : Ev yX0_ofFloat cX0_ofFloat 4 (some .int) 0 0 g 40 [] [(1, .float o1), (2, .int o2)] h r h2) : ∀ (fu1 : Nat) (l1 : UInt32) (l2 : Int32) (l3 : Int32), f_X0_ofFloat_l15 h fu1 l1 l2 l3 = some (o1, o2) → Ev yX0_ofFloat cX0_ofFloat 4 (some .int) 0 0 g 15 [] [(1, .float l1), (2, .int l2), (3, .int l3)] h r h2 := by
  intro fu1
  induction fu1 with
  | zero =>
    intro l1 l2 l3 hf
    cases hf
  | succ fu1 ih =>
    intro l1 l2 l3 hf
    rw [f_X0_ofFloat_l15_s] at hf
    have hk := ih
    refine ev_iload_n (n := 2) dX0_ofFloat_15 rfl rfl ?_
    refine ev_bipush (v := 127) dX0_ofFloat_16 (by decide) ?_
    refine ev_icmp_ge (tgt := 40) dX0_ofFloat_18 (by decide) (fun c1 => ?_) (fun c1 => ?_)
    · replace hf := if_t c1 hf
      refine ev_sub [0, 1] rfl (lv2 := [(1, .float l1), (2, .int l2)]) ?_
      obtain ⟨rfl, rfl⟩ := Prod.mk.inj (Option.some.inj hf)
      exact hx0
    · replace hf := if_f c1 hf
      refine ev_fload_n (n := 0) dX0_ofFloat_21 rfl rfl ?_
      refine ev_fconst2 dX0_ofFloat_22 ?_
      refine ev_fcmp dX0_ofFloat_23 ?_
      refine ev_if_lt (tgt := 40) dX0_ofFloat_24 (by decide) (fun c1 => ?_) (fun c1 => ?_)
      · replace hf := if_t c1 hf
        refine ev_sub [0, 1] rfl (lv2 := [(1, .float l1), (2, .int l2)]) ?_
        obtain ⟨rfl, rfl⟩ := Prod.mk.inj (Option.some.inj hf)
        exact hx0
      · replace hf := if_f c1 hf
        refine ev_fload_n (n := 0) dX0_ofFloat_27 rfl rfl ?_
        refine ev_fconst2 dX0_ofFloat_28 ?_
        obtain ⟨gd1, hf⟩ := gd_of hf
        refine ev_fdiv dX0_ofFloat_29 (nn32_of gd1) ?_
        refine ev_fstore_n (lv2 := [(1, .float (FP.fdiv l1 FP.fconst2)), (2, .int l2), (3, .int l3)]) dX0_ofFloat_30 rfl (by decide) rfl ?_
        refine ev_iinc (z := 1) (v := (l2 + 1)) (lv2 := [(2, .int (l2 + 1)), (1, .float (FP.fdiv l1 FP.fconst2)), (3, .int l3)]) dX0_ofFloat_31 rfl rfl (by decide) rfl ?_
        refine ev_iinc (z := 2) (v := (l3 + 1)) (lv2 := [(3, .int (l3 + 1)), (2, .int (l2 + 1)), (1, .float (FP.fdiv l1 FP.fconst2))]) dX0_ofFloat_34 rfl rfl (by decide) rfl ?_
        refine ev_goto (tgt := 15) dX0_ofFloat_37 (by decide) ?_
        refine ev_sub [2, 1, 0] rfl (lv2 := [(1, .float (FP.fdiv l1 FP.fconst2)), (2, .int (l2 + 1)), (3, .int (l3 + 1))]) ?_
        exact hk _ _ _ hf
def f_X0_ofFloat_l42 (h : Hp)  : Nat → UInt32 → Int32 → Int32 → Option (UInt32 × Int32)
  | 0, _, _, _ => none
  | fu1 + 1, l1, l2, l3 => (if (126 : Int32) ≤ l3 then (some (l1, l2)) else (if 0 ≤ (Op.cmpValue (FP.fcmp l1 FP.fconst1) .g) then (some (l1, l2)) else (if nn32 (FP.fmul l1 FP.fconst2) = true then (f_X0_ofFloat_l42 h fu1 (FP.fmul l1 FP.fconst2) (l2 + (-1)) (l3 + 1)) else none)))
theorem f_X0_ofFloat_l42_s (h : Hp)  (fu1 : Nat) (l1 : UInt32) (l2 : Int32) (l3 : Int32) : f_X0_ofFloat_l42 h (fu1 + 1) l1 l2 l3 = (if (126 : Int32) ≤ l3 then (some (l1, l2)) else (if 0 ≤ (Op.cmpValue (FP.fcmp l1 FP.fconst1) .g) then (some (l1, l2)) else (if nn32 (FP.fmul l1 FP.fconst2) = true then (f_X0_ofFloat_l42 h fu1 (FP.fmul l1 FP.fconst2) (l2 + (-1)) (l3 + 1)) else none))) := rfl
theorem f_X0_ofFloat_l42_0 (h : Hp)  (l1 : UInt32) (l2 : Int32) (l3 : Int32) : f_X0_ofFloat_l42 h 0 l1 l2 l3 = none := rfl
set_option maxRecDepth 100000 in
set_option maxHeartbeats 4000000 in
theorem lp_X0_ofFloat_42 {g : Gl} {h : Hp}  {r : Option Value} {h2 : Hp} {o1 : UInt32} {o2 : Int32}  (hx0 : Ev yX0_ofFloat cX0_ofFloat 4 (some .int) 0 0 g 67 [] [(1, .float o1), (2, .int o2)] h r h2) : ∀ (fu1 : Nat) (l1 : UInt32) (l2 : Int32) (l3 : Int32), f_X0_ofFloat_l42 h fu1 l1 l2 l3 = some (o1, o2) → Ev yX0_ofFloat cX0_ofFloat 4 (some .int) 0 0 g 42 [] [(1, .float l1), (2, .int l2), (3, .int l3)] h r h2 := by
  intro fu1
  induction fu1 with
  | zero =>
    intro l1 l2 l3 hf
    cases hf
  | succ fu1 ih =>
    intro l1 l2 l3 hf
    rw [f_X0_ofFloat_l42_s] at hf
    have hk := ih
    refine ev_iload_n (n := 2) dX0_ofFloat_42 rfl rfl ?_
    refine ev_bipush (v := 126) dX0_ofFloat_43 (by decide) ?_
    refine ev_icmp_ge (tgt := 67) dX0_ofFloat_45 (by decide) (fun c1 => ?_) (fun c1 => ?_)
    · replace hf := if_t c1 hf
      refine ev_sub [0, 1] rfl (lv2 := [(1, .float l1), (2, .int l2)]) ?_
      obtain ⟨rfl, rfl⟩ := Prod.mk.inj (Option.some.inj hf)
      exact hx0
    · replace hf := if_f c1 hf
      refine ev_fload_n (n := 0) dX0_ofFloat_48 rfl rfl ?_
      refine ev_fconst1 dX0_ofFloat_49 ?_
      refine ev_fcmp dX0_ofFloat_50 ?_
      refine ev_if_ge (tgt := 67) dX0_ofFloat_51 (by decide) (fun c1 => ?_) (fun c1 => ?_)
      · replace hf := if_t c1 hf
        refine ev_sub [0, 1] rfl (lv2 := [(1, .float l1), (2, .int l2)]) ?_
        obtain ⟨rfl, rfl⟩ := Prod.mk.inj (Option.some.inj hf)
        exact hx0
      · replace hf := if_f c1 hf
        refine ev_fload_n (n := 0) dX0_ofFloat_54 rfl rfl ?_
        refine ev_fconst2 dX0_ofFloat_55 ?_
        obtain ⟨gd4, hf⟩ := gd_of hf
        refine ev_fmul dX0_ofFloat_56 (nn32_of gd4) ?_
        refine ev_fstore_n (lv2 := [(1, .float (FP.fmul l1 FP.fconst2)), (2, .int l2), (3, .int l3)]) dX0_ofFloat_57 rfl (by decide) rfl ?_
        refine ev_iinc (z := 1) (v := (l2 + (-1))) (lv2 := [(2, .int (l2 + (-1))), (1, .float (FP.fmul l1 FP.fconst2)), (3, .int l3)]) dX0_ofFloat_58 rfl rfl (by decide) rfl ?_
        refine ev_iinc (z := 2) (v := (l3 + 1)) (lv2 := [(3, .int (l3 + 1)), (2, .int (l2 + (-1))), (1, .float (FP.fmul l1 FP.fconst2))]) dX0_ofFloat_61 rfl rfl (by decide) rfl ?_
        refine ev_goto (tgt := 42) dX0_ofFloat_64 (by decide) ?_
        refine ev_sub [2, 1, 0] rfl (lv2 := [(1, .float (FP.fmul l1 FP.fconst2)), (2, .int (l2 + (-1))), (3, .int (l3 + 1))]) ?_
        exact hk _ _ _ hf
def f_X0_ofFloat_j67 (h : Hp) (l1 : UInt32) (l2 : Int32) : Option (Int32) := (if 0 ≤ (Op.cmpValue (FP.fcmp l1 FP.fconst1) .g) then (if nn32 (FP.fsub l1 FP.fconst1) = true then (if nn32 (FP.fmul (FP.fsub l1 FP.fconst1) (1258291200 : UInt32)) = true then (some ((l2 <<< ((23 : Int32) &&& 31)) + (FP.f2i (FP.fmul (FP.fsub l1 FP.fconst1) (1258291200 : UInt32))))) else none) else none) else (if nn32 (FP.fmul l1 (1258291200 : UInt32)) = true then (some (FP.f2i (FP.fmul l1 (1258291200 : UInt32)))) else none))
set_option maxRecDepth 100000 in
set_option maxHeartbeats 4000000 in
theorem jn_X0_ofFloat_67 {g : Gl} {h : Hp} {l1 : UInt32} {l2 : Int32}  {rv : Int32}    (hf : f_X0_ofFloat_j67 h l1 l2 = some rv) : Ev yX0_ofFloat cX0_ofFloat 4 (some .int) 0 0 g 67 [] [(1, .float l1), (2, .int l2)] h (some (.int rv)) h := by
  unfold f_X0_ofFloat_j67 at hf
  refine ev_fload_n (n := 0) dX0_ofFloat_67 rfl rfl ?_
  refine ev_fconst1 dX0_ofFloat_68 ?_
  refine ev_fcmp dX0_ofFloat_69 ?_
  refine ev_if_ge (tgt := 79) dX0_ofFloat_70 (by decide) (fun c1 => ?_) (fun c1 => ?_)
  · replace hf := if_t c1 hf
    refine ev_iload_n (n := 1) dX0_ofFloat_79 rfl rfl ?_
    refine ev_bipush (v := 23) dX0_ofFloat_80 (by decide) ?_
    refine ev_ishl dX0_ofFloat_82 ?_
    refine ev_fload_n (n := 0) dX0_ofFloat_83 rfl rfl ?_
    refine ev_fconst1 dX0_ofFloat_84 ?_
    obtain ⟨gd7, hf⟩ := gd_of hf
    refine ev_fsub dX0_ofFloat_85 (nn32_of gd7) ?_
    refine ev_ldcf dX0_ofFloat_86 lk_485 ?_
    obtain ⟨gd8, hf⟩ := gd_of hf
    refine ev_fmul dX0_ofFloat_88 (nn32_of gd8) ?_
    refine ev_f2i dX0_ofFloat_89 ?_
    refine ev_iadd dX0_ofFloat_90 ?_
    obtain rfl := Option.some.inj hf
    exact ev_ireturn dX0_ofFloat_91 ⟨.int, rfl, rfl⟩
  · replace hf := if_f c1 hf
    refine ev_fload_n (n := 0) dX0_ofFloat_73 rfl rfl ?_
    refine ev_ldcf dX0_ofFloat_74 lk_485 ?_
    obtain ⟨gd9, hf⟩ := gd_of hf
    refine ev_fmul dX0_ofFloat_76 (nn32_of gd9) ?_
    refine ev_f2i dX0_ofFloat_77 ?_
    obtain rfl := Option.some.inj hf
    exact ev_ireturn dX0_ofFloat_78 ⟨.int, rfl, rfl⟩
def f_X0_ofFloat_j40 (h : Hp) (l1 : UInt32) (l2 : Int32) : Option (Int32) := (bn2 (f_X0_ofFloat_l42 h fu l1 l2 (0 : Int32)) (fun w1_5 w2_6 => (f_X0_ofFloat_j67 h w1_5 w2_6)))
set_option maxRecDepth 100000 in
set_option maxHeartbeats 4000000 in
theorem jn_X0_ofFloat_40 {g : Gl} {h : Hp} {l1 : UInt32} {l2 : Int32}  {rv : Int32}    (hf : f_X0_ofFloat_j40 h l1 l2 = some rv) : Ev yX0_ofFloat cX0_ofFloat 4 (some .int) 0 0 g 40 [] [(1, .float l1), (2, .int l2)] h (some (.int rv)) h := by
  unfold f_X0_ofFloat_j40 at hf
  refine ev_iconst (v := 0) dX0_ofFloat_40 (by decide) ?_
  refine ev_istore_n (lv2 := [(3, .int (0 : Int32)), (1, .float l1), (2, .int l2)]) dX0_ofFloat_41 rfl (by decide) rfl ?_
  obtain ⟨w1_5, w2_6, e10, hf⟩ := bn2_of hf
  refine ev_sub [1, 2, 0] rfl (lv2 := [(1, .float l1), (2, .int l2), (3, .int (0 : Int32))]) ?_
  refine lp_X0_ofFloat_42  ?_ fu _ _ _ e10
  exact jn_X0_ofFloat_67 hf
def f_X0_ofFloat (h : Hp) (l0 : UInt32) : Option (Int32) := (if 0 < (Op.cmpValue (FP.fcmp l0 FP.fconst0) .l) then (bn2 (f_X0_ofFloat_l15 h fu l0 (127 : Int32) (0 : Int32)) (fun w1_2 w2_3 => (f_X0_ofFloat_j40 h w1_2 w2_3))) else (some (0 : Int32)))
set_option maxRecDepth 100000 in
set_option maxHeartbeats 4000000 in
theorem ev_X0_ofFloat {g : Gl} {h : Hp} {l0 : UInt32} {rv : Int32}  (hf : f_X0_ofFloat h l0 = some rv) : Ev yX0_ofFloat cX0_ofFloat 4 (some .int) 0 0 g 0 [] [(0, .float l0)] h (some (.int rv)) h := by
  unfold f_X0_ofFloat at hf
  refine ev_fload_n (n := 0) dX0_ofFloat_0 rfl rfl ?_
  refine ev_fconst0 dX0_ofFloat_1 ?_
  refine ev_fcmp dX0_ofFloat_2 ?_
  refine ev_if_gt (tgt := 8) dX0_ofFloat_3 (by decide) (fun c1 => ?_) (fun c1 => ?_)
  · replace hf := if_t c1 hf
    refine ev_fload_n (n := 0) dX0_ofFloat_8 rfl rfl ?_
    refine ev_fstore_n (lv2 := [(1, .float l0), (0, .float l0)]) dX0_ofFloat_9 rfl (by decide) rfl ?_
    refine ev_bipush (v := 127) dX0_ofFloat_10 (by decide) ?_
    refine ev_istore_n (lv2 := [(2, .int (127 : Int32)), (1, .float l0), (0, .float l0)]) dX0_ofFloat_12 rfl (by decide) rfl ?_
    refine ev_iconst (v := 0) dX0_ofFloat_13 (by decide) ?_
    refine ev_istore_n (lv2 := [(3, .int (0 : Int32)), (2, .int (127 : Int32)), (1, .float l0), (0, .float l0)]) dX0_ofFloat_14 rfl (by decide) rfl ?_
    obtain ⟨w1_2, w2_3, e11, hf⟩ := bn2_of hf
    refine ev_sub [2, 1, 0] rfl (lv2 := [(1, .float l0), (2, .int (127 : Int32)), (3, .int (0 : Int32))]) ?_
    refine lp_X0_ofFloat_15  ?_ fu _ _ _ e11
    exact jn_X0_ofFloat_40 hf
  · replace hf := if_f c1 hf
    refine ev_iconst (v := 0) dX0_ofFloat_6 (by decide) ?_
    obtain rfl := Option.some.inj hf
    exact ev_ireturn dX0_ofFloat_7 ⟨.int, rfl, rfl⟩
def f_X0_ofDouble_l10 (h : Hp)  : Nat → UInt64 → Int64 → Int32 → Option (UInt64 × Int64)
  | 0, _, _, _ => none
  | fu1 + 1, l2, l4, l6 => (if (1022 : Int32) ≤ l6 then (some (l2, l4)) else (if 0 ≤ (Op.cmpValue (FP.dcmp l2 FP.dconst1) .g) then (some (l2, l4)) else (if nn64 (FP.dmul l2 (4611686018427387904 : UInt64)) = true then (f_X0_ofDouble_l10 h fu1 (FP.dmul l2 (4611686018427387904 : UInt64)) (l4 - (1 : Int64)) (l6 + 1)) else none)))
theorem f_X0_ofDouble_l10_s (h : Hp)  (fu1 : Nat) (l2 : UInt64) (l4 : Int64) (l6 : Int32) : f_X0_ofDouble_l10 h (fu1 + 1) l2 l4 l6 = (if (1022 : Int32) ≤ l6 then (some (l2, l4)) else (if 0 ≤ (Op.cmpValue (FP.dcmp l2 FP.dconst1) .g) then (some (l2, l4)) else (if nn64 (FP.dmul l2 (4611686018427387904 : UInt64)) = true then (f_X0_ofDouble_l10 h fu1 (FP.dmul l2 (4611686018427387904 : UInt64)) (l4 - (1 : Int64)) (l6 + 1)) else none))) := rfl
theorem f_X0_ofDouble_l10_0 (h : Hp)  (l2 : UInt64) (l4 : Int64) (l6 : Int32) : f_X0_ofDouble_l10 h 0 l2 l4 l6 = none := rfl
set_option maxRecDepth 100000 in
set_option maxHeartbeats 4000000 in
theorem lp_X0_ofDouble_10 {g : Gl} {h : Hp}  {r : Option Value} {h2 : Hp} {o2 : UInt64} {o4 : Int64}  (hx0 : Ev yX0_ofDouble cX0_ofDouble 7 (some .long) 0 0 g 42 [] [(2, .double o2), (4, .long o4)] h r h2) : ∀ (fu1 : Nat) (l2 : UInt64) (l4 : Int64) (l6 : Int32), f_X0_ofDouble_l10 h fu1 l2 l4 l6 = some (o2, o4) → Ev yX0_ofDouble cX0_ofDouble 7 (some .long) 0 0 g 10 [] [(2, .double l2), (4, .long l4), (6, .int l6)] h r h2 := by
  intro fu1
  induction fu1 with
  | zero =>
    intro l2 l4 l6 hf
    cases hf
  | succ fu1 ih =>
    intro l2 l4 l6 hf
    rw [f_X0_ofDouble_l10_s] at hf
    have hk := ih
    refine ev_iload (n := 2) dX0_ofDouble_10 rfl ?_
    refine ev_sipush (v := 1022) dX0_ofDouble_12 (by decide) ?_
    refine ev_icmp_ge (tgt := 42) dX0_ofDouble_15 (by decide) (fun c1 => ?_) (fun c1 => ?_)
    · replace hf := if_t c1 hf
      refine ev_sub [0, 1] rfl (lv2 := [(2, .double l2), (4, .long l4)]) ?_
      obtain ⟨rfl, rfl⟩ := Prod.mk.inj (Option.some.inj hf)
      exact hx0
    · replace hf := if_f c1 hf
      refine ev_dload_n (n := 0) dX0_ofDouble_18 rfl rfl ?_
      refine ev_dconst1 dX0_ofDouble_19 ?_
      refine ev_dcmp dX0_ofDouble_20 ?_
      refine ev_if_ge (tgt := 42) dX0_ofDouble_21 (by decide) (fun c1 => ?_) (fun c1 => ?_)
      · replace hf := if_t c1 hf
        refine ev_sub [0, 1] rfl (lv2 := [(2, .double l2), (4, .long l4)]) ?_
        obtain ⟨rfl, rfl⟩ := Prod.mk.inj (Option.some.inj hf)
        exact hx0
      · replace hf := if_f c1 hf
        refine ev_dload_n (n := 0) dX0_ofDouble_24 rfl rfl ?_
        refine ev_ldc2d dX0_ofDouble_25 lk_515 ?_
        obtain ⟨gd1, hf⟩ := gd_of hf
        refine ev_dmul dX0_ofDouble_28 (nn64_of gd1) ?_
        refine ev_dstore_n (lv2 := [(2, .double (FP.dmul l2 (4611686018427387904 : UInt64))), (4, .long l4), (6, .int l6)]) dX0_ofDouble_29 rfl (by decide) rfl ?_
        refine ev_lload (n := 1) dX0_ofDouble_30 rfl ?_
        refine ev_lconst (v := 1) dX0_ofDouble_32 (by decide) ?_
        refine ev_lsub dX0_ofDouble_33 ?_
        refine ev_lstore (lv2 := [(4, .long (l4 - (1 : Int64))), (2, .double (FP.dmul l2 (4611686018427387904 : UInt64))), (6, .int l6)]) dX0_ofDouble_34 (by decide) rfl ?_
        refine ev_iinc (z := 2) (v := (l6 + 1)) (lv2 := [(6, .int (l6 + 1)), (4, .long (l4 - (1 : Int64))), (2, .double (FP.dmul l2 (4611686018427387904 : UInt64)))]) dX0_ofDouble_36 rfl rfl (by decide) rfl ?_
        refine ev_goto (tgt := 10) dX0_ofDouble_39 (by decide) ?_
        refine ev_sub [2, 1, 0] rfl (lv2 := [(2, .double (FP.dmul l2 (4611686018427387904 : UInt64))), (4, .long (l4 - (1 : Int64))), (6, .int (l6 + 1))]) ?_
        exact hk _ _ _ hf
def f_X0_ofDouble_j42 (h : Hp) (l2 : UInt64) (l4 : Int64) : Option (Int64) := (if nn64 (FP.dsub l2 FP.dconst1) = true then (if nn64 (FP.dmul (FP.dsub l2 FP.dconst1) (4841369599423283200 : UInt64)) = true then (some ((l4 <<< ((52 : Int32).toInt64 &&& 63)) + (FP.d2l (FP.dmul (FP.dsub l2 FP.dconst1) (4841369599423283200 : UInt64))))) else none) else none)
set_option maxRecDepth 100000 in
set_option maxHeartbeats 4000000 in
theorem jn_X0_ofDouble_42 {g : Gl} {h : Hp} {l2 : UInt64} {l4 : Int64}  {rv : Int64}    (hf : f_X0_ofDouble_j42 h l2 l4 = some rv) : Ev yX0_ofDouble cX0_ofDouble 7 (some .long) 0 0 g 42 [] [(2, .double l2), (4, .long l4)] h (some (.long rv)) h := by
  unfold f_X0_ofDouble_j42 at hf
  refine ev_lload (n := 1) dX0_ofDouble_42 rfl ?_
  refine ev_bipush (v := 52) dX0_ofDouble_44 (by decide) ?_
  refine ev_lshl dX0_ofDouble_46 ?_
  refine ev_dload_n (n := 0) dX0_ofDouble_47 rfl rfl ?_
  refine ev_dconst1 dX0_ofDouble_48 ?_
  obtain ⟨gd4, hf⟩ := gd_of hf
  refine ev_dsub dX0_ofDouble_49 (nn64_of gd4) ?_
  refine ev_ldc2d dX0_ofDouble_50 lk_516 ?_
  obtain ⟨gd5, hf⟩ := gd_of hf
  refine ev_dmul dX0_ofDouble_53 (nn64_of gd5) ?_
  refine ev_d2l dX0_ofDouble_54 ?_
  refine ev_ladd dX0_ofDouble_55 ?_
  obtain rfl := Option.some.inj hf
  exact ev_lreturn dX0_ofDouble_56 rfl
def f_X0_ofDouble (h : Hp) (l0 : UInt64) : Option (Int64) := (bn2 (f_X0_ofDouble_l10 h fu l0 (1023 : Int64) (0 : Int32)) (fun w2_2 w4_3 => (f_X0_ofDouble_j42 h w2_2 w4_3)))
set_option maxRecDepth 100000 in
set_option maxHeartbeats 4000000 in
theorem ev_X0_ofDouble {g : Gl} {h : Hp} {l0 : UInt64} {rv : Int64}  (hf : f_X0_ofDouble h l0 = some rv) : Ev yX0_ofDouble cX0_ofDouble 7 (some .long) 0 0 g 0 [] [(0, .double l0)] h (some (.long rv)) h := by
  unfold f_X0_ofDouble at hf
  refine ev_dload_n (n := 0) dX0_ofDouble_0 rfl rfl ?_
  refine ev_dstore_n (lv2 := [(2, .double l0), (0, .double l0)]) dX0_ofDouble_1 rfl (by decide) rfl ?_
  refine ev_ldc2 dX0_ofDouble_2 lk_514 ?_
  refine ev_lstore (lv2 := [(4, .long (1023 : Int64)), (2, .double l0), (0, .double l0)]) dX0_ofDouble_5 (by decide) rfl ?_
  refine ev_iconst (v := 0) dX0_ofDouble_7 (by decide) ?_
  refine ev_istore (lv2 := [(6, .int (0 : Int32)), (4, .long (1023 : Int64)), (2, .double l0), (0, .double l0)]) dX0_ofDouble_8 (by decide) rfl ?_
  obtain ⟨w2_2, w4_3, e6, hf⟩ := bn2_of hf
  refine ev_sub [2, 1, 0] rfl (lv2 := [(2, .double l0), (4, .long (1023 : Int64)), (6, .int (0 : Int32))]) ?_
  refine lp_X0_ofDouble_10  ?_ fu _ _ _ e6
  exact jn_X0_ofDouble_42 hf
def f_X1_startAs_l47 (l0 : Nat) : Nat → Int32 → Hp → Option (Hp)
  | 0, _, _ => none
  | fu1 + 1, l3, h => (if (6 : Int32) ≤ l3 then (some h) else (if inb l3 6 = true then (if inb l3 6 = true then (f_X1_startAs_l47 l0 fu1 (l3 + 1) (sF (sI h (l0 + 2) l3.toNatClampNeg (0 : Int32)) (l0 + 3) l3.toNatClampNeg FP.fconst0)) else none) else none))
theorem f_X1_startAs_l47_s (l0 : Nat) (fu1 : Nat) (l3 : Int32) (h : Hp) : f_X1_startAs_l47 l0 (fu1 + 1) l3 h = (if (6 : Int32) ≤ l3 then (some h) else (if inb l3 6 = true then (if inb l3 6 = true then (f_X1_startAs_l47 l0 fu1 (l3 + 1) (sF (sI h (l0 + 2) l3.toNatClampNeg (0 : Int32)) (l0 + 3) l3.toNatClampNeg FP.fconst0)) else none) else none)) := rfl
theorem f_X1_startAs_l47_0 (l0 : Nat) (l3 : Int32) (h : Hp) : f_X1_startAs_l47 l0 0 l3 h = none := rfl
set_option maxRecDepth 100000 in
set_option maxHeartbeats 4000000 in
theorem lp_X1_startAs_47 {g : Gl} {l0 : Nat} {r : Option Value} {h2 : Hp} {h3 : Hp} (kl0 : KD g.1 l0 0 0) (hx0 : Ev yX1_startAs cX1_startAs 4 none 0 0 g 73 [] [] h3 r h2) : ∀ (fu1 : Nat) (l3 : Int32) (h : Hp), f_X1_startAs_l47 l0 fu1 l3 h = some h3 → Ev yX1_startAs cX1_startAs 4 none 0 0 g 47 [] [(0, .ref l0), (3, .int l3)] h r h2 := by
  intro fu1
  induction fu1 with
  | zero =>
    intro l3 h hf
    cases hf
  | succ fu1 ih =>
    intro l3 h hf
    rw [f_X1_startAs_l47_s] at hf
    have hk := ih
    refine ev_iload_n (n := 1) dX1_startAs_47 rfl rfl ?_
    refine ev_bipush (v := 6) dX1_startAs_48 (by decide) ?_
    refine ev_icmp_ge (tgt := 73) dX1_startAs_50 (by decide) (fun c1 => ?_) (fun c1 => ?_)
    · replace hf := if_t c1 hf
      refine ev_sub [] rfl (lv2 := []) ?_
      obtain rfl := Option.some.inj hf
      exact hx0
    · replace hf := if_f c1 hf
      refine ev_aload_n (n := 0) dX1_startAs_53 rfl rfl ?_
      refine ev_get (v := .ref (l0 + 2)) 10 kl0 rfl (by decide) rfl lk_66 dX1_startAs_54 ?_
      refine ev_iload_n (n := 1) dX1_startAs_57 rfl rfl ?_
      refine ev_iconst (v := 0) dX1_startAs_58 (by decide) ?_
      obtain ⟨gd1, hf⟩ := gd_of hf
      refine ev_iast (kd_0_10 kl0) (inb_of gd1) dX1_startAs_59 ?_
      refine ev_aload_n (n := 0) dX1_startAs_60 rfl rfl ?_
      refine ev_get (v := .ref (l0 + 3)) 11 kl0 rfl (by decide) rfl lk_69 dX1_startAs_61 ?_
      refine ev_iload_n (n := 1) dX1_startAs_64 rfl rfl ?_
      refine ev_fconst0 dX1_startAs_65 ?_
      obtain ⟨gd2, hf⟩ := gd_of hf
      refine ev_fast (kd_0_11 kl0) (inb_of gd2) dX1_startAs_66 ?_
      refine ev_iinc (z := 1) (v := (l3 + 1)) (lv2 := [(3, .int (l3 + 1)), (0, .ref l0)]) dX1_startAs_67 rfl rfl (by decide) rfl ?_
      refine ev_goto (tgt := 47) dX1_startAs_70 (by decide) ?_
      refine ev_sub [1, 0] rfl (lv2 := [(0, .ref l0), (3, .int (l3 + 1))]) ?_
      exact hk _ _ hf
def f_X1_startAs (h : Hp) (l0 : Nat) (l1 : Int32) (l2 : Int32) : Option (Hp) := (bn1 (f_X1_startAs_l47 l0 fu (0 : Int32) (sI (sI (sI (sI (sI (sI (sI (sI (sI h l0 0 l1) l0 1 l2) l0 2 (0 : Int32)) l0 3 (0 : Int32)) l0 4 (0 : Int32)) l0 5 (-1 : Int32)) l0 6 (0 : Int32)) l0 7 (0 : Int32)) l0 8 (0 : Int32))) (fun h3 => (some h3)))
set_option maxRecDepth 100000 in
set_option maxHeartbeats 4000000 in
theorem ev_X1_startAs {g : Gl} {h : Hp} {l0 : Nat} {l1 : Int32} {l2 : Int32} {h2 : Hp} (kl0 : KD g.1 l0 0 0) (hf : f_X1_startAs h l0 l1 l2 = some h2) : Ev yX1_startAs cX1_startAs 4 none 0 0 g 0 [] [(0, .ref l0), (1, .int l1), (2, .int l2)] h none h2 := by
  unfold f_X1_startAs at hf
  refine ev_aload_n (n := 0) dX1_startAs_0 rfl rfl ?_
  refine ev_iload_n (n := 1) dX1_startAs_1 rfl rfl ?_
  refine ev_putI 0 kl0 rfl (by decide) rfl (by decide +kernel) rfl (by exact Nat.le_of_ble_eq_true rfl) lk_35 dX1_startAs_2 ?_
  refine ev_aload_n (n := 0) dX1_startAs_5 rfl rfl ?_
  refine ev_iload_n (n := 2) dX1_startAs_6 rfl rfl ?_
  refine ev_putI 1 kl0 rfl (by decide) rfl (by decide +kernel) rfl (by exact Nat.le_of_ble_eq_true rfl) lk_38 dX1_startAs_7 ?_
  refine ev_aload_n (n := 0) dX1_startAs_10 rfl rfl ?_
  refine ev_iconst (v := 0) dX1_startAs_11 (by decide) ?_
  refine ev_putI 2 kl0 rfl (by decide) rfl (by decide +kernel) rfl (by exact Nat.le_of_ble_eq_true rfl) lk_41 dX1_startAs_12 ?_
  refine ev_aload_n (n := 0) dX1_startAs_15 rfl rfl ?_
  refine ev_iconst (v := 0) dX1_startAs_16 (by decide) ?_
  refine ev_putI 3 kl0 rfl (by decide) rfl (by decide +kernel) rfl (by exact Nat.le_of_ble_eq_true rfl) lk_44 dX1_startAs_17 ?_
  refine ev_aload_n (n := 0) dX1_startAs_20 rfl rfl ?_
  refine ev_iconst (v := 0) dX1_startAs_21 (by decide) ?_
  refine ev_putI 4 kl0 rfl (by decide) rfl (by decide +kernel) rfl (by exact Nat.le_of_ble_eq_true rfl) lk_47 dX1_startAs_22 ?_
  refine ev_aload_n (n := 0) dX1_startAs_25 rfl rfl ?_
  refine ev_iconst (v := -1) dX1_startAs_26 (by decide) ?_
  refine ev_putI 5 kl0 rfl (by decide) rfl (by decide +kernel) rfl (by exact Nat.le_of_ble_eq_true rfl) lk_50 dX1_startAs_27 ?_
  refine ev_aload_n (n := 0) dX1_startAs_30 rfl rfl ?_
  refine ev_iconst (v := 0) dX1_startAs_31 (by decide) ?_
  refine ev_putI 6 kl0 rfl (by decide) rfl (by decide +kernel) rfl (by exact Nat.le_of_ble_eq_true rfl) lk_53 dX1_startAs_32 ?_
  refine ev_aload_n (n := 0) dX1_startAs_35 rfl rfl ?_
  refine ev_iconst (v := 0) dX1_startAs_36 (by decide) ?_
  refine ev_putI 7 kl0 rfl (by decide) rfl (by decide +kernel) rfl (by exact Nat.le_of_ble_eq_true rfl) lk_56 dX1_startAs_37 ?_
  refine ev_aload_n (n := 0) dX1_startAs_40 rfl rfl ?_
  refine ev_iconst (v := 0) dX1_startAs_41 (by decide) ?_
  refine ev_putI 8 kl0 rfl (by decide) rfl (by decide +kernel) rfl (by exact Nat.le_of_ble_eq_true rfl) lk_60 dX1_startAs_42 ?_
  refine ev_iconst (v := 0) dX1_startAs_45 (by decide) ?_
  refine ev_istore_n (lv2 := [(3, .int (0 : Int32)), (0, .ref l0), (1, .int l1), (2, .int l2)]) dX1_startAs_46 rfl (by decide) rfl ?_
  obtain ⟨h3, e4, hf⟩ := bn1_of hf
  refine ev_sub [1, 0] rfl (lv2 := [(0, .ref l0), (3, .int (0 : Int32))]) ?_
  refine lp_X1_startAs_47 kl0 ?_ fu _ _ e4
  obtain rfl := Option.some.inj hf
  exact ev_return_ dX1_startAs_73 rfl
def f_X1_copyFrom (h : Hp) (l0 : Nat) (l1 : Nat) : Option (Hp) := (some (cpF (cpI (cpI (sI (sI (sI (sI (sI (sI (sI (sI (sI h l0 0 (hI h l1 0)) l0 1 (hI (sI h l0 0 (hI h l1 0)) l1 1)) l0 2 (hI (sI (sI h l0 0 (hI h l1 0)) l0 1 (hI (sI h l0 0 (hI h l1 0)) l1 1)) l1 2)) l0 3 (hI (sI (sI (sI h l0 0 (hI h l1 0)) l0 1 (hI (sI h l0 0 (hI h l1 0)) l1 1)) l0 2 (hI (sI (sI h l0 0 (hI h l1 0)) l0 1 (hI (sI h l0 0 (hI h l1 0)) l1 1)) l1 2)) l1 3)) l0 4 (hI (sI (sI (sI (sI h l0 0 (hI h l1 0)) l0 1 (hI (sI h l0 0 (hI h l1 0)) l1 1)) l0 2 (hI (sI (sI h l0 0 (hI h l1 0)) l0 1 (hI (sI h l0 0 (hI h l1 0)) l1 1)) l1 2)) l0 3 (hI (sI (sI (sI h l0 0 (hI h l1 0)) l0 1 (hI (sI h l0 0 (hI h l1 0)) l1 1)) l0 2 (hI (sI (sI h l0 0 (hI h l1 0)) l0 1 (hI (sI h l0 0 (hI h l1 0)) l1 1)) l1 2)) l1 3)) l1 4)) l0 5 (hI (sI (sI (sI (sI (sI h l0 0 (hI h l1 0)) l0 1 (hI (sI h l0 0 (hI h l1 0)) l1 1)) l0 2 (hI (sI (sI h l0 0 (hI h l1 0)) l0 1 (hI (sI h l0 0 (hI h l1 0)) l1 1)) l1 2)) l0 3 (hI (sI (sI (sI h l0 0 (hI h l1 0)) l0 1 (hI (sI h l0 0 (hI h l1 0)) l1 1)) l0 2 (hI (sI (sI h l0 0 (hI h l1 0)) l0 1 (hI (sI h l0 0 (hI h l1 0)) l1 1)) l1 2)) l1 3)) l0 4 (hI (sI (sI (sI (sI h l0 0 (hI h l1 0)) l0 1 (hI (sI h l0 0 (hI h l1 0)) l1 1)) l0 2 (hI (sI (sI h l0 0 (hI h l1 0)) l0 1 (hI (sI h l0 0 (hI h l1 0)) l1 1)) l1 2)) l0 3 (hI (sI (sI (sI h l0 0 (hI h l1 0)) l0 1 (hI (sI h l0 0 (hI h l1 0)) l1 1)) l0 2 (hI (sI (sI h l0 0 (hI h l1 0)) l0 1 (hI (sI h l0 0 (hI h l1 0)) l1 1)) l1 2)) l1 3)) l1 4)) l1 5)) l0 6 (hI (sI (sI (sI (sI (sI (sI h l0 0 (hI h l1 0)) l0 1 (hI (sI h l0 0 (hI h l1 0)) l1 1)) l0 2 (hI (sI (sI h l0 0 (hI h l1 0)) l0 1 (hI (sI h l0 0 (hI h l1 0)) l1 1)) l1 2)) l0 3 (hI (sI (sI (sI h l0 0 (hI h l1 0)) l0 1 (hI (sI h l0 0 (hI h l1 0)) l1 1)) l0 2 (hI (sI (sI h l0 0 (hI h l1 0)) l0 1 (hI (sI h l0 0 (hI h l1 0)) l1 1)) l1 2)) l1 3)) l0 4 (hI (sI (sI (sI (sI h l0 0 (hI h l1 0)) l0 1 (hI (sI h l0 0 (hI h l1 0)) l1 1)) l0 2 (hI (sI (sI h l0 0 (hI h l1 0)) l0 1 (hI (sI h l0 0 (hI h l1 0)) l1 1)) l1 2)) l0 3 (hI (sI (sI (sI h l0 0 (hI h l1 0)) l0 1 (hI (sI h l0 0 (hI h l1 0)) l1 1)) l0 2 (hI (sI (sI h l0 0 (hI h l1 0)) l0 1 (hI (sI h l0 0 (hI h l1 0)) l1 1)) l1 2)) l1 3)) l1 4)) l0 5 (hI (sI (sI (sI (sI (sI h l0 0 (hI h l1 0)) l0 1 (hI (sI h l0 0 (hI h l1 0)) l1 1)) l0 2 (hI (sI (sI h l0 0 (hI h l1 0)) l0 1 (hI (sI h l0 0 (hI h l1 0)) l1 1)) l1 2)) l0 3 (hI (sI (sI (sI h l0 0 (hI h l1 0)) l0 1 (hI (sI h l0 0 (hI h l1 0)) l1 1)) l0 2 (hI (sI (sI h l0 0 (hI h l1 0)) l0 1 (hI (sI h l0 0 (hI h l1 0)) l1 1)) l1 2)) l1 3)) l0 4 (hI (sI (sI (sI (sI h l0 0 (hI h l1 0)) l0 1 (hI (sI h l0 0 (hI h l1 0)) l1 1)) l0 2 (hI (sI (sI h l0 0 (hI h l1 0)) l0 1 (hI (sI h l0 0 (hI h l1 0)) l1 1)) l1 2)) l0 3 (hI (sI (sI (sI h l0 0 (hI h l1 0)) l0 1 (hI (sI h l0 0 (hI h l1 0)) l1 1)) l0 2 (hI (sI (sI h l0 0 (hI h l1 0)) l0 1 (hI (sI h l0 0 (hI h l1 0)) l1 1)) l1 2)) l1 3)) l1 4)) l1 5)) l1 6)) l0 7 (hI (sI (sI (sI (sI (sI (sI (sI h l0 0 (hI h l1 0)) l0 1 (hI (sI h l0 0 (hI h l1 0)) l1 1)) l0 2 (hI (sI (sI h l0 0 (hI h l1 0)) l0 1 (hI (sI h l0 0 (hI h l1 0)) l1 1)) l1 2)) l0 3 (hI (sI (sI (sI h l0 0 (hI h l1 0)) l0 1 (hI (sI h l0 0 (hI h l1 0)) l1 1)) l0 2 (hI (sI (sI h l0 0 (hI h l1 0)) l0 1 (hI (sI h l0 0 (hI h l1 0)) l1 1)) l1 2)) l1 3)) l0 4 (hI (sI (sI (sI (sI h l0 0 (hI h l1 0)) l0 1 (hI (sI h l0 0 (hI h l1 0)) l1 1)) l0 2 (hI (sI (sI h l0 0 (hI h l1 0)) l0 1 (hI (sI h l0 0 (hI h l1 0)) l1 1)) l1 2)) l0 3 (hI (sI (sI (sI h l0 0 (hI h l1 0)) l0 1 (hI (sI h l0 0 (hI h l1 0)) l1 1)) l0 2 (hI (sI (sI h l0 0 (hI h l1 0)) l0 1 (hI (sI h l0 0 (hI h l1 0)) l1 1)) l1 2)) l1 3)) l1 4)) l0 5 (hI (sI (sI (sI (sI (sI h l0 0 (hI h l1 0)) l0 1 (hI (sI h l0 0 (hI h l1 0)) l1 1)) l0 2 (hI (sI (sI h l0 0 (hI h l1 0)) l0 1 (hI (sI h l0 0 (hI h l1 0)) l1 1)) l1 2)) l0 3 (hI (sI (sI (sI h l0 0 (hI h l1 0)) l0 1 (hI (sI h l0 0 (hI h l1 0)) l1 1)) l0 2 (hI (sI (sI h l0 0 (hI h l1 0)) l0 1 (hI (sI h l0 0 (hI h l1 0)) l1 1)) l1 2)) l1 3)) l0 4 (hI (sI (sI (sI (sI h l0 0 (hI h l1 0)) l0 1 (hI (sI h l0 0 (hI h l1 0)) l1 1)) l0 2 (hI (sI (sI h l0 0 (hI h l1 0)) l0 1 (hI (sI h l0 0 (hI h l1 0)) l1 1)) l1 2)) l0 3 (hI (sI (sI (sI h l0 0 (hI h l1 0)) l0 1 (hI (sI h l0 0 (hI h l1 0)) l1 1)) l0 2 (hI (sI (sI h l0 0 (hI h l1 0)) l0 1 (hI (sI h l0 0 (hI h l1 0)) l1 1)) l1 2)) l1 3)) l1 4)) l1 5)) l0 6 (hI (sI (sI (sI (sI (sI (sI h l0 0 (hI h l1 0)) l0 1 (hI (sI h l0 0 (hI h l1 0)) l1 1)) l0 2 (hI (sI (sI h l0 0 (hI h l1 0)) l0 1 (hI (sI h l0 0 (hI h l1 0)) l1 1)) l1 2)) l0 3 (hI (sI (sI (sI h l0 0 (hI h l1 0)) l0 1 (hI (sI h l0 0 (hI h l1 0)) l1 1)) l0 2 (hI (sI (sI h l0 0 (hI h l1 0)) l0 1 (hI (sI h l0 0 (hI h l1 0)) l1 1)) l1 2)) l1 3)) l0 4 (hI (sI (sI (sI (sI h l0 0 (hI h l1 0)) l0 1 (hI (sI h l0 0 (hI h l1 0)) l1 1)) l0 2 (hI (sI (sI h l0 0 (hI h l1 0)) l0 1 (hI (sI h l0 0 (hI h l1 0)) l1 1)) l1 2)) l0 3 (hI (sI (sI (sI h l0 0 (hI h l1 0)) l0 1 (hI (sI h l0 0 (hI h l1 0)) l1 1)) l0 2 (hI (sI (sI h l0 0 (hI h l1 0)) l0 1 (hI (sI h l0 0 (hI h l1 0)) l1 1)) l1 2)) l1 3)) l1 4)) l0 5 (hI (sI (sI (sI (sI (sI h l0 0 (hI h l1 0)) l0 1 (hI (sI h l0 0 (hI h l1 0)) l1 1)) l0 2 (hI (sI (sI h l0 0 (hI h l1 0)) l0 1 (hI (sI h l0 0 (hI h l1 0)) l1 1)) l1 2)) l0 3 (hI (sI (sI (sI h l0 0 (hI h l1 0)) l0 1 (hI (sI h l0 0 (hI h l1 0)) l1 1)) l0 2 (hI (sI (sI h l0 0 (hI h l1 0)) l0 1 (hI (sI h l0 0 (hI h l1 0)) l1 1)) l1 2)) l1 3)) l0 4 (hI (sI (sI (sI (sI h l0 0 (hI h l1 0)) l0 1 (hI (sI h l0 0 (hI h l1 0)) l1 1)) l0 2 (hI (sI (sI h l0 0 (hI h l1 0)) l0 1 (hI (sI h l0 0 (hI h l1 0)) l1 1)) l1 2)) l0 3 (hI (sI (sI (sI h l0 0 (hI h l1 0)) l0 1 (hI (sI h l0 0 (hI h l1 0)) l1 1)) l0 2 (hI (sI (sI h l0 0 (hI h l1 0)) l0 1 (hI (sI h l0 0 (hI h l1 0)) l1 1)) l1 2)) l1 3)) l1 4)) l1 5)) l1 6)) l1 7)) l0 8 (hI (sI (sI (sI (sI (sI (sI (sI (sI h l0 0 (hI h l1 0)) l0 1 (hI (sI h l0 0 (hI h l1 0)) l1 1)) l0 2 (hI (sI (sI h l0 0 (hI h l1 0)) l0 1 (hI (sI h l0 0 (hI h l1 0)) l1 1)) l1 2)) l0 3 (hI (sI (sI (sI h l0 0 (hI h l1 0)) l0 1 (hI (sI h l0 0 (hI h l1 0)) l1 1)) l0 2 (hI (sI (sI h l0 0 (hI h l1 0)) l0 1 (hI (sI h l0 0 (hI h l1 0)) l1 1)) l1 2)) l1 3)) l0 4 (hI (sI (sI (sI (sI h l0 0 (hI h l1 0)) l0 1 (hI (sI h l0 0 (hI h l1 0)) l1 1)) l0 2 (hI (sI (sI h l0 0 (hI h l1 0)) l0 1 (hI (sI h l0 0 (hI h l1 0)) l1 1)) l1 2)) l0 3 (hI (sI (sI (sI h l0 0 (hI h l1 0)) l0 1 (hI (sI h l0 0 (hI h l1 0)) l1 1)) l0 2 (hI (sI (sI h l0 0 (hI h l1 0)) l0 1 (hI (sI h l0 0 (hI h l1 0)) l1 1)) l1 2)) l1 3)) l1 4)) l0 5 (hI (sI (sI (sI (sI (sI h l0 0 (hI h l1 0)) l0 1 (hI (sI h l0 0 (hI h l1 0)) l1 1)) l0 2 (hI (sI (sI h l0 0 (hI h l1 0)) l0 1 (hI (sI h l0 0 (hI h l1 0)) l1 1)) l1 2)) l0 3 (hI (sI (sI (sI h l0 0 (hI h l1 0)) l0 1 (hI (sI h l0 0 (hI h l1 0)) l1 1)) l0 2 (hI (sI (sI h l0 0 (hI h l1 0)) l0 1 (hI (sI h l0 0 (hI h l1 0)) l1 1)) l1 2)) l1 3)) l0 4 (hI (sI (sI (sI (sI h l0 0 (hI h l1 0)) l0 1 (hI (sI h l0 0 (hI h l1 0)) l1 1)) l0 2 (hI (sI (sI h l0 0 (hI h l1 0)) l0 1 (hI (sI h l0 0 (hI h l1 0)) l1 1)) l1 2)) l0 3 (hI (sI (sI (sI h l0 0 (hI h l1 0)) l0 1 (hI (sI h l0 0 (hI h l1 0)) l1 1)) l0 2 (hI (sI (sI h l0 0 (hI h l1 0)) l0 1 (hI (sI h l0 0 (hI h l1 0)) l1 1)) l1 2)) l1 3)) l1 4)) l1 5)) l0 6 (hI (sI (sI (sI (sI (sI (sI h l0 0 (hI h l1 0)) l0 1 (hI (sI h l0 0 (hI h l1 0)) l1 1)) l0 2 (hI (sI (sI h l0 0 (hI h l1 0)) l0 1 (hI (sI h l0 0 (hI h l1 0)) l1 1)) l1 2)) l0 3 (hI (sI (sI (sI h l0 0 (hI h l1 0)) l0 1 (hI (sI h l0 0 (hI h l1 0)) l1 1)) l0 2 (hI (sI (sI h l0 0 (hI h l1 0)) l0 1 (hI (sI h l0 0 (hI h l1 0)) l1 1)) l1 2)) l1 3)) l0 4 (hI (sI (sI (sI (sI h l0 0 (hI h l1 0)) l0 1 (hI (sI h l0 0 (hI h l1 0)) l1 1)) l0 2 (hI (sI (sI h l0 0 (hI h l1 0)) l0 1 (hI (sI h l0 0 (hI h l1 0)) l1 1)) l1 2)) l0 3 (hI (sI (sI (sI h l0 0 (hI h l1 0)) l0 1 (hI (sI h l0 0 (hI h l1 0)) l1 1)) l0 2 (hI (sI (sI h l0 0 (hI h l1 0)) l0 1 (hI (sI h l0 0 (hI h l1 0)) l1 1)) l1 2)) l1 3)) l1 4)) l0 5 (hI (sI (sI (sI (sI (sI h l0 0 (hI h l1 0)) l0 1 (hI (sI h l0 0 (hI h l1 0)) l1 1)) l0 2 (hI (sI (sI h l0 0 (hI h l1 0)) l0 1 (hI (sI h l0 0 (hI h l1 0)) l1 1)) l1 2)) l0 3 (hI (sI (sI (sI h l0 0 (hI h l1 0)) l0 1 (hI (sI h l0 0 (hI h l1 0)) l1 1)) l0 2 (hI (sI (sI h l0 0 (hI h l1 0)) l0 1 (hI (sI h l0 0 (hI h l1 0)) l1 1)) l1 2)) l1 3)) l0 4 (hI (sI (sI (sI (sI h l0 0 (hI h l1 0)) l0 1 (hI (sI h l0 0 (hI h l1 0)) l1 1)) l0 2 (hI (sI (sI h l0 0 (hI h l1 0)) l0 1 (hI (sI h l0 0 (hI h l1 0)) l1 1)) l1 2)) l0 3 (hI (sI (sI (sI h l0 0 (hI h l1 0)) l0 1 (hI (sI h l0 0 (hI h l1 0)) l1 1)) l0 2 (hI (sI (sI h l0 0 (hI h l1 0)) l0 1 (hI (sI h l0 0 (hI h l1 0)) l1 1)) l1 2)) l1 3)) l1 4)) l1 5)) l1 6)) l0 7 (hI (sI (sI (sI (sI (sI (sI (sI h l0 0 (hI h l1 0)) l0 1 (hI (sI h l0 0 (hI h l1 0)) l1 1)) l0 2 (hI (sI (sI h l0 0 (hI h l1 0)) l0 1 (hI (sI h l0 0 (hI h l1 0)) l1 1)) l1 2)) l0 3 (hI (sI (sI (sI h l0 0 (hI h l1 0)) l0 1 (hI (sI h l0 0 (hI h l1 0)) l1 1)) l0 2 (hI (sI (sI h l0 0 (hI h l1 0)) l0 1 (hI (sI h l0 0 (hI h l1 0)) l1 1)) l1 2)) l1 3)) l0 4 (hI (sI (sI (sI (sI h l0 0 (hI h l1 0)) l0 1 (hI (sI h l0 0 (hI h l1 0)) l1 1)) l0 2 (hI (sI (sI h l0 0 (hI h l1 0)) l0 1 (hI (sI h l0 0 (hI h l1 0)) l1 1)) l1 2)) l0 3 (hI (sI (sI (sI h l0 0 (hI h l1 0)) l0 1 (hI (sI h l0 0 (hI h l1 0)) l1 1)) l0 2 (hI (sI (sI h l0 0 (hI h l1 0)) l0 1 (hI (sI h l0 0 (hI h l1 0)) l1 1)) l1 2)) l1 3)) l1 4)) l0 5 (hI (sI (sI (sI (sI (sI h l0 0 (hI h l1 0)) l0 1 (hI (sI h l0 0 (hI h l1 0)) l1 1)) l0 2 (hI (sI (sI h l0 0 (hI h l1 0)) l0 1 (hI (sI h l0 0 (hI h l1 0)) l1 1)) l1 2)) l0 3 (hI (sI (sI (sI h l0 0 (hI h l1 0)) l0 1 (hI (sI h l0 0 (hI h l1 0)) l1 1)) l0 2 (hI (sI (sI h l0 0 (hI h l1 0)) l0 1 (hI (sI h l0 0 (hI h l1 0)) l1 1)) l1 2)) l1 3)) l0 4 (hI (sI (sI (sI (sI h l0 0 (hI h l1 0)) l0 1 (hI (sI h l0 0 (hI h l1 0)) l1 1)) l0 2 (hI (sI (sI h l0 0 (hI h l1 0)) l0 1 (hI (sI h l0 0 (hI h l1 0)) l1 1)) l1 2)) l0 3 (hI (sI (sI (sI h l0 0 (hI h l1 0)) l0 1 (hI (sI h l0 0 (hI h l1 0)) l1 1)) l0 2 (hI (sI (sI h l0 0 (hI h l1 0)) l0 1 (hI (sI h l0 0 (hI h l1 0)) l1 1)) l1 2)) l1 3)) l1 4)) l1 5)) l0 6 (hI (sI (sI (sI (sI (sI (sI h l0 0 (hI h l1 0)) l0 1 (hI (sI h l0 0 (hI h l1 0)) l1 1)) l0 2 (hI (sI (sI h l0 0 (hI h l1 0)) l0 1 (hI (sI h l0 0 (hI h l1 0)) l1 1)) l1 2)) l0 3 (hI (sI (sI (sI h l0 0 (hI h l1 0)) l0 1 (hI (sI h l0 0 (hI h l1 0)) l1 1)) l0 2 (hI (sI (sI h l0 0 (hI h l1 0)) l0 1 (hI (sI h l0 0 (hI h l1 0)) l1 1)) l1 2)) l1 3)) l0 4 (hI (sI (sI (sI (sI h l0 0 (hI h l1 0)) l0 1 (hI (sI h l0 0 (hI h l1 0)) l1 1)) l0 2 (hI (sI (sI h l0 0 (hI h l1 0)) l0 1 (hI (sI h l0 0 (hI h l1 0)) l1 1)) l1 2)) l0 3 (hI (sI (sI (sI h l0 0 (hI h l1 0)) l0 1 (hI (sI h l0 0 (hI h l1 0)) l1 1)) l0 2 (hI (sI (sI h l0 0 (hI h l1 0)) l0 1 (hI (sI h l0 0 (hI h l1 0)) l1 1)) l1 2)) l1 3)) l1 4)) l0 5 (hI (sI (sI (sI (sI (sI h l0 0 (hI h l1 0)) l0 1 (hI (sI h l0 0 (hI h l1 0)) l1 1)) l0 2 (hI (sI (sI h l0 0 (hI h l1 0)) l0 1 (hI (sI h l0 0 (hI h l1 0)) l1 1)) l1 2)) l0 3 (hI (sI (sI (sI h l0 0 (hI h l1 0)) l0 1 (hI (sI h l0 0 (hI h l1 0)) l1 1)) l0 2 (hI (sI (sI h l0 0 (hI h l1 0)) l0 1 (hI (sI h l0 0 (hI h l1 0)) l1 1)) l1 2)) l1 3)) l0 4 (hI (sI (sI (sI (sI h l0 0 (hI h l1 0)) l0 1 (hI (sI h l0 0 (hI h l1 0)) l1 1)) l0 2 (hI (sI (sI h l0 0 (hI h l1 0)) l0 1 (hI (sI h l0 0 (hI h l1 0)) l1 1)) l1 2)) l0 3 (hI (sI (sI (sI h l0 0 (hI h l1 0)) l0 1 (hI (sI h l0 0 (hI h l1 0)) l1 1)) l0 2 (hI (sI (sI h l0 0 (hI h l1 0)) l0 1 (hI (sI h l0 0 (hI h l1 0)) l1 1)) l1 2)) l1 3)) l1 4)) l1 5)) l1 6)) l1 7)) l1 8)) (l1 + 1) (l0 + 1) 32) (l1 + 2) (l0 + 2) 6) (l1 + 3) (l0 + 3) 6))
set_option maxRecDepth 100000 in
set_option maxHeartbeats 4000000 in
theorem ev_X1_copyFrom {g : Gl} {h : Hp} {l0 : Nat} {l1 : Nat} {h2 : Hp} (kl0 : KD g.1 l0 0 0) (kl1 : KD g.1 l1 0 0) (hf : f_X1_copyFrom h l0 l1 = some h2) : Ev yX1_copyFrom cX1_copyFrom 2 none 1 30 g 0 [] [(0, .ref l0), (1, .ref l1)] h none h2 := by
  unfold f_X1_copyFrom at hf
  refine ev_aload_n (n := 0) dX1_copyFrom_0 rfl rfl ?_
  refine ev_aload_n (n := 1) dX1_copyFrom_1 rfl rfl ?_
  refine ev_get (v := .int (hI h l1 0)) 0 kl1 rfl (by decide) rfl lk_35 dX1_copyFrom_2 ?_
  refine ev_putI 0 kl0 rfl (by decide) rfl (by decide +kernel) rfl (by exact Nat.le_of_ble_eq_true rfl) lk_35 dX1_copyFrom_5 ?_
  refine ev_aload_n (n := 0) dX1_copyFrom_8 rfl rfl ?_
  refine ev_aload_n (n := 1) dX1_copyFrom_9 rfl rfl ?_
  refine ev_get (v := .int (hI (sI h l0 0 (hI h l1 0)) l1 1)) 1 kl1 rfl (by decide) rfl lk_38 dX1_copyFrom_10 ?_
  refine ev_putI 1 kl0 rfl (by decide) rfl (by decide +kernel) rfl (by exact Nat.le_of_ble_eq_true rfl) lk_38 dX1_copyFrom_13 ?_
  refine ev_aload_n (n := 0) dX1_copyFrom_16 rfl rfl ?_
  refine ev_aload_n (n := 1) dX1_copyFrom_17 rfl rfl ?_
  refine ev_get (v := .int (hI (sI (sI h l0 0 (hI h l1 0)) l0 1 (hI (sI h l0 0 (hI h l1 0)) l1 1)) l1 2)) 2 kl1 rfl (by decide) rfl lk_41 dX1_copyFrom_18 ?_
  refine ev_putI 2 kl0 rfl (by decide) rfl (by decide +kernel) rfl (by exact Nat.le_of_ble_eq_true rfl) lk_41 dX1_copyFrom_21 ?_
  refine ev_aload_n (n := 0) dX1_copyFrom_24 rfl rfl ?_
  refine ev_aload_n (n := 1) dX1_copyFrom_25 rfl rfl ?_
  refine ev_get (v := .int (hI (sI (sI (sI h l0 0 (hI h l1 0)) l0 1 (hI (sI h l0 0 (hI h l1 0)) l1 1)) l0 2 (hI (sI (sI h l0 0 (hI h l1 0)) l0 1 (hI (sI h l0 0 (hI h l1 0)) l1 1)) l1 2)) l1 3)) 3 kl1 rfl (by decide) rfl lk_44 dX1_copyFrom_26 ?_
  refine ev_putI 3 kl0 rfl (by decide) rfl (by decide +kernel) rfl (by exact Nat.le_of_ble_eq_true rfl) lk_44 dX1_copyFrom_29 ?_
  refine ev_aload_n (n := 0) dX1_copyFrom_32 rfl rfl ?_
  refine ev_aload_n (n := 1) dX1_copyFrom_33 rfl rfl ?_
  refine ev_get (v := .int (hI (sI (sI (sI (sI h l0 0 (hI h l1 0)) l0 1 (hI (sI h l0 0 (hI h l1 0)) l1 1)) l0 2 (hI (sI (sI h l0 0 (hI h l1 0)) l0 1 (hI (sI h l0 0 (hI h l1 0)) l1 1)) l1 2)) l0 3 (hI (sI (sI (sI h l0 0 (hI h l1 0)) l0 1 (hI (sI h l0 0 (hI h l1 0)) l1 1)) l0 2 (hI (sI (sI h l0 0 (hI h l1 0)) l0 1 (hI (sI h l0 0 (hI h l1 0)) l1 1)) l1 2)) l1 3)) l1 4)) 4 kl1 rfl (by decide) rfl lk_47 dX1_copyFrom_34 ?_
  refine ev_putI 4 kl0 rfl (by decide) rfl (by decide +kernel) rfl (by exact Nat.le_of_ble_eq_true rfl) lk_47 dX1_copyFrom_37 ?_
  refine ev_aload_n (n := 0) dX1_copyFrom_40 rfl rfl ?_
  refine ev_aload_n (n := 1) dX1_copyFrom_41 rfl rfl ?_
  refine ev_get (v := .int (hI (sI (sI (sI (sI (sI h l0 0 (hI h l1 0)) l0 1 (hI (sI h l0 0 (hI h l1 0)) l1 1)) l0 2 (hI (sI (sI h l0 0 (hI h l1 0)) l0 1 (hI (sI h l0 0 (hI h l1 0)) l1 1)) l1 2)) l0 3 (hI (sI (sI (sI h l0 0 (hI h l1 0)) l0 1 (hI (sI h l0 0 (hI h l1 0)) l1 1)) l0 2 (hI (sI (sI h l0 0 (hI h l1 0)) l0 1 (hI (sI h l0 0 (hI h l1 0)) l1 1)) l1 2)) l1 3)) l0 4 (hI (sI (sI (sI (sI h l0 0 (hI h l1 0)) l0 1 (hI (sI h l0 0 (hI h l1 0)) l1 1)) l0 2 (hI (sI (sI h l0 0 (hI h l1 0)) l0 1 (hI (sI h l0 0 (hI h l1 0)) l1 1)) l1 2)) l0 3 (hI (sI (sI (sI h l0 0 (hI h l1 0)) l0 1 (hI (sI h l0 0 (hI h l1 0)) l1 1)) l0 2 (hI (sI (sI h l0 0 (hI h l1 0)) l0 1 (hI (sI h l0 0 (hI h l1 0)) l1 1)) l1 2)) l1 3)) l1 4)) l1 5)) 5 kl1 rfl (by decide) rfl lk_50 dX1_copyFrom_42 ?_
  refine ev_putI 5 kl0 rfl (by decide) rfl (by decide +kernel) rfl (by exact Nat.le_of_ble_eq_true rfl) lk_50 dX1_copyFrom_45 ?_
  refine ev_aload_n (n := 0) dX1_copyFrom_48 rfl rfl ?_
  refine ev_aload_n (n := 1) dX1_copyFrom_49 rfl rfl ?_
  refine ev_get (v := .int (hI (sI (sI (sI (sI (sI (sI h l0 0 (hI h l1 0)) l0 1 (hI (sI h l0 0 (hI h l1 0)) l1 1)) l0 2 (hI (sI (sI h l0 0 (hI h l1 0)) l0 1 (hI (sI h l0 0 (hI h l1 0)) l1 1)) l1 2)) l0 3 (hI (sI (sI (sI h l0 0 (hI h l1 0)) l0 1 (hI (sI h l0 0 (hI h l1 0)) l1 1)) l0 2 (hI (sI (sI h l0 0 (hI h l1 0)) l0 1 (hI (sI h l0 0 (hI h l1 0)) l1 1)) l1 2)) l1 3)) l0 4 (hI (sI (sI (sI (sI h l0 0 (hI h l1 0)) l0 1 (hI (sI h l0 0 (hI h l1 0)) l1 1)) l0 2 (hI (sI (sI h l0 0 (hI h l1 0)) l0 1 (hI (sI h l0 0 (hI h l1 0)) l1 1)) l1 2)) l0 3 (hI (sI (sI (sI h l0 0 (hI h l1 0)) l0 1 (hI (sI h l0 0 (hI h l1 0)) l1 1)) l0 2 (hI (sI (sI h l0 0 (hI h l1 0)) l0 1 (hI (sI h l0 0 (hI h l1 0)) l1 1)) l1 2)) l1 3)) l1 4)) l0 5 (hI (sI (sI (sI (sI (sI h l0 0 (hI h l1 0)) l0 1 (hI (sI h l0 0 (hI h l1 0)) l1 1)) l0 2 (hI (sI (sI h l0 0 (hI h l1 0)) l0 1 (hI (sI h l0 0 (hI h l1 0)) l1 1)) l1 2)) l0 3 (hI (sI (sI (sI h l0 0 (hI h l1 0)) l0 1 (hI (sI h l0 0 (hI h l1 0)) l1 1)) l0 2 (hI (sI (sI h l0 0 (hI h l1 0)) l0 1 (hI (sI h l0 0 (hI h l1 0)) l1 1)) l1 2)) l1 3)) l0 4 (hI (sI (sI (sI (sI h l0 0 (hI h l1 0)) l0 1 (hI (sI h l0 0 (hI h l1 0)) l1 1)) l0 2 (hI (sI (sI h l0 0 (hI h l1 0)) l0 1 (hI (sI h l0 0 (hI h l1 0)) l1 1)) l1 2)) l0 3 (hI (sI (sI (sI h l0 0 (hI h l1 0)) l0 1 (hI (sI h l0 0 (hI h l1 0)) l1 1)) l0 2 (hI (sI (sI h l0 0 (hI h l1 0)) l0 1 (hI (sI h l0 0 (hI h l1 0)) l1 1)) l1 2)) l1 3)) l1 4)) l1 5)) l1 6)) 6 kl1 rfl (by decide) rfl lk_53 dX1_copyFrom_50 ?_
  refine ev_putI 6 kl0 rfl (by decide) rfl (by decide +kernel) rfl (by exact Nat.le_of_ble_eq_true rfl) lk_53 dX1_copyFrom_53 ?_
  refine ev_aload_n (n := 0) dX1_copyFrom_56 rfl rfl ?_
  refine ev_aload_n (n := 1) dX1_copyFrom_57 rfl rfl ?_
  refine ev_get (v := .int (hI (sI (sI (sI (sI (sI (sI (sI h l0 0 (hI h l1 0)) l0 1 (hI (sI h l0 0 (hI h l1 0)) l1 1)) l0 2 (hI (sI (sI h l0 0 (hI h l1 0)) l0 1 (hI (sI h l0 0 (hI h l1 0)) l1 1)) l1 2)) l0 3 (hI (sI (sI (sI h l0 0 (hI h l1 0)) l0 1 (hI (sI h l0 0 (hI h l1 0)) l1 1)) l0 2 (hI (sI (sI h l0 0 (hI h l1 0)) l0 1 (hI (sI h l0 0 (hI h l1 0)) l1 1)) l1 2)) l1 3)) l0 4 (hI (sI (sI (sI (sI h l0 0 (hI h l1 0)) l0 1 (hI (sI h l0 0 (hI h l1 0)) l1 1)) l0 2 (hI (sI (sI h l0 0 (hI h l1 0)) l0 1 (hI (sI h l0 0 (hI h l1 0)) l1 1)) l1 2)) l0 3 (hI (sI (sI (sI h l0 0 (hI h l1 0)) l0 1 (hI (sI h l0 0 (hI h l1 0)) l1 1)) l0 2 (hI (sI (sI h l0 0 (hI h l1 0)) l0 1 (hI (sI h l0 0 (hI h l1 0)) l1 1)) l1 2)) l1 3)) l1 4)) l0 5 (hI (sI (sI (sI (sI (sI h l0 0 (hI h l1 0)) l0 1 (hI (sI h l0 0 (hI h l1 0)) l1 1)) l0 2 (hI (sI (sI h l0 0 (hI h l1 0)) l0 1 (hI (sI h l0 0 (hI h l1 0)) l1 1)) l1 2)) l0 3 (hI (sI (sI (sI h l0 0 (hI h l1 0)) l0 1 (hI (sI h l0 0 (hI h l1 0)) l1 1)) l0 2 (hI (sI (sI h l0 0 (hI h l1 0)) l0 1 (hI (sI h l0 0 (hI h l1 0)) l1 1)) l1 2)) l1 3)) l0 4 (hI (sI (sI (sI (sI h l0 0 (hI h l1 0)) l0 1 (hI (sI h l0 0 (hI h l1 0)) l1 1)) l0 2 (hI (sI (sI h l0 0 (hI h l1 0)) l0 1 (hI (sI h l0 0 (hI h l1 0)) l1 1)) l1 2)) l0 3 (hI (sI (sI (sI h l0 0 (hI h l1 0)) l0 1 (hI (sI h l0 0 (hI h l1 0)) l1 1)) l0 2 (hI (sI (sI h l0 0 (hI h l1 0)) l0 1 (hI (sI h l0 0 (hI h l1 0)) l1 1)) l1 2)) l1 3)) l1 4)) l1 5)) l0 6 (hI (sI (sI (sI (sI (sI (sI h l0 0 (hI h l1 0)) l0 1 (hI (sI h l0 0 (hI h l1 0)) l1 1)) l0 2 (hI (sI (sI h l0 0 (hI h l1 0)) l0 1 (hI (sI h l0 0 (hI h l1 0)) l1 1)) l1 2)) l0 3 (hI (sI (sI (sI h l0 0 (hI h l1 0)) l0 1 (hI (sI h l0 0 (hI h l1 0)) l1 1)) l0 2 (hI (sI (sI h l0 0 (hI h l1 0)) l0 1 (hI (sI h l0 0 (hI h l1 0)) l1 1)) l1 2)) l1 3)) l0 4 (hI (sI (sI (sI (sI h l0 0 (hI h l1 0)) l0 1 (hI (sI h l0 0 (hI h l1 0)) l1 1)) l0 2 (hI (sI (sI h l0 0 (hI h l1 0)) l0 1 (hI (sI h l0 0 (hI h l1 0)) l1 1)) l1 2)) l0 3 (hI (sI (sI (sI h l0 0 (hI h l1 0)) l0 1 (hI (sI h l0 0 (hI h l1 0)) l1 1)) l0 2 (hI (sI (sI h l0 0 (hI h l1 0)) l0 1 (hI (sI h l0 0 (hI h l1 0)) l1 1)) l1 2)) l1 3)) l1 4)) l0 5 (hI (sI (sI (sI (sI (sI h l0 0 (hI h l1 0)) l0 1 (hI (sI h l0 0 (hI h l1 0)) l1 1)) l0 2 (hI (sI (sI h l0 0 (hI h l1 0)) l0 1 (hI (sI h l0 0 (hI h l1 0)) l1 1)) l1 2)) l0 3 (hI (sI (sI (sI h l0 0 (hI h l1 0)) l0 1 (hI (sI h l0 0 (hI h l1 0)) l1 1)) l0 2 (hI (sI (sI h l0 0 (hI h l1 0)) l0 1 (hI (sI h l0 0 (hI h l1 0)) l1 1)) l1 2)) l1 3)) l0 4 (hI (sI (sI (sI (sI h l0 0 (hI h l1 0)) l0 1 (hI (sI h l0 0 (hI h l1 0)) l1 1)) l0 2 (hI (sI (sI h l0 0 (hI h l1 0)) l0 1 (hI (sI h l0 0 (hI h l1 0)) l1 1)) l1 2)) l0 3 (hI (sI (sI (sI h l0 0 (hI h l1 0)) l0 1 (hI (sI h l0 0 (hI h l1 0)) l1 1)) l0 2 (hI (sI (sI h l0 0 (hI h l1 0)) l0 1 (hI (sI h l0 0 (hI h l1 0)) l1 1)) l1 2)) l1 3)) l1 4)) l1 5)) l1 6)) l1 7)) 7 kl1 rfl (by decide) rfl lk_56 dX1_copyFrom_58 ?_
  refine ev_putI 7 kl0 rfl (by decide) rfl (by decide +kernel) rfl (by exact Nat.le_of_ble_eq_true rfl) lk_56 dX1_copyFrom_61 ?_
  refine ev_aload_n (n := 0) dX1_copyFrom_64 rfl rfl ?_
  refine ev_aload_n (n := 1) dX1_copyFrom_65 rfl rfl ?_
  refine ev_get (v := .int (hI (sI (sI (sI (sI (sI (sI (sI (sI h l0 0 (hI h l1 0)) l0 1 (hI (sI h l0 0 (hI h l1 0)) l1 1)) l0 2 (hI (sI (sI h l0 0 (hI h l1 0)) l0 1 (hI (sI h l0 0 (hI h l1 0)) l1 1)) l1 2)) l0 3 (hI (sI (sI (sI h l0 0 (hI h l1 0)) l0 1 (hI (sI h l0 0 (hI h l1 0)) l1 1)) l0 2 (hI (sI (sI h l0 0 (hI h l1 0)) l0 1 (hI (sI h l0 0 (hI h l1 0)) l1 1)) l1 2)) l1 3)) l0 4 (hI (sI (sI (sI (sI h l0 0 (hI h l1 0)) l0 1 (hI (sI h l0 0 (hI h l1 0)) l1 1)) l0 2 (hI (sI (sI h l0 0 (hI h l1 0)) l0 1 (hI (sI h l0 0 (hI h l1 0)) l1 1)) l1 2)) l0 3 (hI (sI (sI (sI h l0 0 (hI h l1 0)) l0 1 (hI (sI h l0 0 (hI h l1 0)) l1 1)) l0 2 (hI (sI (sI h l0 0 (hI h l1 0)) l0 1 (hI (sI h l0 0 (hI h l1 0)) l1 1)) l1 2)) l1 3)) l1 4)) l0 5 (hI (sI (sI (sI (sI (sI h l0 0 (hI h l1 0)) l0 1 (hI (sI h l0 0 (hI h l1 0)) l1 1)) l0 2 (hI (sI (sI h l0 0 (hI h l1 0)) l0 1 (hI (sI h l0 0 (hI h l1 0)) l1 1)) l1 2)) l0 3 (hI (sI (sI (sI h l0 0 (hI h l1 0)) l0 1 (hI (sI h l0 0 (hI h l1 0)) l1 1)) l0 2 (hI (sI (sI h l0 0 (hI h l1 0)) l0 1 (hI (sI h l0 0 (hI h l1 0)) l1 1)) l1 2)) l1 3)) l0 4 (hI (sI (sI (sI (sI h l0 0 (hI h l1 0)) l0 1 (hI (sI h l0 0 (hI h l1 0)) l1 1)) l0 2 (hI (sI (sI h l0 0 (hI h l1 0)) l0 1 (hI (sI h l0 0 (hI h l1 0)) l1 1)) l1 2)) l0 3 (hI (sI (sI (sI h l0 0 (hI h l1 0)) l0 1 (hI (sI h l0 0 (hI h l1 0)) l1 1)) l0 2 (hI (sI (sI h l0 0 (hI h l1 0)) l0 1 (hI (sI h l0 0 (hI h l1 0)) l1 1)) l1 2)) l1 3)) l1 4)) l1 5)) l0 6 (hI (sI (sI (sI (sI (sI (sI h l0 0 (hI h l1 0)) l0 1 (hI (sI h l0 0 (hI h l1 0)) l1 1)) l0 2 (hI (sI (sI h l0 0 (hI h l1 0)) l0 1 (hI (sI h l0 0 (hI h l1 0)) l1 1)) l1 2)) l0 3 (hI (sI (sI (sI h l0 0 (hI h l1 0)) l0 1 (hI (sI h l0 0 (hI h l1 0)) l1 1)) l0 2 (hI (sI (sI h l0 0 (hI h l1 0)) l0 1 (hI (sI h l0 0 (hI h l1 0)) l1 1)) l1 2)) l1 3)) l0 4 (hI (sI (sI (sI (sI h l0 0 (hI h l1 0)) l0 1 (hI (sI h l0 0 (hI h l1 0)) l1 1)) l0 2 (hI (sI (sI h l0 0 (hI h l1 0)) l0 1 (hI (sI h l0 0 (hI h l1 0)) l1 1)) l1 2)) l0 3 (hI (sI (sI (sI h l0 0 (hI h l1 0)) l0 1 (hI (sI h l0 0 (hI h l1 0)) l1 1)) l0 2 (hI (sI (sI h l0 0 (hI h l1 0)) l0 1 (hI (sI h l0 0 (hI h l1 0)) l1 1)) l1 2)) l1 3)) l1 4)) l0 5 (hI (sI (sI (sI (sI (sI h l0 0 (hI h l1 0)) l0 1 (hI (sI h l0 0 (hI h l1 0)) l1 1)) l0 2 (hI (sI (sI h l0 0 (hI h l1 0)) l0 1 (hI (sI h l0 0 (hI h l1 0)) l1 1)) l1 2)) l0 3 (hI (sI (sI (sI h l0 0 (hI h l1 0)) l0 1 (hI (sI h l0 0 (hI h l1 0)) l1 1)) l0 2 (hI (sI (sI h l0 0 (hI h l1 0)) l0 1 (hI (sI h l0 0 (hI h l1 0)) l1 1)) l1 2)) l1 3)) l0 4 (hI (sI (sI (sI (sI h l0 0 (hI h l1 0)) l0 1 (hI (sI h l0 0 (hI h l1 0)) l1 1)) l0 2 (hI (sI (sI h l0 0 (hI h l1 0)) l0 1 (hI (sI h l0 0 (hI h l1 0)) l1 1)) l1 2)) l0 3 (hI (sI (sI (sI h l0 0 (hI h l1 0)) l0 1 (hI (sI h l0 0 (hI h l1 0)) l1 1)) l0 2 (hI (sI (sI h l0 0 (hI h l1 0)) l0 1 (hI (sI h l0 0 (hI h l1 0)) l1 1)) l1 2)) l1 3)) l1 4)) l1 5)) l1 6)) l0 7 (hI (sI (sI (sI (sI (sI (sI (sI h l0 0 (hI h l1 0)) l0 1 (hI (sI h l0 0 (hI h l1 0)) l1 1)) l0 2 (hI (sI (sI h l0 0 (hI h l1 0)) l0 1 (hI (sI h l0 0 (hI h l1 0)) l1 1)) l1 2)) l0 3 (hI (sI (sI (sI h l0 0 (hI h l1 0)) l0 1 (hI (sI h l0 0 (hI h l1 0)) l1 1)) l0 2 (hI (sI (sI h l0 0 (hI h l1 0)) l0 1 (hI (sI h l0 0 (hI h l1 0)) l1 1)) l1 2)) l1 3)) l0 4 (hI (sI (sI (sI (sI h l0 0 (hI h l1 0)) l0 1 (hI (sI h l0 0 (hI h l1 0)) l1 1)) l0 2 (hI (sI (sI h l0 0 (hI h l1 0)) l0 1 (hI (sI h l0 0 (hI h l1 0)) l1 1)) l1 2)) l0 3 (hI (sI (sI (sI h l0 0 (hI h l1 0)) l0 1 (hI (sI h l0 0 (hI h l1 0)) l1 1)) l0 2 (hI (sI (sI h l0 0 (hI h l1 0)) l0 1 (hI (sI h l0 0 (hI h l1 0)) l1 1)) l1 2)) l1 3)) l1 4)) l0 5 (hI (sI (sI (sI (sI (sI h l0 0 (hI h l1 0)) l0 1 (hI (sI h l0 0 (hI h l1 0)) l1 1)) l0 2 (hI (sI (sI h l0 0 (hI h l1 0)) l0 1 (hI (sI h l0 0 (hI h l1 0)) l1 1)) l1 2)) l0 3 (hI (sI (sI (sI h l0 0 (hI h l1 0)) l0 1 (hI (sI h l0 0 (hI h l1 0)) l1 1)) l0 2 (hI (sI (sI h l0 0 (hI h l1 0)) l0 1 (hI (sI h l0 0 (hI h l1 0)) l1 1)) l1 2)) l1 3)) l0 4 (hI (sI (sI (sI (sI h l0 0 (hI h l1 0)) l0 1 (hI (sI h l0 0 (hI h l1 0)) l1 1)) l0 2 (hI (sI (sI h l0 0 (hI h l1 0)) l0 1 (hI (sI h l0 0 (hI h l1 0)) l1 1)) l1 2)) l0 3 (hI (sI (sI (sI h l0 0 (hI h l1 0)) l0 1 (hI (sI h l0 0 (hI h l1 0)) l1 1)) l0 2 (hI (sI (sI h l0 0 (hI h l1 0)) l0 1 (hI (sI h l0 0 (hI h l1 0)) l1 1)) l1 2)) l1 3)) l1 4)) l1 5)) l0 6 (hI (sI (sI (sI (sI (sI (sI h l0 0 (hI h l1 0)) l0 1 (hI (sI h l0 0 (hI h l1 0)) l1 1)) l0 2 (hI (sI (sI h l0 0 (hI h l1 0)) l0 1 (hI (sI h l0 0 (hI h l1 0)) l1 1)) l1 2)) l0 3 (hI (sI (sI (sI h l0 0 (hI h l1 0)) l0 1 (hI (sI h l0 0 (hI h l1 0)) l1 1)) l0 2 (hI (sI (sI h l0 0 (hI h l1 0)) l0 1 (hI (sI h l0 0 (hI h l1 0)) l1 1)) l1 2)) l1 3)) l0 4 (hI (sI (sI (sI (sI h l0 0 (hI h l1 0)) l0 1 (hI (sI h l0 0 (hI h l1 0)) l1 1)) l0 2 (hI (sI (sI h l0 0 (hI h l1 0)) l0 1 (hI (sI h l0 0 (hI h l1 0)) l1 1)) l1 2)) l0 3 (hI (sI (sI (sI h l0 0 (hI h l1 0)) l0 1 (hI (sI h l0 0 (hI h l1 0)) l1 1)) l0 2 (hI (sI (sI h l0 0 (hI h l1 0)) l0 1 (hI (sI h l0 0 (hI h l1 0)) l1 1)) l1 2)) l1 3)) l1 4)) l0 5 (hI (sI (sI (sI (sI (sI h l0 0 (hI h l1 0)) l0 1 (hI (sI h l0 0 (hI h l1 0)) l1 1)) l0 2 (hI (sI (sI h l0 0 (hI h l1 0)) l0 1 (hI (sI h l0 0 (hI h l1 0)) l1 1)) l1 2)) l0 3 (hI (sI (sI (sI h l0 0 (hI h l1 0)) l0 1 (hI (sI h l0 0 (hI h l1 0)) l1 1)) l0 2 (hI (sI (sI h l0 0 (hI h l1 0)) l0 1 (hI (sI h l0 0 (hI h l1 0)) l1 1)) l1 2)) l1 3)) l0 4 (hI (sI (sI (sI (sI h l0 0 (hI h l1 0)) l0 1 (hI (sI h l0 0 (hI h l1 0)) l1 1)) l0 2 (hI (sI (sI h l0 0 (hI h l1 0)) l0 1 (hI (sI h l0 0 (hI h l1 0)) l1 1)) l1 2)) l0 3 (hI (sI (sI (sI h l0 0 (hI h l1 0)) l0 1 (hI (sI h l0 0 (hI h l1 0)) l1 1)) l0 2 (hI (sI (sI h l0 0 (hI h l1 0)) l0 1 (hI (sI h l0 0 (hI h l1 0)) l1 1)) l1 2)) l1 3)) l1 4)) l1 5)) l1 6)) l1 7)) l1 8)) 8 kl1 rfl (by decide) rfl lk_60 dX1_copyFrom_66 ?_
  refine ev_putI 8 kl0 rfl (by decide) rfl (by decide +kernel) rfl (by exact Nat.le_of_ble_eq_true rfl) lk_60 dX1_copyFrom_69 ?_
  refine ev_aload_n (n := 1) dX1_copyFrom_72 rfl rfl ?_
  refine ev_get (v := .ref (l1 + 1)) 9 kl1 rfl (by decide) rfl lk_64 dX1_copyFrom_73 ?_
  refine ev_iconst (v := 0) dX1_copyFrom_76 (by decide) ?_
  refine ev_aload_n (n := 0) dX1_copyFrom_77 rfl rfl ?_
  refine ev_get (v := .ref (l0 + 1)) 9 kl0 rfl (by decide) rfl lk_64 dX1_copyFrom_78 ?_
  refine ev_iconst (v := 0) dX1_copyFrom_81 (by decide) ?_
  refine ev_aload_n (n := 0) dX1_copyFrom_82 rfl rfl ?_
  refine ev_get (v := .ref (l0 + 1)) 9 kl0 rfl (by decide) rfl lk_64 dX1_copyFrom_83 ?_
  refine ev_alenI (v := 32) (kd_0_9 kl0) rfl dX1_copyFrom_86 ?_
  refine ev_copyI (n := 32) (kd_0_9 kl1) (kd_0_9 kl0) (by decide) (by decide) (Nat.le_of_ble_eq_true rfl) lk_267 dX1_copyFrom_87 ?_
  refine ev_aload_n (n := 1) dX1_copyFrom_90 rfl rfl ?_
  refine ev_get (v := .ref (l1 + 2)) 10 kl1 rfl (by decide) rfl lk_66 dX1_copyFrom_91 ?_
  refine ev_iconst (v := 0) dX1_copyFrom_94 (by decide) ?_
  refine ev_aload_n (n := 0) dX1_copyFrom_95 rfl rfl ?_
  refine ev_get (v := .ref (l0 + 2)) 10 kl0 rfl (by decide) rfl lk_66 dX1_copyFrom_96 ?_
  refine ev_iconst (v := 0) dX1_copyFrom_99 (by decide) ?_
  refine ev_aload_n (n := 0) dX1_copyFrom_100 rfl rfl ?_
  refine ev_get (v := .ref (l0 + 2)) 10 kl0 rfl (by decide) rfl lk_66 dX1_copyFrom_101 ?_
  refine ev_alenI (v := 6) (kd_0_10 kl0) rfl dX1_copyFrom_104 ?_
  refine ev_copyI (n := 6) (kd_0_10 kl1) (kd_0_10 kl0) (by decide) (by decide) (Nat.le_of_ble_eq_true rfl) lk_267 dX1_copyFrom_105 ?_
  refine ev_aload_n (n := 1) dX1_copyFrom_108 rfl rfl ?_
  refine ev_get (v := .ref (l1 + 3)) 11 kl1 rfl (by decide) rfl lk_69 dX1_copyFrom_109 ?_
  refine ev_iconst (v := 0) dX1_copyFrom_112 (by decide) ?_
  refine ev_aload_n (n := 0) dX1_copyFrom_113 rfl rfl ?_
  refine ev_get (v := .ref (l0 + 3)) 11 kl0 rfl (by decide) rfl lk_69 dX1_copyFrom_114 ?_
  refine ev_iconst (v := 0) dX1_copyFrom_117 (by decide) ?_
  refine ev_aload_n (n := 0) dX1_copyFrom_118 rfl rfl ?_
  refine ev_get (v := .ref (l0 + 3)) 11 kl0 rfl (by decide) rfl lk_69 dX1_copyFrom_119 ?_
  refine ev_alenF (v := 6) (kd_0_11 kl0) rfl dX1_copyFrom_122 ?_
  refine ev_copyF (n := 6) (kd_0_11 kl1) (kd_0_11 kl0) (by decide) (by decide) (Nat.le_of_ble_eq_true rfl) lk_267 dX1_copyFrom_123 ?_
  obtain rfl := Option.some.inj hf
  exact ev_return_ dX1_copyFrom_126 rfl
def f_X1_hasPiece (h : Hp) (l0 : Nat) (l1 : Int32) : Option (Int32) := (if (((hI h l0 2) >>> (l1 &&& 31)) &&& (1 : Int32)) = 0 then (some (0 : Int32)) else (some (1 : Int32)))
set_option maxRecDepth 100000 in
set_option maxHeartbeats 4000000 in
theorem ev_X1_hasPiece {g : Gl} {h : Hp} {l0 : Nat} {l1 : Int32} {rv : Int32} (kl0 : KD g.1 l0 0 0) (hf : f_X1_hasPiece h l0 l1 = some rv) : Ev yX1_hasPiece cX1_hasPiece 2 (some .boolean) 0 0 g 0 [] [(0, .ref l0), (1, .int l1)] h (some (.int rv)) h := by
  unfold f_X1_hasPiece at hf
  refine ev_aload_n (n := 0) dX1_hasPiece_0 rfl rfl ?_
  refine ev_get (v := .int (hI h l0 2)) 2 kl0 rfl (by decide) rfl lk_41 dX1_hasPiece_1 ?_
  refine ev_iload_n (n := 1) dX1_hasPiece_4 rfl rfl ?_
  refine ev_ishr dX1_hasPiece_5 ?_
  refine ev_iconst (v := 1) dX1_hasPiece_6 (by decide) ?_
  refine ev_iand dX1_hasPiece_7 ?_
  refine ev_if_eq (tgt := 15) dX1_hasPiece_8 (by decide) (fun c1 => ?_) (fun c1 => ?_)
  · replace hf := if_t c1 hf
    refine ev_iconst (v := 0) dX1_hasPiece_15 (by decide) ?_
    obtain rfl := Option.some.inj hf
    exact ev_ireturn dX1_hasPiece_16 ⟨.boolean, rfl, rfl⟩
  · replace hf := if_f c1 hf
    refine ev_iconst (v := 1) dX1_hasPiece_11 (by decide) ?_
    refine ev_goto (tgt := 16) dX1_hasPiece_12 (by decide) ?_
    obtain rfl := Option.some.inj hf
    exact ev_ireturn dX1_hasPiece_16 ⟨.boolean, rfl, rfl⟩
def f_X1_holds (h : Hp) (l0 : Nat) (l1 : Int32) : Option (Int32) := (if ((((hI h l0 3).toUInt32 >>> (l1.toUInt32 &&& Int32.toUInt32 31)).toInt32) &&& (1 : Int32)) = 0 then (some (0 : Int32)) else (some (1 : Int32)))
set_option maxRecDepth 100000 in
set_option maxHeartbeats 4000000 in
theorem ev_X1_holds {g : Gl} {h : Hp} {l0 : Nat} {l1 : Int32} {rv : Int32} (kl0 : KD g.1 l0 0 0) (hf : f_X1_holds h l0 l1 = some rv) : Ev yX1_holds cX1_holds 2 (some .boolean) 0 0 g 0 [] [(0, .ref l0), (1, .int l1)] h (some (.int rv)) h := by
  unfold f_X1_holds at hf
  refine ev_aload_n (n := 0) dX1_holds_0 rfl rfl ?_
  refine ev_get (v := .int (hI h l0 3)) 3 kl0 rfl (by decide) rfl lk_44 dX1_holds_1 ?_
  refine ev_iload_n (n := 1) dX1_holds_4 rfl rfl ?_
  refine ev_iushr dX1_holds_5 ?_
  refine ev_iconst (v := 1) dX1_holds_6 (by decide) ?_
  refine ev_iand dX1_holds_7 ?_
  refine ev_if_eq (tgt := 15) dX1_holds_8 (by decide) (fun c1 => ?_) (fun c1 => ?_)
  · replace hf := if_t c1 hf
    refine ev_iconst (v := 0) dX1_holds_15 (by decide) ?_
    obtain rfl := Option.some.inj hf
    exact ev_ireturn dX1_holds_16 ⟨.boolean, rfl, rfl⟩
  · replace hf := if_f c1 hf
    refine ev_iconst (v := 1) dX1_holds_11 (by decide) ?_
    refine ev_goto (tgt := 16) dX1_holds_12 (by decide) ?_
    obtain rfl := Option.some.inj hf
    exact ev_ireturn dX1_holds_16 ⟨.boolean, rfl, rfl⟩
def f_X1_sourceOf (h : Hp) (l0 : Nat) (l1 : Int32) (l2 : Int32) : Option (Int32) := (bn1 (f_X1_hasPiece h l0 l1) (fun v1 => (if v1 = 0 then (bn1 (f_X1_holds h l0 ((l1 * (4 : Int32)) + l2)) (fun v3 => (if v3 = 0 then (some (-1 : Int32)) else (if inb ((l1 * (4 : Int32)) + l2) 32 = true then (some (hI h (l0 + 1) ((l1 * (4 : Int32)) + l2).toNatClampNeg)) else none)))) else (some (100 : Int32)))))
set_option maxRecDepth 100000 in
set_option maxHeartbeats 4000000 in
theorem ev_X1_sourceOf {g : Gl} {h : Hp} {l0 : Nat} {l1 : Int32} {l2 : Int32} {rv : Int32} (kl0 : KD g.1 l0 0 0) (hf : f_X1_sourceOf h l0 l1 l2 = some rv) : Ev yX1_sourceOf cX1_sourceOf 4 (some .int) 1 21 g 0 [] [(0, .ref l0), (1, .int l1), (2, .int l2)] h (some (.int rv)) h := by
  unfold f_X1_sourceOf at hf
  refine ev_aload_n (n := 0) dX1_sourceOf_0 rfl rfl ?_
  refine ev_iload_n (n := 1) dX1_sourceOf_1 rfl rfl ?_
  obtain ⟨v1, e2, hf⟩ := bn1_of hf
  refine ev_callVi (As := [.int l1]) cal_X1_hasPiece kl0 rfl (ev_X1_hasPiece kl0 e2) (Nat.le_of_ble_eq_true rfl) rfl lk_472 (by decide) (by decide) (Nat.le_of_ble_eq_true rfl) dX1_sourceOf_2 rfl ?_
  refine ev_if_eq (tgt := 11) dX1_sourceOf_5 (by decide) (fun c1 => ?_) (fun c1 => ?_)
  · replace hf := if_t c1 hf
    refine ev_iload_n (n := 1) dX1_sourceOf_11 rfl rfl ?_
    refine ev_iconst (v := 4) dX1_sourceOf_12 (by decide) ?_
    refine ev_imul dX1_sourceOf_13 ?_
    refine ev_iload_n (n := 2) dX1_sourceOf_14 rfl rfl ?_
    refine ev_iadd dX1_sourceOf_15 ?_
    refine ev_istore_n (lv2 := [(3, .int ((l1 * (4 : Int32)) + l2)), (0, .ref l0), (1, .int l1), (2, .int l2)]) dX1_sourceOf_16 rfl (by decide) rfl ?_
    refine ev_aload_n (n := 1) dX1_sourceOf_17 rfl rfl ?_
    refine ev_iload_n (n := 0) dX1_sourceOf_18 rfl rfl ?_
    obtain ⟨v3, e4, hf⟩ := bn1_of hf
    refine ev_callVi (As := [.int ((l1 * (4 : Int32)) + l2)]) cal_X1_holds kl0 rfl (ev_X1_holds kl0 e4) (Nat.le_of_ble_eq_true rfl) rfl lk_473 (by decide) (by decide) (Nat.le_of_ble_eq_true rfl) dX1_sourceOf_19 rfl ?_
    refine ev_if_eq (tgt := 34) dX1_sourceOf_22 (by decide) (fun c1 => ?_) (fun c1 => ?_)
    · replace hf := if_t c1 hf
      refine ev_iconst (v := -1) dX1_sourceOf_34 (by decide) ?_
      obtain rfl := Option.some.inj hf
      exact ev_ireturn dX1_sourceOf_35 ⟨.int, rfl, rfl⟩
    · replace hf := if_f c1 hf
      refine ev_aload_n (n := 1) dX1_sourceOf_25 rfl rfl ?_
      refine ev_get (v := .ref (l0 + 1)) 9 kl0 rfl (by decide) rfl lk_64 dX1_sourceOf_26 ?_
      refine ev_iload_n (n := 0) dX1_sourceOf_29 rfl rfl ?_
      obtain ⟨gd5, hf⟩ := gd_of hf
      refine ev_iald (kd_0_9 kl0) (inb_of gd5) dX1_sourceOf_30 ?_
      refine ev_goto (tgt := 35) dX1_sourceOf_31 (by decide) ?_
      obtain rfl := Option.some.inj hf
      exact ev_ireturn dX1_sourceOf_35 ⟨.int, rfl, rfl⟩
  · replace hf := if_f c1 hf
    refine ev_bipush (v := 100) dX1_sourceOf_8 (by decide) ?_
    obtain rfl := Option.some.inj hf
    exact ev_ireturn dX1_sourceOf_10 ⟨.int, rfl, rfl⟩
def f_X1_loseBlocks (h : Hp) (l0 : Nat) (l1 : Int32) : Option (Hp) := (some (sI h l0 3 ((hI h l0 3) &&& (((15 : Int32) <<< ((l1 * (4 : Int32)) &&& 31)) ^^^ (-1 : Int32)))))
set_option maxRecDepth 100000 in
set_option maxHeartbeats 4000000 in
theorem ev_X1_loseBlocks {g : Gl} {h : Hp} {l0 : Nat} {l1 : Int32} {h2 : Hp} (kl0 : KD g.1 l0 0 0) (hf : f_X1_loseBlocks h l0 l1 = some h2) : Ev yX1_loseBlocks cX1_loseBlocks 2 none 0 0 g 0 [] [(0, .ref l0), (1, .int l1)] h none h2 := by
  unfold f_X1_loseBlocks at hf
  refine ev_aload_n (n := 0) dX1_loseBlocks_0 rfl rfl ?_
  refine ev_dup dX1_loseBlocks_1 rfl ?_
  refine ev_get (v := .int (hI h l0 3)) 3 kl0 rfl (by decide) rfl lk_44 dX1_loseBlocks_2 ?_
  refine ev_bipush (v := 15) dX1_loseBlocks_5 (by decide) ?_
  refine ev_iload_n (n := 1) dX1_loseBlocks_7 rfl rfl ?_
  refine ev_iconst (v := 4) dX1_loseBlocks_8 (by decide) ?_
  refine ev_imul dX1_loseBlocks_9 ?_
  refine ev_ishl dX1_loseBlocks_10 ?_
  refine ev_iconst (v := -1) dX1_loseBlocks_11 (by decide) ?_
  refine ev_ixor dX1_loseBlocks_12 ?_
  refine ev_iand dX1_loseBlocks_13 ?_
  refine ev_putI 3 kl0 rfl (by decide) rfl (by decide +kernel) rfl (by exact Nat.le_of_ble_eq_true rfl) lk_44 dX1_loseBlocks_14 ?_
  obtain rfl := Option.some.inj hf
  exact ev_return_ dX1_loseBlocks_17 rfl
def f_X3_claimsOf (h : Hp) (l0 : Nat) (l1 : Int32) : Option (Int32) := (if inb l1 6 = true then (if (hI h ((l0 + 2) + 1 + 4 * l1.toNatClampNeg) 0) = (2 : Int32) then (some (hI h l0 2)) else (if inb l1 6 = true then (some (hI h ((l0 + 2) + 1 + 4 * l1.toNatClampNeg) 2)) else none)) else none)
set_option maxRecDepth 100000 in
set_option maxHeartbeats 4000000 in
theorem ev_X3_claimsOf {g : Gl} {h : Hp} {l0 : Nat} {l1 : Int32} {rv : Int32} (kl0 : KD g.1 l0 2 0) (hf : f_X3_claimsOf h l0 l1 = some rv) : Ev yX3_claimsOf cX3_claimsOf 2 (some .int) 0 0 g 0 [] [(0, .ref l0), (1, .int l1)] h (some (.int rv)) h := by
  unfold f_X3_claimsOf at hf
  refine ev_aload_n (n := 0) dX3_claimsOf_0 rfl rfl ?_
  refine ev_get (v := .ref (l0 + 2)) 11 kl0 rfl (by decide) rfl lk_129 dX3_claimsOf_1 ?_
  refine ev_iload_n (n := 1) dX3_claimsOf_4 rfl rfl ?_
  obtain ⟨gd1, hf⟩ := gd_of hf
  refine ev_aaldP (kd_2_11 kl0) (inb_of gd1) dX3_claimsOf_5 ?_
  refine ev_get (v := .int (hI h ((l0 + 2) + 1 + 4 * l1.toNatClampNeg) 0)) 0 (kdPA (kd_2_11 kl0) (inb_of gd1)) rfl (by decide) rfl lk_37 dX3_claimsOf_6 ?_
  refine ev_iconst (v := 2) dX3_claimsOf_9 (by decide) ?_
  refine ev_icmp_ne (tgt := 20) dX3_claimsOf_10 (by decide) (fun c1 => ?_) (fun c1 => ?_)
  · replace hf := if_f c1 hf
    refine ev_aload_n (n := 0) dX3_claimsOf_20 rfl rfl ?_
    refine ev_get (v := .ref (l0 + 2)) 11 kl0 rfl (by decide) rfl lk_129 dX3_claimsOf_21 ?_
    refine ev_iload_n (n := 1) dX3_claimsOf_24 rfl rfl ?_
    obtain ⟨gd2, hf⟩ := gd_of hf
    refine ev_aaldP (kd_2_11 kl0) (inb_of gd2) dX3_claimsOf_25 ?_
    refine ev_get (v := .int (hI h ((l0 + 2) + 1 + 4 * l1.toNatClampNeg) 2)) 2 (kdPA (kd_2_11 kl0) (inb_of gd2)) rfl (by decide) rfl lk_43 dX3_claimsOf_26 ?_
    obtain rfl := Option.some.inj hf
    exact ev_ireturn dX3_claimsOf_29 ⟨.int, rfl, rfl⟩
  · replace hf := if_t c1 hf
    refine ev_aload_n (n := 0) dX3_claimsOf_13 rfl rfl ?_
    refine ev_get (v := .int (hI h l0 2)) 2 kl0 rfl (by decide) rfl lk_109 dX3_claimsOf_14 ?_
    refine ev_goto (tgt := 29) dX3_claimsOf_17 (by decide) ?_
    obtain rfl := Option.some.inj hf
    exact ev_ireturn dX3_claimsOf_29 ⟨.int, rfl, rfl⟩
def f_J6_bitCount_0f7a4 (h : Hp) (l0 : Int32) : Option (Int32) := (some ((((((((l0 - (((l0.toUInt32 >>> ((1 : Int32).toUInt32 &&& Int32.toUInt32 31)).toInt32) &&& (1431655765 : Int32))) &&& (858993459 : Int32)) + ((((l0 - (((l0.toUInt32 >>> ((1 : Int32).toUInt32 &&& Int32.toUInt32 31)).toInt32) &&& (1431655765 : Int32))).toUInt32 >>> ((2 : Int32).toUInt32 &&& Int32.toUInt32 31)).toInt32) &&& (858993459 : Int32))) + (((((l0 - (((l0.toUInt32 >>> ((1 : Int32).toUInt32 &&& Int32.toUInt32 31)).toInt32) &&& (1431655765 : Int32))) &&& (858993459 : Int32)) + ((((l0 - (((l0.toUInt32 >>> ((1 : Int32).toUInt32 &&& Int32.toUInt32 31)).toInt32) &&& (1431655765 : Int32))).toUInt32 >>> ((2 : Int32).toUInt32 &&& Int32.toUInt32 31)).toInt32) &&& (858993459 : Int32))).toUInt32 >>> ((4 : Int32).toUInt32 &&& Int32.toUInt32 31)).toInt32)) &&& (252645135 : Int32)) + (((((((l0 - (((l0.toUInt32 >>> ((1 : Int32).toUInt32 &&& Int32.toUInt32 31)).toInt32) &&& (1431655765 : Int32))) &&& (858993459 : Int32)) + ((((l0 - (((l0.toUInt32 >>> ((1 : Int32).toUInt32 &&& Int32.toUInt32 31)).toInt32) &&& (1431655765 : Int32))).toUInt32 >>> ((2 : Int32).toUInt32 &&& Int32.toUInt32 31)).toInt32) &&& (858993459 : Int32))) + (((((l0 - (((l0.toUInt32 >>> ((1 : Int32).toUInt32 &&& Int32.toUInt32 31)).toInt32) &&& (1431655765 : Int32))) &&& (858993459 : Int32)) + ((((l0 - (((l0.toUInt32 >>> ((1 : Int32).toUInt32 &&& Int32.toUInt32 31)).toInt32) &&& (1431655765 : Int32))).toUInt32 >>> ((2 : Int32).toUInt32 &&& Int32.toUInt32 31)).toInt32) &&& (858993459 : Int32))).toUInt32 >>> ((4 : Int32).toUInt32 &&& Int32.toUInt32 31)).toInt32)) &&& (252645135 : Int32)).toUInt32 >>> ((8 : Int32).toUInt32 &&& Int32.toUInt32 31)).toInt32)) + ((((((((l0 - (((l0.toUInt32 >>> ((1 : Int32).toUInt32 &&& Int32.toUInt32 31)).toInt32) &&& (1431655765 : Int32))) &&& (858993459 : Int32)) + ((((l0 - (((l0.toUInt32 >>> ((1 : Int32).toUInt32 &&& Int32.toUInt32 31)).toInt32) &&& (1431655765 : Int32))).toUInt32 >>> ((2 : Int32).toUInt32 &&& Int32.toUInt32 31)).toInt32) &&& (858993459 : Int32))) + (((((l0 - (((l0.toUInt32 >>> ((1 : Int32).toUInt32 &&& Int32.toUInt32 31)).toInt32) &&& (1431655765 : Int32))) &&& (858993459 : Int32)) + ((((l0 - (((l0.toUInt32 >>> ((1 : Int32).toUInt32 &&& Int32.toUInt32 31)).toInt32) &&& (1431655765 : Int32))).toUInt32 >>> ((2 : Int32).toUInt32 &&& Int32.toUInt32 31)).toInt32) &&& (858993459 : Int32))).toUInt32 >>> ((4 : Int32).toUInt32 &&& Int32.toUInt32 31)).toInt32)) &&& (252645135 : Int32)) + (((((((l0 - (((l0.toUInt32 >>> ((1 : Int32).toUInt32 &&& Int32.toUInt32 31)).toInt32) &&& (1431655765 : Int32))) &&& (858993459 : Int32)) + ((((l0 - (((l0.toUInt32 >>> ((1 : Int32).toUInt32 &&& Int32.toUInt32 31)).toInt32) &&& (1431655765 : Int32))).toUInt32 >>> ((2 : Int32).toUInt32 &&& Int32.toUInt32 31)).toInt32) &&& (858993459 : Int32))) + (((((l0 - (((l0.toUInt32 >>> ((1 : Int32).toUInt32 &&& Int32.toUInt32 31)).toInt32) &&& (1431655765 : Int32))) &&& (858993459 : Int32)) + ((((l0 - (((l0.toUInt32 >>> ((1 : Int32).toUInt32 &&& Int32.toUInt32 31)).toInt32) &&& (1431655765 : Int32))).toUInt32 >>> ((2 : Int32).toUInt32 &&& Int32.toUInt32 31)).toInt32) &&& (858993459 : Int32))).toUInt32 >>> ((4 : Int32).toUInt32 &&& Int32.toUInt32 31)).toInt32)) &&& (252645135 : Int32)).toUInt32 >>> ((8 : Int32).toUInt32 &&& Int32.toUInt32 31)).toInt32)).toUInt32 >>> ((16 : Int32).toUInt32 &&& Int32.toUInt32 31)).toInt32)) &&& (63 : Int32)))
set_option maxRecDepth 100000 in
set_option maxHeartbeats 4000000 in
theorem ev_J6_bitCount_0f7a4 {g : Gl} {h : Hp} {l0 : Int32} {rv : Int32}  (hf : f_J6_bitCount_0f7a4 h l0 = some rv) : Ev yJ6_bitCount_0f7a4 cJ6_bitCount_0f7a4 1 (some .int) 0 0 g 0 [] [(0, .int l0)] h (some (.int rv)) h := by
  unfold f_J6_bitCount_0f7a4 at hf
  refine ev_iload_n (n := 0) dJ6_bitCount_0f7a4_0 rfl rfl ?_
  refine ev_iload_n (n := 0) dJ6_bitCount_0f7a4_1 rfl rfl ?_
  refine ev_iconst (v := 1) dJ6_bitCount_0f7a4_2 (by decide) ?_
  refine ev_iushr dJ6_bitCount_0f7a4_3 ?_
  refine ev_ldcw dJ6_bitCount_0f7a4_4 lk_316 ?_
  refine ev_iand dJ6_bitCount_0f7a4_7 ?_
  refine ev_isub dJ6_bitCount_0f7a4_8 ?_
  refine ev_istore_n (lv2 := [(0, .int (l0 - (((l0.toUInt32 >>> ((1 : Int32).toUInt32 &&& Int32.toUInt32 31)).toInt32) &&& (1431655765 : Int32))))]) dJ6_bitCount_0f7a4_9 rfl (by decide) rfl ?_
  refine ev_iload_n (n := 0) dJ6_bitCount_0f7a4_10 rfl rfl ?_
  refine ev_ldcw dJ6_bitCount_0f7a4_11 lk_317 ?_
  refine ev_iand dJ6_bitCount_0f7a4_14 ?_
  refine ev_iload_n (n := 0) dJ6_bitCount_0f7a4_15 rfl rfl ?_
  refine ev_iconst (v := 2) dJ6_bitCount_0f7a4_16 (by decide) ?_
  refine ev_iushr dJ6_bitCount_0f7a4_17 ?_
  refine ev_ldcw dJ6_bitCount_0f7a4_18 lk_317 ?_
  refine ev_iand dJ6_bitCount_0f7a4_21 ?_
  refine ev_iadd dJ6_bitCount_0f7a4_22 ?_
  refine ev_istore_n (lv2 := [(0, .int (((l0 - (((l0.toUInt32 >>> ((1 : Int32).toUInt32 &&& Int32.toUInt32 31)).toInt32) &&& (1431655765 : Int32))) &&& (858993459 : Int32)) + ((((l0 - (((l0.toUInt32 >>> ((1 : Int32).toUInt32 &&& Int32.toUInt32 31)).toInt32) &&& (1431655765 : Int32))).toUInt32 >>> ((2 : Int32).toUInt32 &&& Int32.toUInt32 31)).toInt32) &&& (858993459 : Int32))))]) dJ6_bitCount_0f7a4_23 rfl (by decide) rfl ?_
  refine ev_iload_n (n := 0) dJ6_bitCount_0f7a4_24 rfl rfl ?_
  refine ev_iload_n (n := 0) dJ6_bitCount_0f7a4_25 rfl rfl ?_
  refine ev_iconst (v := 4) dJ6_bitCount_0f7a4_26 (by decide) ?_
  refine ev_iushr dJ6_bitCount_0f7a4_27 ?_
  refine ev_iadd dJ6_bitCount_0f7a4_28 ?_
  refine ev_ldcw dJ6_bitCount_0f7a4_29 lk_318 ?_
  refine ev_iand dJ6_bitCount_0f7a4_32 ?_
  refine ev_istore_n (lv2 := [(0, .int (((((l0 - (((l0.toUInt32 >>> ((1 : Int32).toUInt32 &&& Int32.toUInt32 31)).toInt32) &&& (1431655765 : Int32))) &&& (858993459 : Int32)) + ((((l0 - (((l0.toUInt32 >>> ((1 : Int32).toUInt32 &&& Int32.toUInt32 31)).toInt32) &&& (1431655765 : Int32))).toUInt32 >>> ((2 : Int32).toUInt32 &&& Int32.toUInt32 31)).toInt32) &&& (858993459 : Int32))) + (((((l0 - (((l0.toUInt32 >>> ((1 : Int32).toUInt32 &&& Int32.toUInt32 31)).toInt32) &&& (1431655765 : Int32))) &&& (858993459 : Int32)) + ((((l0 - (((l0.toUInt32 >>> ((1 : Int32).toUInt32 &&& Int32.toUInt32 31)).toInt32) &&& (1431655765 : Int32))).toUInt32 >>> ((2 : Int32).toUInt32 &&& Int32.toUInt32 31)).toInt32) &&& (858993459 : Int32))).toUInt32 >>> ((4 : Int32).toUInt32 &&& Int32.toUInt32 31)).toInt32)) &&& (252645135 : Int32)))]) dJ6_bitCount_0f7a4_33 rfl (by decide) rfl ?_
  refine ev_iload_n (n := 0) dJ6_bitCount_0f7a4_34 rfl rfl ?_
  refine ev_iload_n (n := 0) dJ6_bitCount_0f7a4_35 rfl rfl ?_
  refine ev_bipush (v := 8) dJ6_bitCount_0f7a4_36 (by decide) ?_
  refine ev_iushr dJ6_bitCount_0f7a4_38 ?_
  refine ev_iadd dJ6_bitCount_0f7a4_39 ?_
  refine ev_istore_n (lv2 := [(0, .int ((((((l0 - (((l0.toUInt32 >>> ((1 : Int32).toUInt32 &&& Int32.toUInt32 31)).toInt32) &&& (1431655765 : Int32))) &&& (858993459 : Int32)) + ((((l0 - (((l0.toUInt32 >>> ((1 : Int32).toUInt32 &&& Int32.toUInt32 31)).toInt32) &&& (1431655765 : Int32))).toUInt32 >>> ((2 : Int32).toUInt32 &&& Int32.toUInt32 31)).toInt32) &&& (858993459 : Int32))) + (((((l0 - (((l0.toUInt32 >>> ((1 : Int32).toUInt32 &&& Int32.toUInt32 31)).toInt32) &&& (1431655765 : Int32))) &&& (858993459 : Int32)) + ((((l0 - (((l0.toUInt32 >>> ((1 : Int32).toUInt32 &&& Int32.toUInt32 31)).toInt32) &&& (1431655765 : Int32))).toUInt32 >>> ((2 : Int32).toUInt32 &&& Int32.toUInt32 31)).toInt32) &&& (858993459 : Int32))).toUInt32 >>> ((4 : Int32).toUInt32 &&& Int32.toUInt32 31)).toInt32)) &&& (252645135 : Int32)) + (((((((l0 - (((l0.toUInt32 >>> ((1 : Int32).toUInt32 &&& Int32.toUInt32 31)).toInt32) &&& (1431655765 : Int32))) &&& (858993459 : Int32)) + ((((l0 - (((l0.toUInt32 >>> ((1 : Int32).toUInt32 &&& Int32.toUInt32 31)).toInt32) &&& (1431655765 : Int32))).toUInt32 >>> ((2 : Int32).toUInt32 &&& Int32.toUInt32 31)).toInt32) &&& (858993459 : Int32))) + (((((l0 - (((l0.toUInt32 >>> ((1 : Int32).toUInt32 &&& Int32.toUInt32 31)).toInt32) &&& (1431655765 : Int32))) &&& (858993459 : Int32)) + ((((l0 - (((l0.toUInt32 >>> ((1 : Int32).toUInt32 &&& Int32.toUInt32 31)).toInt32) &&& (1431655765 : Int32))).toUInt32 >>> ((2 : Int32).toUInt32 &&& Int32.toUInt32 31)).toInt32) &&& (858993459 : Int32))).toUInt32 >>> ((4 : Int32).toUInt32 &&& Int32.toUInt32 31)).toInt32)) &&& (252645135 : Int32)).toUInt32 >>> ((8 : Int32).toUInt32 &&& Int32.toUInt32 31)).toInt32)))]) dJ6_bitCount_0f7a4_40 rfl (by decide) rfl ?_
  refine ev_iload_n (n := 0) dJ6_bitCount_0f7a4_41 rfl rfl ?_
  refine ev_iload_n (n := 0) dJ6_bitCount_0f7a4_42 rfl rfl ?_
  refine ev_bipush (v := 16) dJ6_bitCount_0f7a4_43 (by decide) ?_
  refine ev_iushr dJ6_bitCount_0f7a4_45 ?_
  refine ev_iadd dJ6_bitCount_0f7a4_46 ?_
  refine ev_istore_n (lv2 := [(0, .int (((((((l0 - (((l0.toUInt32 >>> ((1 : Int32).toUInt32 &&& Int32.toUInt32 31)).toInt32) &&& (1431655765 : Int32))) &&& (858993459 : Int32)) + ((((l0 - (((l0.toUInt32 >>> ((1 : Int32).toUInt32 &&& Int32.toUInt32 31)).toInt32) &&& (1431655765 : Int32))).toUInt32 >>> ((2 : Int32).toUInt32 &&& Int32.toUInt32 31)).toInt32) &&& (858993459 : Int32))) + (((((l0 - (((l0.toUInt32 >>> ((1 : Int32).toUInt32 &&& Int32.toUInt32 31)).toInt32) &&& (1431655765 : Int32))) &&& (858993459 : Int32)) + ((((l0 - (((l0.toUInt32 >>> ((1 : Int32).toUInt32 &&& Int32.toUInt32 31)).toInt32) &&& (1431655765 : Int32))).toUInt32 >>> ((2 : Int32).toUInt32 &&& Int32.toUInt32 31)).toInt32) &&& (858993459 : Int32))).toUInt32 >>> ((4 : Int32).toUInt32 &&& Int32.toUInt32 31)).toInt32)) &&& (252645135 : Int32)) + (((((((l0 - (((l0.toUInt32 >>> ((1 : Int32).toUInt32 &&& Int32.toUInt32 31)).toInt32) &&& (1431655765 : Int32))) &&& (858993459 : Int32)) + ((((l0 - (((l0.toUInt32 >>> ((1 : Int32).toUInt32 &&& Int32.toUInt32 31)).toInt32) &&& (1431655765 : Int32))).toUInt32 >>> ((2 : Int32).toUInt32 &&& Int32.toUInt32 31)).toInt32) &&& (858993459 : Int32))) + (((((l0 - (((l0.toUInt32 >>> ((1 : Int32).toUInt32 &&& Int32.toUInt32 31)).toInt32) &&& (1431655765 : Int32))) &&& (858993459 : Int32)) + ((((l0 - (((l0.toUInt32 >>> ((1 : Int32).toUInt32 &&& Int32.toUInt32 31)).toInt32) &&& (1431655765 : Int32))).toUInt32 >>> ((2 : Int32).toUInt32 &&& Int32.toUInt32 31)).toInt32) &&& (858993459 : Int32))).toUInt32 >>> ((4 : Int32).toUInt32 &&& Int32.toUInt32 31)).toInt32)) &&& (252645135 : Int32)).toUInt32 >>> ((8 : Int32).toUInt32 &&& Int32.toUInt32 31)).toInt32)) + ((((((((l0 - (((l0.toUInt32 >>> ((1 : Int32).toUInt32 &&& Int32.toUInt32 31)).toInt32) &&& (1431655765 : Int32))) &&& (858993459 : Int32)) + ((((l0 - (((l0.toUInt32 >>> ((1 : Int32).toUInt32 &&& Int32.toUInt32 31)).toInt32) &&& (1431655765 : Int32))).toUInt32 >>> ((2 : Int32).toUInt32 &&& Int32.toUInt32 31)).toInt32) &&& (858993459 : Int32))) + (((((l0 - (((l0.toUInt32 >>> ((1 : Int32).toUInt32 &&& Int32.toUInt32 31)).toInt32) &&& (1431655765 : Int32))) &&& (858993459 : Int32)) + ((((l0 - (((l0.toUInt32 >>> ((1 : Int32).toUInt32 &&& Int32.toUInt32 31)).toInt32) &&& (1431655765 : Int32))).toUInt32 >>> ((2 : Int32).toUInt32 &&& Int32.toUInt32 31)).toInt32) &&& (858993459 : Int32))).toUInt32 >>> ((4 : Int32).toUInt32 &&& Int32.toUInt32 31)).toInt32)) &&& (252645135 : Int32)) + (((((((l0 - (((l0.toUInt32 >>> ((1 : Int32).toUInt32 &&& Int32.toUInt32 31)).toInt32) &&& (1431655765 : Int32))) &&& (858993459 : Int32)) + ((((l0 - (((l0.toUInt32 >>> ((1 : Int32).toUInt32 &&& Int32.toUInt32 31)).toInt32) &&& (1431655765 : Int32))).toUInt32 >>> ((2 : Int32).toUInt32 &&& Int32.toUInt32 31)).toInt32) &&& (858993459 : Int32))) + (((((l0 - (((l0.toUInt32 >>> ((1 : Int32).toUInt32 &&& Int32.toUInt32 31)).toInt32) &&& (1431655765 : Int32))) &&& (858993459 : Int32)) + ((((l0 - (((l0.toUInt32 >>> ((1 : Int32).toUInt32 &&& Int32.toUInt32 31)).toInt32) &&& (1431655765 : Int32))).toUInt32 >>> ((2 : Int32).toUInt32 &&& Int32.toUInt32 31)).toInt32) &&& (858993459 : Int32))).toUInt32 >>> ((4 : Int32).toUInt32 &&& Int32.toUInt32 31)).toInt32)) &&& (252645135 : Int32)).toUInt32 >>> ((8 : Int32).toUInt32 &&& Int32.toUInt32 31)).toInt32)).toUInt32 >>> ((16 : Int32).toUInt32 &&& Int32.toUInt32 31)).toInt32)))]) dJ6_bitCount_0f7a4_47 rfl (by decide) rfl ?_
  refine ev_iload_n (n := 0) dJ6_bitCount_0f7a4_48 rfl rfl ?_
  refine ev_bipush (v := 63) dJ6_bitCount_0f7a4_49 (by decide) ?_
  refine ev_iand dJ6_bitCount_0f7a4_51 ?_
  obtain rfl := Option.some.inj hf
  exact ev_ireturn dJ6_bitCount_0f7a4_52 ⟨.int, rfl, rfl⟩
def f_X3_drawBelow (h : Hp) (l0 : Nat) (l1 : Int32) : Option (Int32 × Hp) := (if (1 : Int32) ≤ l1 then (if ¬ l1.toInt64 = 0 then (some ((((hL (sL h l0 9 ((((hL h l0 9) * (1103515245 : Int64)) + (12345 : Int64)) - (((hL h l0 9) * (1103515245 : Int64)) + (12345 : Int64)) / (2147483648 : Int64) * (2147483648 : Int64))) l0 9) / (65536 : Int64)) - ((hL (sL h l0 9 ((((hL h l0 9) * (1103515245 : Int64)) + (12345 : Int64)) - (((hL h l0 9) * (1103515245 : Int64)) + (12345 : Int64)) / (2147483648 : Int64) * (2147483648 : Int64))) l0 9) / (65536 : Int64)) / l1.toInt64 * l1.toInt64).toInt32, (sL h l0 9 ((((hL h l0 9) * (1103515245 : Int64)) + (12345 : Int64)) - (((hL h l0 9) * (1103515245 : Int64)) + (12345 : Int64)) / (2147483648 : Int64) * (2147483648 : Int64))))) else none) else (some ((0 : Int32), (sL h l0 9 ((((hL h l0 9) * (1103515245 : Int64)) + (12345 : Int64)) - (((hL h l0 9) * (1103515245 : Int64)) + (12345 : Int64)) / (2147483648 : Int64) * (2147483648 : Int64))))))
set_option maxRecDepth 100000 in
set_option maxHeartbeats 4000000 in
theorem ev_X3_drawBelow {g : Gl} {h : Hp} {l0 : Nat} {l1 : Int32} {rv : Int32} {h2 : Hp} (kl0 : KD g.1 l0 2 0) (hf : f_X3_drawBelow h l0 l1 = some (rv, h2)) : Ev yX3_drawBelow cX3_drawBelow 2 (some .int) 0 0 g 0 [] [(0, .ref l0), (1, .int l1)] h (some (.int rv)) h2 := by
  unfold f_X3_drawBelow at hf
  refine ev_aload_n (n := 0) dX3_drawBelow_0 rfl rfl ?_
  refine ev_aload_n (n := 0) dX3_drawBelow_1 rfl rfl ?_
  refine ev_get (v := .long (hL h l0 9)) 9 kl0 rfl (by decide) rfl lk_125 dX3_drawBelow_2 ?_
  refine ev_ldc2 dX3_drawBelow_5 lk_379 ?_
  refine ev_lmul dX3_drawBelow_8 ?_
  refine ev_ldc2 dX3_drawBelow_9 lk_380 ?_
  refine ev_ladd dX3_drawBelow_12 ?_
  refine ev_ldc2 dX3_drawBelow_13 lk_381 ?_
  refine ev_lrem dX3_drawBelow_16 (by decide) ?_
  refine ev_putL 9 kl0 rfl (by decide) rfl (by decide +kernel) rfl (by exact Nat.le_of_ble_eq_true rfl) lk_125 dX3_drawBelow_17 ?_
  refine ev_iload_n (n := 1) dX3_drawBelow_20 rfl rfl ?_
  refine ev_iconst (v := 1) dX3_drawBelow_21 (by decide) ?_
  refine ev_icmp_ge (tgt := 29) dX3_drawBelow_22 (by decide) (fun c1 => ?_) (fun c1 => ?_)
  · replace hf := if_t c1 hf
    refine ev_aload_n (n := 0) dX3_drawBelow_29 rfl rfl ?_
    refine ev_get (v := .long (hL (sL h l0 9 ((((hL h l0 9) * (1103515245 : Int64)) + (12345 : Int64)) - (((hL h l0 9) * (1103515245 : Int64)) + (12345 : Int64)) / (2147483648 : Int64) * (2147483648 : Int64))) l0 9)) 9 kl0 rfl (by decide) rfl lk_125 dX3_drawBelow_30 ?_
    refine ev_ldc2 dX3_drawBelow_33 lk_382 ?_
    refine ev_ldiv dX3_drawBelow_36 (by decide) ?_
    refine ev_iload_n (n := 1) dX3_drawBelow_37 rfl rfl ?_
    refine ev_i2l dX3_drawBelow_38 ?_
    obtain ⟨gd1, hf⟩ := gd_of hf
    refine ev_lrem dX3_drawBelow_39 gd1 ?_
    refine ev_l2i dX3_drawBelow_40 ?_
    obtain ⟨rfl, rfl⟩ := Prod.mk.inj (Option.some.inj hf)
    exact ev_ireturn dX3_drawBelow_41 ⟨.int, rfl, rfl⟩
  · replace hf := if_f c1 hf
    refine ev_iconst (v := 0) dX3_drawBelow_25 (by decide) ?_
    refine ev_goto (tgt := 41) dX3_drawBelow_26 (by decide) ?_
    obtain ⟨rfl, rfl⟩ := Prod.mk.inj (Option.some.inj hf)
    exact ev_ireturn dX3_drawBelow_41 ⟨.int, rfl, rfl⟩
def f_X3_copiesOf_l4 (h : Hp) (l0 : Nat) (l1 : Int32) : Nat → Int32 → Int32 → Option (Int32)
  | 0, _, _ => none
  | fu1 + 1, l2, l3 => (if (hI h l0 4) ≤ l3 then (some l2) else (bn1 (f_X3_claimsOf h l0 l3) (fun v1 => (f_X3_copiesOf_l4 h l0 l1 fu1 (l2 + ((v1 >>> (l1 &&& 31)) &&& (1 : Int32))) (l3 + 1)))))
theorem f_X3_copiesOf_l4_s (h : Hp) (l0 : Nat) (l1 : Int32) (fu1 : Nat) (l2 : Int32) (l3 : Int32) : f_X3_copiesOf_l4 h l0 l1 (fu1 + 1) l2 l3 = (if (hI h l0 4) ≤ l3 then (some l2) else (bn1 (f_X3_claimsOf h l0 l3) (fun v1 => (f_X3_copiesOf_l4 h l0 l1 fu1 (l2 + ((v1 >>> (l1 &&& 31)) &&& (1 : Int32))) (l3 + 1))))) := rfl
theorem f_X3_copiesOf_l4_0 (h : Hp) (l0 : Nat) (l1 : Int32) (l2 : Int32) (l3 : Int32) : f_X3_copiesOf_l4 h l0 l1 0 l2 l3 = none := rfl
set_option maxRecDepth 100000 in
set_option maxHeartbeats 4000000 in
theorem lp_X3_copiesOf_4 {g : Gl} {h : Hp} {l0 : Nat} {l1 : Int32} {r : Option Value} {h2 : Hp} {o2 : Int32} (kl0 : KD g.1 l0 2 0) (hx0 : Ev yX3_copiesOf cX3_copiesOf 4 (some .int) 1 21 g 30 [] [(2, .int o2)] h r h2) : ∀ (fu1 : Nat) (l2 : Int32) (l3 : Int32), f_X3_copiesOf_l4 h l0 l1 fu1 l2 l3 = some o2 → Ev yX3_copiesOf cX3_copiesOf 4 (some .int) 1 21 g 4 [] [(0, .ref l0), (1, .int l1), (2, .int l2), (3, .int l3)] h r h2 := by
  intro fu1
  induction fu1 with
  | zero =>
    intro l2 l3 hf
    cases hf
  | succ fu1 ih =>
    intro l2 l3 hf
    rw [f_X3_copiesOf_l4_s] at hf
    have hk := ih
    refine ev_iload_n (n := 3) dX3_copiesOf_4 rfl rfl ?_
    refine ev_aload_n (n := 0) dX3_copiesOf_5 rfl rfl ?_
    refine ev_get (v := .int (hI h l0 4)) 4 kl0 rfl (by decide) rfl lk_113 dX3_copiesOf_6 ?_
    refine ev_icmp_ge (tgt := 30) dX3_copiesOf_9 (by decide) (fun c1 => ?_) (fun c1 => ?_)
    · replace hf := if_t c1 hf
      refine ev_sub [2] rfl (lv2 := [(2, .int l2)]) ?_
      obtain rfl := Option.some.inj hf
      exact hx0
    · replace hf := if_f c1 hf
      refine ev_iload_n (n := 2) dX3_copiesOf_12 rfl rfl ?_
      refine ev_aload_n (n := 0) dX3_copiesOf_13 rfl rfl ?_
      refine ev_iload_n (n := 3) dX3_copiesOf_14 rfl rfl ?_
      obtain ⟨v1, e2, hf⟩ := bn1_of hf
      refine ev_callVi (As := [.int l3]) cal_X3_claimsOf kl0 rfl (ev_X3_claimsOf kl0 e2) (Nat.le_of_ble_eq_true rfl) rfl lk_394 (by decide) (by decide) (Nat.le_of_ble_eq_true rfl) dX3_copiesOf_15 rfl ?_
      refine ev_iload_n (n := 1) dX3_copiesOf_18 rfl rfl ?_
      refine ev_ishr dX3_copiesOf_19 ?_
      refine ev_iconst (v := 1) dX3_copiesOf_20 (by decide) ?_
      refine ev_iand dX3_copiesOf_21 ?_
      refine ev_iadd dX3_copiesOf_22 ?_
      refine ev_istore_n (lv2 := [(2, .int (l2 + ((v1 >>> (l1 &&& 31)) &&& (1 : Int32)))), (0, .ref l0), (1, .int l1), (3, .int l3)]) dX3_copiesOf_23 rfl (by decide) rfl ?_
      refine ev_iinc (z := 3) (v := (l3 + 1)) (lv2 := [(3, .int (l3 + 1)), (2, .int (l2 + ((v1 >>> (l1 &&& 31)) &&& (1 : Int32)))), (0, .ref l0), (1, .int l1)]) dX3_copiesOf_24 rfl rfl (by decide) rfl ?_
      refine ev_goto (tgt := 4) dX3_copiesOf_27 (by decide) ?_
      refine ev_sub [2, 3, 1, 0] rfl (lv2 := [(0, .ref l0), (1, .int l1), (2, .int (l2 + ((v1 >>> (l1 &&& 31)) &&& (1 : Int32)))), (3, .int (l3 + 1))]) ?_
      exact hk _ _ hf
def f_X3_copiesOf (h : Hp) (l0 : Nat) (l1 : Int32) : Option (Int32) := (bn1 (f_X3_copiesOf_l4 h l0 l1 fu (0 : Int32) (0 : Int32)) (fun w2_3 => (some w2_3)))
set_option maxRecDepth 100000 in
set_option maxHeartbeats 4000000 in
theorem ev_X3_copiesOf {g : Gl} {h : Hp} {l0 : Nat} {l1 : Int32} {rv : Int32} (kl0 : KD g.1 l0 2 0) (hf : f_X3_copiesOf h l0 l1 = some rv) : Ev yX3_copiesOf cX3_copiesOf 4 (some .int) 1 21 g 0 [] [(0, .ref l0), (1, .int l1)] h (some (.int rv)) h := by
  unfold f_X3_copiesOf at hf
  refine ev_iconst (v := 0) dX3_copiesOf_0 (by decide) ?_
  refine ev_istore_n (lv2 := [(2, .int (0 : Int32)), (0, .ref l0), (1, .int l1)]) dX3_copiesOf_1 rfl (by decide) rfl ?_
  refine ev_iconst (v := 0) dX3_copiesOf_2 (by decide) ?_
  refine ev_istore_n (lv2 := [(3, .int (0 : Int32)), (2, .int (0 : Int32)), (0, .ref l0), (1, .int l1)]) dX3_copiesOf_3 rfl (by decide) rfl ?_
  obtain ⟨w2_3, e4, hf⟩ := bn1_of hf
  refine ev_sub [2, 3, 1, 0] rfl (lv2 := [(0, .ref l0), (1, .int l1), (2, .int (0 : Int32)), (3, .int (0 : Int32))]) ?_
  refine lp_X3_copiesOf_4 kl0 ?_ fu _ _ e4
  refine ev_iload_n (n := 0) dX3_copiesOf_30 rfl rfl ?_
  obtain rfl := Option.some.inj hf
  exact ev_ireturn dX3_copiesOf_31 ⟨.int, rfl, rfl⟩
def f_X3_leftOf_j44 (kk : Int32 → Int32 → Option (Int32)) (h : Hp) (l0 : Nat) (l1 : Nat) (l2 : Int32) (l3 : Int32) : Option (Int32) := (kk l2 (l3 + 1))
set_option maxRecDepth 100000 in
set_option maxHeartbeats 4000000 in
theorem jn_X3_leftOf_44 {g : Gl} {h : Hp} {kk : Int32 → Int32 → Option (Int32)} {l0 : Nat} {l1 : Nat} {l2 : Int32} {l3 : Int32}  {r : Option Value} {h2 : Hp} {o2 : Int32} (kl0 : KD g.1 l0 2 0) (kl1 : KD g.1 l1 0 0) (hx0 : Ev yX3_leftOf cX3_leftOf 4 (some .int) 1 21 g 50 [] [(2, .int o2)] h r h2) (hk : ∀ (x2 : Int32) (x3 : Int32), kk x2 x3 = some o2 → Ev yX3_leftOf cX3_leftOf 4 (some .int) 1 21 g 4 [] [(0, .ref l0), (1, .ref l1), (2, .int x2), (3, .int x3)] h r h2) (hf : f_X3_leftOf_j44 kk h l0 l1 l2 l3 = some o2) : Ev yX3_leftOf cX3_leftOf 4 (some .int) 1 21 g 44 [] [(0, .ref l0), (1, .ref l1), (2, .int l2), (3, .int l3)] h r h2 := by
  unfold f_X3_leftOf_j44 at hf
  refine ev_iinc (z := 3) (v := (l3 + 1)) (lv2 := [(3, .int (l3 + 1)), (0, .ref l0), (1, .ref l1), (2, .int l2)]) dX3_leftOf_44 rfl rfl (by decide) rfl ?_
  refine ev_goto (tgt := 4) dX3_leftOf_47 (by decide) ?_
  refine ev_sub [1, 2, 3, 0] rfl (lv2 := [(0, .ref l0), (1, .ref l1), (2, .int l2), (3, .int (l3 + 1))]) ?_
  exact hk _ _ hf
def f_X3_leftOf_l4 (h : Hp) (l0 : Nat) (l1 : Nat) : Nat → Int32 → Int32 → Option (Int32)
  | 0, _, _ => none
  | fu1 + 1, l2, l3 => (if (hI h l0 0) ≤ l3 then (some l2) else (bn1 (f_X1_hasPiece h l1 l3) (fun v1 => (if v1 = 0 then (bn1 (f_J6_bitCount_0f7a4 h ((((hI h l1 3).toUInt32 >>> ((l3 * (4 : Int32)).toUInt32 &&& Int32.toUInt32 31)).toInt32) &&& (hI h l0 3))) (fun v3 => (f_X3_leftOf_j44 (f_X3_leftOf_l4 h l0 l1 fu1) h l0 l1 (l2 + ((hI h l0 1) - v3)) l3))) else (f_X3_leftOf_j44 (f_X3_leftOf_l4 h l0 l1 fu1) h l0 l1 l2 l3)))))
theorem f_X3_leftOf_l4_s (h : Hp) (l0 : Nat) (l1 : Nat) (fu1 : Nat) (l2 : Int32) (l3 : Int32) : f_X3_leftOf_l4 h l0 l1 (fu1 + 1) l2 l3 = (if (hI h l0 0) ≤ l3 then (some l2) else (bn1 (f_X1_hasPiece h l1 l3) (fun v1 => (if v1 = 0 then (bn1 (f_J6_bitCount_0f7a4 h ((((hI h l1 3).toUInt32 >>> ((l3 * (4 : Int32)).toUInt32 &&& Int32.toUInt32 31)).toInt32) &&& (hI h l0 3))) (fun v3 => (f_X3_leftOf_j44 (f_X3_leftOf_l4 h l0 l1 fu1) h l0 l1 (l2 + ((hI h l0 1) - v3)) l3))) else (f_X3_leftOf_j44 (f_X3_leftOf_l4 h l0 l1 fu1) h l0 l1 l2 l3))))) := rfl
theorem f_X3_leftOf_l4_0 (h : Hp) (l0 : Nat) (l1 : Nat) (l2 : Int32) (l3 : Int32) : f_X3_leftOf_l4 h l0 l1 0 l2 l3 = none := rfl
set_option maxRecDepth 100000 in
set_option maxHeartbeats 4000000 in
theorem lp_X3_leftOf_4 {g : Gl} {h : Hp} {l0 : Nat} {l1 : Nat} {r : Option Value} {h2 : Hp} {o2 : Int32} (kl0 : KD g.1 l0 2 0) (kl1 : KD g.1 l1 0 0) (hx0 : Ev yX3_leftOf cX3_leftOf 4 (some .int) 1 21 g 50 [] [(2, .int o2)] h r h2) : ∀ (fu1 : Nat) (l2 : Int32) (l3 : Int32), f_X3_leftOf_l4 h l0 l1 fu1 l2 l3 = some o2 → Ev yX3_leftOf cX3_leftOf 4 (some .int) 1 21 g 4 [] [(0, .ref l0), (1, .ref l1), (2, .int l2), (3, .int l3)] h r h2 := by
  intro fu1
  induction fu1 with
  | zero =>
    intro l2 l3 hf
    cases hf
  | succ fu1 ih =>
    intro l2 l3 hf
    rw [f_X3_leftOf_l4_s] at hf
    have hk := ih
    refine ev_iload_n (n := 3) dX3_leftOf_4 rfl rfl ?_
    refine ev_aload_n (n := 0) dX3_leftOf_5 rfl rfl ?_
    refine ev_get (v := .int (hI h l0 0)) 0 kl0 rfl (by decide) rfl lk_103 dX3_leftOf_6 ?_
    refine ev_icmp_ge (tgt := 50) dX3_leftOf_9 (by decide) (fun c1 => ?_) (fun c1 => ?_)
    · replace hf := if_t c1 hf
      refine ev_sub [2] rfl (lv2 := [(2, .int l2)]) ?_
      obtain rfl := Option.some.inj hf
      exact hx0
    · replace hf := if_f c1 hf
      refine ev_aload_n (n := 1) dX3_leftOf_12 rfl rfl ?_
      refine ev_iload_n (n := 3) dX3_leftOf_13 rfl rfl ?_
      obtain ⟨v1, e2, hf⟩ := bn1_of hf
      refine ev_callVi (As := [.int l3]) cal_X1_hasPiece kl1 rfl (ev_X1_hasPiece kl1 e2) (Nat.le_of_ble_eq_true rfl) rfl lk_301 (by decide) (by decide) (Nat.le_of_ble_eq_true rfl) dX3_leftOf_14 rfl ?_
      refine ev_if_ne (tgt := 44) dX3_leftOf_17 (by decide) (fun c1 => ?_) (fun c1 => ?_)
      · replace hf := if_f c1 hf
        exact jn_X3_leftOf_44 kl0 kl1 hx0 hk hf
      · replace hf := if_t c1 hf
        refine ev_iload_n (n := 2) dX3_leftOf_20 rfl rfl ?_
        refine ev_aload_n (n := 0) dX3_leftOf_21 rfl rfl ?_
        refine ev_get (v := .int (hI h l0 1)) 1 kl0 rfl (by decide) rfl lk_106 dX3_leftOf_22 ?_
        refine ev_aload_n (n := 1) dX3_leftOf_25 rfl rfl ?_
        refine ev_get (v := .int (hI h l1 3)) 3 kl1 rfl (by decide) rfl lk_46 dX3_leftOf_26 ?_
        refine ev_iload_n (n := 3) dX3_leftOf_29 rfl rfl ?_
        refine ev_iconst (v := 4) dX3_leftOf_30 (by decide) ?_
        refine ev_imul dX3_leftOf_31 ?_
        refine ev_iushr dX3_leftOf_32 ?_
        refine ev_aload_n (n := 0) dX3_leftOf_33 rfl rfl ?_
        refine ev_get (v := .int (hI h l0 3)) 3 kl0 rfl (by decide) rfl lk_111 dX3_leftOf_34 ?_
        refine ev_iand dX3_leftOf_37 ?_
        obtain ⟨v3, e4, hf⟩ := bn1_of hf
        refine ev_callSi (As := [.int ((((hI h l1 3).toUInt32 >>> ((l3 * (4 : Int32)).toUInt32 &&& Int32.toUInt32 31)).toInt32) &&& (hI h l0 3))]) cal_J6_bitCount_0f7a4 (ev_J6_bitCount_0f7a4 e4) (Nat.le_of_ble_eq_true rfl) rfl lk_313 (by decide) (by decide) (Nat.le_of_ble_eq_true rfl) dX3_leftOf_38 rfl ?_
        refine ev_isub dX3_leftOf_41 ?_
        refine ev_iadd dX3_leftOf_42 ?_
        refine ev_istore_n (lv2 := [(2, .int (l2 + ((hI h l0 1) - v3))), (0, .ref l0), (1, .ref l1), (3, .int l3)]) dX3_leftOf_43 rfl (by decide) rfl ?_
        refine ev_sub [1, 2, 0, 3] rfl (lv2 := [(0, .ref l0), (1, .ref l1), (2, .int (l2 + ((hI h l0 1) - v3))), (3, .int l3)]) ?_
        exact jn_X3_leftOf_44 kl0 kl1 hx0 hk hf
def f_X3_leftOf (h : Hp) (l0 : Nat) (l1 : Nat) : Option (Int32) := (bn1 (f_X3_leftOf_l4 h l0 l1 fu (0 : Int32) (0 : Int32)) (fun w2_5 => (some w2_5)))
set_option maxRecDepth 100000 in
set_option maxHeartbeats 4000000 in
theorem ev_X3_leftOf {g : Gl} {h : Hp} {l0 : Nat} {l1 : Nat} {rv : Int32} (kl0 : KD g.1 l0 2 0) (kl1 : KD g.1 l1 0 0) (hf : f_X3_leftOf h l0 l1 = some rv) : Ev yX3_leftOf cX3_leftOf 4 (some .int) 1 21 g 0 [] [(0, .ref l0), (1, .ref l1)] h (some (.int rv)) h := by
  unfold f_X3_leftOf at hf
  refine ev_iconst (v := 0) dX3_leftOf_0 (by decide) ?_
  refine ev_istore_n (lv2 := [(2, .int (0 : Int32)), (0, .ref l0), (1, .ref l1)]) dX3_leftOf_1 rfl (by decide) rfl ?_
  refine ev_iconst (v := 0) dX3_leftOf_2 (by decide) ?_
  refine ev_istore_n (lv2 := [(3, .int (0 : Int32)), (2, .int (0 : Int32)), (0, .ref l0), (1, .ref l1)]) dX3_leftOf_3 rfl (by decide) rfl ?_
  obtain ⟨w2_5, e6, hf⟩ := bn1_of hf
  refine ev_sub [2, 3, 1, 0] rfl (lv2 := [(0, .ref l0), (1, .ref l1), (2, .int (0 : Int32)), (3, .int (0 : Int32))]) ?_
  refine lp_X3_leftOf_4 kl0 kl1 ?_ fu _ _ e6
  refine ev_iload_n (n := 0) dX3_leftOf_50 rfl rfl ?_
  obtain rfl := Option.some.inj hf
  exact ev_ireturn dX3_leftOf_51 ⟨.int, rfl, rfl⟩
def f_X3_startAnew_l60 (l0 : Nat) : Nat → Int32 → Hp → Option (Hp)
  | 0, _, _ => none
  | fu1 + 1, l3, h => (if (4 : Int32) ≤ l3 then (some h) else (if inb l3 4 = true then (if inb l3 4 = true then (f_X3_startAnew_l60 l0 fu1 (l3 + 1) (sI h (l0 + 1) l3.toNatClampNeg (sa 0 l3.toNatClampNeg))) else none) else none))
theorem f_X3_startAnew_l60_s (l0 : Nat) (fu1 : Nat) (l3 : Int32) (h : Hp) : f_X3_startAnew_l60 l0 (fu1 + 1) l3 h = (if (4 : Int32) ≤ l3 then (some h) else (if inb l3 4 = true then (if inb l3 4 = true then (f_X3_startAnew_l60 l0 fu1 (l3 + 1) (sI h (l0 + 1) l3.toNatClampNeg (sa 0 l3.toNatClampNeg))) else none) else none)) := rfl
theorem f_X3_startAnew_l60_0 (l0 : Nat) (l3 : Int32) (h : Hp) : f_X3_startAnew_l60 l0 0 l3 h = none := rfl
set_option maxRecDepth 100000 in
set_option maxHeartbeats 4000000 in
theorem lp_X3_startAnew_60 {g : Gl} {l0 : Nat} {r : Option Value} {h2 : Hp} {h3 : Hp} (kl0 : KD g.1 l0 2 0) (hx0 : Ev yX3_startAnew cX3_startAnew 4 none 0 0 g 86 [] [] h3 r h2) : ∀ (fu1 : Nat) (l3 : Int32) (h : Hp), f_X3_startAnew_l60 l0 fu1 l3 h = some h3 → Ev yX3_startAnew cX3_startAnew 4 none 0 0 g 60 [] [(0, .ref l0), (3, .int l3)] h r h2 := by
  intro fu1
  induction fu1 with
  | zero =>
    intro l3 h hf
    cases hf
  | succ fu1 ih =>
    intro l3 h hf
    rw [f_X3_startAnew_l60_s] at hf
    have hk := ih
    refine ev_iload_n (n := 1) dX3_startAnew_60 rfl rfl ?_
    refine ev_aload_n (n := 0) dX3_startAnew_61 rfl rfl ?_
    refine ev_get (v := .ref (l0 + 1)) 10 kl0 rfl (by decide) rfl lk_126 dX3_startAnew_62 ?_
    refine ev_alenI (v := 4) (kd_2_10 kl0) rfl dX3_startAnew_65 ?_
    refine ev_icmp_ge (tgt := 86) dX3_startAnew_66 (by decide) (fun c1 => ?_) (fun c1 => ?_)
    · replace hf := if_t c1 hf
      refine ev_sub [] rfl (lv2 := []) ?_
      obtain rfl := Option.some.inj hf
      exact hx0
    · replace hf := if_f c1 hf
      refine ev_aload_n (n := 0) dX3_startAnew_69 rfl rfl ?_
      refine ev_get (v := .ref (l0 + 1)) 10 kl0 rfl (by decide) rfl lk_126 dX3_startAnew_70 ?_
      refine ev_iload_n (n := 1) dX3_startAnew_73 rfl rfl ?_
      refine ev_gets 0 (by decide) rfl rfl dX3_startAnew_74 ?_
      refine ev_iload_n (n := 1) dX3_startAnew_77 rfl rfl ?_
      obtain ⟨gd1, hf⟩ := gd_of hf
      refine ev_tabld 0 (by decide) (inb_of gd1) dX3_startAnew_78 ?_
      obtain ⟨gd2, hf⟩ := gd_of hf
      refine ev_iast (kd_2_10 kl0) (inb_of gd2) dX3_startAnew_79 ?_
      refine ev_iinc (z := 1) (v := (l3 + 1)) (lv2 := [(3, .int (l3 + 1)), (0, .ref l0)]) dX3_startAnew_80 rfl rfl (by decide) rfl ?_
      refine ev_goto (tgt := 60) dX3_startAnew_83 (by decide) ?_
      refine ev_sub [1, 0] rfl (lv2 := [(0, .ref l0), (3, .int (l3 + 1))]) ?_
      exact hk _ _ hf
def f_X3_startAnew (h : Hp) (l0 : Nat) (l1 : Int32) (l2 : Int32) : Option (Hp) := (bn1 (f_X3_startAnew_l60 l0 fu (0 : Int32) (sL (sI (sI (sI (sI (sI (sI (sI (sI (sI h l0 0 l1) l0 1 l2) l0 2 (((1 : Int32) <<< (l1 &&& 31)) - (1 : Int32))) l0 3 (((1 : Int32) <<< (l2 &&& 31)) - (1 : Int32))) l0 4 (0 : Int32)) l0 5 (0 : Int32)) l0 6 (0 : Int32)) l0 7 (0 : Int32)) l0 8 (0 : Int32)) l0 9 (1 : Int64))) (fun h3 => (some h3)))
set_option maxRecDepth 100000 in
set_option maxHeartbeats 4000000 in
theorem ev_X3_startAnew {g : Gl} {h : Hp} {l0 : Nat} {l1 : Int32} {l2 : Int32} {h2 : Hp} (kl0 : KD g.1 l0 2 0) (hf : f_X3_startAnew h l0 l1 l2 = some h2) : Ev yX3_startAnew cX3_startAnew 4 none 0 0 g 0 [] [(0, .ref l0), (1, .int l1), (2, .int l2)] h none h2 := by
  unfold f_X3_startAnew at hf
  refine ev_aload_n (n := 0) dX3_startAnew_0 rfl rfl ?_
  refine ev_iload_n (n := 1) dX3_startAnew_1 rfl rfl ?_
  refine ev_putI 0 kl0 rfl (by decide) rfl (by decide +kernel) rfl (by exact Nat.le_of_ble_eq_true rfl) lk_103 dX3_startAnew_2 ?_
  refine ev_aload_n (n := 0) dX3_startAnew_5 rfl rfl ?_
  refine ev_iload_n (n := 2) dX3_startAnew_6 rfl rfl ?_
  refine ev_putI 1 kl0 rfl (by decide) rfl (by decide +kernel) rfl (by exact Nat.le_of_ble_eq_true rfl) lk_106 dX3_startAnew_7 ?_
  refine ev_aload_n (n := 0) dX3_startAnew_10 rfl rfl ?_
  refine ev_iconst (v := 1) dX3_startAnew_11 (by decide) ?_
  refine ev_iload_n (n := 1) dX3_startAnew_12 rfl rfl ?_
  refine ev_ishl dX3_startAnew_13 ?_
  refine ev_iconst (v := 1) dX3_startAnew_14 (by decide) ?_
  refine ev_isub dX3_startAnew_15 ?_
  refine ev_putI 2 kl0 rfl (by decide) rfl (by decide +kernel) rfl (by exact Nat.le_of_ble_eq_true rfl) lk_109 dX3_startAnew_16 ?_
  refine ev_aload_n (n := 0) dX3_startAnew_19 rfl rfl ?_
  refine ev_iconst (v := 1) dX3_startAnew_20 (by decide) ?_
  refine ev_iload_n (n := 2) dX3_startAnew_21 rfl rfl ?_
  refine ev_ishl dX3_startAnew_22 ?_
  refine ev_iconst (v := 1) dX3_startAnew_23 (by decide) ?_
  refine ev_isub dX3_startAnew_24 ?_
  refine ev_putI 3 kl0 rfl (by decide) rfl (by decide +kernel) rfl (by exact Nat.le_of_ble_eq_true rfl) lk_111 dX3_startAnew_25 ?_
  refine ev_aload_n (n := 0) dX3_startAnew_28 rfl rfl ?_
  refine ev_iconst (v := 0) dX3_startAnew_29 (by decide) ?_
  refine ev_putI 4 kl0 rfl (by decide) rfl (by decide +kernel) rfl (by exact Nat.le_of_ble_eq_true rfl) lk_113 dX3_startAnew_30 ?_
  refine ev_aload_n (n := 0) dX3_startAnew_33 rfl rfl ?_
  refine ev_iconst (v := 0) dX3_startAnew_34 (by decide) ?_
  refine ev_putI 5 kl0 rfl (by decide) rfl (by decide +kernel) rfl (by exact Nat.le_of_ble_eq_true rfl) lk_117 dX3_startAnew_35 ?_
  refine ev_aload_n (n := 0) dX3_startAnew_38 rfl rfl ?_
  refine ev_iconst (v := 0) dX3_startAnew_39 (by decide) ?_
  refine ev_putI 6 kl0 rfl (by decide) rfl (by decide +kernel) rfl (by exact Nat.le_of_ble_eq_true rfl) lk_119 dX3_startAnew_40 ?_
  refine ev_aload_n (n := 0) dX3_startAnew_43 rfl rfl ?_
  refine ev_iconst (v := 0) dX3_startAnew_44 (by decide) ?_
  refine ev_putI 7 kl0 rfl (by decide) rfl (by decide +kernel) rfl (by exact Nat.le_of_ble_eq_true rfl) lk_121 dX3_startAnew_45 ?_
  refine ev_aload_n (n := 0) dX3_startAnew_48 rfl rfl ?_
  refine ev_iconst (v := 0) dX3_startAnew_49 (by decide) ?_
  refine ev_putI 8 kl0 rfl (by decide) rfl (by decide +kernel) rfl (by exact Nat.le_of_ble_eq_true rfl) lk_123 dX3_startAnew_50 ?_
  refine ev_aload_n (n := 0) dX3_startAnew_53 rfl rfl ?_
  refine ev_lconst (v := 1) dX3_startAnew_54 (by decide) ?_
  refine ev_putL 9 kl0 rfl (by decide) rfl (by decide +kernel) rfl (by exact Nat.le_of_ble_eq_true rfl) lk_125 dX3_startAnew_55 ?_
  refine ev_iconst (v := 0) dX3_startAnew_58 (by decide) ?_
  refine ev_istore_n (lv2 := [(3, .int (0 : Int32)), (0, .ref l0), (1, .int l1), (2, .int l2)]) dX3_startAnew_59 rfl (by decide) rfl ?_
  obtain ⟨h3, e4, hf⟩ := bn1_of hf
  refine ev_sub [1, 0] rfl (lv2 := [(0, .ref l0), (3, .int (0 : Int32))]) ?_
  refine lp_X3_startAnew_60 kl0 ?_ fu _ _ e4
  obtain rfl := Option.some.inj hf
  exact ev_return_ dX3_startAnew_86 rfl
def f_X3_copyFrom_l100 (l0 : Nat) (l1 : Nat) : Nat → Int32 → Hp → Option (Hp)
  | 0, _, _ => none
  | fu1 + 1, l2, h => (if (hI h l1 4) ≤ l2 then (some h) else (if inb l2 6 = true then (if inb l2 6 = true then (bn1 (f_X1_copyFrom h ((l0 + 2) + 1 + 4 * l2.toNatClampNeg) ((l1 + 2) + 1 + 4 * l2.toNatClampNeg)) (fun h3 => (f_X3_copyFrom_l100 l0 l1 fu1 (l2 + 1) h3))) else none) else none))
theorem f_X3_copyFrom_l100_s (l0 : Nat) (l1 : Nat) (fu1 : Nat) (l2 : Int32) (h : Hp) : f_X3_copyFrom_l100 l0 l1 (fu1 + 1) l2 h = (if (hI h l1 4) ≤ l2 then (some h) else (if inb l2 6 = true then (if inb l2 6 = true then (bn1 (f_X1_copyFrom h ((l0 + 2) + 1 + 4 * l2.toNatClampNeg) ((l1 + 2) + 1 + 4 * l2.toNatClampNeg)) (fun h3 => (f_X3_copyFrom_l100 l0 l1 fu1 (l2 + 1) h3))) else none) else none)) := rfl
theorem f_X3_copyFrom_l100_0 (l0 : Nat) (l1 : Nat) (l2 : Int32) (h : Hp) : f_X3_copyFrom_l100 l0 l1 0 l2 h = none := rfl
set_option maxRecDepth 100000 in
set_option maxHeartbeats 4000000 in
theorem lp_X3_copyFrom_100 {g : Gl} {l0 : Nat} {l1 : Nat} {r : Option Value} {h2 : Hp} {h3 : Hp} (kl0 : KD g.1 l0 2 0) (kl1 : KD g.1 l1 2 0) (hx0 : Ev yX3_copyFrom cX3_copyFrom 3 none 2 51 g 129 [] [] h3 r h2) : ∀ (fu1 : Nat) (l2 : Int32) (h : Hp), f_X3_copyFrom_l100 l0 l1 fu1 l2 h = some h3 → Ev yX3_copyFrom cX3_copyFrom 3 none 2 51 g 100 [] [(0, .ref l0), (1, .ref l1), (2, .int l2)] h r h2 := by
  intro fu1
  induction fu1 with
  | zero =>
    intro l2 h hf
    cases hf
  | succ fu1 ih =>
    intro l2 h hf
    rw [f_X3_copyFrom_l100_s] at hf
    have hk := ih
    refine ev_iload_n (n := 2) dX3_copyFrom_100 rfl rfl ?_
    refine ev_aload_n (n := 1) dX3_copyFrom_101 rfl rfl ?_
    refine ev_get (v := .int (hI h l1 4)) 4 kl1 rfl (by decide) rfl lk_113 dX3_copyFrom_102 ?_
    refine ev_icmp_ge (tgt := 129) dX3_copyFrom_105 (by decide) (fun c1 => ?_) (fun c1 => ?_)
    · replace hf := if_t c1 hf
      refine ev_sub [] rfl (lv2 := []) ?_
      obtain rfl := Option.some.inj hf
      exact hx0
    · replace hf := if_f c1 hf
      refine ev_aload_n (n := 0) dX3_copyFrom_108 rfl rfl ?_
      refine ev_get (v := .ref (l0 + 2)) 11 kl0 rfl (by decide) rfl lk_129 dX3_copyFrom_109 ?_
      refine ev_iload_n (n := 2) dX3_copyFrom_112 rfl rfl ?_
      obtain ⟨gd1, hf⟩ := gd_of hf
      refine ev_aaldP (kd_2_11 kl0) (inb_of gd1) dX3_copyFrom_113 ?_
      refine ev_aload_n (n := 1) dX3_copyFrom_114 rfl rfl ?_
      refine ev_get (v := .ref (l1 + 2)) 11 kl1 rfl (by decide) rfl lk_129 dX3_copyFrom_115 ?_
      refine ev_iload_n (n := 2) dX3_copyFrom_118 rfl rfl ?_
      obtain ⟨gd2, hf⟩ := gd_of hf
      refine ev_aaldP (kd_2_11 kl1) (inb_of gd2) dX3_copyFrom_119 ?_
      obtain ⟨h3, e4, hf⟩ := bn1_of hf
      refine ev_callVv (As := [.ref ((l1 + 2) + 1 + 4 * l2.toNatClampNeg)]) cal_X1_copyFrom (kdPA (kd_2_11 kl0) (inb_of gd1)) rfl (ev_X1_copyFrom (kdPA (kd_2_11 kl0) (inb_of gd1)) (kdPA (kd_2_11 kl1) (inb_of gd2)) e4) (Nat.le_of_ble_eq_true rfl) rfl lk_263 (by decide) (by decide) (Nat.le_of_ble_eq_true rfl) dX3_copyFrom_120 rfl ?_
      refine ev_iinc (z := 2) (v := (l2 + 1)) (lv2 := [(2, .int (l2 + 1)), (0, .ref l0), (1, .ref l1)]) dX3_copyFrom_123 rfl rfl (by decide) rfl ?_
      refine ev_goto (tgt := 100) dX3_copyFrom_126 (by decide) ?_
      refine ev_sub [1, 2, 0] rfl (lv2 := [(0, .ref l0), (1, .ref l1), (2, .int (l2 + 1))]) ?_
      exact hk _ _ hf
def f_X3_copyFrom (h : Hp) (l0 : Nat) (l1 : Nat) : Option (Hp) := (bn1 (f_X3_copyFrom_l100 l0 l1 fu (0 : Int32) (cpI (sL (sI (sI (sI (sI (sI (sI (sI (sI (sI h l0 0 (hI h l1 0)) l0 1 (hI (sI h l0 0 (hI h l1 0)) l1 1)) l0 2 (hI (sI (sI h l0 0 (hI h l1 0)) l0 1 (hI (sI h l0 0 (hI h l1 0)) l1 1)) l1 2)) l0 3 (hI (sI (sI (sI h l0 0 (hI h l1 0)) l0 1 (hI (sI h l0 0 (hI h l1 0)) l1 1)) l0 2 (hI (sI (sI h l0 0 (hI h l1 0)) l0 1 (hI (sI h l0 0 (hI h l1 0)) l1 1)) l1 2)) l1 3)) l0 4 (hI (sI (sI (sI (sI h l0 0 (hI h l1 0)) l0 1 (hI (sI h l0 0 (hI h l1 0)) l1 1)) l0 2 (hI (sI (sI h l0 0 (hI h l1 0)) l0 1 (hI (sI h l0 0 (hI h l1 0)) l1 1)) l1 2)) l0 3 (hI (sI (sI (sI h l0 0 (hI h l1 0)) l0 1 (hI (sI h l0 0 (hI h l1 0)) l1 1)) l0 2 (hI (sI (sI h l0 0 (hI h l1 0)) l0 1 (hI (sI h l0 0 (hI h l1 0)) l1 1)) l1 2)) l1 3)) l1 4)) l0 5 (hI (sI (sI (sI (sI (sI h l0 0 (hI h l1 0)) l0 1 (hI (sI h l0 0 (hI h l1 0)) l1 1)) l0 2 (hI (sI (sI h l0 0 (hI h l1 0)) l0 1 (hI (sI h l0 0 (hI h l1 0)) l1 1)) l1 2)) l0 3 (hI (sI (sI (sI h l0 0 (hI h l1 0)) l0 1 (hI (sI h l0 0 (hI h l1 0)) l1 1)) l0 2 (hI (sI (sI h l0 0 (hI h l1 0)) l0 1 (hI (sI h l0 0 (hI h l1 0)) l1 1)) l1 2)) l1 3)) l0 4 (hI (sI (sI (sI (sI h l0 0 (hI h l1 0)) l0 1 (hI (sI h l0 0 (hI h l1 0)) l1 1)) l0 2 (hI (sI (sI h l0 0 (hI h l1 0)) l0 1 (hI (sI h l0 0 (hI h l1 0)) l1 1)) l1 2)) l0 3 (hI (sI (sI (sI h l0 0 (hI h l1 0)) l0 1 (hI (sI h l0 0 (hI h l1 0)) l1 1)) l0 2 (hI (sI (sI h l0 0 (hI h l1 0)) l0 1 (hI (sI h l0 0 (hI h l1 0)) l1 1)) l1 2)) l1 3)) l1 4)) l1 5)) l0 6 (hI (sI (sI (sI (sI (sI (sI h l0 0 (hI h l1 0)) l0 1 (hI (sI h l0 0 (hI h l1 0)) l1 1)) l0 2 (hI (sI (sI h l0 0 (hI h l1 0)) l0 1 (hI (sI h l0 0 (hI h l1 0)) l1 1)) l1 2)) l0 3 (hI (sI (sI (sI h l0 0 (hI h l1 0)) l0 1 (hI (sI h l0 0 (hI h l1 0)) l1 1)) l0 2 (hI (sI (sI h l0 0 (hI h l1 0)) l0 1 (hI (sI h l0 0 (hI h l1 0)) l1 1)) l1 2)) l1 3)) l0 4 (hI (sI (sI (sI (sI h l0 0 (hI h l1 0)) l0 1 (hI (sI h l0 0 (hI h l1 0)) l1 1)) l0 2 (hI (sI (sI h l0 0 (hI h l1 0)) l0 1 (hI (sI h l0 0 (hI h l1 0)) l1 1)) l1 2)) l0 3 (hI (sI (sI (sI h l0 0 (hI h l1 0)) l0 1 (hI (sI h l0 0 (hI h l1 0)) l1 1)) l0 2 (hI (sI (sI h l0 0 (hI h l1 0)) l0 1 (hI (sI h l0 0 (hI h l1 0)) l1 1)) l1 2)) l1 3)) l1 4)) l0 5 (hI (sI (sI (sI (sI (sI h l0 0 (hI h l1 0)) l0 1 (hI (sI h l0 0 (hI h l1 0)) l1 1)) l0 2 (hI (sI (sI h l0 0 (hI h l1 0)) l0 1 (hI (sI h l0 0 (hI h l1 0)) l1 1)) l1 2)) l0 3 (hI (sI (sI (sI h l0 0 (hI h l1 0)) l0 1 (hI (sI h l0 0 (hI h l1 0)) l1 1)) l0 2 (hI (sI (sI h l0 0 (hI h l1 0)) l0 1 (hI (sI h l0 0 (hI h l1 0)) l1 1)) l1 2)) l1 3)) l0 4 (hI (sI (sI (sI (sI h l0 0 (hI h l1 0)) l0 1 (hI (sI h l0 0 (hI h l1 0)) l1 1)) l0 2 (hI (sI (sI h l0 0 (hI h l1 0)) l0 1 (hI (sI h l0 0 (hI h l1 0)) l1 1)) l1 2)) l0 3 (hI (sI (sI (sI h l0 0 (hI h l1 0)) l0 1 (hI (sI h l0 0 (hI h l1 0)) l1 1)) l0 2 (hI (sI (sI h l0 0 (hI h l1 0)) l0 1 (hI (sI h l0 0 (hI h l1 0)) l1 1)) l1 2)) l1 3)) l1 4)) l1 5)) l1 6)) l0 7 (hI (sI (sI (sI (sI (sI (sI (sI h l0 0 (hI h l1 0)) l0 1 (hI (sI h l0 0 (hI h l1 0)) l1 1)) l0 2 (hI (sI (sI h l0 0 (hI h l1 0)) l0 1 (hI (sI h l0 0 (hI h l1 0)) l1 1)) l1 2)) l0 3 (hI (sI (sI (sI h l0 0 (hI h l1 0)) l0 1 (hI (sI h l0 0 (hI h l1 0)) l1 1)) l0 2 (hI (sI (sI h l0 0 (hI h l1 0)) l0 1 (hI (sI h l0 0 (hI h l1 0)) l1 1)) l1 2)) l1 3)) l0 4 (hI (sI (sI (sI (sI h l0 0 (hI h l1 0)) l0 1 (hI (sI h l0 0 (hI h l1 0)) l1 1)) l0 2 (hI (sI (sI h l0 0 (hI h l1 0)) l0 1 (hI (sI h l0 0 (hI h l1 0)) l1 1)) l1 2)) l0 3 (hI (sI (sI (sI h l0 0 (hI h l1 0)) l0 1 (hI (sI h l0 0 (hI h l1 0)) l1 1)) l0 2 (hI (sI (sI h l0 0 (hI h l1 0)) l0 1 (hI (sI h l0 0 (hI h l1 0)) l1 1)) l1 2)) l1 3)) l1 4)) l0 5 (hI (sI (sI (sI (sI (sI h l0 0 (hI h l1 0)) l0 1 (hI (sI h l0 0 (hI h l1 0)) l1 1)) l0 2 (hI (sI (sI h l0 0 (hI h l1 0)) l0 1 (hI (sI h l0 0 (hI h l1 0)) l1 1)) l1 2)) l0 3 (hI (sI (sI (sI h l0 0 (hI h l1 0)) l0 1 (hI (sI h l0 0 (hI h l1 0)) l1 1)) l0 2 (hI (sI (sI h l0 0 (hI h l1 0)) l0 1 (hI (sI h l0 0 (hI h l1 0)) l1 1)) l1 2)) l1 3)) l0 4 (hI (sI (sI (sI (sI h l0 0 (hI h l1 0)) l0 1 (hI (sI h l0 0 (hI h l1 0)) l1 1)) l0 2 (hI (sI (sI h l0 0 (hI h l1 0)) l0 1 (hI (sI h l0 0 (hI h l1 0)) l1 1)) l1 2)) l0 3 (hI (sI (sI (sI h l0 0 (hI h l1 0)) l0 1 (hI (sI h l0 0 (hI h l1 0)) l1 1)) l0 2 (hI (sI (sI h l0 0 (hI h l1 0)) l0 1 (hI (sI h l0 0 (hI h l1 0)) l1 1)) l1 2)) l1 3)) l1 4)) l1 5)) l0 6 (hI (sI (sI (sI (sI (sI (sI h l0 0 (hI h l1 0)) l0 1 (hI (sI h l0 0 (hI h l1 0)) l1 1)) l0 2 (hI (sI (sI h l0 0 (hI h l1 0)) l0 1 (hI (sI h l0 0 (hI h l1 0)) l1 1)) l1 2)) l0 3 (hI (sI (sI (sI h l0 0 (hI h l1 0)) l0 1 (hI (sI h l0 0 (hI h l1 0)) l1 1)) l0 2 (hI (sI (sI h l0 0 (hI h l1 0)) l0 1 (hI (sI h l0 0 (hI h l1 0)) l1 1)) l1 2)) l1 3)) l0 4 (hI (sI (sI (sI (sI h l0 0 (hI h l1 0)) l0 1 (hI (sI h l0 0 (hI h l1 0)) l1 1)) l0 2 (hI (sI (sI h l0 0 (hI h l1 0)) l0 1 (hI (sI h l0 0 (hI h l1 0)) l1 1)) l1 2)) l0 3 (hI (sI (sI (sI h l0 0 (hI h l1 0)) l0 1 (hI (sI h l0 0 (hI h l1 0)) l1 1)) l0 2 (hI (sI (sI h l0 0 (hI h l1 0)) l0 1 (hI (sI h l0 0 (hI h l1 0)) l1 1)) l1 2)) l1 3)) l1 4)) l0 5 (hI (sI (sI (sI (sI (sI h l0 0 (hI h l1 0)) l0 1 (hI (sI h l0 0 (hI h l1 0)) l1 1)) l0 2 (hI (sI (sI h l0 0 (hI h l1 0)) l0 1 (hI (sI h l0 0 (hI h l1 0)) l1 1)) l1 2)) l0 3 (hI (sI (sI (sI h l0 0 (hI h l1 0)) l0 1 (hI (sI h l0 0 (hI h l1 0)) l1 1)) l0 2 (hI (sI (sI h l0 0 (hI h l1 0)) l0 1 (hI (sI h l0 0 (hI h l1 0)) l1 1)) l1 2)) l1 3)) l0 4 (hI (sI (sI (sI (sI h l0 0 (hI h l1 0)) l0 1 (hI (sI h l0 0 (hI h l1 0)) l1 1)) l0 2 (hI (sI (sI h l0 0 (hI h l1 0)) l0 1 (hI (sI h l0 0 (hI h l1 0)) l1 1)) l1 2)) l0 3 (hI (sI (sI (sI h l0 0 (hI h l1 0)) l0 1 (hI (sI h l0 0 (hI h l1 0)) l1 1)) l0 2 (hI (sI (sI h l0 0 (hI h l1 0)) l0 1 (hI (sI h l0 0 (hI h l1 0)) l1 1)) l1 2)) l1 3)) l1 4)) l1 5)) l1 6)) l1 7)) l0 8 (hI (sI (sI (sI (sI (sI (sI (sI (sI h l0 0 (hI h l1 0)) l0 1 (hI (sI h l0 0 (hI h l1 0)) l1 1)) l0 2 (hI (sI (sI h l0 0 (hI h l1 0)) l0 1 (hI (sI h l0 0 (hI h l1 0)) l1 1)) l1 2)) l0 3 (hI (sI (sI (sI h l0 0 (hI h l1 0)) l0 1 (hI (sI h l0 0 (hI h l1 0)) l1 1)) l0 2 (hI (sI (sI h l0 0 (hI h l1 0)) l0 1 (hI (sI h l0 0 (hI h l1 0)) l1 1)) l1 2)) l1 3)) l0 4 (hI (sI (sI (sI (sI h l0 0 (hI h l1 0)) l0 1 (hI (sI h l0 0 (hI h l1 0)) l1 1)) l0 2 (hI (sI (sI h l0 0 (hI h l1 0)) l0 1 (hI (sI h l0 0 (hI h l1 0)) l1 1)) l1 2)) l0 3 (hI (sI (sI (sI h l0 0 (hI h l1 0)) l0 1 (hI (sI h l0 0 (hI h l1 0)) l1 1)) l0 2 (hI (sI (sI h l0 0 (hI h l1 0)) l0 1 (hI (sI h l0 0 (hI h l1 0)) l1 1)) l1 2)) l1 3)) l1 4)) l0 5 (hI (sI (sI (sI (sI (sI h l0 0 (hI h l1 0)) l0 1 (hI (sI h l0 0 (hI h l1 0)) l1 1)) l0 2 (hI (sI (sI h l0 0 (hI h l1 0)) l0 1 (hI (sI h l0 0 (hI h l1 0)) l1 1)) l1 2)) l0 3 (hI (sI (sI (sI h l0 0 (hI h l1 0)) l0 1 (hI (sI h l0 0 (hI h l1 0)) l1 1)) l0 2 (hI (sI (sI h l0 0 (hI h l1 0)) l0 1 (hI (sI h l0 0 (hI h l1 0)) l1 1)) l1 2)) l1 3)) l0 4 (hI (sI (sI (sI (sI h l0 0 (hI h l1 0)) l0 1 (hI (sI h l0 0 (hI h l1 0)) l1 1)) l0 2 (hI (sI (sI h l0 0 (hI h l1 0)) l0 1 (hI (sI h l0 0 (hI h l1 0)) l1 1)) l1 2)) l0 3 (hI (sI (sI (sI h l0 0 (hI h l1 0)) l0 1 (hI (sI h l0 0 (hI h l1 0)) l1 1)) l0 2 (hI (sI (sI h l0 0 (hI h l1 0)) l0 1 (hI (sI h l0 0 (hI h l1 0)) l1 1)) l1 2)) l1 3)) l1 4)) l1 5)) l0 6 (hI (sI (sI (sI (sI (sI (sI h l0 0 (hI h l1 0)) l0 1 (hI (sI h l0 0 (hI h l1 0)) l1 1)) l0 2 (hI (sI (sI h l0 0 (hI h l1 0)) l0 1 (hI (sI h l0 0 (hI h l1 0)) l1 1)) l1 2)) l0 3 (hI (sI (sI (sI h l0 0 (hI h l1 0)) l0 1 (hI (sI h l0 0 (hI h l1 0)) l1 1)) l0 2 (hI (sI (sI h l0 0 (hI h l1 0)) l0 1 (hI (sI h l0 0 (hI h l1 0)) l1 1)) l1 2)) l1 3)) l0 4 (hI (sI (sI (sI (sI h l0 0 (hI h l1 0)) l0 1 (hI (sI h l0 0 (hI h l1 0)) l1 1)) l0 2 (hI (sI (sI h l0 0 (hI h l1 0)) l0 1 (hI (sI h l0 0 (hI h l1 0)) l1 1)) l1 2)) l0 3 (hI (sI (sI (sI h l0 0 (hI h l1 0)) l0 1 (hI (sI h l0 0 (hI h l1 0)) l1 1)) l0 2 (hI (sI (sI h l0 0 (hI h l1 0)) l0 1 (hI (sI h l0 0 (hI h l1 0)) l1 1)) l1 2)) l1 3)) l1 4)) l0 5 (hI (sI (sI (sI (sI (sI h l0 0 (hI h l1 0)) l0 1 (hI (sI h l0 0 (hI h l1 0)) l1 1)) l0 2 (hI (sI (sI h l0 0 (hI h l1 0)) l0 1 (hI (sI h l0 0 (hI h l1 0)) l1 1)) l1 2)) l0 3 (hI (sI (sI (sI h l0 0 (hI h l1 0)) l0 1 (hI (sI h l0 0 (hI h l1 0)) l1 1)) l0 2 (hI (sI (sI h l0 0 (hI h l1 0)) l0 1 (hI (sI h l0 0 (hI h l1 0)) l1 1)) l1 2)) l1 3)) l0 4 (hI (sI (sI (sI (sI h l0 0 (hI h l1 0)) l0 1 (hI (sI h l0 0 (hI h l1 0)) l1 1)) l0 2 (hI (sI (sI h l0 0 (hI h l1 0)) l0 1 (hI (sI h l0 0 (hI h l1 0)) l1 1)) l1 2)) l0 3 (hI (sI (sI (sI h l0 0 (hI h l1 0)) l0 1 (hI (sI h l0 0 (hI h l1 0)) l1 1)) l0 2 (hI (sI (sI h l0 0 (hI h l1 0)) l0 1 (hI (sI h l0 0 (hI h l1 0)) l1 1)) l1 2)) l1 3)) l1 4)) l1 5)) l1 6)) l0 7 (hI (sI (sI (sI (sI (sI (sI (sI h l0 0 (hI h l1 0)) l0 1 (hI (sI h l0 0 (hI h l1 0)) l1 1)) l0 2 (hI (sI (sI h l0 0 (hI h l1 0)) l0 1 (hI (sI h l0 0 (hI h l1 0)) l1 1)) l1 2)) l0 3 (hI (sI (sI (sI h l0 0 (hI h l1 0)) l0 1 (hI (sI h l0 0 (hI h l1 0)) l1 1)) l0 2 (hI (sI (sI h l0 0 (hI h l1 0)) l0 1 (hI (sI h l0 0 (hI h l1 0)) l1 1)) l1 2)) l1 3)) l0 4 (hI (sI (sI (sI (sI h l0 0 (hI h l1 0)) l0 1 (hI (sI h l0 0 (hI h l1 0)) l1 1)) l0 2 (hI (sI (sI h l0 0 (hI h l1 0)) l0 1 (hI (sI h l0 0 (hI h l1 0)) l1 1)) l1 2)) l0 3 (hI (sI (sI (sI h l0 0 (hI h l1 0)) l0 1 (hI (sI h l0 0 (hI h l1 0)) l1 1)) l0 2 (hI (sI (sI h l0 0 (hI h l1 0)) l0 1 (hI (sI h l0 0 (hI h l1 0)) l1 1)) l1 2)) l1 3)) l1 4)) l0 5 (hI (sI (sI (sI (sI (sI h l0 0 (hI h l1 0)) l0 1 (hI (sI h l0 0 (hI h l1 0)) l1 1)) l0 2 (hI (sI (sI h l0 0 (hI h l1 0)) l0 1 (hI (sI h l0 0 (hI h l1 0)) l1 1)) l1 2)) l0 3 (hI (sI (sI (sI h l0 0 (hI h l1 0)) l0 1 (hI (sI h l0 0 (hI h l1 0)) l1 1)) l0 2 (hI (sI (sI h l0 0 (hI h l1 0)) l0 1 (hI (sI h l0 0 (hI h l1 0)) l1 1)) l1 2)) l1 3)) l0 4 (hI (sI (sI (sI (sI h l0 0 (hI h l1 0)) l0 1 (hI (sI h l0 0 (hI h l1 0)) l1 1)) l0 2 (hI (sI (sI h l0 0 (hI h l1 0)) l0 1 (hI (sI h l0 0 (hI h l1 0)) l1 1)) l1 2)) l0 3 (hI (sI (sI (sI h l0 0 (hI h l1 0)) l0 1 (hI (sI h l0 0 (hI h l1 0)) l1 1)) l0 2 (hI (sI (sI h l0 0 (hI h l1 0)) l0 1 (hI (sI h l0 0 (hI h l1 0)) l1 1)) l1 2)) l1 3)) l1 4)) l1 5)) l0 6 (hI (sI (sI (sI (sI (sI (sI h l0 0 (hI h l1 0)) l0 1 (hI (sI h l0 0 (hI h l1 0)) l1 1)) l0 2 (hI (sI (sI h l0 0 (hI h l1 0)) l0 1 (hI (sI h l0 0 (hI h l1 0)) l1 1)) l1 2)) l0 3 (hI (sI (sI (sI h l0 0 (hI h l1 0)) l0 1 (hI (sI h l0 0 (hI h l1 0)) l1 1)) l0 2 (hI (sI (sI h l0 0 (hI h l1 0)) l0 1 (hI (sI h l0 0 (hI h l1 0)) l1 1)) l1 2)) l1 3)) l0 4 (hI (sI (sI (sI (sI h l0 0 (hI h l1 0)) l0 1 (hI (sI h l0 0 (hI h l1 0)) l1 1)) l0 2 (hI (sI (sI h l0 0 (hI h l1 0)) l0 1 (hI (sI h l0 0 (hI h l1 0)) l1 1)) l1 2)) l0 3 (hI (sI (sI (sI h l0 0 (hI h l1 0)) l0 1 (hI (sI h l0 0 (hI h l1 0)) l1 1)) l0 2 (hI (sI (sI h l0 0 (hI h l1 0)) l0 1 (hI (sI h l0 0 (hI h l1 0)) l1 1)) l1 2)) l1 3)) l1 4)) l0 5 (hI (sI (sI (sI (sI (sI h l0 0 (hI h l1 0)) l0 1 (hI (sI h l0 0 (hI h l1 0)) l1 1)) l0 2 (hI (sI (sI h l0 0 (hI h l1 0)) l0 1 (hI (sI h l0 0 (hI h l1 0)) l1 1)) l1 2)) l0 3 (hI (sI (sI (sI h l0 0 (hI h l1 0)) l0 1 (hI (sI h l0 0 (hI h l1 0)) l1 1)) l0 2 (hI (sI (sI h l0 0 (hI h l1 0)) l0 1 (hI (sI h l0 0 (hI h l1 0)) l1 1)) l1 2)) l1 3)) l0 4 (hI (sI (sI (sI (sI h l0 0 (hI h l1 0)) l0 1 (hI (sI h l0 0 (hI h l1 0)) l1 1)) l0 2 (hI (sI (sI h l0 0 (hI h l1 0)) l0 1 (hI (sI h l0 0 (hI h l1 0)) l1 1)) l1 2)) l0 3 (hI (sI (sI (sI h l0 0 (hI h l1 0)) l0 1 (hI (sI h l0 0 (hI h l1 0)) l1 1)) l0 2 (hI (sI (sI h l0 0 (hI h l1 0)) l0 1 (hI (sI h l0 0 (hI h l1 0)) l1 1)) l1 2)) l1 3)) l1 4)) l1 5)) l1 6)) l1 7)) l1 8)) l0 9 (hL (sI (sI (sI (sI (sI (sI (sI (sI (sI h l0 0 (hI h l1 0)) l0 1 (hI (sI h l0 0 (hI h l1 0)) l1 1)) l0 2 (hI (sI (sI h l0 0 (hI h l1 0)) l0 1 (hI (sI h l0 0 (hI h l1 0)) l1 1)) l1 2)) l0 3 (hI (sI (sI (sI h l0 0 (hI h l1 0)) l0 1 (hI (sI h l0 0 (hI h l1 0)) l1 1)) l0 2 (hI (sI (sI h l0 0 (hI h l1 0)) l0 1 (hI (sI h l0 0 (hI h l1 0)) l1 1)) l1 2)) l1 3)) l0 4 (hI (sI (sI (sI (sI h l0 0 (hI h l1 0)) l0 1 (hI (sI h l0 0 (hI h l1 0)) l1 1)) l0 2 (hI (sI (sI h l0 0 (hI h l1 0)) l0 1 (hI (sI h l0 0 (hI h l1 0)) l1 1)) l1 2)) l0 3 (hI (sI (sI (sI h l0 0 (hI h l1 0)) l0 1 (hI (sI h l0 0 (hI h l1 0)) l1 1)) l0 2 (hI (sI (sI h l0 0 (hI h l1 0)) l0 1 (hI (sI h l0 0 (hI h l1 0)) l1 1)) l1 2)) l1 3)) l1 4)) l0 5 (hI (sI (sI (sI (sI (sI h l0 0 (hI h l1 0)) l0 1 (hI (sI h l0 0 (hI h l1 0)) l1 1)) l0 2 (hI (sI (sI h l0 0 (hI h l1 0)) l0 1 (hI (sI h l0 0 (hI h l1 0)) l1 1)) l1 2)) l0 3 (hI (sI (sI (sI h l0 0 (hI h l1 0)) l0 1 (hI (sI h l0 0 (hI h l1 0)) l1 1)) l0 2 (hI (sI (sI h l0 0 (hI h l1 0)) l0 1 (hI (sI h l0 0 (hI h l1 0)) l1 1)) l1 2)) l1 3)) l0 4 (hI (sI (sI (sI (sI h l0 0 (hI h l1 0)) l0 1 (hI (sI h l0 0 (hI h l1 0)) l1 1)) l0 2 (hI (sI (sI h l0 0 (hI h l1 0)) l0 1 (hI (sI h l0 0 (hI h l1 0)) l1 1)) l1 2)) l0 3 (hI (sI (sI (sI h l0 0 (hI h l1 0)) l0 1 (hI (sI h l0 0 (hI h l1 0)) l1 1)) l0 2 (hI (sI (sI h l0 0 (hI h l1 0)) l0 1 (hI (sI h l0 0 (hI h l1 0)) l1 1)) l1 2)) l1 3)) l1 4)) l1 5)) l0 6 (hI (sI (sI (sI (sI (sI (sI h l0 0 (hI h l1 0)) l0 1 (hI (sI h l0 0 (hI h l1 0)) l1 1)) l0 2 (hI (sI (sI h l0 0 (hI h l1 0)) l0 1 (hI (sI h l0 0 (hI h l1 0)) l1 1)) l1 2)) l0 3 (hI (sI (sI (sI h l0 0 (hI h l1 0)) l0 1 (hI (sI h l0 0 (hI h l1 0)) l1 1)) l0 2 (hI (sI (sI h l0 0 (hI h l1 0)) l0 1 (hI (sI h l0 0 (hI h l1 0)) l1 1)) l1 2)) l1 3)) l0 4 (hI (sI (sI (sI (sI h l0 0 (hI h l1 0)) l0 1 (hI (sI h l0 0 (hI h l1 0)) l1 1)) l0 2 (hI (sI (sI h l0 0 (hI h l1 0)) l0 1 (hI (sI h l0 0 (hI h l1 0)) l1 1)) l1 2)) l0 3 (hI (sI (sI (sI h l0 0 (hI h l1 0)) l0 1 (hI (sI h l0 0 (hI h l1 0)) l1 1)) l0 2 (hI (sI (sI h l0 0 (hI h l1 0)) l0 1 (hI (sI h l0 0 (hI h l1 0)) l1 1)) l1 2)) l1 3)) l1 4)) l0 5 (hI (sI (sI (sI (sI (sI h l0 0 (hI h l1 0)) l0 1 (hI (sI h l0 0 (hI h l1 0)) l1 1)) l0 2 (hI (sI (sI h l0 0 (hI h l1 0)) l0 1 (hI (sI h l0 0 (hI h l1 0)) l1 1)) l1 2)) l0 3 (hI (sI (sI (sI h l0 0 (hI h l1 0)) l0 1 (hI (sI h l0 0 (hI h l1 0)) l1 1)) l0 2 (hI (sI (sI h l0 0 (hI h l1 0)) l0 1 (hI (sI h l0 0 (hI h l1 0)) l1 1)) l1 2)) l1 3)) l0 4 (hI (sI (sI (sI (sI h l0 0 (hI h l1 0)) l0 1 (hI (sI h l0 0 (hI h l1 0)) l1 1)) l0 2 (hI (sI (sI h l0 0 (hI h l1 0)) l0 1 (hI (sI h l0 0 (hI h l1 0)) l1 1)) l1 2)) l0 3 (hI (sI (sI (sI h l0 0 (hI h l1 0)) l0 1 (hI (sI h l0 0 (hI h l1 0)) l1 1)) l0 2 (hI (sI (sI h l0 0 (hI h l1 0)) l0 1 (hI (sI h l0 0 (hI h l1 0)) l1 1)) l1 2)) l1 3)) l1 4)) l1 5)) l1 6)) l0 7 (hI (sI (sI (sI (sI (sI (sI (sI h l0 0 (hI h l1 0)) l0 1 (hI (sI h l0 0 (hI h l1 0)) l1 1)) l0 2 (hI (sI (sI h l0 0 (hI h l1 0)) l0 1 (hI (sI h l0 0 (hI h l1 0)) l1 1)) l1 2)) l0 3 (hI (sI (sI (sI h l0 0 (hI h l1 0)) l0 1 (hI (sI h l0 0 (hI h l1 0)) l1 1)) l0 2 (hI (sI (sI h l0 0 (hI h l1 0)) l0 1 (hI (sI h l0 0 (hI h l1 0)) l1 1)) l1 2)) l1 3)) l0 4 (hI (sI (sI (sI (sI h l0 0 (hI h l1 0)) l0 1 (hI (sI h l0 0 (hI h l1 0)) l1 1)) l0 2 (hI (sI (sI h l0 0 (hI h l1 0)) l0 1 (hI (sI h l0 0 (hI h l1 0)) l1 1)) l1 2)) l0 3 (hI (sI (sI (sI h l0 0 (hI h l1 0)) l0 1 (hI (sI h l0 0 (hI h l1 0)) l1 1)) l0 2 (hI (sI (sI h l0 0 (hI h l1 0)) l0 1 (hI (sI h l0 0 (hI h l1 0)) l1 1)) l1 2)) l1 3)) l1 4)) l0 5 (hI (sI (sI (sI (sI (sI h l0 0 (hI h l1 0)) l0 1 (hI (sI h l0 0 (hI h l1 0)) l1 1)) l0 2 (hI (sI (sI h l0 0 (hI h l1 0)) l0 1 (hI (sI h l0 0 (hI h l1 0)) l1 1)) l1 2)) l0 3 (hI (sI (sI (sI h l0 0 (hI h l1 0)) l0 1 (hI (sI h l0 0 (hI h l1 0)) l1 1)) l0 2 (hI (sI (sI h l0 0 (hI h l1 0)) l0 1 (hI (sI h l0 0 (hI h l1 0)) l1 1)) l1 2)) l1 3)) l0 4 (hI (sI (sI (sI (sI h l0 0 (hI h l1 0)) l0 1 (hI (sI h l0 0 (hI h l1 0)) l1 1)) l0 2 (hI (sI (sI h l0 0 (hI h l1 0)) l0 1 (hI (sI h l0 0 (hI h l1 0)) l1 1)) l1 2)) l0 3 (hI (sI (sI (sI h l0 0 (hI h l1 0)) l0 1 (hI (sI h l0 0 (hI h l1 0)) l1 1)) l0 2 (hI (sI (sI h l0 0 (hI h l1 0)) l0 1 (hI (sI h l0 0 (hI h l1 0)) l1 1)) l1 2)) l1 3)) l1 4)) l1 5)) l0 6 (hI (sI (sI (sI (sI (sI (sI h l0 0 (hI h l1 0)) l0 1 (hI (sI h l0 0 (hI h l1 0)) l1 1)) l0 2 (hI (sI (sI h l0 0 (hI h l1 0)) l0 1 (hI (sI h l0 0 (hI h l1 0)) l1 1)) l1 2)) l0 3 (hI (sI (sI (sI h l0 0 (hI h l1 0)) l0 1 (hI (sI h l0 0 (hI h l1 0)) l1 1)) l0 2 (hI (sI (sI h l0 0 (hI h l1 0)) l0 1 (hI (sI h l0 0 (hI h l1 0)) l1 1)) l1 2)) l1 3)) l0 4 (hI (sI (sI (sI (sI h l0 0 (hI h l1 0)) l0 1 (hI (sI h l0 0 (hI h l1 0)) l1 1)) l0 2 (hI (sI (sI h l0 0 (hI h l1 0)) l0 1 (hI (sI h l0 0 (hI h l1 0)) l1 1)) l1 2)) l0 3 (hI (sI (sI (sI h l0 0 (hI h l1 0)) l0 1 (hI (sI h l0 0 (hI h l1 0)) l1 1)) l0 2 (hI (sI (sI h l0 0 (hI h l1 0)) l0 1 (hI (sI h l0 0 (hI h l1 0)) l1 1)) l1 2)) l1 3)) l1 4)) l0 5 (hI (sI (sI (sI (sI (sI h l0 0 (hI h l1 0)) l0 1 (hI (sI h l0 0 (hI h l1 0)) l1 1)) l0 2 (hI (sI (sI h l0 0 (hI h l1 0)) l0 1 (hI (sI h l0 0 (hI h l1 0)) l1 1)) l1 2)) l0 3 (hI (sI (sI (sI h l0 0 (hI h l1 0)) l0 1 (hI (sI h l0 0 (hI h l1 0)) l1 1)) l0 2 (hI (sI (sI h l0 0 (hI h l1 0)) l0 1 (hI (sI h l0 0 (hI h l1 0)) l1 1)) l1 2)) l1 3)) l0 4 (hI (sI (sI (sI (sI h l0 0 (hI h l1 0)) l0 1 (hI (sI h l0 0 (hI h l1 0)) l1 1)) l0 2 (hI (sI (sI h l0 0 (hI h l1 0)) l0 1 (hI (sI h l0 0 (hI h l1 0)) l1 1)) l1 2)) l0 3 (hI (sI (sI (sI h l0 0 (hI h l1 0)) l0 1 (hI (sI h l0 0 (hI h l1 0)) l1 1)) l0 2 (hI (sI (sI h l0 0 (hI h l1 0)) l0 1 (hI (sI h l0 0 (hI h l1 0)) l1 1)) l1 2)) l1 3)) l1 4)) l1 5)) l1 6)) l1 7)) l0 8 (hI (sI (sI (sI (sI (sI (sI (sI (sI h l0 0 (hI h l1 0)) l0 1 (hI (sI h l0 0 (hI h l1 0)) l1 1)) l0 2 (hI (sI (sI h l0 0 (hI h l1 0)) l0 1 (hI (sI h l0 0 (hI h l1 0)) l1 1)) l1 2)) l0 3 (hI (sI (sI (sI h l0 0 (hI h l1 0)) l0 1 (hI (sI h l0 0 (hI h l1 0)) l1 1)) l0 2 (hI (sI (sI h l0 0 (hI h l1 0)) l0 1 (hI (sI h l0 0 (hI h l1 0)) l1 1)) l1 2)) l1 3)) l0 4 (hI (sI (sI (sI (sI h l0 0 (hI h l1 0)) l0 1 (hI (sI h l0 0 (hI h l1 0)) l1 1)) l0 2 (hI (sI (sI h l0 0 (hI h l1 0)) l0 1 (hI (sI h l0 0 (hI h l1 0)) l1 1)) l1 2)) l0 3 (hI (sI (sI (sI h l0 0 (hI h l1 0)) l0 1 (hI (sI h l0 0 (hI h l1 0)) l1 1)) l0 2 (hI (sI (sI h l0 0 (hI h l1 0)) l0 1 (hI (sI h l0 0 (hI h l1 0)) l1 1)) l1 2)) l1 3)) l1 4)) l0 5 (hI (sI (sI (sI (sI (sI h l0 0 (hI h l1 0)) l0 1 (hI (sI h l0 0 (hI h l1 0)) l1 1)) l0 2 (hI (sI (sI h l0 0 (hI h l1 0)) l0 1 (hI (sI h l0 0 (hI h l1 0)) l1 1)) l1 2)) l0 3 (hI (sI (sI (sI h l0 0 (hI h l1 0)) l0 1 (hI (sI h l0 0 (hI h l1 0)) l1 1)) l0 2 (hI (sI (sI h l0 0 (hI h l1 0)) l0 1 (hI (sI h l0 0 (hI h l1 0)) l1 1)) l1 2)) l1 3)) l0 4 (hI (sI (sI (sI (sI h l0 0 (hI h l1 0)) l0 1 (hI (sI h l0 0 (hI h l1 0)) l1 1)) l0 2 (hI (sI (sI h l0 0 (hI h l1 0)) l0 1 (hI (sI h l0 0 (hI h l1 0)) l1 1)) l1 2)) l0 3 (hI (sI (sI (sI h l0 0 (hI h l1 0)) l0 1 (hI (sI h l0 0 (hI h l1 0)) l1 1)) l0 2 (hI (sI (sI h l0 0 (hI h l1 0)) l0 1 (hI (sI h l0 0 (hI h l1 0)) l1 1)) l1 2)) l1 3)) l1 4)) l1 5)) l0 6 (hI (sI (sI (sI (sI (sI (sI h l0 0 (hI h l1 0)) l0 1 (hI (sI h l0 0 (hI h l1 0)) l1 1)) l0 2 (hI (sI (sI h l0 0 (hI h l1 0)) l0 1 (hI (sI h l0 0 (hI h l1 0)) l1 1)) l1 2)) l0 3 (hI (sI (sI (sI h l0 0 (hI h l1 0)) l0 1 (hI (sI h l0 0 (hI h l1 0)) l1 1)) l0 2 (hI (sI (sI h l0 0 (hI h l1 0)) l0 1 (hI (sI h l0 0 (hI h l1 0)) l1 1)) l1 2)) l1 3)) l0 4 (hI (sI (sI (sI (sI h l0 0 (hI h l1 0)) l0 1 (hI (sI h l0 0 (hI h l1 0)) l1 1)) l0 2 (hI (sI (sI h l0 0 (hI h l1 0)) l0 1 (hI (sI h l0 0 (hI h l1 0)) l1 1)) l1 2)) l0 3 (hI (sI (sI (sI h l0 0 (hI h l1 0)) l0 1 (hI (sI h l0 0 (hI h l1 0)) l1 1)) l0 2 (hI (sI (sI h l0 0 (hI h l1 0)) l0 1 (hI (sI h l0 0 (hI h l1 0)) l1 1)) l1 2)) l1 3)) l1 4)) l0 5 (hI (sI (sI (sI (sI (sI h l0 0 (hI h l1 0)) l0 1 (hI (sI h l0 0 (hI h l1 0)) l1 1)) l0 2 (hI (sI (sI h l0 0 (hI h l1 0)) l0 1 (hI (sI h l0 0 (hI h l1 0)) l1 1)) l1 2)) l0 3 (hI (sI (sI (sI h l0 0 (hI h l1 0)) l0 1 (hI (sI h l0 0 (hI h l1 0)) l1 1)) l0 2 (hI (sI (sI h l0 0 (hI h l1 0)) l0 1 (hI (sI h l0 0 (hI h l1 0)) l1 1)) l1 2)) l1 3)) l0 4 (hI (sI (sI (sI (sI h l0 0 (hI h l1 0)) l0 1 (hI (sI h l0 0 (hI h l1 0)) l1 1)) l0 2 (hI (sI (sI h l0 0 (hI h l1 0)) l0 1 (hI (sI h l0 0 (hI h l1 0)) l1 1)) l1 2)) l0 3 (hI (sI (sI (sI h l0 0 (hI h l1 0)) l0 1 (hI (sI h l0 0 (hI h l1 0)) l1 1)) l0 2 (hI (sI (sI h l0 0 (hI h l1 0)) l0 1 (hI (sI h l0 0 (hI h l1 0)) l1 1)) l1 2)) l1 3)) l1 4)) l1 5)) l1 6)) l0 7 (hI (sI (sI (sI (sI (sI (sI (sI h l0 0 (hI h l1 0)) l0 1 (hI (sI h l0 0 (hI h l1 0)) l1 1)) l0 2 (hI (sI (sI h l0 0 (hI h l1 0)) l0 1 (hI (sI h l0 0 (hI h l1 0)) l1 1)) l1 2)) l0 3 (hI (sI (sI (sI h l0 0 (hI h l1 0)) l0 1 (hI (sI h l0 0 (hI h l1 0)) l1 1)) l0 2 (hI (sI (sI h l0 0 (hI h l1 0)) l0 1 (hI (sI h l0 0 (hI h l1 0)) l1 1)) l1 2)) l1 3)) l0 4 (hI (sI (sI (sI (sI h l0 0 (hI h l1 0)) l0 1 (hI (sI h l0 0 (hI h l1 0)) l1 1)) l0 2 (hI (sI (sI h l0 0 (hI h l1 0)) l0 1 (hI (sI h l0 0 (hI h l1 0)) l1 1)) l1 2)) l0 3 (hI (sI (sI (sI h l0 0 (hI h l1 0)) l0 1 (hI (sI h l0 0 (hI h l1 0)) l1 1)) l0 2 (hI (sI (sI h l0 0 (hI h l1 0)) l0 1 (hI (sI h l0 0 (hI h l1 0)) l1 1)) l1 2)) l1 3)) l1 4)) l0 5 (hI (sI (sI (sI (sI (sI h l0 0 (hI h l1 0)) l0 1 (hI (sI h l0 0 (hI h l1 0)) l1 1)) l0 2 (hI (sI (sI h l0 0 (hI h l1 0)) l0 1 (hI (sI h l0 0 (hI h l1 0)) l1 1)) l1 2)) l0 3 (hI (sI (sI (sI h l0 0 (hI h l1 0)) l0 1 (hI (sI h l0 0 (hI h l1 0)) l1 1)) l0 2 (hI (sI (sI h l0 0 (hI h l1 0)) l0 1 (hI (sI h l0 0 (hI h l1 0)) l1 1)) l1 2)) l1 3)) l0 4 (hI (sI (sI (sI (sI h l0 0 (hI h l1 0)) l0 1 (hI (sI h l0 0 (hI h l1 0)) l1 1)) l0 2 (hI (sI (sI h l0 0 (hI h l1 0)) l0 1 (hI (sI h l0 0 (hI h l1 0)) l1 1)) l1 2)) l0 3 (hI (sI (sI (sI h l0 0 (hI h l1 0)) l0 1 (hI (sI h l0 0 (hI h l1 0)) l1 1)) l0 2 (hI (sI (sI h l0 0 (hI h l1 0)) l0 1 (hI (sI h l0 0 (hI h l1 0)) l1 1)) l1 2)) l1 3)) l1 4)) l1 5)) l0 6 (hI (sI (sI (sI (sI (sI (sI h l0 0 (hI h l1 0)) l0 1 (hI (sI h l0 0 (hI h l1 0)) l1 1)) l0 2 (hI (sI (sI h l0 0 (hI h l1 0)) l0 1 (hI (sI h l0 0 (hI h l1 0)) l1 1)) l1 2)) l0 3 (hI (sI (sI (sI h l0 0 (hI h l1 0)) l0 1 (hI (sI h l0 0 (hI h l1 0)) l1 1)) l0 2 (hI (sI (sI h l0 0 (hI h l1 0)) l0 1 (hI (sI h l0 0 (hI h l1 0)) l1 1)) l1 2)) l1 3)) l0 4 (hI (sI (sI (sI (sI h l0 0 (hI h l1 0)) l0 1 (hI (sI h l0 0 (hI h l1 0)) l1 1)) l0 2 (hI (sI (sI h l0 0 (hI h l1 0)) l0 1 (hI (sI h l0 0 (hI h l1 0)) l1 1)) l1 2)) l0 3 (hI (sI (sI (sI h l0 0 (hI h l1 0)) l0 1 (hI (sI h l0 0 (hI h l1 0)) l1 1)) l0 2 (hI (sI (sI h l0 0 (hI h l1 0)) l0 1 (hI (sI h l0 0 (hI h l1 0)) l1 1)) l1 2)) l1 3)) l1 4)) l0 5 (hI (sI (sI (sI (sI (sI h l0 0 (hI h l1 0)) l0 1 (hI (sI h l0 0 (hI h l1 0)) l1 1)) l0 2 (hI (sI (sI h l0 0 (hI h l1 0)) l0 1 (hI (sI h l0 0 (hI h l1 0)) l1 1)) l1 2)) l0 3 (hI (sI (sI (sI h l0 0 (hI h l1 0)) l0 1 (hI (sI h l0 0 (hI h l1 0)) l1 1)) l0 2 (hI (sI (sI h l0 0 (hI h l1 0)) l0 1 (hI (sI h l0 0 (hI h l1 0)) l1 1)) l1 2)) l1 3)) l0 4 (hI (sI (sI (sI (sI h l0 0 (hI h l1 0)) l0 1 (hI (sI h l0 0 (hI h l1 0)) l1 1)) l0 2 (hI (sI (sI h l0 0 (hI h l1 0)) l0 1 (hI (sI h l0 0 (hI h l1 0)) l1 1)) l1 2)) l0 3 (hI (sI (sI (sI h l0 0 (hI h l1 0)) l0 1 (hI (sI h l0 0 (hI h l1 0)) l1 1)) l0 2 (hI (sI (sI h l0 0 (hI h l1 0)) l0 1 (hI (sI h l0 0 (hI h l1 0)) l1 1)) l1 2)) l1 3)) l1 4)) l1 5)) l1 6)) l1 7)) l1 8)) l1 9)) (l1 + 1) (l0 + 1) 4)) (fun h5 => (some h5)))
set_option maxRecDepth 100000 in
set_option maxHeartbeats 4000000 in
theorem ev_X3_copyFrom {g : Gl} {h : Hp} {l0 : Nat} {l1 : Nat} {h2 : Hp} (kl0 : KD g.1 l0 2 0) (kl1 : KD g.1 l1 2 0) (hf : f_X3_copyFrom h l0 l1 = some h2) : Ev yX3_copyFrom cX3_copyFrom 3 none 2 51 g 0 [] [(0, .ref l0), (1, .ref l1)] h none h2 := by
  unfold f_X3_copyFrom at hf
  refine ev_aload_n (n := 0) dX3_copyFrom_0 rfl rfl ?_
  refine ev_aload_n (n := 1) dX3_copyFrom_1 rfl rfl ?_
  refine ev_get (v := .int (hI h l1 0)) 0 kl1 rfl (by decide) rfl lk_103 dX3_copyFrom_2 ?_
  refine ev_putI 0 kl0 rfl (by decide) rfl (by decide +kernel) rfl (by exact Nat.le_of_ble_eq_true rfl) lk_103 dX3_copyFrom_5 ?_
  refine ev_aload_n (n := 0) dX3_copyFrom_8 rfl rfl ?_
  refine ev_aload_n (n := 1) dX3_copyFrom_9 rfl rfl ?_
  refine ev_get (v := .int (hI (sI h l0 0 (hI h l1 0)) l1 1)) 1 kl1 rfl (by decide) rfl lk_106 dX3_copyFrom_10 ?_
  refine ev_putI 1 kl0 rfl (by decide) rfl (by decide +kernel) rfl (by exact Nat.le_of_ble_eq_true rfl) lk_106 dX3_copyFrom_13 ?_
  refine ev_aload_n (n := 0) dX3_copyFrom_16 rfl rfl ?_
  refine ev_aload_n (n := 1) dX3_copyFrom_17 rfl rfl ?_
  refine ev_get (v := .int (hI (sI (sI h l0 0 (hI h l1 0)) l0 1 (hI (sI h l0 0 (hI h l1 0)) l1 1)) l1 2)) 2 kl1 rfl (by decide) rfl lk_109 dX3_copyFrom_18 ?_
  refine ev_putI 2 kl0 rfl (by decide) rfl (by decide +kernel) rfl (by exact Nat.le_of_ble_eq_true rfl) lk_109 dX3_copyFrom_21 ?_
  refine ev_aload_n (n := 0) dX3_copyFrom_24 rfl rfl ?_
  refine ev_aload_n (n := 1) dX3_copyFrom_25 rfl rfl ?_
  refine ev_get (v := .int (hI (sI (sI (sI h l0 0 (hI h l1 0)) l0 1 (hI (sI h l0 0 (hI h l1 0)) l1 1)) l0 2 (hI (sI (sI h l0 0 (hI h l1 0)) l0 1 (hI (sI h l0 0 (hI h l1 0)) l1 1)) l1 2)) l1 3)) 3 kl1 rfl (by decide) rfl lk_111 dX3_copyFrom_26 ?_
  refine ev_putI 3 kl0 rfl (by decide) rfl (by decide +kernel) rfl (by exact Nat.le_of_ble_eq_true rfl) lk_111 dX3_copyFrom_29 ?_
  refine ev_aload_n (n := 0) dX3_copyFrom_32 rfl rfl ?_
  refine ev_aload_n (n := 1) dX3_copyFrom_33 rfl rfl ?_
  refine ev_get (v := .int (hI (sI (sI (sI (sI h l0 0 (hI h l1 0)) l0 1 (hI (sI h l0 0 (hI h l1 0)) l1 1)) l0 2 (hI (sI (sI h l0 0 (hI h l1 0)) l0 1 (hI (sI h l0 0 (hI h l1 0)) l1 1)) l1 2)) l0 3 (hI (sI (sI (sI h l0 0 (hI h l1 0)) l0 1 (hI (sI h l0 0 (hI h l1 0)) l1 1)) l0 2 (hI (sI (sI h l0 0 (hI h l1 0)) l0 1 (hI (sI h l0 0 (hI h l1 0)) l1 1)) l1 2)) l1 3)) l1 4)) 4 kl1 rfl (by decide) rfl lk_113 dX3_copyFrom_34 ?_
  refine ev_putI 4 kl0 rfl (by decide) rfl (by decide +kernel) rfl (by exact Nat.le_of_ble_eq_true rfl) lk_113 dX3_copyFrom_37 ?_
  refine ev_aload_n (n := 0) dX3_copyFrom_40 rfl rfl ?_
  refine ev_aload_n (n := 1) dX3_copyFrom_41 rfl rfl ?_
  refine ev_get (v := .int (hI (sI (sI (sI (sI (sI h l0 0 (hI h l1 0)) l0 1 (hI (sI h l0 0 (hI h l1 0)) l1 1)) l0 2 (hI (sI (sI h l0 0 (hI h l1 0)) l0 1 (hI (sI h l0 0 (hI h l1 0)) l1 1)) l1 2)) l0 3 (hI (sI (sI (sI h l0 0 (hI h l1 0)) l0 1 (hI (sI h l0 0 (hI h l1 0)) l1 1)) l0 2 (hI (sI (sI h l0 0 (hI h l1 0)) l0 1 (hI (sI h l0 0 (hI h l1 0)) l1 1)) l1 2)) l1 3)) l0 4 (hI (sI (sI (sI (sI h l0 0 (hI h l1 0)) l0 1 (hI (sI h l0 0 (hI h l1 0)) l1 1)) l0 2 (hI (sI (sI h l0 0 (hI h l1 0)) l0 1 (hI (sI h l0 0 (hI h l1 0)) l1 1)) l1 2)) l0 3 (hI (sI (sI (sI h l0 0 (hI h l1 0)) l0 1 (hI (sI h l0 0 (hI h l1 0)) l1 1)) l0 2 (hI (sI (sI h l0 0 (hI h l1 0)) l0 1 (hI (sI h l0 0 (hI h l1 0)) l1 1)) l1 2)) l1 3)) l1 4)) l1 5)) 5 kl1 rfl (by decide) rfl lk_117 dX3_copyFrom_42 ?_
  refine ev_putI 5 kl0 rfl (by decide) rfl (by decide +kernel) rfl (by exact Nat.le_of_ble_eq_true rfl) lk_117 dX3_copyFrom_45 ?_
  refine ev_aload_n (n := 0) dX3_copyFrom_48 rfl rfl ?_
  refine ev_aload_n (n := 1) dX3_copyFrom_49 rfl rfl ?_
  refine ev_get (v := .int (hI (sI (sI (sI (sI (sI (sI h l0 0 (hI h l1 0)) l0 1 (hI (sI h l0 0 (hI h l1 0)) l1 1)) l0 2 (hI (sI (sI h l0 0 (hI h l1 0)) l0 1 (hI (sI h l0 0 (hI h l1 0)) l1 1)) l1 2)) l0 3 (hI (sI (sI (sI h l0 0 (hI h l1 0)) l0 1 (hI (sI h l0 0 (hI h l1 0)) l1 1)) l0 2 (hI (sI (sI h l0 0 (hI h l1 0)) l0 1 (hI (sI h l0 0 (hI h l1 0)) l1 1)) l1 2)) l1 3)) l0 4 (hI (sI (sI (sI (sI h l0 0 (hI h l1 0)) l0 1 (hI (sI h l0 0 (hI h l1 0)) l1 1)) l0 2 (hI (sI (sI h l0 0 (hI h l1 0)) l0 1 (hI (sI h l0 0 (hI h l1 0)) l1 1)) l1 2)) l0 3 (hI (sI (sI (sI h l0 0 (hI h l1 0)) l0 1 (hI (sI h l0 0 (hI h l1 0)) l1 1)) l0 2 (hI (sI (sI h l0 0 (hI h l1 0)) l0 1 (hI (sI h l0 0 (hI h l1 0)) l1 1)) l1 2)) l1 3)) l1 4)) l0 5 (hI (sI (sI (sI (sI (sI h l0 0 (hI h l1 0)) l0 1 (hI (sI h l0 0 (hI h l1 0)) l1 1)) l0 2 (hI (sI (sI h l0 0 (hI h l1 0)) l0 1 (hI (sI h l0 0 (hI h l1 0)) l1 1)) l1 2)) l0 3 (hI (sI (sI (sI h l0 0 (hI h l1 0)) l0 1 (hI (sI h l0 0 (hI h l1 0)) l1 1)) l0 2 (hI (sI (sI h l0 0 (hI h l1 0)) l0 1 (hI (sI h l0 0 (hI h l1 0)) l1 1)) l1 2)) l1 3)) l0 4 (hI (sI (sI (sI (sI h l0 0 (hI h l1 0)) l0 1 (hI (sI h l0 0 (hI h l1 0)) l1 1)) l0 2 (hI (sI (sI h l0 0 (hI h l1 0)) l0 1 (hI (sI h l0 0 (hI h l1 0)) l1 1)) l1 2)) l0 3 (hI (sI (sI (sI h l0 0 (hI h l1 0)) l0 1 (hI (sI h l0 0 (hI h l1 0)) l1 1)) l0 2 (hI (sI (sI h l0 0 (hI h l1 0)) l0 1 (hI (sI h l0 0 (hI h l1 0)) l1 1)) l1 2)) l1 3)) l1 4)) l1 5)) l1 6)) 6 kl1 rfl (by decide) rfl lk_119 dX3_copyFrom_50 ?_
  refine ev_putI 6 kl0 rfl (by decide) rfl (by decide +kernel) rfl (by exact Nat.le_of_ble_eq_true rfl) lk_119 dX3_copyFrom_53 ?_
  refine ev_aload_n (n := 0) dX3_copyFrom_56 rfl rfl ?_
  refine ev_aload_n (n := 1) dX3_copyFrom_57 rfl rfl ?_
  refine ev_get (v := .int (hI (sI (sI (sI (sI (sI (sI (sI h l0 0 (hI h l1 0)) l0 1 (hI (sI h l0 0 (hI h l1 0)) l1 1)) l0 2 (hI (sI (sI h l0 0 (hI h l1 0)) l0 1 (hI (sI h l0 0 (hI h l1 0)) l1 1)) l1 2)) l0 3 (hI (sI (sI (sI h l0 0 (hI h l1 0)) l0 1 (hI (sI h l0 0 (hI h l1 0)) l1 1)) l0 2 (hI (sI (sI h l0 0 (hI h l1 0)) l0 1 (hI (sI h l0 0 (hI h l1 0)) l1 1)) l1 2)) l1 3)) l0 4 (hI (sI (sI (sI (sI h l0 0 (hI h l1 0)) l0 1 (hI (sI h l0 0 (hI h l1 0)) l1 1)) l0 2 (hI (sI (sI h l0 0 (hI h l1 0)) l0 1 (hI (sI h l0 0 (hI h l1 0)) l1 1)) l1 2)) l0 3 (hI (sI (sI (sI h l0 0 (hI h l1 0)) l0 1 (hI (sI h l0 0 (hI h l1 0)) l1 1)) l0 2 (hI (sI (sI h l0 0 (hI h l1 0)) l0 1 (hI (sI h l0 0 (hI h l1 0)) l1 1)) l1 2)) l1 3)) l1 4)) l0 5 (hI (sI (sI (sI (sI (sI h l0 0 (hI h l1 0)) l0 1 (hI (sI h l0 0 (hI h l1 0)) l1 1)) l0 2 (hI (sI (sI h l0 0 (hI h l1 0)) l0 1 (hI (sI h l0 0 (hI h l1 0)) l1 1)) l1 2)) l0 3 (hI (sI (sI (sI h l0 0 (hI h l1 0)) l0 1 (hI (sI h l0 0 (hI h l1 0)) l1 1)) l0 2 (hI (sI (sI h l0 0 (hI h l1 0)) l0 1 (hI (sI h l0 0 (hI h l1 0)) l1 1)) l1 2)) l1 3)) l0 4 (hI (sI (sI (sI (sI h l0 0 (hI h l1 0)) l0 1 (hI (sI h l0 0 (hI h l1 0)) l1 1)) l0 2 (hI (sI (sI h l0 0 (hI h l1 0)) l0 1 (hI (sI h l0 0 (hI h l1 0)) l1 1)) l1 2)) l0 3 (hI (sI (sI (sI h l0 0 (hI h l1 0)) l0 1 (hI (sI h l0 0 (hI h l1 0)) l1 1)) l0 2 (hI (sI (sI h l0 0 (hI h l1 0)) l0 1 (hI (sI h l0 0 (hI h l1 0)) l1 1)) l1 2)) l1 3)) l1 4)) l1 5)) l0 6 (hI (sI (sI (sI (sI (sI (sI h l0 0 (hI h l1 0)) l0 1 (hI (sI h l0 0 (hI h l1 0)) l1 1)) l0 2 (hI (sI (sI h l0 0 (hI h l1 0)) l0 1 (hI (sI h l0 0 (hI h l1 0)) l1 1)) l1 2)) l0 3 (hI (sI (sI (sI h l0 0 (hI h l1 0)) l0 1 (hI (sI h l0 0 (hI h l1 0)) l1 1)) l0 2 (hI (sI (sI h l0 0 (hI h l1 0)) l0 1 (hI (sI h l0 0 (hI h l1 0)) l1 1)) l1 2)) l1 3)) l0 4 (hI (sI (sI (sI (sI h l0 0 (hI h l1 0)) l0 1 (hI (sI h l0 0 (hI h l1 0)) l1 1)) l0 2 (hI (sI (sI h l0 0 (hI h l1 0)) l0 1 (hI (sI h l0 0 (hI h l1 0)) l1 1)) l1 2)) l0 3 (hI (sI (sI (sI h l0 0 (hI h l1 0)) l0 1 (hI (sI h l0 0 (hI h l1 0)) l1 1)) l0 2 (hI (sI (sI h l0 0 (hI h l1 0)) l0 1 (hI (sI h l0 0 (hI h l1 0)) l1 1)) l1 2)) l1 3)) l1 4)) l0 5 (hI (sI (sI (sI (sI (sI h l0 0 (hI h l1 0)) l0 1 (hI (sI h l0 0 (hI h l1 0)) l1 1)) l0 2 (hI (sI (sI h l0 0 (hI h l1 0)) l0 1 (hI (sI h l0 0 (hI h l1 0)) l1 1)) l1 2)) l0 3 (hI (sI (sI (sI h l0 0 (hI h l1 0)) l0 1 (hI (sI h l0 0 (hI h l1 0)) l1 1)) l0 2 (hI (sI (sI h l0 0 (hI h l1 0)) l0 1 (hI (sI h l0 0 (hI h l1 0)) l1 1)) l1 2)) l1 3)) l0 4 (hI (sI (sI (sI (sI h l0 0 (hI h l1 0)) l0 1 (hI (sI h l0 0 (hI h l1 0)) l1 1)) l0 2 (hI (sI (sI h l0 0 (hI h l1 0)) l0 1 (hI (sI h l0 0 (hI h l1 0)) l1 1)) l1 2)) l0 3 (hI (sI (sI (sI h l0 0 (hI h l1 0)) l0 1 (hI (sI h l0 0 (hI h l1 0)) l1 1)) l0 2 (hI (sI (sI h l0 0 (hI h l1 0)) l0 1 (hI (sI h l0 0 (hI h l1 0)) l1 1)) l1 2)) l1 3)) l1 4)) l1 5)) l1 6)) l1 7)) 7 kl1 rfl (by decide) rfl lk_121 dX3_copyFrom_58 ?_
  refine ev_putI 7 kl0 rfl (by decide) rfl (by decide +kernel) rfl (by exact Nat.le_of_ble_eq_true rfl) lk_121 dX3_copyFrom_61 ?_
  refine ev_aload_n (n := 0) dX3_copyFrom_64 rfl rfl ?_
  refine ev_aload_n (n := 1) dX3_copyFrom_65 rfl rfl ?_
  refine ev_get (v := .int (hI (sI (sI (sI (sI (sI (sI (sI (sI h l0 0 (hI h l1 0)) l0 1 (hI (sI h l0 0 (hI h l1 0)) l1 1)) l0 2 (hI (sI (sI h l0 0 (hI h l1 0)) l0 1 (hI (sI h l0 0 (hI h l1 0)) l1 1)) l1 2)) l0 3 (hI (sI (sI (sI h l0 0 (hI h l1 0)) l0 1 (hI (sI h l0 0 (hI h l1 0)) l1 1)) l0 2 (hI (sI (sI h l0 0 (hI h l1 0)) l0 1 (hI (sI h l0 0 (hI h l1 0)) l1 1)) l1 2)) l1 3)) l0 4 (hI (sI (sI (sI (sI h l0 0 (hI h l1 0)) l0 1 (hI (sI h l0 0 (hI h l1 0)) l1 1)) l0 2 (hI (sI (sI h l0 0 (hI h l1 0)) l0 1 (hI (sI h l0 0 (hI h l1 0)) l1 1)) l1 2)) l0 3 (hI (sI (sI (sI h l0 0 (hI h l1 0)) l0 1 (hI (sI h l0 0 (hI h l1 0)) l1 1)) l0 2 (hI (sI (sI h l0 0 (hI h l1 0)) l0 1 (hI (sI h l0 0 (hI h l1 0)) l1 1)) l1 2)) l1 3)) l1 4)) l0 5 (hI (sI (sI (sI (sI (sI h l0 0 (hI h l1 0)) l0 1 (hI (sI h l0 0 (hI h l1 0)) l1 1)) l0 2 (hI (sI (sI h l0 0 (hI h l1 0)) l0 1 (hI (sI h l0 0 (hI h l1 0)) l1 1)) l1 2)) l0 3 (hI (sI (sI (sI h l0 0 (hI h l1 0)) l0 1 (hI (sI h l0 0 (hI h l1 0)) l1 1)) l0 2 (hI (sI (sI h l0 0 (hI h l1 0)) l0 1 (hI (sI h l0 0 (hI h l1 0)) l1 1)) l1 2)) l1 3)) l0 4 (hI (sI (sI (sI (sI h l0 0 (hI h l1 0)) l0 1 (hI (sI h l0 0 (hI h l1 0)) l1 1)) l0 2 (hI (sI (sI h l0 0 (hI h l1 0)) l0 1 (hI (sI h l0 0 (hI h l1 0)) l1 1)) l1 2)) l0 3 (hI (sI (sI (sI h l0 0 (hI h l1 0)) l0 1 (hI (sI h l0 0 (hI h l1 0)) l1 1)) l0 2 (hI (sI (sI h l0 0 (hI h l1 0)) l0 1 (hI (sI h l0 0 (hI h l1 0)) l1 1)) l1 2)) l1 3)) l1 4)) l1 5)) l0 6 (hI (sI (sI (sI (sI (sI (sI h l0 0 (hI h l1 0)) l0 1 (hI (sI h l0 0 (hI h l1 0)) l1 1)) l0 2 (hI (sI (sI h l0 0 (hI h l1 0)) l0 1 (hI (sI h l0 0 (hI h l1 0)) l1 1)) l1 2)) l0 3 (hI (sI (sI (sI h l0 0 (hI h l1 0)) l0 1 (hI (sI h l0 0 (hI h l1 0)) l1 1)) l0 2 (hI (sI (sI h l0 0 (hI h l1 0)) l0 1 (hI (sI h l0 0 (hI h l1 0)) l1 1)) l1 2)) l1 3)) l0 4 (hI (sI (sI (sI (sI h l0 0 (hI h l1 0)) l0 1 (hI (sI h l0 0 (hI h l1 0)) l1 1)) l0 2 (hI (sI (sI h l0 0 (hI h l1 0)) l0 1 (hI (sI h l0 0 (hI h l1 0)) l1 1)) l1 2)) l0 3 (hI (sI (sI (sI h l0 0 (hI h l1 0)) l0 1 (hI (sI h l0 0 (hI h l1 0)) l1 1)) l0 2 (hI (sI (sI h l0 0 (hI h l1 0)) l0 1 (hI (sI h l0 0 (hI h l1 0)) l1 1)) l1 2)) l1 3)) l1 4)) l0 5 (hI (sI (sI (sI (sI (sI h l0 0 (hI h l1 0)) l0 1 (hI (sI h l0 0 (hI h l1 0)) l1 1)) l0 2 (hI (sI (sI h l0 0 (hI h l1 0)) l0 1 (hI (sI h l0 0 (hI h l1 0)) l1 1)) l1 2)) l0 3 (hI (sI (sI (sI h l0 0 (hI h l1 0)) l0 1 (hI (sI h l0 0 (hI h l1 0)) l1 1)) l0 2 (hI (sI (sI h l0 0 (hI h l1 0)) l0 1 (hI (sI h l0 0 (hI h l1 0)) l1 1)) l1 2)) l1 3)) l0 4 (hI (sI (sI (sI (sI h l0 0 (hI h l1 0)) l0 1 (hI (sI h l0 0 (hI h l1 0)) l1 1)) l0 2 (hI (sI (sI h l0 0 (hI h l1 0)) l0 1 (hI (sI h l0 0 (hI h l1 0)) l1 1)) l1 2)) l0 3 (hI (sI (sI (sI h l0 0 (hI h l1 0)) l0 1 (hI (sI h l0 0 (hI h l1 0)) l1 1)) l0 2 (hI (sI (sI h l0 0 (hI h l1 0)) l0 1 (hI (sI h l0 0 (hI h l1 0)) l1 1)) l1 2)) l1 3)) l1 4)) l1 5)) l1 6)) l0 7 (hI (sI (sI (sI (sI (sI (sI (sI h l0 0 (hI h l1 0)) l0 1 (hI (sI h l0 0 (hI h l1 0)) l1 1)) l0 2 (hI (sI (sI h l0 0 (hI h l1 0)) l0 1 (hI (sI h l0 0 (hI h l1 0)) l1 1)) l1 2)) l0 3 (hI (sI (sI (sI h l0 0 (hI h l1 0)) l0 1 (hI (sI h l0 0 (hI h l1 0)) l1 1)) l0 2 (hI (sI (sI h l0 0 (hI h l1 0)) l0 1 (hI (sI h l0 0 (hI h l1 0)) l1 1)) l1 2)) l1 3)) l0 4 (hI (sI (sI (sI (sI h l0 0 (hI h l1 0)) l0 1 (hI (sI h l0 0 (hI h l1 0)) l1 1)) l0 2 (hI (sI (sI h l0 0 (hI h l1 0)) l0 1 (hI (sI h l0 0 (hI h l1 0)) l1 1)) l1 2)) l0 3 (hI (sI (sI (sI h l0 0 (hI h l1 0)) l0 1 (hI (sI h l0 0 (hI h l1 0)) l1 1)) l0 2 (hI (sI (sI h l0 0 (hI h l1 0)) l0 1 (hI (sI h l0 0 (hI h l1 0)) l1 1)) l1 2)) l1 3)) l1 4)) l0 5 (hI (sI (sI (sI (sI (sI h l0 0 (hI h l1 0)) l0 1 (hI (sI h l0 0 (hI h l1 0)) l1 1)) l0 2 (hI (sI (sI h l0 0 (hI h l1 0)) l0 1 (hI (sI h l0 0 (hI h l1 0)) l1 1)) l1 2)) l0 3 (hI (sI (sI (sI h l0 0 (hI h l1 0)) l0 1 (hI (sI h l0 0 (hI h l1 0)) l1 1)) l0 2 (hI (sI (sI h l0 0 (hI h l1 0)) l0 1 (hI (sI h l0 0 (hI h l1 0)) l1 1)) l1 2)) l1 3)) l0 4 (hI (sI (sI (sI (sI h l0 0 (hI h l1 0)) l0 1 (hI (sI h l0 0 (hI h l1 0)) l1 1)) l0 2 (hI (sI (sI h l0 0 (hI h l1 0)) l0 1 (hI (sI h l0 0 (hI h l1 0)) l1 1)) l1 2)) l0 3 (hI (sI (sI (sI h l0 0 (hI h l1 0)) l0 1 (hI (sI h l0 0 (hI h l1 0)) l1 1)) l0 2 (hI (sI (sI h l0 0 (hI h l1 0)) l0 1 (hI (sI h l0 0 (hI h l1 0)) l1 1)) l1 2)) l1 3)) l1 4)) l1 5)) l0 6 (hI (sI (sI (sI (sI (sI (sI h l0 0 (hI h l1 0)) l0 1 (hI (sI h l0 0 (hI h l1 0)) l1 1)) l0 2 (hI (sI (sI h l0 0 (hI h l1 0)) l0 1 (hI (sI h l0 0 (hI h l1 0)) l1 1)) l1 2)) l0 3 (hI (sI (sI (sI h l0 0 (hI h l1 0)) l0 1 (hI (sI h l0 0 (hI h l1 0)) l1 1)) l0 2 (hI (sI (sI h l0 0 (hI h l1 0)) l0 1 (hI (sI h l0 0 (hI h l1 0)) l1 1)) l1 2)) l1 3)) l0 4 (hI (sI (sI (sI (sI h l0 0 (hI h l1 0)) l0 1 (hI (sI h l0 0 (hI h l1 0)) l1 1)) l0 2 (hI (sI (sI h l0 0 (hI h l1 0)) l0 1 (hI (sI h l0 0 (hI h l1 0)) l1 1)) l1 2)) l0 3 (hI (sI (sI (sI h l0 0 (hI h l1 0)) l0 1 (hI (sI h l0 0 (hI h l1 0)) l1 1)) l0 2 (hI (sI (sI h l0 0 (hI h l1 0)) l0 1 (hI (sI h l0 0 (hI h l1 0)) l1 1)) l1 2)) l1 3)) l1 4)) l0 5 (hI (sI (sI (sI (sI (sI h l0 0 (hI h l1 0)) l0 1 (hI (sI h l0 0 (hI h l1 0)) l1 1)) l0 2 (hI (sI (sI h l0 0 (hI h l1 0)) l0 1 (hI (sI h l0 0 (hI h l1 0)) l1 1)) l1 2)) l0 3 (hI (sI (sI (sI h l0 0 (hI h l1 0)) l0 1 (hI (sI h l0 0 (hI h l1 0)) l1 1)) l0 2 (hI (sI (sI h l0 0 (hI h l1 0)) l0 1 (hI (sI h l0 0 (hI h l1 0)) l1 1)) l1 2)) l1 3)) l0 4 (hI (sI (sI (sI (sI h l0 0 (hI h l1 0)) l0 1 (hI (sI h l0 0 (hI h l1 0)) l1 1)) l0 2 (hI (sI (sI h l0 0 (hI h l1 0)) l0 1 (hI (sI h l0 0 (hI h l1 0)) l1 1)) l1 2)) l0 3 (hI (sI (sI (sI h l0 0 (hI h l1 0)) l0 1 (hI (sI h l0 0 (hI h l1 0)) l1 1)) l0 2 (hI (sI (sI h l0 0 (hI h l1 0)) l0 1 (hI (sI h l0 0 (hI h l1 0)) l1 1)) l1 2)) l1 3)) l1 4)) l1 5)) l1 6)) l1 7)) l1 8)) 8 kl1 rfl (by decide) rfl lk_123 dX3_copyFrom_66 ?_
  refine ev_putI 8 kl0 rfl (by decide) rfl (by decide +kernel) rfl (by exact Nat.le_of_ble_eq_true rfl) lk_123 dX3_copyFrom_69 ?_
  refine ev_aload_n (n := 0) dX3_copyFrom_72 rfl rfl ?_
  refine ev_aload_n (n := 1) dX3_copyFrom_73 rfl rfl ?_
  refine ev_get (v := .long (hL (sI (sI (sI (sI (sI (sI (sI (sI (sI h l0 0 (hI h l1 0)) l0 1 (hI (sI h l0 0 (hI h l1 0)) l1 1)) l0 2 (hI (sI (sI h l0 0 (hI h l1 0)) l0 1 (hI (sI h l0 0 (hI h l1 0)) l1 1)) l1 2)) l0 3 (hI (sI (sI (sI h l0 0 (hI h l1 0)) l0 1 (hI (sI h l0 0 (hI h l1 0)) l1 1)) l0 2 (hI (sI (sI h l0 0 (hI h l1 0)) l0 1 (hI (sI h l0 0 (hI h l1 0)) l1 1)) l1 2)) l1 3)) l0 4 (hI (sI (sI (sI (sI h l0 0 (hI h l1 0)) l0 1 (hI (sI h l0 0 (hI h l1 0)) l1 1)) l0 2 (hI (sI (sI h l0 0 (hI h l1 0)) l0 1 (hI (sI h l0 0 (hI h l1 0)) l1 1)) l1 2)) l0 3 (hI (sI (sI (sI h l0 0 (hI h l1 0)) l0 1 (hI (sI h l0 0 (hI h l1 0)) l1 1)) l0 2 (hI (sI (sI h l0 0 (hI h l1 0)) l0 1 (hI (sI h l0 0 (hI h l1 0)) l1 1)) l1 2)) l1 3)) l1 4)) l0 5 (hI (sI (sI (sI (sI (sI h l0 0 (hI h l1 0)) l0 1 (hI (sI h l0 0 (hI h l1 0)) l1 1)) l0 2 (hI (sI (sI h l0 0 (hI h l1 0)) l0 1 (hI (sI h l0 0 (hI h l1 0)) l1 1)) l1 2)) l0 3 (hI (sI (sI (sI h l0 0 (hI h l1 0)) l0 1 (hI (sI h l0 0 (hI h l1 0)) l1 1)) l0 2 (hI (sI (sI h l0 0 (hI h l1 0)) l0 1 (hI (sI h l0 0 (hI h l1 0)) l1 1)) l1 2)) l1 3)) l0 4 (hI (sI (sI (sI (sI h l0 0 (hI h l1 0)) l0 1 (hI (sI h l0 0 (hI h l1 0)) l1 1)) l0 2 (hI (sI (sI h l0 0 (hI h l1 0)) l0 1 (hI (sI h l0 0 (hI h l1 0)) l1 1)) l1 2)) l0 3 (hI (sI (sI (sI h l0 0 (hI h l1 0)) l0 1 (hI (sI h l0 0 (hI h l1 0)) l1 1)) l0 2 (hI (sI (sI h l0 0 (hI h l1 0)) l0 1 (hI (sI h l0 0 (hI h l1 0)) l1 1)) l1 2)) l1 3)) l1 4)) l1 5)) l0 6 (hI (sI (sI (sI (sI (sI (sI h l0 0 (hI h l1 0)) l0 1 (hI (sI h l0 0 (hI h l1 0)) l1 1)) l0 2 (hI (sI (sI h l0 0 (hI h l1 0)) l0 1 (hI (sI h l0 0 (hI h l1 0)) l1 1)) l1 2)) l0 3 (hI (sI (sI (sI h l0 0 (hI h l1 0)) l0 1 (hI (sI h l0 0 (hI h l1 0)) l1 1)) l0 2 (hI (sI (sI h l0 0 (hI h l1 0)) l0 1 (hI (sI h l0 0 (hI h l1 0)) l1 1)) l1 2)) l1 3)) l0 4 (hI (sI (sI (sI (sI h l0 0 (hI h l1 0)) l0 1 (hI (sI h l0 0 (hI h l1 0)) l1 1)) l0 2 (hI (sI (sI h l0 0 (hI h l1 0)) l0 1 (hI (sI h l0 0 (hI h l1 0)) l1 1)) l1 2)) l0 3 (hI (sI (sI (sI h l0 0 (hI h l1 0)) l0 1 (hI (sI h l0 0 (hI h l1 0)) l1 1)) l0 2 (hI (sI (sI h l0 0 (hI h l1 0)) l0 1 (hI (sI h l0 0 (hI h l1 0)) l1 1)) l1 2)) l1 3)) l1 4)) l0 5 (hI (sI (sI (sI (sI (sI h l0 0 (hI h l1 0)) l0 1 (hI (sI h l0 0 (hI h l1 0)) l1 1)) l0 2 (hI (sI (sI h l0 0 (hI h l1 0)) l0 1 (hI (sI h l0 0 (hI h l1 0)) l1 1)) l1 2)) l0 3 (hI (sI (sI (sI h l0 0 (hI h l1 0)) l0 1 (hI (sI h l0 0 (hI h l1 0)) l1 1)) l0 2 (hI (sI (sI h l0 0 (hI h l1 0)) l0 1 (hI (sI h l0 0 (hI h l1 0)) l1 1)) l1 2)) l1 3)) l0 4 (hI (sI (sI (sI (sI h l0 0 (hI h l1 0)) l0 1 (hI (sI h l0 0 (hI h l1 0)) l1 1)) l0 2 (hI (sI (sI h l0 0 (hI h l1 0)) l0 1 (hI (sI h l0 0 (hI h l1 0)) l1 1)) l1 2)) l0 3 (hI (sI (sI (sI h l0 0 (hI h l1 0)) l0 1 (hI (sI h l0 0 (hI h l1 0)) l1 1)) l0 2 (hI (sI (sI h l0 0 (hI h l1 0)) l0 1 (hI (sI h l0 0 (hI h l1 0)) l1 1)) l1 2)) l1 3)) l1 4)) l1 5)) l1 6)) l0 7 (hI (sI (sI (sI (sI (sI (sI (sI h l0 0 (hI h l1 0)) l0 1 (hI (sI h l0 0 (hI h l1 0)) l1 1)) l0 2 (hI (sI (sI h l0 0 (hI h l1 0)) l0 1 (hI (sI h l0 0 (hI h l1 0)) l1 1)) l1 2)) l0 3 (hI (sI (sI (sI h l0 0 (hI h l1 0)) l0 1 (hI (sI h l0 0 (hI h l1 0)) l1 1)) l0 2 (hI (sI (sI h l0 0 (hI h l1 0)) l0 1 (hI (sI h l0 0 (hI h l1 0)) l1 1)) l1 2)) l1 3)) l0 4 (hI (sI (sI (sI (sI h l0 0 (hI h l1 0)) l0 1 (hI (sI h l0 0 (hI h l1 0)) l1 1)) l0 2 (hI (sI (sI h l0 0 (hI h l1 0)) l0 1 (hI (sI h l0 0 (hI h l1 0)) l1 1)) l1 2)) l0 3 (hI (sI (sI (sI h l0 0 (hI h l1 0)) l0 1 (hI (sI h l0 0 (hI h l1 0)) l1 1)) l0 2 (hI (sI (sI h l0 0 (hI h l1 0)) l0 1 (hI (sI h l0 0 (hI h l1 0)) l1 1)) l1 2)) l1 3)) l1 4)) l0 5 (hI (sI (sI (sI (sI (sI h l0 0 (hI h l1 0)) l0 1 (hI (sI h l0 0 (hI h l1 0)) l1 1)) l0 2 (hI (sI (sI h l0 0 (hI h l1 0)) l0 1 (hI (sI h l0 0 (hI h l1 0)) l1 1)) l1 2)) l0 3 (hI (sI (sI (sI h l0 0 (hI h l1 0)) l0 1 (hI (sI h l0 0 (hI h l1 0)) l1 1)) l0 2 (hI (sI (sI h l0 0 (hI h l1 0)) l0 1 (hI (sI h l0 0 (hI h l1 0)) l1 1)) l1 2)) l1 3)) l0 4 (hI (sI (sI (sI (sI h l0 0 (hI h l1 0)) l0 1 (hI (sI h l0 0 (hI h l1 0)) l1 1)) l0 2 (hI (sI (sI h l0 0 (hI h l1 0)) l0 1 (hI (sI h l0 0 (hI h l1 0)) l1 1)) l1 2)) l0 3 (hI (sI (sI (sI h l0 0 (hI h l1 0)) l0 1 (hI (sI h l0 0 (hI h l1 0)) l1 1)) l0 2 (hI (sI (sI h l0 0 (hI h l1 0)) l0 1 (hI (sI h l0 0 (hI h l1 0)) l1 1)) l1 2)) l1 3)) l1 4)) l1 5)) l0 6 (hI (sI (sI (sI (sI (sI (sI h l0 0 (hI h l1 0)) l0 1 (hI (sI h l0 0 (hI h l1 0)) l1 1)) l0 2 (hI (sI (sI h l0 0 (hI h l1 0)) l0 1 (hI (sI h l0 0 (hI h l1 0)) l1 1)) l1 2)) l0 3 (hI (sI (sI (sI h l0 0 (hI h l1 0)) l0 1 (hI (sI h l0 0 (hI h l1 0)) l1 1)) l0 2 (hI (sI (sI h l0 0 (hI h l1 0)) l0 1 (hI (sI h l0 0 (hI h l1 0)) l1 1)) l1 2)) l1 3)) l0 4 (hI (sI (sI (sI (sI h l0 0 (hI h l1 0)) l0 1 (hI (sI h l0 0 (hI h l1 0)) l1 1)) l0 2 (hI (sI (sI h l0 0 (hI h l1 0)) l0 1 (hI (sI h l0 0 (hI h l1 0)) l1 1)) l1 2)) l0 3 (hI (sI (sI (sI h l0 0 (hI h l1 0)) l0 1 (hI (sI h l0 0 (hI h l1 0)) l1 1)) l0 2 (hI (sI (sI h l0 0 (hI h l1 0)) l0 1 (hI (sI h l0 0 (hI h l1 0)) l1 1)) l1 2)) l1 3)) l1 4)) l0 5 (hI (sI (sI (sI (sI (sI h l0 0 (hI h l1 0)) l0 1 (hI (sI h l0 0 (hI h l1 0)) l1 1)) l0 2 (hI (sI (sI h l0 0 (hI h l1 0)) l0 1 (hI (sI h l0 0 (hI h l1 0)) l1 1)) l1 2)) l0 3 (hI (sI (sI (sI h l0 0 (hI h l1 0)) l0 1 (hI (sI h l0 0 (hI h l1 0)) l1 1)) l0 2 (hI (sI (sI h l0 0 (hI h l1 0)) l0 1 (hI (sI h l0 0 (hI h l1 0)) l1 1)) l1 2)) l1 3)) l0 4 (hI (sI (sI (sI (sI h l0 0 (hI h l1 0)) l0 1 (hI (sI h l0 0 (hI h l1 0)) l1 1)) l0 2 (hI (sI (sI h l0 0 (hI h l1 0)) l0 1 (hI (sI h l0 0 (hI h l1 0)) l1 1)) l1 2)) l0 3 (hI (sI (sI (sI h l0 0 (hI h l1 0)) l0 1 (hI (sI h l0 0 (hI h l1 0)) l1 1)) l0 2 (hI (sI (sI h l0 0 (hI h l1 0)) l0 1 (hI (sI h l0 0 (hI h l1 0)) l1 1)) l1 2)) l1 3)) l1 4)) l1 5)) l1 6)) l1 7)) l0 8 (hI (sI (sI (sI (sI (sI (sI (sI (sI h l0 0 (hI h l1 0)) l0 1 (hI (sI h l0 0 (hI h l1 0)) l1 1)) l0 2 (hI (sI (sI h l0 0 (hI h l1 0)) l0 1 (hI (sI h l0 0 (hI h l1 0)) l1 1)) l1 2)) l0 3 (hI (sI (sI (sI h l0 0 (hI h l1 0)) l0 1 (hI (sI h l0 0 (hI h l1 0)) l1 1)) l0 2 (hI (sI (sI h l0 0 (hI h l1 0)) l0 1 (hI (sI h l0 0 (hI h l1 0)) l1 1)) l1 2)) l1 3)) l0 4 (hI (sI (sI (sI (sI h l0 0 (hI h l1 0)) l0 1 (hI (sI h l0 0 (hI h l1 0)) l1 1)) l0 2 (hI (sI (sI h l0 0 (hI h l1 0)) l0 1 (hI (sI h l0 0 (hI h l1 0)) l1 1)) l1 2)) l0 3 (hI (sI (sI (sI h l0 0 (hI h l1 0)) l0 1 (hI (sI h l0 0 (hI h l1 0)) l1 1)) l0 2 (hI (sI (sI h l0 0 (hI h l1 0)) l0 1 (hI (sI h l0 0 (hI h l1 0)) l1 1)) l1 2)) l1 3)) l1 4)) l0 5 (hI (sI (sI (sI (sI (sI h l0 0 (hI h l1 0)) l0 1 (hI (sI h l0 0 (hI h l1 0)) l1 1)) l0 2 (hI (sI (sI h l0 0 (hI h l1 0)) l0 1 (hI (sI h l0 0 (hI h l1 0)) l1 1)) l1 2)) l0 3 (hI (sI (sI (sI h l0 0 (hI h l1 0)) l0 1 (hI (sI h l0 0 (hI h l1 0)) l1 1)) l0 2 (hI (sI (sI h l0 0 (hI h l1 0)) l0 1 (hI (sI h l0 0 (hI h l1 0)) l1 1)) l1 2)) l1 3)) l0 4 (hI (sI (sI (sI (sI h l0 0 (hI h l1 0)) l0 1 (hI (sI h l0 0 (hI h l1 0)) l1 1)) l0 2 (hI (sI (sI h l0 0 (hI h l1 0)) l0 1 (hI (sI h l0 0 (hI h l1 0)) l1 1)) l1 2)) l0 3 (hI (sI (sI (sI h l0 0 (hI h l1 0)) l0 1 (hI (sI h l0 0 (hI h l1 0)) l1 1)) l0 2 (hI (sI (sI h l0 0 (hI h l1 0)) l0 1 (hI (sI h l0 0 (hI h l1 0)) l1 1)) l1 2)) l1 3)) l1 4)) l1 5)) l0 6 (hI (sI (sI (sI (sI (sI (sI h l0 0 (hI h l1 0)) l0 1 (hI (sI h l0 0 (hI h l1 0)) l1 1)) l0 2 (hI (sI (sI h l0 0 (hI h l1 0)) l0 1 (hI (sI h l0 0 (hI h l1 0)) l1 1)) l1 2)) l0 3 (hI (sI (sI (sI h l0 0 (hI h l1 0)) l0 1 (hI (sI h l0 0 (hI h l1 0)) l1 1)) l0 2 (hI (sI (sI h l0 0 (hI h l1 0)) l0 1 (hI (sI h l0 0 (hI h l1 0)) l1 1)) l1 2)) l1 3)) l0 4 (hI (sI (sI (sI (sI h l0 0 (hI h l1 0)) l0 1 (hI (sI h l0 0 (hI h l1 0)) l1 1)) l0 2 (hI (sI (sI h l0 0 (hI h l1 0)) l0 1 (hI (sI h l0 0 (hI h l1 0)) l1 1)) l1 2)) l0 3 (hI (sI (sI (sI h l0 0 (hI h l1 0)) l0 1 (hI (sI h l0 0 (hI h l1 0)) l1 1)) l0 2 (hI (sI (sI h l0 0 (hI h l1 0)) l0 1 (hI (sI h l0 0 (hI h l1 0)) l1 1)) l1 2)) l1 3)) l1 4)) l0 5 (hI (sI (sI (sI (sI (sI h l0 0 (hI h l1 0)) l0 1 (hI (sI h l0 0 (hI h l1 0)) l1 1)) l0 2 (hI (sI (sI h l0 0 (hI h l1 0)) l0 1 (hI (sI h l0 0 (hI h l1 0)) l1 1)) l1 2)) l0 3 (hI (sI (sI (sI h l0 0 (hI h l1 0)) l0 1 (hI (sI h l0 0 (hI h l1 0)) l1 1)) l0 2 (hI (sI (sI h l0 0 (hI h l1 0)) l0 1 (hI (sI h l0 0 (hI h l1 0)) l1 1)) l1 2)) l1 3)) l0 4 (hI (sI (sI (sI (sI h l0 0 (hI h l1 0)) l0 1 (hI (sI h l0 0 (hI h l1 0)) l1 1)) l0 2 (hI (sI (sI h l0 0 (hI h l1 0)) l0 1 (hI (sI h l0 0 (hI h l1 0)) l1 1)) l1 2)) l0 3 (hI (sI (sI (sI h l0 0 (hI h l1 0)) l0 1 (hI (sI h l0 0 (hI h l1 0)) l1 1)) l0 2 (hI (sI (sI h l0 0 (hI h l1 0)) l0 1 (hI (sI h l0 0 (hI h l1 0)) l1 1)) l1 2)) l1 3)) l1 4)) l1 5)) l1 6)) l0 7 (hI (sI (sI (sI (sI (sI (sI (sI h l0 0 (hI h l1 0)) l0 1 (hI (sI h l0 0 (hI h l1 0)) l1 1)) l0 2 (hI (sI (sI h l0 0 (hI h l1 0)) l0 1 (hI (sI h l0 0 (hI h l1 0)) l1 1)) l1 2)) l0 3 (hI (sI (sI (sI h l0 0 (hI h l1 0)) l0 1 (hI (sI h l0 0 (hI h l1 0)) l1 1)) l0 2 (hI (sI (sI h l0 0 (hI h l1 0)) l0 1 (hI (sI h l0 0 (hI h l1 0)) l1 1)) l1 2)) l1 3)) l0 4 (hI (sI (sI (sI (sI h l0 0 (hI h l1 0)) l0 1 (hI (sI h l0 0 (hI h l1 0)) l1 1)) l0 2 (hI (sI (sI h l0 0 (hI h l1 0)) l0 1 (hI (sI h l0 0 (hI h l1 0)) l1 1)) l1 2)) l0 3 (hI (sI (sI (sI h l0 0 (hI h l1 0)) l0 1 (hI (sI h l0 0 (hI h l1 0)) l1 1)) l0 2 (hI (sI (sI h l0 0 (hI h l1 0)) l0 1 (hI (sI h l0 0 (hI h l1 0)) l1 1)) l1 2)) l1 3)) l1 4)) l0 5 (hI (sI (sI (sI (sI (sI h l0 0 (hI h l1 0)) l0 1 (hI (sI h l0 0 (hI h l1 0)) l1 1)) l0 2 (hI (sI (sI h l0 0 (hI h l1 0)) l0 1 (hI (sI h l0 0 (hI h l1 0)) l1 1)) l1 2)) l0 3 (hI (sI (sI (sI h l0 0 (hI h l1 0)) l0 1 (hI (sI h l0 0 (hI h l1 0)) l1 1)) l0 2 (hI (sI (sI h l0 0 (hI h l1 0)) l0 1 (hI (sI h l0 0 (hI h l1 0)) l1 1)) l1 2)) l1 3)) l0 4 (hI (sI (sI (sI (sI h l0 0 (hI h l1 0)) l0 1 (hI (sI h l0 0 (hI h l1 0)) l1 1)) l0 2 (hI (sI (sI h l0 0 (hI h l1 0)) l0 1 (hI (sI h l0 0 (hI h l1 0)) l1 1)) l1 2)) l0 3 (hI (sI (sI (sI h l0 0 (hI h l1 0)) l0 1 (hI (sI h l0 0 (hI h l1 0)) l1 1)) l0 2 (hI (sI (sI h l0 0 (hI h l1 0)) l0 1 (hI (sI h l0 0 (hI h l1 0)) l1 1)) l1 2)) l1 3)) l1 4)) l1 5)) l0 6 (hI (sI (sI (sI (sI (sI (sI h l0 0 (hI h l1 0)) l0 1 (hI (sI h l0 0 (hI h l1 0)) l1 1)) l0 2 (hI (sI (sI h l0 0 (hI h l1 0)) l0 1 (hI (sI h l0 0 (hI h l1 0)) l1 1)) l1 2)) l0 3 (hI (sI (sI (sI h l0 0 (hI h l1 0)) l0 1 (hI (sI h l0 0 (hI h l1 0)) l1 1)) l0 2 (hI (sI (sI h l0 0 (hI h l1 0)) l0 1 (hI (sI h l0 0 (hI h l1 0)) l1 1)) l1 2)) l1 3)) l0 4 (hI (sI (sI (sI (sI h l0 0 (hI h l1 0)) l0 1 (hI (sI h l0 0 (hI h l1 0)) l1 1)) l0 2 (hI (sI (sI h l0 0 (hI h l1 0)) l0 1 (hI (sI h l0 0 (hI h l1 0)) l1 1)) l1 2)) l0 3 (hI (sI (sI (sI h l0 0 (hI h l1 0)) l0 1 (hI (sI h l0 0 (hI h l1 0)) l1 1)) l0 2 (hI (sI (sI h l0 0 (hI h l1 0)) l0 1 (hI (sI h l0 0 (hI h l1 0)) l1 1)) l1 2)) l1 3)) l1 4)) l0 5 (hI (sI (sI (sI (sI (sI h l0 0 (hI h l1 0)) l0 1 (hI (sI h l0 0 (hI h l1 0)) l1 1)) l0 2 (hI (sI (sI h l0 0 (hI h l1 0)) l0 1 (hI (sI h l0 0 (hI h l1 0)) l1 1)) l1 2)) l0 3 (hI (sI (sI (sI h l0 0 (hI h l1 0)) l0 1 (hI (sI h l0 0 (hI h l1 0)) l1 1)) l0 2 (hI (sI (sI h l0 0 (hI h l1 0)) l0 1 (hI (sI h l0 0 (hI h l1 0)) l1 1)) l1 2)) l1 3)) l0 4 (hI (sI (sI (sI (sI h l0 0 (hI h l1 0)) l0 1 (hI (sI h l0 0 (hI h l1 0)) l1 1)) l0 2 (hI (sI (sI h l0 0 (hI h l1 0)) l0 1 (hI (sI h l0 0 (hI h l1 0)) l1 1)) l1 2)) l0 3 (hI (sI (sI (sI h l0 0 (hI h l1 0)) l0 1 (hI (sI h l0 0 (hI h l1 0)) l1 1)) l0 2 (hI (sI (sI h l0 0 (hI h l1 0)) l0 1 (hI (sI h l0 0 (hI h l1 0)) l1 1)) l1 2)) l1 3)) l1 4)) l1 5)) l1 6)) l1 7)) l1 8)) l1 9)) 9 kl1 rfl (by decide) rfl lk_125 dX3_copyFrom_74 ?_
  refine ev_putL 9 kl0 rfl (by decide) rfl (by decide +kernel) rfl (by exact Nat.le_of_ble_eq_true rfl) lk_125 dX3_copyFrom_77 ?_
  refine ev_aload_n (n := 1) dX3_copyFrom_80 rfl rfl ?_
  refine ev_get (v := .ref (l1 + 1)) 10 kl1 rfl (by decide) rfl lk_126 dX3_copyFrom_81 ?_
  refine ev_iconst (v := 0) dX3_copyFrom_84 (by decide) ?_
  refine ev_aload_n (n := 0) dX3_copyFrom_85 rfl rfl ?_
  refine ev_get (v := .ref (l0 + 1)) 10 kl0 rfl (by decide) rfl lk_126 dX3_copyFrom_86 ?_
  refine ev_iconst (v := 0) dX3_copyFrom_89 (by decide) ?_
  refine ev_aload_n (n := 0) dX3_copyFrom_90 rfl rfl ?_
  refine ev_get (v := .ref (l0 + 1)) 10 kl0 rfl (by decide) rfl lk_126 dX3_copyFrom_91 ?_
  refine ev_alenI (v := 4) (kd_2_10 kl0) rfl dX3_copyFrom_94 ?_
  refine ev_copyI (n := 4) (kd_2_10 kl1) (kd_2_10 kl0) (by decide) (by decide) (Nat.le_of_ble_eq_true rfl) lk_260 dX3_copyFrom_95 ?_
  refine ev_iconst (v := 0) dX3_copyFrom_98 (by decide) ?_
  refine ev_istore_n (lv2 := [(2, .int (0 : Int32)), (0, .ref l0), (1, .ref l1)]) dX3_copyFrom_99 rfl (by decide) rfl ?_
  obtain ⟨h5, e6, hf⟩ := bn1_of hf
  refine ev_sub [1, 2, 0] rfl (lv2 := [(0, .ref l0), (1, .ref l1), (2, .int (0 : Int32))]) ?_
  refine lp_X3_copyFrom_100 kl0 kl1 ?_ fu _ _ e6
  obtain rfl := Option.some.inj hf
  exact ev_return_ dX3_copyFrom_129 rfl
def f_X3_isPeer_j16 (h : Hp)  : Option (Int32) := (some (0 : Int32))
set_option maxRecDepth 100000 in
set_option maxHeartbeats 4000000 in
theorem jn_X3_isPeer_16 {g : Gl} {h : Hp}   {rv : Int32}    (hf : f_X3_isPeer_j16 h = some rv) : Ev yX3_isPeer cX3_isPeer 2 (some .boolean) 0 0 g 16 [] [] h (some (.int rv)) h := by
  unfold f_X3_isPeer_j16 at hf
  refine ev_iconst (v := 0) dX3_isPeer_16 (by decide) ?_
  obtain rfl := Option.some.inj hf
  exact ev_ireturn dX3_isPeer_17 ⟨.boolean, rfl, rfl⟩
def f_X3_isPeer (h : Hp) (l0 : Nat) (l1 : Int32) : Option (Int32) := (if l1 < 0 then (f_X3_isPeer_j16 h) else (if (hI h l0 4) ≤ l1 then (f_X3_isPeer_j16 h) else (some (1 : Int32))))
set_option maxRecDepth 100000 in
set_option maxHeartbeats 4000000 in
theorem ev_X3_isPeer {g : Gl} {h : Hp} {l0 : Nat} {l1 : Int32} {rv : Int32} (kl0 : KD g.1 l0 2 0) (hf : f_X3_isPeer h l0 l1 = some rv) : Ev yX3_isPeer cX3_isPeer 2 (some .boolean) 0 0 g 0 [] [(0, .ref l0), (1, .int l1)] h (some (.int rv)) h := by
  unfold f_X3_isPeer at hf
  refine ev_iload_n (n := 1) dX3_isPeer_0 rfl rfl ?_
  refine ev_if_lt (tgt := 16) dX3_isPeer_1 (by decide) (fun c1 => ?_) (fun c1 => ?_)
  · replace hf := if_t c1 hf
    refine ev_sub [] rfl (lv2 := []) ?_
    exact jn_X3_isPeer_16 hf
  · replace hf := if_f c1 hf
    refine ev_iload_n (n := 1) dX3_isPeer_4 rfl rfl ?_
    refine ev_aload_n (n := 0) dX3_isPeer_5 rfl rfl ?_
    refine ev_get (v := .int (hI h l0 4)) 4 kl0 rfl (by decide) rfl lk_113 dX3_isPeer_6 ?_
    refine ev_icmp_ge (tgt := 16) dX3_isPeer_9 (by decide) (fun c1 => ?_) (fun c1 => ?_)
    · replace hf := if_t c1 hf
      refine ev_sub [] rfl (lv2 := []) ?_
      exact jn_X3_isPeer_16 hf
    · replace hf := if_f c1 hf
      refine ev_iconst (v := 1) dX3_isPeer_12 (by decide) ?_
      refine ev_goto (tgt := 17) dX3_isPeer_13 (by decide) ?_
      obtain rfl := Option.some.inj hf
      exact ev_ireturn dX3_isPeer_17 ⟨.boolean, rfl, rfl⟩
def f_X3_isPair_j25 (h : Hp)  : Option (Int32) := (some (0 : Int32))
set_option maxRecDepth 100000 in
set_option maxHeartbeats 4000000 in
theorem jn_X3_isPair_25 {g : Gl} {h : Hp}   {rv : Int32}    (hf : f_X3_isPair_j25 h = some rv) : Ev yX3_isPair cX3_isPair 3 (some .boolean) 1 21 g 25 [] [] h (some (.int rv)) h := by
  unfold f_X3_isPair_j25 at hf
  refine ev_iconst (v := 0) dX3_isPair_25 (by decide) ?_
  obtain rfl := Option.some.inj hf
  exact ev_ireturn dX3_isPair_26 ⟨.boolean, rfl, rfl⟩
def f_X3_isPair (h : Hp) (l0 : Nat) (l1 : Int32) (l2 : Int32) : Option (Int32) := (bn1 (f_X3_isPeer h l0 l1) (fun v1 => (if v1 = 0 then (f_X3_isPair_j25 h) else (bn1 (f_X3_isPeer h l0 l2) (fun v3 => (if v3 = 0 then (f_X3_isPair_j25 h) else (if l1 = l2 then (f_X3_isPair_j25 h) else (some (1 : Int32)))))))))
set_option maxRecDepth 100000 in
set_option maxHeartbeats 4000000 in
theorem ev_X3_isPair {g : Gl} {h : Hp} {l0 : Nat} {l1 : Int32} {l2 : Int32} {rv : Int32} (kl0 : KD g.1 l0 2 0) (hf : f_X3_isPair h l0 l1 l2 = some rv) : Ev yX3_isPair cX3_isPair 3 (some .boolean) 1 21 g 0 [] [(0, .ref l0), (1, .int l1), (2, .int l2)] h (some (.int rv)) h := by
  unfold f_X3_isPair at hf
  refine ev_aload_n (n := 0) dX3_isPair_0 rfl rfl ?_
  refine ev_iload_n (n := 1) dX3_isPair_1 rfl rfl ?_
  obtain ⟨v1, e2, hf⟩ := bn1_of hf
  refine ev_callVi (As := [.int l1]) cal_X3_isPeer kl0 rfl (ev_X3_isPeer kl0 e2) (Nat.le_of_ble_eq_true rfl) rfl lk_293 (by decide) (by decide) (Nat.le_of_ble_eq_true rfl) dX3_isPair_2 rfl ?_
  refine ev_if_eq (tgt := 25) dX3_isPair_5 (by decide) (fun c1 => ?_) (fun c1 => ?_)
  · replace hf := if_t c1 hf
    refine ev_sub [] rfl (lv2 := []) ?_
    exact jn_X3_isPair_25 hf
  · replace hf := if_f c1 hf
    refine ev_aload_n (n := 0) dX3_isPair_8 rfl rfl ?_
    refine ev_iload_n (n := 2) dX3_isPair_9 rfl rfl ?_
    obtain ⟨v3, e4, hf⟩ := bn1_of hf
    refine ev_callVi (As := [.int l2]) cal_X3_isPeer kl0 rfl (ev_X3_isPeer kl0 e4) (Nat.le_of_ble_eq_true rfl) rfl lk_293 (by decide) (by decide) (Nat.le_of_ble_eq_true rfl) dX3_isPair_10 rfl ?_
    refine ev_if_eq (tgt := 25) dX3_isPair_13 (by decide) (fun c1 => ?_) (fun c1 => ?_)
    · replace hf := if_t c1 hf
      refine ev_sub [] rfl (lv2 := []) ?_
      exact jn_X3_isPair_25 hf
    · replace hf := if_f c1 hf
      refine ev_iload_n (n := 1) dX3_isPair_16 rfl rfl ?_
      refine ev_iload_n (n := 2) dX3_isPair_17 rfl rfl ?_
      refine ev_icmp_eq (tgt := 25) dX3_isPair_18 (by decide) (fun c1 => ?_) (fun c1 => ?_)
      · replace hf := if_t c1 hf
        refine ev_sub [] rfl (lv2 := []) ?_
        exact jn_X3_isPair_25 hf
      · replace hf := if_f c1 hf
        refine ev_iconst (v := 1) dX3_isPair_21 (by decide) ?_
        refine ev_goto (tgt := 26) dX3_isPair_22 (by decide) ?_
        obtain rfl := Option.some.inj hf
        exact ev_ireturn dX3_isPair_26 ⟨.boolean, rfl, rfl⟩
def f_X3_isPiece_j16 (h : Hp)  : Option (Int32) := (some (0 : Int32))
set_option maxRecDepth 100000 in
set_option maxHeartbeats 4000000 in
theorem jn_X3_isPiece_16 {g : Gl} {h : Hp}   {rv : Int32}    (hf : f_X3_isPiece_j16 h = some rv) : Ev yX3_isPiece cX3_isPiece 2 (some .boolean) 0 0 g 16 [] [] h (some (.int rv)) h := by
  unfold f_X3_isPiece_j16 at hf
  refine ev_iconst (v := 0) dX3_isPiece_16 (by decide) ?_
  obtain rfl := Option.some.inj hf
  exact ev_ireturn dX3_isPiece_17 ⟨.boolean, rfl, rfl⟩
def f_X3_isPiece (h : Hp) (l0 : Nat) (l1 : Int32) : Option (Int32) := (if l1 < 0 then (f_X3_isPiece_j16 h) else (if (hI h l0 0) ≤ l1 then (f_X3_isPiece_j16 h) else (some (1 : Int32))))
set_option maxRecDepth 100000 in
set_option maxHeartbeats 4000000 in
theorem ev_X3_isPiece {g : Gl} {h : Hp} {l0 : Nat} {l1 : Int32} {rv : Int32} (kl0 : KD g.1 l0 2 0) (hf : f_X3_isPiece h l0 l1 = some rv) : Ev yX3_isPiece cX3_isPiece 2 (some .boolean) 0 0 g 0 [] [(0, .ref l0), (1, .int l1)] h (some (.int rv)) h := by
  unfold f_X3_isPiece at hf
  refine ev_iload_n (n := 1) dX3_isPiece_0 rfl rfl ?_
  refine ev_if_lt (tgt := 16) dX3_isPiece_1 (by decide) (fun c1 => ?_) (fun c1 => ?_)
  · replace hf := if_t c1 hf
    refine ev_sub [] rfl (lv2 := []) ?_
    exact jn_X3_isPiece_16 hf
  · replace hf := if_f c1 hf
    refine ev_iload_n (n := 1) dX3_isPiece_4 rfl rfl ?_
    refine ev_aload_n (n := 0) dX3_isPiece_5 rfl rfl ?_
    refine ev_get (v := .int (hI h l0 0)) 0 kl0 rfl (by decide) rfl lk_103 dX3_isPiece_6 ?_
    refine ev_icmp_ge (tgt := 16) dX3_isPiece_9 (by decide) (fun c1 => ?_) (fun c1 => ?_)
    · replace hf := if_t c1 hf
      refine ev_sub [] rfl (lv2 := []) ?_
      exact jn_X3_isPiece_16 hf
    · replace hf := if_f c1 hf
      refine ev_iconst (v := 1) dX3_isPiece_12 (by decide) ?_
      refine ev_goto (tgt := 17) dX3_isPiece_13 (by decide) ?_
      obtain rfl := Option.some.inj hf
      exact ev_ireturn dX3_isPiece_17 ⟨.boolean, rfl, rfl⟩
def f_X3_refusesPeer_j19 (h : Hp)  : Option (Int32) := (some (-2 : Int32))
set_option maxRecDepth 100000 in
set_option maxHeartbeats 4000000 in
theorem jn_X3_refusesPeer_19 {g : Gl} {h : Hp}   {rv : Int32}    (hf : f_X3_refusesPeer_j19 h = some rv) : Ev yX3_refusesPeer cX3_refusesPeer 3 (some .int) 0 0 g 19 [] [] h (some (.int rv)) h := by
  unfold f_X3_refusesPeer_j19 at hf
  refine ev_bipush (v := -2) dX3_refusesPeer_19 (by decide) ?_
  obtain rfl := Option.some.inj hf
  exact ev_ireturn dX3_refusesPeer_21 ⟨.int, rfl, rfl⟩
def f_X3_refusesPeer (h : Hp) (l0 : Nat) (l1 : Int32) (l2 : Int32) : Option (Int32) := (if l1 < 0 then (f_X3_refusesPeer_j19 h) else (if (2 : Int32) < l1 then (f_X3_refusesPeer_j19 h) else (if l2 < (1 : Int32) then (f_X3_refusesPeer_j19 h) else (if l2 ≤ (4 : Int32) then (if (hI h l0 4) < (6 : Int32) then (some (0 : Int32)) else (some (-4 : Int32))) else (f_X3_refusesPeer_j19 h)))))
set_option maxRecDepth 100000 in
set_option maxHeartbeats 4000000 in
theorem ev_X3_refusesPeer {g : Gl} {h : Hp} {l0 : Nat} {l1 : Int32} {l2 : Int32} {rv : Int32} (kl0 : KD g.1 l0 2 0) (hf : f_X3_refusesPeer h l0 l1 l2 = some rv) : Ev yX3_refusesPeer cX3_refusesPeer 3 (some .int) 0 0 g 0 [] [(0, .ref l0), (1, .int l1), (2, .int l2)] h (some (.int rv)) h := by
  unfold f_X3_refusesPeer at hf
  refine ev_iload_n (n := 1) dX3_refusesPeer_0 rfl rfl ?_
  refine ev_if_lt (tgt := 19) dX3_refusesPeer_1 (by decide) (fun c1 => ?_) (fun c1 => ?_)
  · replace hf := if_t c1 hf
    refine ev_sub [] rfl (lv2 := []) ?_
    exact jn_X3_refusesPeer_19 hf
  · replace hf := if_f c1 hf
    refine ev_iload_n (n := 1) dX3_refusesPeer_4 rfl rfl ?_
    refine ev_iconst (v := 2) dX3_refusesPeer_5 (by decide) ?_
    refine ev_icmp_gt (tgt := 19) dX3_refusesPeer_6 (by decide) (fun c1 => ?_) (fun c1 => ?_)
    · replace hf := if_t c1 hf
      refine ev_sub [] rfl (lv2 := []) ?_
      exact jn_X3_refusesPeer_19 hf
    · replace hf := if_f c1 hf
      refine ev_iload_n (n := 2) dX3_refusesPeer_9 rfl rfl ?_
      refine ev_iconst (v := 1) dX3_refusesPeer_10 (by decide) ?_
      refine ev_icmp_lt (tgt := 19) dX3_refusesPeer_11 (by decide) (fun c1 => ?_) (fun c1 => ?_)
      · replace hf := if_t c1 hf
        refine ev_sub [] rfl (lv2 := []) ?_
        exact jn_X3_refusesPeer_19 hf
      · replace hf := if_f c1 hf
        refine ev_iload_n (n := 2) dX3_refusesPeer_14 rfl rfl ?_
        refine ev_iconst (v := 4) dX3_refusesPeer_15 (by decide) ?_
        refine ev_icmp_le (tgt := 22) dX3_refusesPeer_16 (by decide) (fun c1 => ?_) (fun c1 => ?_)
        · replace hf := if_t c1 hf
          refine ev_aload_n (n := 0) dX3_refusesPeer_22 rfl rfl ?_
          refine ev_get (v := .int (hI h l0 4)) 4 kl0 rfl (by decide) rfl lk_113 dX3_refusesPeer_23 ?_
          refine ev_bipush (v := 6) dX3_refusesPeer_26 (by decide) ?_
          refine ev_icmp_lt (tgt := 36) dX3_refusesPeer_28 (by decide) (fun c1 => ?_) (fun c1 => ?_)
          · replace hf := if_t c1 hf
            refine ev_iconst (v := 0) dX3_refusesPeer_36 (by decide) ?_
            obtain rfl := Option.some.inj hf
            exact ev_ireturn dX3_refusesPeer_37 ⟨.int, rfl, rfl⟩
          · replace hf := if_f c1 hf
            refine ev_bipush (v := -4) dX3_refusesPeer_31 (by decide) ?_
            refine ev_goto (tgt := 37) dX3_refusesPeer_33 (by decide) ?_
            obtain rfl := Option.some.inj hf
            exact ev_ireturn dX3_refusesPeer_37 ⟨.int, rfl, rfl⟩
        · replace hf := if_f c1 hf
          refine ev_sub [] rfl (lv2 := []) ?_
          exact jn_X3_refusesPeer_19 hf
def f_X3_addPeer (h : Hp) (l0 : Nat) (l1 : Int32) (l2 : Int32) : Option (Int32 × Hp) := (if inb (hI h l0 4) 6 = true then (bn1 (f_X1_startAs h ((l0 + 2) + 1 + 4 * (hI h l0 4).toNatClampNeg) l1 l2) (fun h2 => (some ((hI h l0 4), (sI h2 l0 4 ((hI h2 l0 4) + (1 : Int32))))))) else none)
set_option maxRecDepth 100000 in
set_option maxHeartbeats 4000000 in
theorem ev_X3_addPeer {g : Gl} {h : Hp} {l0 : Nat} {l1 : Int32} {l2 : Int32} {rv : Int32} {h2 : Hp} (kl0 : KD g.1 l0 2 0) (hf : f_X3_addPeer h l0 l1 l2 = some (rv, h2)) : Ev yX3_addPeer cX3_addPeer 4 (some .int) 1 23 g 0 [] [(0, .ref l0), (1, .int l1), (2, .int l2)] h (some (.int rv)) h2 := by
  unfold f_X3_addPeer at hf
  refine ev_aload_n (n := 0) dX3_addPeer_0 rfl rfl ?_
  refine ev_get (v := .int (hI h l0 4)) 4 kl0 rfl (by decide) rfl lk_113 dX3_addPeer_1 ?_
  refine ev_istore_n (lv2 := [(3, .int (hI h l0 4)), (0, .ref l0), (1, .int l1), (2, .int l2)]) dX3_addPeer_4 rfl (by decide) rfl ?_
  refine ev_aload_n (n := 1) dX3_addPeer_5 rfl rfl ?_
  refine ev_get (v := .ref (l0 + 2)) 11 kl0 rfl (by decide) rfl lk_129 dX3_addPeer_6 ?_
  refine ev_iload_n (n := 0) dX3_addPeer_9 rfl rfl ?_
  obtain ⟨gd1, hf⟩ := gd_of hf
  refine ev_aaldP (kd_2_11 kl0) (inb_of gd1) dX3_addPeer_10 ?_
  refine ev_iload_n (n := 2) dX3_addPeer_11 rfl rfl ?_
  refine ev_iload_n (n := 3) dX3_addPeer_12 rfl rfl ?_
  obtain ⟨h2, e3, hf⟩ := bn1_of hf
  refine ev_callVv (As := [.int l1, .int l2]) cal_X1_startAs (kdPA (kd_2_11 kl0) (inb_of gd1)) rfl (ev_X1_startAs (kdPA (kd_2_11 kl0) (inb_of gd1)) e3) (Nat.le_of_ble_eq_true rfl) rfl lk_281 (by decide) (by decide) (Nat.le_of_ble_eq_true rfl) dX3_addPeer_13 rfl ?_
  refine ev_aload_n (n := 1) dX3_addPeer_16 rfl rfl ?_
  refine ev_dup dX3_addPeer_17 rfl ?_
  refine ev_get (v := .int (hI h2 l0 4)) 4 kl0 rfl (by decide) rfl lk_113 dX3_addPeer_18 ?_
  refine ev_iconst (v := 1) dX3_addPeer_21 (by decide) ?_
  refine ev_iadd dX3_addPeer_22 ?_
  refine ev_putI 4 kl0 rfl (by decide) rfl (by decide +kernel) rfl (by exact Nat.le_of_ble_eq_true rfl) lk_113 dX3_addPeer_23 ?_
  refine ev_iload_n (n := 0) dX3_addPeer_26 rfl rfl ?_
  obtain ⟨rfl, rfl⟩ := Prod.mk.inj (Option.some.inj hf)
  exact ev_ireturn dX3_addPeer_27 ⟨.int, rfl, rfl⟩
def f_X3_refusesGift_j16 (h : Hp)  : Option (Int32) := (some (-2 : Int32))
set_option maxRecDepth 100000 in
set_option maxHeartbeats 4000000 in
theorem jn_X3_refusesGift_16 {g : Gl} {h : Hp}   {rv : Int32}    (hf : f_X3_refusesGift_j16 h = some rv) : Ev yX3_refusesGift cX3_refusesGift 3 (some .int) 1 21 g 16 [] [] h (some (.int rv)) h := by
  unfold f_X3_refusesGift_j16 at hf
  refine ev_bipush (v := -2) dX3_refusesGift_16 (by decide) ?_
  obtain rfl := Option.some.inj hf
  exact ev_ireturn dX3_refusesGift_18 ⟨.int, rfl, rfl⟩
def f_X3_refusesGift_j45 (h : Hp)  : Option (Int32) := (some (-3 : Int32))
set_option maxRecDepth 100000 in
set_option maxHeartbeats 4000000 in
theorem jn_X3_refusesGift_45 {g : Gl} {h : Hp}   {rv : Int32}    (hf : f_X3_refusesGift_j45 h = some rv) : Ev yX3_refusesGift cX3_refusesGift 3 (some .int) 1 21 g 45 [] [] h (some (.int rv)) h := by
  unfold f_X3_refusesGift_j45 at hf
  refine ev_bipush (v := -3) dX3_refusesGift_45 (by decide) ?_
  refine ev_goto (tgt := 51) dX3_refusesGift_47 (by decide) ?_
  obtain rfl := Option.some.inj hf
  exact ev_ireturn dX3_refusesGift_51 ⟨.int, rfl, rfl⟩
def f_X3_refusesGift (h : Hp) (l0 : Nat) (l1 : Int32) (l2 : Int32) : Option (Int32) := (bn1 (f_X3_isPeer h l0 l1) (fun v1 => (if v1 = 0 then (f_X3_refusesGift_j16 h) else (bn1 (f_X3_isPiece h l0 l2) (fun v3 => (if v3 = 0 then (f_X3_refusesGift_j16 h) else (if inb l1 6 = true then (if (hI h ((l0 + 2) + 1 + 4 * l1.toNatClampNeg) 0) = (2 : Int32) then (f_X3_refusesGift_j45 h) else (if inb l1 6 = true then (bn1 (f_X1_hasPiece h ((l0 + 2) + 1 + 4 * l1.toNatClampNeg) l2) (fun v7 => (if v7 = 0 then (some (0 : Int32)) else (f_X3_refusesGift_j45 h)))) else none)) else none)))))))
set_option maxRecDepth 100000 in
set_option maxHeartbeats 4000000 in
theorem ev_X3_refusesGift {g : Gl} {h : Hp} {l0 : Nat} {l1 : Int32} {l2 : Int32} {rv : Int32} (kl0 : KD g.1 l0 2 0) (hf : f_X3_refusesGift h l0 l1 l2 = some rv) : Ev yX3_refusesGift cX3_refusesGift 3 (some .int) 1 21 g 0 [] [(0, .ref l0), (1, .int l1), (2, .int l2)] h (some (.int rv)) h := by
  unfold f_X3_refusesGift at hf
  refine ev_aload_n (n := 0) dX3_refusesGift_0 rfl rfl ?_
  refine ev_iload_n (n := 1) dX3_refusesGift_1 rfl rfl ?_
  obtain ⟨v1, e2, hf⟩ := bn1_of hf
  refine ev_callVi (As := [.int l1]) cal_X3_isPeer kl0 rfl (ev_X3_isPeer kl0 e2) (Nat.le_of_ble_eq_true rfl) rfl lk_293 (by decide) (by decide) (Nat.le_of_ble_eq_true rfl) dX3_refusesGift_2 rfl ?_
  refine ev_if_eq (tgt := 16) dX3_refusesGift_5 (by decide) (fun c1 => ?_) (fun c1 => ?_)
  · replace hf := if_t c1 hf
    refine ev_sub [] rfl (lv2 := []) ?_
    exact jn_X3_refusesGift_16 hf
  · replace hf := if_f c1 hf
    refine ev_aload_n (n := 0) dX3_refusesGift_8 rfl rfl ?_
    refine ev_iload_n (n := 2) dX3_refusesGift_9 rfl rfl ?_
    obtain ⟨v3, e4, hf⟩ := bn1_of hf
    refine ev_callVi (As := [.int l2]) cal_X3_isPiece kl0 rfl (ev_X3_isPiece kl0 e4) (Nat.le_of_ble_eq_true rfl) rfl lk_297 (by decide) (by decide) (Nat.le_of_ble_eq_true rfl) dX3_refusesGift_10 rfl ?_
    refine ev_if_ne (tgt := 19) dX3_refusesGift_13 (by decide) (fun c1 => ?_) (fun c1 => ?_)
    · replace hf := if_f c1 hf
      refine ev_aload_n (n := 0) dX3_refusesGift_19 rfl rfl ?_
      refine ev_get (v := .ref (l0 + 2)) 11 kl0 rfl (by decide) rfl lk_129 dX3_refusesGift_20 ?_
      refine ev_iload_n (n := 1) dX3_refusesGift_23 rfl rfl ?_
      obtain ⟨gd5, hf⟩ := gd_of hf
      refine ev_aaldP (kd_2_11 kl0) (inb_of gd5) dX3_refusesGift_24 ?_
      refine ev_get (v := .int (hI h ((l0 + 2) + 1 + 4 * l1.toNatClampNeg) 0)) 0 (kdPA (kd_2_11 kl0) (inb_of gd5)) rfl (by decide) rfl lk_37 dX3_refusesGift_25 ?_
      refine ev_iconst (v := 2) dX3_refusesGift_28 (by decide) ?_
      refine ev_icmp_eq (tgt := 45) dX3_refusesGift_29 (by decide) (fun c1 => ?_) (fun c1 => ?_)
      · replace hf := if_t c1 hf
        refine ev_sub [] rfl (lv2 := []) ?_
        exact jn_X3_refusesGift_45 hf
      · replace hf := if_f c1 hf
        refine ev_aload_n (n := 0) dX3_refusesGift_32 rfl rfl ?_
        refine ev_get (v := .ref (l0 + 2)) 11 kl0 rfl (by decide) rfl lk_129 dX3_refusesGift_33 ?_
        refine ev_iload_n (n := 1) dX3_refusesGift_36 rfl rfl ?_
        obtain ⟨gd6, hf⟩ := gd_of hf
        refine ev_aaldP (kd_2_11 kl0) (inb_of gd6) dX3_refusesGift_37 ?_
        refine ev_iload_n (n := 2) dX3_refusesGift_38 rfl rfl ?_
        obtain ⟨v7, e8, hf⟩ := bn1_of hf
        refine ev_callVi (As := [.int l2]) cal_X1_hasPiece (kdPA (kd_2_11 kl0) (inb_of gd6)) rfl (ev_X1_hasPiece (kdPA (kd_2_11 kl0) (inb_of gd6)) e8) (Nat.le_of_ble_eq_true rfl) rfl lk_301 (by decide) (by decide) (Nat.le_of_ble_eq_true rfl) dX3_refusesGift_39 rfl ?_
        refine ev_if_eq (tgt := 50) dX3_refusesGift_42 (by decide) (fun c1 => ?_) (fun c1 => ?_)
        · replace hf := if_t c1 hf
          refine ev_iconst (v := 0) dX3_refusesGift_50 (by decide) ?_
          obtain rfl := Option.some.inj hf
          exact ev_ireturn dX3_refusesGift_51 ⟨.int, rfl, rfl⟩
        · replace hf := if_f c1 hf
          refine ev_sub [] rfl (lv2 := []) ?_
          exact jn_X3_refusesGift_45 hf
    · replace hf := if_t c1 hf
      refine ev_sub [] rfl (lv2 := []) ?_
      exact jn_X3_refusesGift_16 hf
def f_X3_takeGift (h : Hp) (l0 : Nat) (l1 : Int32) (l2 : Int32) : Option (Int32 × Hp) := (if inb l1 6 = true then (bn1 (f_X1_loseBlocks h ((l0 + 2) + 1 + 4 * l1.toNatClampNeg) l2) (fun h2 => (if inb l1 6 = true then (if inb l1 6 = true then (bn1 (f_J6_bitCount_0f7a4 (sI h2 ((l0 + 2) + 1 + 4 * l1.toNatClampNeg) 2 ((hI h2 ((l0 + 2) + 1 + 4 * l1.toNatClampNeg) 2) ||| ((1 : Int32) <<< (l2 &&& 31)))) (hI (sI h2 ((l0 + 2) + 1 + 4 * l1.toNatClampNeg) 2 ((hI h2 ((l0 + 2) + 1 + 4 * l1.toNatClampNeg) 2) ||| ((1 : Int32) <<< (l2 &&& 31)))) ((l0 + 2) + 1 + 4 * l1.toNatClampNeg) 2)) (fun v6 => (some (v6, (sI h2 ((l0 + 2) + 1 + 4 * l1.toNatClampNeg) 2 ((hI h2 ((l0 + 2) + 1 + 4 * l1.toNatClampNeg) 2) ||| ((1 : Int32) <<< (l2 &&& 31)))))))) else none) else none))) else none)
set_option maxRecDepth 100000 in
set_option maxHeartbeats 4000000 in
theorem ev_X3_takeGift {g : Gl} {h : Hp} {l0 : Nat} {l1 : Int32} {l2 : Int32} {rv : Int32} {h2 : Hp} (kl0 : KD g.1 l0 2 0) (hf : f_X3_takeGift h l0 l1 l2 = some (rv, h2)) : Ev yX3_takeGift cX3_takeGift 3 (some .int) 1 21 g 0 [] [(0, .ref l0), (1, .int l1), (2, .int l2)] h (some (.int rv)) h2 := by
  unfold f_X3_takeGift at hf
  refine ev_aload_n (n := 0) dX3_takeGift_0 rfl rfl ?_
  refine ev_get (v := .ref (l0 + 2)) 11 kl0 rfl (by decide) rfl lk_129 dX3_takeGift_1 ?_
  refine ev_iload_n (n := 1) dX3_takeGift_4 rfl rfl ?_
  obtain ⟨gd1, hf⟩ := gd_of hf
  refine ev_aaldP (kd_2_11 kl0) (inb_of gd1) dX3_takeGift_5 ?_
  refine ev_iload_n (n := 2) dX3_takeGift_6 rfl rfl ?_
  obtain ⟨h2, e3, hf⟩ := bn1_of hf
  refine ev_callVv (As := [.int l2]) cal_X1_loseBlocks (kdPA (kd_2_11 kl0) (inb_of gd1)) rfl (ev_X1_loseBlocks (kdPA (kd_2_11 kl0) (inb_of gd1)) e3) (Nat.le_of_ble_eq_true rfl) rfl lk_309 (by decide) (by decide) (Nat.le_of_ble_eq_true rfl) dX3_takeGift_7 rfl ?_
  refine ev_aload_n (n := 0) dX3_takeGift_10 rfl rfl ?_
  refine ev_get (v := .ref (l0 + 2)) 11 kl0 rfl (by decide) rfl lk_129 dX3_takeGift_11 ?_
  refine ev_iload_n (n := 1) dX3_takeGift_14 rfl rfl ?_
  obtain ⟨gd4, hf⟩ := gd_of hf
  refine ev_aaldP (kd_2_11 kl0) (inb_of gd4) dX3_takeGift_15 ?_
  refine ev_dup dX3_takeGift_16 rfl ?_
  refine ev_get (v := .int (hI h2 ((l0 + 2) + 1 + 4 * l1.toNatClampNeg) 2)) 2 (kdPA (kd_2_11 kl0) (inb_of gd4)) rfl (by decide) rfl lk_43 dX3_takeGift_17 ?_
  refine ev_iconst (v := 1) dX3_takeGift_20 (by decide) ?_
  refine ev_iload_n (n := 2) dX3_takeGift_21 rfl rfl ?_
  refine ev_ishl dX3_takeGift_22 ?_
  refine ev_ior dX3_takeGift_23 ?_
  refine ev_putI 2 (kdPA (kd_2_11 kl0) (inb_of gd4)) rfl (by decide) rfl (by decide +kernel) rfl (by exact Nat.le_of_ble_eq_true rfl) lk_43 dX3_takeGift_24 ?_
  refine ev_aload_n (n := 0) dX3_takeGift_27 rfl rfl ?_
  refine ev_get (v := .ref (l0 + 2)) 11 kl0 rfl (by decide) rfl lk_129 dX3_takeGift_28 ?_
  refine ev_iload_n (n := 1) dX3_takeGift_31 rfl rfl ?_
  obtain ⟨gd5, hf⟩ := gd_of hf
  refine ev_aaldP (kd_2_11 kl0) (inb_of gd5) dX3_takeGift_32 ?_
  refine ev_get (v := .int (hI (sI h2 ((l0 + 2) + 1 + 4 * l1.toNatClampNeg) 2 ((hI h2 ((l0 + 2) + 1 + 4 * l1.toNatClampNeg) 2) ||| ((1 : Int32) <<< (l2 &&& 31)))) ((l0 + 2) + 1 + 4 * l1.toNatClampNeg) 2)) 2 (kdPA (kd_2_11 kl0) (inb_of gd5)) rfl (by decide) rfl lk_43 dX3_takeGift_33 ?_
  obtain ⟨v6, e7, hf⟩ := bn1_of hf
  refine ev_callSi (As := [.int (hI (sI h2 ((l0 + 2) + 1 + 4 * l1.toNatClampNeg) 2 ((hI h2 ((l0 + 2) + 1 + 4 * l1.toNatClampNeg) 2) ||| ((1 : Int32) <<< (l2 &&& 31)))) ((l0 + 2) + 1 + 4 * l1.toNatClampNeg) 2)]) cal_J6_bitCount_0f7a4 (ev_J6_bitCount_0f7a4 e7) (Nat.le_of_ble_eq_true rfl) rfl lk_313 (by decide) (by decide) (Nat.le_of_ble_eq_true rfl) dX3_takeGift_36 rfl ?_
  obtain ⟨rfl, rfl⟩ := Prod.mk.inj (Option.some.inj hf)
  exact ev_ireturn dX3_takeGift_39 ⟨.int, rfl, rfl⟩
def f_X3_refusesSetting_j13 (h : Hp)  : Option (Int32) := (some (-2 : Int32))
set_option maxRecDepth 100000 in
set_option maxHeartbeats 4000000 in
theorem jn_X3_refusesSetting_13 {g : Gl} {h : Hp}   {rv : Int32}    (hf : f_X3_refusesSetting_j13 h = some rv) : Ev yX3_refusesSetting cX3_refusesSetting 3 (some .int) 0 0 g 13 [] [] h (some (.int rv)) h := by
  unfold f_X3_refusesSetting_j13 at hf
  refine ev_bipush (v := -2) dX3_refusesSetting_13 (by decide) ?_
  obtain rfl := Option.some.inj hf
  exact ev_ireturn dX3_refusesSetting_15 ⟨.int, rfl, rfl⟩
def f_X3_refusesSetting_j34 (h : Hp)  : Option (Int32) := (some (-2 : Int32))
set_option maxRecDepth 100000 in
set_option maxHeartbeats 4000000 in
theorem jn_X3_refusesSetting_34 {g : Gl} {h : Hp}   {rv : Int32}    (hf : f_X3_refusesSetting_j34 h = some rv) : Ev yX3_refusesSetting cX3_refusesSetting 3 (some .int) 0 0 g 34 [] [] h (some (.int rv)) h := by
  unfold f_X3_refusesSetting_j34 at hf
  refine ev_bipush (v := -2) dX3_refusesSetting_34 (by decide) ?_
  refine ev_goto (tgt := 40) dX3_refusesSetting_36 (by decide) ?_
  obtain rfl := Option.some.inj hf
  exact ev_ireturn dX3_refusesSetting_40 ⟨.int, rfl, rfl⟩
def f_X3_refusesSetting (h : Hp) (l0 : Nat) (l1 : Int32) (l2 : Int32) : Option (Int32) := (if l1 < 0 then (f_X3_refusesSetting_j13 h) else (if l1 < (4 : Int32) then (if inb l1 4 = true then (if l2 < (sa 1 l1.toNatClampNeg) then (f_X3_refusesSetting_j34 h) else (if inb l1 4 = true then (if l2 ≤ (sa 2 l1.toNatClampNeg) then (some (0 : Int32)) else (f_X3_refusesSetting_j34 h)) else none)) else none) else (f_X3_refusesSetting_j13 h)))
set_option maxRecDepth 100000 in
set_option maxHeartbeats 4000000 in
theorem ev_X3_refusesSetting {g : Gl} {h : Hp} {l0 : Nat} {l1 : Int32} {l2 : Int32} {rv : Int32} (kl0 : KD g.1 l0 2 0) (hf : f_X3_refusesSetting h l0 l1 l2 = some rv) : Ev yX3_refusesSetting cX3_refusesSetting 3 (some .int) 0 0 g 0 [] [(0, .ref l0), (1, .int l1), (2, .int l2)] h (some (.int rv)) h := by
  unfold f_X3_refusesSetting at hf
  refine ev_iload_n (n := 1) dX3_refusesSetting_0 rfl rfl ?_
  refine ev_if_lt (tgt := 13) dX3_refusesSetting_1 (by decide) (fun c1 => ?_) (fun c1 => ?_)
  · replace hf := if_t c1 hf
    refine ev_sub [] rfl (lv2 := []) ?_
    exact jn_X3_refusesSetting_13 hf
  · replace hf := if_f c1 hf
    refine ev_iload_n (n := 1) dX3_refusesSetting_4 rfl rfl ?_
    refine ev_aload_n (n := 0) dX3_refusesSetting_5 rfl rfl ?_
    refine ev_get (v := .ref (l0 + 1)) 10 kl0 rfl (by decide) rfl lk_126 dX3_refusesSetting_6 ?_
    refine ev_alenI (v := 4) (kd_2_10 kl0) rfl dX3_refusesSetting_9 ?_
    refine ev_icmp_lt (tgt := 16) dX3_refusesSetting_10 (by decide) (fun c1 => ?_) (fun c1 => ?_)
    · replace hf := if_t c1 hf
      refine ev_iload_n (n := 2) dX3_refusesSetting_16 rfl rfl ?_
      refine ev_gets 1 (by decide) rfl rfl dX3_refusesSetting_17 ?_
      refine ev_iload_n (n := 1) dX3_refusesSetting_20 rfl rfl ?_
      obtain ⟨gd1, hf⟩ := gd_of hf
      refine ev_tabld 1 (by decide) (inb_of gd1) dX3_refusesSetting_21 ?_
      refine ev_icmp_lt (tgt := 34) dX3_refusesSetting_22 (by decide) (fun c1 => ?_) (fun c1 => ?_)
      · replace hf := if_t c1 hf
        refine ev_sub [] rfl (lv2 := []) ?_
        exact jn_X3_refusesSetting_34 hf
      · replace hf := if_f c1 hf
        refine ev_iload_n (n := 2) dX3_refusesSetting_25 rfl rfl ?_
        refine ev_gets 2 (by decide) rfl rfl dX3_refusesSetting_26 ?_
        refine ev_iload_n (n := 1) dX3_refusesSetting_29 rfl rfl ?_
        obtain ⟨gd2, hf⟩ := gd_of hf
        refine ev_tabld 2 (by decide) (inb_of gd2) dX3_refusesSetting_30 ?_
        refine ev_icmp_le (tgt := 39) dX3_refusesSetting_31 (by decide) (fun c1 => ?_) (fun c1 => ?_)
        · replace hf := if_t c1 hf
          refine ev_iconst (v := 0) dX3_refusesSetting_39 (by decide) ?_
          obtain rfl := Option.some.inj hf
          exact ev_ireturn dX3_refusesSetting_40 ⟨.int, rfl, rfl⟩
        · replace hf := if_f c1 hf
          refine ev_sub [] rfl (lv2 := []) ?_
          exact jn_X3_refusesSetting_34 hf
    · replace hf := if_f c1 hf
      refine ev_sub [] rfl (lv2 := []) ?_
      exact jn_X3_refusesSetting_13 hf
def f_X3_changeSetting (h : Hp) (l0 : Nat) (l1 : Int32) (l2 : Int32) : Option (Int32 × Hp) := (if inb l1 4 = true then (if inb l1 4 = true then (some ((hI h (l0 + 1) l1.toNatClampNeg), (sI h (l0 + 1) l1.toNatClampNeg l2))) else none) else none)
set_option maxRecDepth 100000 in
set_option maxHeartbeats 4000000 in
theorem ev_X3_changeSetting {g : Gl} {h : Hp} {l0 : Nat} {l1 : Int32} {l2 : Int32} {rv : Int32} {h2 : Hp} (kl0 : KD g.1 l0 2 0) (hf : f_X3_changeSetting h l0 l1 l2 = some (rv, h2)) : Ev yX3_changeSetting cX3_changeSetting 4 (some .int) 0 0 g 0 [] [(0, .ref l0), (1, .int l1), (2, .int l2)] h (some (.int rv)) h2 := by
  unfold f_X3_changeSetting at hf
  refine ev_aload_n (n := 0) dX3_changeSetting_0 rfl rfl ?_
  refine ev_get (v := .ref (l0 + 1)) 10 kl0 rfl (by decide) rfl lk_126 dX3_changeSetting_1 ?_
  refine ev_iload_n (n := 1) dX3_changeSetting_4 rfl rfl ?_
  obtain ⟨gd1, hf⟩ := gd_of hf
  refine ev_iald (kd_2_10 kl0) (inb_of gd1) dX3_changeSetting_5 ?_
  refine ev_istore_n (lv2 := [(3, .int (hI h (l0 + 1) l1.toNatClampNeg)), (0, .ref l0), (1, .int l1), (2, .int l2)]) dX3_changeSetting_6 rfl (by decide) rfl ?_
  refine ev_aload_n (n := 1) dX3_changeSetting_7 rfl rfl ?_
  refine ev_get (v := .ref (l0 + 1)) 10 kl0 rfl (by decide) rfl lk_126 dX3_changeSetting_8 ?_
  refine ev_iload_n (n := 2) dX3_changeSetting_11 rfl rfl ?_
  refine ev_iload_n (n := 3) dX3_changeSetting_12 rfl rfl ?_
  obtain ⟨gd2, hf⟩ := gd_of hf
  refine ev_iast (kd_2_10 kl0) (inb_of gd2) dX3_changeSetting_13 ?_
  refine ev_iload_n (n := 0) dX3_changeSetting_14 rfl rfl ?_
  obtain ⟨rfl, rfl⟩ := Prod.mk.inj (Option.some.inj hf)
  exact ev_ireturn dX3_changeSetting_15 ⟨.int, rfl, rfl⟩
def f_X3_hasHonest_l2 (h : Hp) (l0 : Nat) : Nat → Int32 → Option (Nat)
  | 0, _ => none
  | fu1 + 1, l1 => (if (hI h l0 4) ≤ l1 then (some 1) else (if inb l1 6 = true then (if (hI h ((l0 + 2) + 1 + 4 * l1.toNatClampNeg) 0) = 0 then (some 0) else (f_X3_hasHonest_l2 h l0 fu1 (l1 + 1))) else none))
theorem f_X3_hasHonest_l2_s (h : Hp) (l0 : Nat) (fu1 : Nat) (l1 : Int32) : f_X3_hasHonest_l2 h l0 (fu1 + 1) l1 = (if (hI h l0 4) ≤ l1 then (some 1) else (if inb l1 6 = true then (if (hI h ((l0 + 2) + 1 + 4 * l1.toNatClampNeg) 0) = 0 then (some 0) else (f_X3_hasHonest_l2 h l0 fu1 (l1 + 1))) else none)) := rfl
theorem f_X3_hasHonest_l2_0 (h : Hp) (l0 : Nat) (l1 : Int32) : f_X3_hasHonest_l2 h l0 0 l1 = none := rfl
set_option maxRecDepth 100000 in
set_option maxHeartbeats 4000000 in
theorem lp_X3_hasHonest_2 {g : Gl} {h : Hp} {l0 : Nat} {r : Option Value} {h2 : Hp} {tg : Nat} (kl0 : KD g.1 l0 2 0) (hx0 : tg = 0 → Ev yX3_hasHonest cX3_hasHonest 2 (some .boolean) 0 0 g 22 [] [] h r h2) (hx1 : tg = 1 → Ev yX3_hasHonest cX3_hasHonest 2 (some .boolean) 0 0 g 30 [] [] h r h2) : ∀ (fu1 : Nat) (l1 : Int32), f_X3_hasHonest_l2 h l0 fu1 l1 = some tg → Ev yX3_hasHonest cX3_hasHonest 2 (some .boolean) 0 0 g 2 [] [(0, .ref l0), (1, .int l1)] h r h2 := by
  intro fu1
  induction fu1 with
  | zero =>
    intro l1 hf
    cases hf
  | succ fu1 ih =>
    intro l1 hf
    rw [f_X3_hasHonest_l2_s] at hf
    have hk := ih
    refine ev_iload_n (n := 1) dX3_hasHonest_2 rfl rfl ?_
    refine ev_aload_n (n := 0) dX3_hasHonest_3 rfl rfl ?_
    refine ev_get (v := .int (hI h l0 4)) 4 kl0 rfl (by decide) rfl lk_113 dX3_hasHonest_4 ?_
    refine ev_icmp_ge (tgt := 30) dX3_hasHonest_7 (by decide) (fun c1 => ?_) (fun c1 => ?_)
    · replace hf := if_t c1 hf
      refine ev_sub [] rfl (lv2 := []) ?_
      obtain rfl := Option.some.inj hf
      exact hx1 rfl
    · replace hf := if_f c1 hf
      refine ev_aload_n (n := 0) dX3_hasHonest_10 rfl rfl ?_
      refine ev_get (v := .ref (l0 + 2)) 11 kl0 rfl (by decide) rfl lk_129 dX3_hasHonest_11 ?_
      refine ev_iload_n (n := 1) dX3_hasHonest_14 rfl rfl ?_
      obtain ⟨gd1, hf⟩ := gd_of hf
      refine ev_aaldP (kd_2_11 kl0) (inb_of gd1) dX3_hasHonest_15 ?_
      refine ev_get (v := .int (hI h ((l0 + 2) + 1 + 4 * l1.toNatClampNeg) 0)) 0 (kdPA (kd_2_11 kl0) (inb_of gd1)) rfl (by decide) rfl lk_37 dX3_hasHonest_16 ?_
      refine ev_if_ne (tgt := 24) dX3_hasHonest_19 (by decide) (fun c1 => ?_) (fun c1 => ?_)
      · replace hf := if_f c1 hf
        refine ev_iinc (z := 1) (v := (l1 + 1)) (lv2 := [(1, .int (l1 + 1)), (0, .ref l0)]) dX3_hasHonest_24 rfl rfl (by decide) rfl ?_
        refine ev_goto (tgt := 2) dX3_hasHonest_27 (by decide) ?_
        refine ev_sub [1, 0] rfl (lv2 := [(0, .ref l0), (1, .int (l1 + 1))]) ?_
        exact hk _ hf
      · replace hf := if_t c1 hf
        refine ev_sub [] rfl (lv2 := []) ?_
        obtain rfl := Option.some.inj hf
        exact hx0 rfl
def f_X3_hasHonest (h : Hp) (l0 : Nat) : Option (Int32) := (bn1 (f_X3_hasHonest_l2 h l0 fu (0 : Int32)) (fun tg2 => (if tg2 = 0 then (some (1 : Int32)) else (some (0 : Int32)))))
set_option maxRecDepth 100000 in
set_option maxHeartbeats 4000000 in
theorem ev_X3_hasHonest {g : Gl} {h : Hp} {l0 : Nat} {rv : Int32} (kl0 : KD g.1 l0 2 0) (hf : f_X3_hasHonest h l0 = some rv) : Ev yX3_hasHonest cX3_hasHonest 2 (some .boolean) 0 0 g 0 [] [(0, .ref l0)] h (some (.int rv)) h := by
  unfold f_X3_hasHonest at hf
  refine ev_iconst (v := 0) dX3_hasHonest_0 (by decide) ?_
  refine ev_istore_n (lv2 := [(1, .int (0 : Int32)), (0, .ref l0)]) dX3_hasHonest_1 rfl (by decide) rfl ?_
  obtain ⟨tg2, e2, hf⟩ := bn1_of hf
  refine ev_sub [1, 0] rfl (lv2 := [(0, .ref l0), (1, .int (0 : Int32))]) ?_
  refine lp_X3_hasHonest_2 kl0 (fun ht => ?_) (fun ht => ?_) fu _ e2
  · subst ht
    replace hf : _ = _ := hf
    replace hf := if_t rfl hf
    refine ev_iconst (v := 1) dX3_hasHonest_22 (by decide) ?_
    obtain rfl := Option.some.inj hf
    exact ev_ireturn dX3_hasHonest_23 ⟨.boolean, rfl, rfl⟩
  · subst ht
    replace hf : _ = _ := hf
    replace hf := if_f (by decide) hf
    refine ev_iconst (v := 0) dX3_hasHonest_30 (by decide) ?_
    obtain rfl := Option.some.inj hf
    exact ev_ireturn dX3_hasHonest_31 ⟨.boolean, rfl, rfl⟩
