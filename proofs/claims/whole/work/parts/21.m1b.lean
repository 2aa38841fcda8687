def f_X2_sendBlocks_l2 (l0 : Nat) (l1 : Nat) : Nat → Int32 → Hp → Option (Hp)
  | 0, _, _ => none
  | fu1 + 1, l2, h => (if (36 : Int32) ≤ l2 then (some h) else (if inb l2 36 = true then (f_X2_sendBlocks_l2 l0 l1 fu1 (l2 + 1) (sI h (l0 + 4) l2.toNatClampNeg (0 : Int32))) else none))
theorem f_X2_sendBlocks_l2_s (l0 : Nat) (l1 : Nat) (fu1 : Nat) (l2 : Int32) (h : Hp) : f_X2_sendBlocks_l2 l0 l1 (fu1 + 1) l2 h = (if (36 : Int32) ≤ l2 then (some h) else (if inb l2 36 = true then (f_X2_sendBlocks_l2 l0 l1 fu1 (l2 + 1) (sI h (l0 + 4) l2.toNatClampNeg (0 : Int32))) else none)) := rfl
theorem f_X2_sendBlocks_l2_0 (l0 : Nat) (l1 : Nat) (l2 : Int32) (h : Hp) : f_X2_sendBlocks_l2 l0 l1 0 l2 h = none := rfl
set_option maxRecDepth 100000 in
set_option maxHeartbeats 4000000 in
theorem lp_X2_sendBlocks_2 {g : Gl} {l0 : Nat} {l1 : Nat} {r : Option Value} {h2 : Hp} {h3 : Hp} (kl0 : KD g.1 l0 1 0) (kl1 : KD g.1 l1 2 0) (hx0 : Ev yX2_sendBlocks cX2_sendBlocks 7 none 3 77 g 24 [] [(0, .ref l0), (1, .ref l1)] h3 r h2) : ∀ (fu1 : Nat) (l2 : Int32) (h : Hp), f_X2_sendBlocks_l2 l0 l1 fu1 l2 h = some h3 → Ev yX2_sendBlocks cX2_sendBlocks 7 none 3 77 g 2 [] [(0, .ref l0), (1, .ref l1), (2, .int l2)] h r h2 := by
  intro fu1
  induction fu1 with
  | zero =>
    intro l2 h hf
    cases hf
  | succ fu1 ih =>
    intro l2 h hf
    rw [f_X2_sendBlocks_l2_s] at hf
    have hk := ih
    refine ev_iload_n (n := 2) dX2_sendBlocks_2 rfl rfl ?_
    refine ev_aload_n (n := 0) dX2_sendBlocks_3 rfl rfl ?_
    refine ev_get (v := .ref (l0 + 4)) 3 kl0 rfl (by decide) rfl lk_167 dX2_sendBlocks_4 ?_
    refine ev_alenI (v := 36) (kd_1_3 kl0) rfl dX2_sendBlocks_7 ?_
    refine ev_icmp_ge (tgt := 24) dX2_sendBlocks_8 (by decide) (fun c1 => ?_) (fun c1 => ?_)
    · replace hf := if_t c1 hf
      refine ev_sub [0, 1] rfl (lv2 := [(0, .ref l0), (1, .ref l1)]) ?_
      obtain rfl := Option.some.inj hf
      exact hx0
    · replace hf := if_f c1 hf
      refine ev_aload_n (n := 0) dX2_sendBlocks_11 rfl rfl ?_
      refine ev_get (v := .ref (l0 + 4)) 3 kl0 rfl (by decide) rfl lk_167 dX2_sendBlocks_12 ?_
      refine ev_iload_n (n := 2) dX2_sendBlocks_15 rfl rfl ?_
      refine ev_iconst (v := 0) dX2_sendBlocks_16 (by decide) ?_
      obtain ⟨gd1, hf⟩ := gd_of hf
      refine ev_iast (kd_1_3 kl0) (inb_of gd1) dX2_sendBlocks_17 ?_
      refine ev_iinc (z := 2) (v := (l2 + 1)) (lv2 := [(2, .int (l2 + 1)), (0, .ref l0), (1, .ref l1)]) dX2_sendBlocks_18 rfl rfl (by decide) rfl ?_
      refine ev_goto (tgt := 2) dX2_sendBlocks_21 (by decide) ?_
      refine ev_sub [1, 2, 0] rfl (lv2 := [(0, .ref l0), (1, .ref l1), (2, .int (l2 + 1))]) ?_
      exact hk _ _ hf
def f_X2_sendBlocks_j140 (kk : Int32 → Int32 → Hp → Option (Hp)) (h : Hp) (l0 : Nat) (l1 : Nat) (l2 : Int32) (l3 : Int32) (l4 : Int32) : Option (Hp) := (kk l3 (l4 + 1) h)
set_option maxRecDepth 100000 in
set_option maxHeartbeats 4000000 in
theorem jn_X2_sendBlocks_140 {g : Gl} {h : Hp} {kk : Int32 → Int32 → Hp → Option (Hp)} {l0 : Nat} {l1 : Nat} {l2 : Int32} {l3 : Int32} {l4 : Int32}  {r : Option Value} {h2 : Hp} {h3 : Hp} (kl0 : KD g.1 l0 1 0) (kl1 : KD g.1 l1 2 0) (hx0 : Ev yX2_sendBlocks cX2_sendBlocks 7 none 3 77 g 146 [] [(0, .ref l0), (1, .ref l1), (2, .int l2)] h3 r h2) (hk : ∀ (x3 : Int32) (x4 : Int32) (hq : Hp), kk x3 x4 hq = some h3 → Ev yX2_sendBlocks cX2_sendBlocks 7 none 3 77 g 39 [] [(0, .ref l0), (1, .ref l1), (2, .int l2), (3, .int x3), (4, .int x4)] hq r h2) (hf : f_X2_sendBlocks_j140 kk h l0 l1 l2 l3 l4 = some h3) : Ev yX2_sendBlocks cX2_sendBlocks 7 none 3 77 g 140 [] [(0, .ref l0), (1, .ref l1), (2, .int l2), (3, .int l3), (4, .int l4)] h r h2 := by
  unfold f_X2_sendBlocks_j140 at hf
  refine ev_iinc (z := 4) (v := (l4 + 1)) (lv2 := [(4, .int (l4 + 1)), (0, .ref l0), (1, .ref l1), (2, .int l2), (3, .int l3)]) dX2_sendBlocks_140 rfl rfl (by decide) rfl ?_
  refine ev_goto (tgt := 39) dX2_sendBlocks_143 (by decide) ?_
  refine ev_sub [1, 2, 3, 4, 0] rfl (lv2 := [(0, .ref l0), (1, .ref l1), (2, .int l2), (3, .int l3), (4, .int (l4 + 1))]) ?_
  exact hk _ _ _ hf
def f_X2_sendBlocks_j101 (kk : Int32 → Int32 → Hp → Option (Hp)) (h : Hp) (l0 : Nat) (l1 : Nat) (l2 : Int32) (l3 : Int32) (l4 : Int32) : Option (Hp) := (f_X2_sendBlocks_j140 kk (sI h l1 7 ((hI h l1 7) + (1 : Int32))) l0 l1 l2 l3 l4)
set_option maxRecDepth 100000 in
set_option maxHeartbeats 4000000 in
theorem jn_X2_sendBlocks_101 {g : Gl} {h : Hp} {kk : Int32 → Int32 → Hp → Option (Hp)} {l0 : Nat} {l1 : Nat} {l2 : Int32} {l3 : Int32} {l4 : Int32}  {r : Option Value} {h2 : Hp} {h3 : Hp} (kl0 : KD g.1 l0 1 0) (kl1 : KD g.1 l1 2 0) (hx0 : Ev yX2_sendBlocks cX2_sendBlocks 7 none 3 77 g 146 [] [(0, .ref l0), (1, .ref l1), (2, .int l2)] h3 r h2) (hk : ∀ (x3 : Int32) (x4 : Int32) (hq : Hp), kk x3 x4 hq = some h3 → Ev yX2_sendBlocks cX2_sendBlocks 7 none 3 77 g 39 [] [(0, .ref l0), (1, .ref l1), (2, .int l2), (3, .int x3), (4, .int x4)] hq r h2) (hf : f_X2_sendBlocks_j101 kk h l0 l1 l2 l3 l4 = some h3) : Ev yX2_sendBlocks cX2_sendBlocks 7 none 3 77 g 101 [] [(0, .ref l0), (1, .ref l1), (2, .int l2), (3, .int l3), (4, .int l4)] h r h2 := by
  unfold f_X2_sendBlocks_j101 at hf
  refine ev_aload_n (n := 1) dX2_sendBlocks_101 rfl rfl ?_
  refine ev_dup dX2_sendBlocks_102 rfl ?_
  refine ev_get (v := .int (hI h l1 7)) 7 kl1 rfl (by decide) rfl lk_122 dX2_sendBlocks_103 ?_
  refine ev_iconst (v := 1) dX2_sendBlocks_106 (by decide) ?_
  refine ev_iadd dX2_sendBlocks_107 ?_
  refine ev_putI 7 kl1 rfl (by decide) rfl (by decide +kernel) rfl (by exact Nat.le_of_ble_eq_true rfl) lk_122 dX2_sendBlocks_108 ?_
  refine ev_goto (tgt := 140) dX2_sendBlocks_111 (by decide) ?_
  exact jn_X2_sendBlocks_140 kl0 kl1 hx0 hk hf
def f_X2_sendBlocks_l39 (l0 : Nat) (l1 : Nat) (l2 : Int32) : Nat → Int32 → Int32 → Hp → Option (Hp)
  | 0, _, _, _ => none
  | fu1 + 1, l3, l4, h => (if (hI h l1 4) ≤ l4 then (some h) else (if inb ((l2 * (6 : Int32)) + l4) 36 = true then (if 0 ≤ (hI h (l0 + 3) ((l2 * (6 : Int32)) + l4).toNatClampNeg) then (if inb l4 6 = true then (bn1 (f_X1_hasPiece h ((l1 + 2) + 1 + 4 * l4.toNatClampNeg) ((hI h (l0 + 3) ((l2 * (6 : Int32)) + l4).toNatClampNeg) / (4 : Int32))) (fun v5 => (if v5 = 0 then (bn1 (f_X1_holds h ((l1 + 2) + 1 + 4 * l4.toNatClampNeg) (hI h (l0 + 3) ((l2 * (6 : Int32)) + l4).toNatClampNeg)) (fun v7 => (if v7 = 0 then (if inb l2 6 = true then (if (hI h ((l1 + 2) + 1 + 4 * l2.toNatClampNeg) 1) ≤ l3 then (f_X2_sendBlocks_j140 (f_X2_sendBlocks_l39 l0 l1 l2 fu1) h l0 l1 l2 l3 l4) else (bn1 (f_X2_sendOne h l0 l1 l2 l4 (hI h (l0 + 3) ((l2 * (6 : Int32)) + l4).toNatClampNeg)) (fun h10 => (f_X2_sendBlocks_j140 (f_X2_sendBlocks_l39 l0 l1 l2 fu1) h10 l0 l1 l2 (l3 + 1) l4)))) else none) else (f_X2_sendBlocks_j101 (f_X2_sendBlocks_l39 l0 l1 l2 fu1) h l0 l1 l2 l3 l4)))) else (f_X2_sendBlocks_j101 (f_X2_sendBlocks_l39 l0 l1 l2 fu1) h l0 l1 l2 l3 l4)))) else none) else (f_X2_sendBlocks_j140 (f_X2_sendBlocks_l39 l0 l1 l2 fu1) h l0 l1 l2 l3 l4)) else none))
theorem f_X2_sendBlocks_l39_s (l0 : Nat) (l1 : Nat) (l2 : Int32) (fu1 : Nat) (l3 : Int32) (l4 : Int32) (h : Hp) : f_X2_sendBlocks_l39 l0 l1 l2 (fu1 + 1) l3 l4 h = (if (hI h l1 4) ≤ l4 then (some h) else (if inb ((l2 * (6 : Int32)) + l4) 36 = true then (if 0 ≤ (hI h (l0 + 3) ((l2 * (6 : Int32)) + l4).toNatClampNeg) then (if inb l4 6 = true then (bn1 (f_X1_hasPiece h ((l1 + 2) + 1 + 4 * l4.toNatClampNeg) ((hI h (l0 + 3) ((l2 * (6 : Int32)) + l4).toNatClampNeg) / (4 : Int32))) (fun v5 => (if v5 = 0 then (bn1 (f_X1_holds h ((l1 + 2) + 1 + 4 * l4.toNatClampNeg) (hI h (l0 + 3) ((l2 * (6 : Int32)) + l4).toNatClampNeg)) (fun v7 => (if v7 = 0 then (if inb l2 6 = true then (if (hI h ((l1 + 2) + 1 + 4 * l2.toNatClampNeg) 1) ≤ l3 then (f_X2_sendBlocks_j140 (f_X2_sendBlocks_l39 l0 l1 l2 fu1) h l0 l1 l2 l3 l4) else (bn1 (f_X2_sendOne h l0 l1 l2 l4 (hI h (l0 + 3) ((l2 * (6 : Int32)) + l4).toNatClampNeg)) (fun h10 => (f_X2_sendBlocks_j140 (f_X2_sendBlocks_l39 l0 l1 l2 fu1) h10 l0 l1 l2 (l3 + 1) l4)))) else none) else (f_X2_sendBlocks_j101 (f_X2_sendBlocks_l39 l0 l1 l2 fu1) h l0 l1 l2 l3 l4)))) else (f_X2_sendBlocks_j101 (f_X2_sendBlocks_l39 l0 l1 l2 fu1) h l0 l1 l2 l3 l4)))) else none) else (f_X2_sendBlocks_j140 (f_X2_sendBlocks_l39 l0 l1 l2 fu1) h l0 l1 l2 l3 l4)) else none)) := rfl
theorem f_X2_sendBlocks_l39_0 (l0 : Nat) (l1 : Nat) (l2 : Int32) (l3 : Int32) (l4 : Int32) (h : Hp) : f_X2_sendBlocks_l39 l0 l1 l2 0 l3 l4 h = none := rfl
set_option maxRecDepth 100000 in
set_option maxHeartbeats 4000000 in
theorem lp_X2_sendBlocks_39 {g : Gl} {l0 : Nat} {l1 : Nat} {l2 : Int32} {r : Option Value} {h2 : Hp} {h3 : Hp} (kl0 : KD g.1 l0 1 0) (kl1 : KD g.1 l1 2 0) (hx0 : Ev yX2_sendBlocks cX2_sendBlocks 7 none 3 77 g 146 [] [(0, .ref l0), (1, .ref l1), (2, .int l2)] h3 r h2) : ∀ (fu1 : Nat) (l3 : Int32) (l4 : Int32) (h : Hp), f_X2_sendBlocks_l39 l0 l1 l2 fu1 l3 l4 h = some h3 → Ev yX2_sendBlocks cX2_sendBlocks 7 none 3 77 g 39 [] [(0, .ref l0), (1, .ref l1), (2, .int l2), (3, .int l3), (4, .int l4)] h r h2 := by
  intro fu1
  induction fu1 with
  | zero =>
    intro l3 l4 h hf
    cases hf
  | succ fu1 ih =>
    intro l3 l4 h hf
    rw [f_X2_sendBlocks_l39_s] at hf
    have hk := ih
    refine ev_iload (n := 4) dX2_sendBlocks_39 rfl ?_
    refine ev_aload_n (n := 1) dX2_sendBlocks_41 rfl rfl ?_
    refine ev_get (v := .int (hI h l1 4)) 4 kl1 rfl (by decide) rfl lk_115 dX2_sendBlocks_42 ?_
    refine ev_icmp_ge (tgt := 146) dX2_sendBlocks_45 (by decide) (fun c1 => ?_) (fun c1 => ?_)
    · replace hf := if_t c1 hf
      refine ev_sub [0, 1, 2] rfl (lv2 := [(0, .ref l0), (1, .ref l1), (2, .int l2)]) ?_
      obtain rfl := Option.some.inj hf
      exact hx0
    · replace hf := if_f c1 hf
      refine ev_aload_n (n := 0) dX2_sendBlocks_48 rfl rfl ?_
      refine ev_get (v := .ref (l0 + 3)) 2 kl0 rfl (by decide) rfl lk_166 dX2_sendBlocks_49 ?_
      refine ev_iload_n (n := 2) dX2_sendBlocks_52 rfl rfl ?_
      refine ev_bipush (v := 6) dX2_sendBlocks_53 (by decide) ?_
      refine ev_imul dX2_sendBlocks_55 ?_
      refine ev_iload (n := 4) dX2_sendBlocks_56 rfl ?_
      refine ev_iadd dX2_sendBlocks_58 ?_
      obtain ⟨gd3, hf⟩ := gd_of hf
      refine ev_iald (kd_1_2 kl0) (inb_of gd3) dX2_sendBlocks_59 ?_
      refine ev_istore (lv2 := [(5, .int (hI h (l0 + 3) ((l2 * (6 : Int32)) + l4).toNatClampNeg)), (0, .ref l0), (1, .ref l1), (2, .int l2), (3, .int l3), (4, .int l4)]) dX2_sendBlocks_60 (by decide) rfl ?_
      refine ev_iload (n := 0) dX2_sendBlocks_62 rfl ?_
      refine ev_if_ge (tgt := 70) dX2_sendBlocks_64 (by decide) (fun c1 => ?_) (fun c1 => ?_)
      · replace hf := if_t c1 hf
        refine ev_aload_n (n := 2) dX2_sendBlocks_70 rfl rfl ?_
        refine ev_get (v := .ref (l1 + 2)) 11 kl1 rfl (by decide) rfl lk_130 dX2_sendBlocks_71 ?_
        refine ev_iload (n := 5) dX2_sendBlocks_74 rfl ?_
        obtain ⟨gd4, hf⟩ := gd_of hf
        refine ev_aaldP (kd_2_11 kl1) (inb_of gd4) dX2_sendBlocks_76 ?_
        refine ev_astore (lv2 := [(6, .ref ((l1 + 2) + 1 + 4 * l4.toNatClampNeg)), (5, .int (hI h (l0 + 3) ((l2 * (6 : Int32)) + l4).toNatClampNeg)), (0, .ref l0), (1, .ref l1), (2, .int l2), (3, .int l3), (4, .int l4)]) dX2_sendBlocks_77 (by decide) rfl ?_
        refine ev_aload (n := 0) dX2_sendBlocks_79 rfl ?_
        refine ev_iload (n := 1) dX2_sendBlocks_81 rfl ?_
        refine ev_iconst (v := 4) dX2_sendBlocks_83 (by decide) ?_
        refine ev_idiv dX2_sendBlocks_84 (by decide) ?_
        obtain ⟨v5, e6, hf⟩ := bn1_of hf
        refine ev_callVi (As := [.int ((hI h (l0 + 3) ((l2 * (6 : Int32)) + l4).toNatClampNeg) / (4 : Int32))]) cal_X1_hasPiece (kdPA (kd_2_11 kl1) (inb_of gd4)) rfl (ev_X1_hasPiece (kdPA (kd_2_11 kl1) (inb_of gd4)) e6) (Nat.le_of_ble_eq_true rfl) rfl lk_420 (by decide) (by decide) (Nat.le_of_ble_eq_true rfl) dX2_sendBlocks_85 rfl ?_
        refine ev_if_ne (tgt := 101) dX2_sendBlocks_88 (by decide) (fun c1 => ?_) (fun c1 => ?_)
        · replace hf := if_f c1 hf
          refine ev_sub [2, 3, 4, 5, 6] rfl (lv2 := [(0, .ref l0), (1, .ref l1), (2, .int l2), (3, .int l3), (4, .int l4)]) ?_
          exact jn_X2_sendBlocks_101 kl0 kl1 hx0 hk hf
        · replace hf := if_t c1 hf
          refine ev_aload (n := 0) dX2_sendBlocks_91 rfl ?_
          refine ev_iload (n := 1) dX2_sendBlocks_93 rfl ?_
          obtain ⟨v7, e8, hf⟩ := bn1_of hf
          refine ev_callVi (As := [.int (hI h (l0 + 3) ((l2 * (6 : Int32)) + l4).toNatClampNeg)]) cal_X1_holds (kdPA (kd_2_11 kl1) (inb_of gd4)) rfl (ev_X1_holds (kdPA (kd_2_11 kl1) (inb_of gd4)) e8) (Nat.le_of_ble_eq_true rfl) rfl lk_421 (by decide) (by decide) (Nat.le_of_ble_eq_true rfl) dX2_sendBlocks_95 rfl ?_
          refine ev_if_eq (tgt := 114) dX2_sendBlocks_98 (by decide) (fun c1 => ?_) (fun c1 => ?_)
          · replace hf := if_t c1 hf
            refine ev_iload_n (n := 5) dX2_sendBlocks_114 rfl rfl ?_
            refine ev_aload_n (n := 3) dX2_sendBlocks_115 rfl rfl ?_
            refine ev_get (v := .ref (l1 + 2)) 11 kl1 rfl (by decide) rfl lk_130 dX2_sendBlocks_116 ?_
            refine ev_iload_n (n := 4) dX2_sendBlocks_119 rfl rfl ?_
            obtain ⟨gd9, hf⟩ := gd_of hf
            refine ev_aaldP (kd_2_11 kl1) (inb_of gd9) dX2_sendBlocks_120 ?_
            refine ev_get (v := .int (hI h ((l1 + 2) + 1 + 4 * l2.toNatClampNeg) 1)) 1 (kdPA (kd_2_11 kl1) (inb_of gd9)) rfl (by decide) rfl lk_39 dX2_sendBlocks_121 ?_
            refine ev_icmp_ge (tgt := 140) dX2_sendBlocks_124 (by decide) (fun c1 => ?_) (fun c1 => ?_)
            · replace hf := if_t c1 hf
              refine ev_sub [2, 3, 4, 5, 6] rfl (lv2 := [(0, .ref l0), (1, .ref l1), (2, .int l2), (3, .int l3), (4, .int l4)]) ?_
              exact jn_X2_sendBlocks_140 kl0 kl1 hx0 hk hf
            · replace hf := if_f c1 hf
              refine ev_iinc (z := 5) (v := (l3 + 1)) (lv2 := [(3, .int (l3 + 1)), (6, .ref ((l1 + 2) + 1 + 4 * l4.toNatClampNeg)), (5, .int (hI h (l0 + 3) ((l2 * (6 : Int32)) + l4).toNatClampNeg)), (0, .ref l0), (1, .ref l1), (2, .int l2), (4, .int l4)]) dX2_sendBlocks_127 rfl rfl (by decide) rfl ?_
              refine ev_aload_n (n := 3) dX2_sendBlocks_130 rfl rfl ?_
              refine ev_aload_n (n := 4) dX2_sendBlocks_131 rfl rfl ?_
              refine ev_iload_n (n := 5) dX2_sendBlocks_132 rfl rfl ?_
              refine ev_iload (n := 6) dX2_sendBlocks_133 rfl ?_
              refine ev_iload (n := 2) dX2_sendBlocks_135 rfl ?_
              obtain ⟨h10, e11, hf⟩ := bn1_of hf
              refine ev_callVv (As := [.ref l1, .int l2, .int l4, .int (hI h (l0 + 3) ((l2 * (6 : Int32)) + l4).toNatClampNeg)]) cal_X2_sendOne kl0 rfl (ev_X2_sendOne kl0 kl1 e11) (Nat.le_of_ble_eq_true rfl) rfl lk_425 (by decide) (by decide) (Nat.le_of_ble_eq_true rfl) dX2_sendBlocks_137 rfl ?_
              refine ev_sub [3, 4, 5, 0, 6] rfl (lv2 := [(0, .ref l0), (1, .ref l1), (2, .int l2), (3, .int (l3 + 1)), (4, .int l4)]) ?_
              exact jn_X2_sendBlocks_140 kl0 kl1 hx0 hk hf
          · replace hf := if_f c1 hf
            refine ev_sub [2, 3, 4, 5, 6] rfl (lv2 := [(0, .ref l0), (1, .ref l1), (2, .int l2), (3, .int l3), (4, .int l4)]) ?_
            exact jn_X2_sendBlocks_101 kl0 kl1 hx0 hk hf
      · replace hf := if_f c1 hf
        refine ev_goto (tgt := 140) dX2_sendBlocks_67 (by decide) ?_
        refine ev_sub [1, 2, 3, 4, 5] rfl (lv2 := [(0, .ref l0), (1, .ref l1), (2, .int l2), (3, .int l3), (4, .int l4)]) ?_
        exact jn_X2_sendBlocks_140 kl0 kl1 hx0 hk hf
def f_X2_sendBlocks_l26 (l0 : Nat) (l1 : Nat) : Nat → Int32 → Hp → Option (Hp)
  | 0, _, _ => none
  | fu1 + 1, l2, h => (if (hI h l1 4) ≤ l2 then (some h) else (bn1 (f_X2_sendBlocks_l39 l0 l1 l2 fu (0 : Int32) (0 : Int32) h) (fun h12 => (f_X2_sendBlocks_l26 l0 l1 fu1 (l2 + 1) h12))))
theorem f_X2_sendBlocks_l26_s (l0 : Nat) (l1 : Nat) (fu1 : Nat) (l2 : Int32) (h : Hp) : f_X2_sendBlocks_l26 l0 l1 (fu1 + 1) l2 h = (if (hI h l1 4) ≤ l2 then (some h) else (bn1 (f_X2_sendBlocks_l39 l0 l1 l2 fu (0 : Int32) (0 : Int32) h) (fun h12 => (f_X2_sendBlocks_l26 l0 l1 fu1 (l2 + 1) h12)))) := rfl
theorem f_X2_sendBlocks_l26_0 (l0 : Nat) (l1 : Nat) (l2 : Int32) (h : Hp) : f_X2_sendBlocks_l26 l0 l1 0 l2 h = none := rfl
set_option maxRecDepth 100000 in
set_option maxHeartbeats 4000000 in
theorem lp_X2_sendBlocks_26 {g : Gl} {l0 : Nat} {l1 : Nat} {r : Option Value} {h2 : Hp} {h3 : Hp} (kl0 : KD g.1 l0 1 0) (kl1 : KD g.1 l1 2 0) (hx0 : Ev yX2_sendBlocks cX2_sendBlocks 7 none 3 77 g 152 [] [] h3 r h2) : ∀ (fu1 : Nat) (l2 : Int32) (h : Hp), f_X2_sendBlocks_l26 l0 l1 fu1 l2 h = some h3 → Ev yX2_sendBlocks cX2_sendBlocks 7 none 3 77 g 26 [] [(0, .ref l0), (1, .ref l1), (2, .int l2)] h r h2 := by
  intro fu1
  induction fu1 with
  | zero =>
    intro l2 h hf
    cases hf
  | succ fu1 ih =>
    intro l2 h hf
    rw [f_X2_sendBlocks_l26_s] at hf
    have hk := ih
    refine ev_iload_n (n := 2) dX2_sendBlocks_26 rfl rfl ?_
    refine ev_aload_n (n := 1) dX2_sendBlocks_27 rfl rfl ?_
    refine ev_get (v := .int (hI h l1 4)) 4 kl1 rfl (by decide) rfl lk_115 dX2_sendBlocks_28 ?_
    refine ev_icmp_ge (tgt := 152) dX2_sendBlocks_31 (by decide) (fun c1 => ?_) (fun c1 => ?_)
    · replace hf := if_t c1 hf
      refine ev_sub [] rfl (lv2 := []) ?_
      obtain rfl := Option.some.inj hf
      exact hx0
    · replace hf := if_f c1 hf
      refine ev_iconst (v := 0) dX2_sendBlocks_34 (by decide) ?_
      refine ev_istore_n (lv2 := [(3, .int (0 : Int32)), (0, .ref l0), (1, .ref l1), (2, .int l2)]) dX2_sendBlocks_35 rfl (by decide) rfl ?_
      refine ev_iconst (v := 0) dX2_sendBlocks_36 (by decide) ?_
      refine ev_istore (lv2 := [(4, .int (0 : Int32)), (3, .int (0 : Int32)), (0, .ref l0), (1, .ref l1), (2, .int l2)]) dX2_sendBlocks_37 (by decide) rfl ?_
      obtain ⟨h12, e13, hf⟩ := bn1_of hf
      refine ev_sub [2, 3, 4, 1, 0] rfl (lv2 := [(0, .ref l0), (1, .ref l1), (2, .int l2), (3, .int (0 : Int32)), (4, .int (0 : Int32))]) ?_
      refine lp_X2_sendBlocks_39 kl0 kl1 ?_ fu _ _ _ e13
      refine ev_iinc (z := 2) (v := (l2 + 1)) (lv2 := [(2, .int (l2 + 1)), (0, .ref l0), (1, .ref l1)]) dX2_sendBlocks_146 rfl rfl (by decide) rfl ?_
      refine ev_goto (tgt := 26) dX2_sendBlocks_149 (by decide) ?_
      refine ev_sub [1, 2, 0] rfl (lv2 := [(0, .ref l0), (1, .ref l1), (2, .int (l2 + 1))]) ?_
      exact hk _ _ hf
def f_X2_sendBlocks (h : Hp) (l0 : Nat) (l1 : Nat) : Option (Hp) := (bn1 (f_X2_sendBlocks_l2 l0 l1 fu (0 : Int32) h) (fun h2 => (bn1 (f_X2_sendBlocks_l26 l0 l1 fu (0 : Int32) h2) (fun h14 => (some h14)))))
set_option maxRecDepth 100000 in
set_option maxHeartbeats 4000000 in
theorem ev_X2_sendBlocks {g : Gl} {h : Hp} {l0 : Nat} {l1 : Nat} {h2 : Hp} (kl0 : KD g.1 l0 1 0) (kl1 : KD g.1 l1 2 0) (hf : f_X2_sendBlocks h l0 l1 = some h2) : Ev yX2_sendBlocks cX2_sendBlocks 7 none 3 77 g 0 [] [(0, .ref l0), (1, .ref l1)] h none h2 := by
  unfold f_X2_sendBlocks at hf
  refine ev_iconst (v := 0) dX2_sendBlocks_0 (by decide) ?_
  refine ev_istore_n (lv2 := [(2, .int (0 : Int32)), (0, .ref l0), (1, .ref l1)]) dX2_sendBlocks_1 rfl (by decide) rfl ?_
  obtain ⟨h2, e16, hf⟩ := bn1_of hf
  refine ev_sub [1, 2, 0] rfl (lv2 := [(0, .ref l0), (1, .ref l1), (2, .int (0 : Int32))]) ?_
  refine lp_X2_sendBlocks_2 kl0 kl1 ?_ fu _ _ e16
  refine ev_iconst (v := 0) dX2_sendBlocks_24 (by decide) ?_
  refine ev_istore_n (lv2 := [(2, .int (0 : Int32)), (0, .ref l0), (1, .ref l1)]) dX2_sendBlocks_25 rfl (by decide) rfl ?_
  obtain ⟨h14, e15, hf⟩ := bn1_of hf
  refine ev_sub [1, 2, 0] rfl (lv2 := [(0, .ref l0), (1, .ref l1), (2, .int (0 : Int32))]) ?_
  refine lp_X2_sendBlocks_26 kl0 kl1 ?_ fu _ _ e15
  obtain rfl := Option.some.inj hf
  exact ev_return_ dX2_sendBlocks_152 rfl
def f_X2_fadeRates_j76 (kk : Int32 → Hp → Option (Hp)) (h : Hp) (l0 : Nat) (l1 : Nat) (l2 : UInt32) (l3 : Int32) (l4 : Nat) (l5 : Int32) : Option (Hp) := (kk (l5 + 1) h)
set_option maxRecDepth 100000 in
set_option maxHeartbeats 4000000 in
theorem jn_X2_fadeRates_76 {g : Gl} {h : Hp} {kk : Int32 → Hp → Option (Hp)} {l0 : Nat} {l1 : Nat} {l2 : UInt32} {l3 : Int32} {l4 : Nat} {l5 : Int32}  {r : Option Value} {h2 : Hp} {h3 : Hp} (kl0 : KD g.1 l0 1 0) (kl1 : KD g.1 l1 2 0) (kl4 : KD g.1 l4 7 6) (hx0 : Ev yX2_fadeRates cX2_fadeRates 6 none 0 0 g 82 [] [(0, .ref l0), (1, .ref l1), (2, .float l2), (3, .int l3)] h3 r h2) (hk : ∀ (x5 : Int32) (hq : Hp), kk x5 hq = some h3 → Ev yX2_fadeRates cX2_fadeRates 6 none 0 0 g 35 [] [(0, .ref l0), (1, .ref l1), (2, .float l2), (3, .int l3), (4, .ref l4), (5, .int x5)] hq r h2) (hf : f_X2_fadeRates_j76 kk h l0 l1 l2 l3 l4 l5 = some h3) : Ev yX2_fadeRates cX2_fadeRates 6 none 0 0 g 76 [] [(0, .ref l0), (1, .ref l1), (2, .float l2), (3, .int l3), (4, .ref l4), (5, .int l5)] h r h2 := by
  unfold f_X2_fadeRates_j76 at hf
  refine ev_iinc (z := 5) (v := (l5 + 1)) (lv2 := [(5, .int (l5 + 1)), (0, .ref l0), (1, .ref l1), (2, .float l2), (3, .int l3), (4, .ref l4)]) dX2_fadeRates_76 rfl rfl (by decide) rfl ?_
  refine ev_goto (tgt := 35) dX2_fadeRates_79 (by decide) ?_
  refine ev_sub [1, 2, 3, 4, 5, 0] rfl (lv2 := [(0, .ref l0), (1, .ref l1), (2, .float l2), (3, .int l3), (4, .ref l4), (5, .int (l5 + 1))]) ?_
  exact hk _ _ hf
def f_X2_fadeRates_l35 (l0 : Nat) (l1 : Nat) (l2 : UInt32) (l3 : Int32) (l4 : Nat) : Nat → Int32 → Hp → Option (Hp)
  | 0, _, _ => none
  | fu1 + 1, l5, h => (if (hI h l1 4) ≤ l5 then (some h) else (if l5 = l3 then (f_X2_fadeRates_j76 (f_X2_fadeRates_l35 l0 l1 l2 l3 l4 fu1) h l0 l1 l2 l3 l4 l5) else (if inb l5 6 = true then (if nn32 (FP.fmul (hF h l4 l5.toNatClampNeg) l2) = true then (if inb ((l3 * (6 : Int32)) + l5) 36 = true then (if nn32 (FP.fadd (FP.fmul (hF h l4 l5.toNatClampNeg) l2) (FP.i2f (hI h (l0 + 4) ((l3 * (6 : Int32)) + l5).toNatClampNeg))) = true then (if inb l5 6 = true then (f_X2_fadeRates_j76 (f_X2_fadeRates_l35 l0 l1 l2 l3 l4 fu1) (sF h l4 l5.toNatClampNeg (FP.fadd (FP.fmul (hF h l4 l5.toNatClampNeg) l2) (FP.i2f (hI h (l0 + 4) ((l3 * (6 : Int32)) + l5).toNatClampNeg)))) l0 l1 l2 l3 l4 l5) else none) else none) else none) else none) else none)))
theorem f_X2_fadeRates_l35_s (l0 : Nat) (l1 : Nat) (l2 : UInt32) (l3 : Int32) (l4 : Nat) (fu1 : Nat) (l5 : Int32) (h : Hp) : f_X2_fadeRates_l35 l0 l1 l2 l3 l4 (fu1 + 1) l5 h = (if (hI h l1 4) ≤ l5 then (some h) else (if l5 = l3 then (f_X2_fadeRates_j76 (f_X2_fadeRates_l35 l0 l1 l2 l3 l4 fu1) h l0 l1 l2 l3 l4 l5) else (if inb l5 6 = true then (if nn32 (FP.fmul (hF h l4 l5.toNatClampNeg) l2) = true then (if inb ((l3 * (6 : Int32)) + l5) 36 = true then (if nn32 (FP.fadd (FP.fmul (hF h l4 l5.toNatClampNeg) l2) (FP.i2f (hI h (l0 + 4) ((l3 * (6 : Int32)) + l5).toNatClampNeg))) = true then (if inb l5 6 = true then (f_X2_fadeRates_j76 (f_X2_fadeRates_l35 l0 l1 l2 l3 l4 fu1) (sF h l4 l5.toNatClampNeg (FP.fadd (FP.fmul (hF h l4 l5.toNatClampNeg) l2) (FP.i2f (hI h (l0 + 4) ((l3 * (6 : Int32)) + l5).toNatClampNeg)))) l0 l1 l2 l3 l4 l5) else none) else none) else none) else none) else none))) := rfl
theorem f_X2_fadeRates_l35_0 (l0 : Nat) (l1 : Nat) (l2 : UInt32) (l3 : Int32) (l4 : Nat) (l5 : Int32) (h : Hp) : f_X2_fadeRates_l35 l0 l1 l2 l3 l4 0 l5 h = none := rfl
set_option maxRecDepth 100000 in
set_option maxHeartbeats 4000000 in
theorem lp_X2_fadeRates_35 {g : Gl} {l0 : Nat} {l1 : Nat} {l2 : UInt32} {l3 : Int32} {l4 : Nat} {r : Option Value} {h2 : Hp} {h3 : Hp} (kl0 : KD g.1 l0 1 0) (kl1 : KD g.1 l1 2 0) (kl4 : KD g.1 l4 7 6) (hx0 : Ev yX2_fadeRates cX2_fadeRates 6 none 0 0 g 82 [] [(0, .ref l0), (1, .ref l1), (2, .float l2), (3, .int l3)] h3 r h2) : ∀ (fu1 : Nat) (l5 : Int32) (h : Hp), f_X2_fadeRates_l35 l0 l1 l2 l3 l4 fu1 l5 h = some h3 → Ev yX2_fadeRates cX2_fadeRates 6 none 0 0 g 35 [] [(0, .ref l0), (1, .ref l1), (2, .float l2), (3, .int l3), (4, .ref l4), (5, .int l5)] h r h2 := by
  intro fu1
  induction fu1 with
  | zero =>
    intro l5 h hf
    cases hf
  | succ fu1 ih =>
    intro l5 h hf
    rw [f_X2_fadeRates_l35_s] at hf
    have hk := ih
    refine ev_iload (n := 5) dX2_fadeRates_35 rfl ?_
    refine ev_aload_n (n := 1) dX2_fadeRates_37 rfl rfl ?_
    refine ev_get (v := .int (hI h l1 4)) 4 kl1 rfl (by decide) rfl lk_115 dX2_fadeRates_38 ?_
    refine ev_icmp_ge (tgt := 82) dX2_fadeRates_41 (by decide) (fun c1 => ?_) (fun c1 => ?_)
    · replace hf := if_t c1 hf
      refine ev_sub [0, 1, 2, 3] rfl (lv2 := [(0, .ref l0), (1, .ref l1), (2, .float l2), (3, .int l3)]) ?_
      obtain rfl := Option.some.inj hf
      exact hx0
    · replace hf := if_f c1 hf
      refine ev_iload (n := 5) dX2_fadeRates_44 rfl ?_
      refine ev_iload_n (n := 3) dX2_fadeRates_46 rfl rfl ?_
      refine ev_icmp_eq (tgt := 76) dX2_fadeRates_47 (by decide) (fun c1 => ?_) (fun c1 => ?_)
      · replace hf := if_t c1 hf
        exact jn_X2_fadeRates_76 kl0 kl1 kl4 hx0 hk hf
      · replace hf := if_f c1 hf
        refine ev_aload (n := 4) dX2_fadeRates_50 rfl ?_
        refine ev_iload (n := 5) dX2_fadeRates_52 rfl ?_
        refine ev_aload (n := 4) dX2_fadeRates_54 rfl ?_
        refine ev_iload (n := 5) dX2_fadeRates_56 rfl ?_
        obtain ⟨gd4, hf⟩ := gd_of hf
        refine ev_fald kl4 (inb_of gd4) dX2_fadeRates_58 ?_
        refine ev_fload_n (n := 2) dX2_fadeRates_59 rfl rfl ?_
        obtain ⟨gd5, hf⟩ := gd_of hf
        refine ev_fmul dX2_fadeRates_60 (nn32_of gd5) ?_
        refine ev_aload_n (n := 0) dX2_fadeRates_61 rfl rfl ?_
        refine ev_get (v := .ref (l0 + 4)) 3 kl0 rfl (by decide) rfl lk_167 dX2_fadeRates_62 ?_
        refine ev_iload_n (n := 3) dX2_fadeRates_65 rfl rfl ?_
        refine ev_bipush (v := 6) dX2_fadeRates_66 (by decide) ?_
        refine ev_imul dX2_fadeRates_68 ?_
        refine ev_iload (n := 5) dX2_fadeRates_69 rfl ?_
        refine ev_iadd dX2_fadeRates_71 ?_
        obtain ⟨gd6, hf⟩ := gd_of hf
        refine ev_iald (kd_1_3 kl0) (inb_of gd6) dX2_fadeRates_72 ?_
        refine ev_i2f dX2_fadeRates_73 ?_
        obtain ⟨gd7, hf⟩ := gd_of hf
        refine ev_fadd dX2_fadeRates_74 (nn32_of gd7) ?_
        obtain ⟨gd8, hf⟩ := gd_of hf
        refine ev_fast kl4 (inb_of gd8) dX2_fadeRates_75 ?_
        exact jn_X2_fadeRates_76 kl0 kl1 kl4 hx0 hk hf
def f_X2_fadeRates_l13 (l0 : Nat) (l1 : Nat) (l2 : UInt32) : Nat → Int32 → Hp → Option (Hp)
  | 0, _, _ => none
  | fu1 + 1, l3, h => (if (hI h l1 4) ≤ l3 then (some h) else (if inb l3 6 = true then (bn1 (f_X2_fadeRates_l35 l0 l1 l2 l3 (((l1 + 2) + 1 + 4 * l3.toNatClampNeg) + 3) fu (0 : Int32) h) (fun h9 => (f_X2_fadeRates_l13 l0 l1 l2 fu1 (l3 + 1) h9))) else none))
theorem f_X2_fadeRates_l13_s (l0 : Nat) (l1 : Nat) (l2 : UInt32) (fu1 : Nat) (l3 : Int32) (h : Hp) : f_X2_fadeRates_l13 l0 l1 l2 (fu1 + 1) l3 h = (if (hI h l1 4) ≤ l3 then (some h) else (if inb l3 6 = true then (bn1 (f_X2_fadeRates_l35 l0 l1 l2 l3 (((l1 + 2) + 1 + 4 * l3.toNatClampNeg) + 3) fu (0 : Int32) h) (fun h9 => (f_X2_fadeRates_l13 l0 l1 l2 fu1 (l3 + 1) h9))) else none)) := rfl
theorem f_X2_fadeRates_l13_0 (l0 : Nat) (l1 : Nat) (l2 : UInt32) (l3 : Int32) (h : Hp) : f_X2_fadeRates_l13 l0 l1 l2 0 l3 h = none := rfl
set_option maxRecDepth 100000 in
set_option maxHeartbeats 4000000 in
theorem lp_X2_fadeRates_13 {g : Gl} {l0 : Nat} {l1 : Nat} {l2 : UInt32} {r : Option Value} {h2 : Hp} {h3 : Hp} (kl0 : KD g.1 l0 1 0) (kl1 : KD g.1 l1 2 0) (hx0 : Ev yX2_fadeRates cX2_fadeRates 6 none 0 0 g 88 [] [] h3 r h2) : ∀ (fu1 : Nat) (l3 : Int32) (h : Hp), f_X2_fadeRates_l13 l0 l1 l2 fu1 l3 h = some h3 → Ev yX2_fadeRates cX2_fadeRates 6 none 0 0 g 13 [] [(0, .ref l0), (1, .ref l1), (2, .float l2), (3, .int l3)] h r h2 := by
  intro fu1
  induction fu1 with
  | zero =>
    intro l3 h hf
    cases hf
  | succ fu1 ih =>
    intro l3 h hf
    rw [f_X2_fadeRates_l13_s] at hf
    have hk := ih
    refine ev_iload_n (n := 3) dX2_fadeRates_13 rfl rfl ?_
    refine ev_aload_n (n := 1) dX2_fadeRates_14 rfl rfl ?_
    refine ev_get (v := .int (hI h l1 4)) 4 kl1 rfl (by decide) rfl lk_115 dX2_fadeRates_15 ?_
    refine ev_icmp_ge (tgt := 88) dX2_fadeRates_18 (by decide) (fun c1 => ?_) (fun c1 => ?_)
    · replace hf := if_t c1 hf
      refine ev_sub [] rfl (lv2 := []) ?_
      obtain rfl := Option.some.inj hf
      exact hx0
    · replace hf := if_f c1 hf
      refine ev_aload_n (n := 1) dX2_fadeRates_21 rfl rfl ?_
      refine ev_get (v := .ref (l1 + 2)) 11 kl1 rfl (by decide) rfl lk_130 dX2_fadeRates_22 ?_
      refine ev_iload_n (n := 3) dX2_fadeRates_25 rfl rfl ?_
      obtain ⟨gd3, hf⟩ := gd_of hf
      refine ev_aaldP (kd_2_11 kl1) (inb_of gd3) dX2_fadeRates_26 ?_
      refine ev_get (v := .ref (((l1 + 2) + 1 + 4 * l3.toNatClampNeg) + 3)) 11 (kdPA (kd_2_11 kl1) (inb_of gd3)) rfl (by decide) rfl lk_70 dX2_fadeRates_27 ?_
      refine ev_astore (lv2 := [(4, .ref (((l1 + 2) + 1 + 4 * l3.toNatClampNeg) + 3)), (0, .ref l0), (1, .ref l1), (2, .float l2), (3, .int l3)]) dX2_fadeRates_30 (by decide) rfl ?_
      refine ev_iconst (v := 0) dX2_fadeRates_32 (by decide) ?_
      refine ev_istore (lv2 := [(5, .int (0 : Int32)), (4, .ref (((l1 + 2) + 1 + 4 * l3.toNatClampNeg) + 3)), (0, .ref l0), (1, .ref l1), (2, .float l2), (3, .int l3)]) dX2_fadeRates_33 (by decide) rfl ?_
      obtain ⟨h9, e10, hf⟩ := bn1_of hf
      refine ev_sub [2, 3, 4, 5, 1, 0] rfl (lv2 := [(0, .ref l0), (1, .ref l1), (2, .float l2), (3, .int l3), (4, .ref (((l1 + 2) + 1 + 4 * l3.toNatClampNeg) + 3)), (5, .int (0 : Int32))]) ?_
      refine lp_X2_fadeRates_35 kl0 kl1 (kd_0_11 (kdPA (kd_2_11 kl1) (inb_of gd3))) ?_ fu _ _ e10
      refine ev_iinc (z := 3) (v := (l3 + 1)) (lv2 := [(3, .int (l3 + 1)), (0, .ref l0), (1, .ref l1), (2, .float l2)]) dX2_fadeRates_82 rfl rfl (by decide) rfl ?_
      refine ev_goto (tgt := 13) dX2_fadeRates_85 (by decide) ?_
      refine ev_sub [1, 2, 3, 0] rfl (lv2 := [(0, .ref l0), (1, .ref l1), (2, .float l2), (3, .int (l3 + 1))]) ?_
      exact hk _ _ hf
def f_X2_fadeRates (h : Hp) (l0 : Nat) (l1 : Nat) : Option (Hp) := (if nn32 (FP.fdiv (FP.i2f (hI h (l1 + 1) (1 : Int32).toNatClampNeg)) (1092616192 : UInt32)) = true then (bn1 (f_X2_fadeRates_l13 l0 l1 (FP.fdiv (FP.i2f (hI h (l1 + 1) (1 : Int32).toNatClampNeg)) (1092616192 : UInt32)) fu (0 : Int32) h) (fun h11 => (some h11))) else none)
set_option maxRecDepth 100000 in
set_option maxHeartbeats 4000000 in
theorem ev_X2_fadeRates {g : Gl} {h : Hp} {l0 : Nat} {l1 : Nat} {h2 : Hp} (kl0 : KD g.1 l0 1 0) (kl1 : KD g.1 l1 2 0) (hf : f_X2_fadeRates h l0 l1 = some h2) : Ev yX2_fadeRates cX2_fadeRates 6 none 0 0 g 0 [] [(0, .ref l0), (1, .ref l1)] h none h2 := by
  unfold f_X2_fadeRates at hf
  refine ev_aload_n (n := 1) dX2_fadeRates_0 rfl rfl ?_
  refine ev_get (v := .ref (l1 + 1)) 10 kl1 rfl (by decide) rfl lk_127 dX2_fadeRates_1 ?_
  refine ev_iconst (v := 1) dX2_fadeRates_4 (by decide) ?_
  refine ev_iald (kd_2_10 kl1) (by unfold vp_in; decide) dX2_fadeRates_5 ?_
  refine ev_i2f dX2_fadeRates_6 ?_
  refine ev_ldcf dX2_fadeRates_7 lk_440 ?_
  obtain ⟨gd2, hf⟩ := gd_of hf
  refine ev_fdiv dX2_fadeRates_9 (nn32_of gd2) ?_
  refine ev_fstore_n (lv2 := [(2, .float (FP.fdiv (FP.i2f (hI h (l1 + 1) (1 : Int32).toNatClampNeg)) (1092616192 : UInt32))), (0, .ref l0), (1, .ref l1)]) dX2_fadeRates_10 rfl (by decide) rfl ?_
  refine ev_iconst (v := 0) dX2_fadeRates_11 (by decide) ?_
  refine ev_istore_n (lv2 := [(3, .int (0 : Int32)), (2, .float (FP.fdiv (FP.i2f (hI h (l1 + 1) (1 : Int32).toNatClampNeg)) (1092616192 : UInt32))), (0, .ref l0), (1, .ref l1)]) dX2_fadeRates_12 rfl (by decide) rfl ?_
  obtain ⟨h11, e12, hf⟩ := bn1_of hf
  refine ev_sub [2, 3, 1, 0] rfl (lv2 := [(0, .ref l0), (1, .ref l1), (2, .float (FP.fdiv (FP.i2f (hI h (l1 + 1) (1 : Int32).toNatClampNeg)) (1092616192 : UInt32))), (3, .int (0 : Int32))]) ?_
  refine lp_X2_fadeRates_13 kl0 kl1 ?_ fu _ _ e12
  obtain rfl := Option.some.inj hf
  exact ev_return_ dX2_fadeRates_88 rfl
def f_X2_runSome_l2 (l0 : Nat) (l1 : Nat) (l2 : Int32) : Nat → Int32 → Hp → Option (Hp)
  | 0, _, _ => none
  | fu1 + 1, l3, h => (if l2 ≤ l3 then (some h) else (bn1 (f_X2_findWanters h l0 l1) (fun h1 => (bn1 (f_X2_openSlots h1 l0 l1) (fun h3 => (bn1 (f_X2_askForBlocks h3 l0 l1) (fun h5 => (bn1 (f_X2_sendBlocks h5 l0 l1) (fun h7 => (bn1 (f_X2_fadeRates h7 l0 l1) (fun h9 => (f_X2_runSome_l2 l0 l1 l2 fu1 (l3 + 1) (sI h9 l1 5 ((hI h9 l1 5) + (1 : Int32)))))))))))))))
theorem f_X2_runSome_l2_s (l0 : Nat) (l1 : Nat) (l2 : Int32) (fu1 : Nat) (l3 : Int32) (h : Hp) : f_X2_runSome_l2 l0 l1 l2 (fu1 + 1) l3 h = (if l2 ≤ l3 then (some h) else (bn1 (f_X2_findWanters h l0 l1) (fun h1 => (bn1 (f_X2_openSlots h1 l0 l1) (fun h3 => (bn1 (f_X2_askForBlocks h3 l0 l1) (fun h5 => (bn1 (f_X2_sendBlocks h5 l0 l1) (fun h7 => (bn1 (f_X2_fadeRates h7 l0 l1) (fun h9 => (f_X2_runSome_l2 l0 l1 l2 fu1 (l3 + 1) (sI h9 l1 5 ((hI h9 l1 5) + (1 : Int32))))))))))))))) := rfl
theorem f_X2_runSome_l2_0 (l0 : Nat) (l1 : Nat) (l2 : Int32) (l3 : Int32) (h : Hp) : f_X2_runSome_l2 l0 l1 l2 0 l3 h = none := rfl
set_option maxRecDepth 100000 in
set_option maxHeartbeats 4000000 in
theorem lp_X2_runSome_2 {g : Gl} {l0 : Nat} {l1 : Nat} {l2 : Int32} {r : Option Value} {h2 : Hp} {h3 : Hp} (kl0 : KD g.1 l0 1 0) (kl1 : KD g.1 l1 2 0) (hx0 : Ev yX2_runSome cX2_runSome 4 none 4 103 g 48 [] [] h3 r h2) : ∀ (fu1 : Nat) (l3 : Int32) (h : Hp), f_X2_runSome_l2 l0 l1 l2 fu1 l3 h = some h3 → Ev yX2_runSome cX2_runSome 4 none 4 103 g 2 [] [(0, .ref l0), (1, .ref l1), (2, .int l2), (3, .int l3)] h r h2 := by
  intro fu1
  induction fu1 with
  | zero =>
    intro l3 h hf
    cases hf
  | succ fu1 ih =>
    intro l3 h hf
    rw [f_X2_runSome_l2_s] at hf
    have hk := ih
    refine ev_iload_n (n := 3) dX2_runSome_2 rfl rfl ?_
    refine ev_iload_n (n := 2) dX2_runSome_3 rfl rfl ?_
    refine ev_icmp_ge (tgt := 48) dX2_runSome_4 (by decide) (fun c1 => ?_) (fun c1 => ?_)
    · replace hf := if_t c1 hf
      refine ev_sub [] rfl (lv2 := []) ?_
      obtain rfl := Option.some.inj hf
      exact hx0
    · replace hf := if_f c1 hf
      refine ev_aload_n (n := 0) dX2_runSome_7 rfl rfl ?_
      refine ev_aload_n (n := 1) dX2_runSome_8 rfl rfl ?_
      obtain ⟨h1, e2, hf⟩ := bn1_of hf
      refine ev_callVv (As := [.ref l1]) cal_X2_findWanters kl0 rfl (ev_X2_findWanters kl0 kl1 e2) (Nat.le_of_ble_eq_true rfl) rfl lk_346 (by decide) (by decide) (Nat.le_of_ble_eq_true rfl) dX2_runSome_9 rfl ?_
      refine ev_aload_n (n := 0) dX2_runSome_12 rfl rfl ?_
      refine ev_aload_n (n := 1) dX2_runSome_13 rfl rfl ?_
      obtain ⟨h3, e4, hf⟩ := bn1_of hf
      refine ev_callVv (As := [.ref l1]) cal_X2_openSlots kl0 rfl (ev_X2_openSlots kl0 kl1 e4) (Nat.le_of_ble_eq_true rfl) rfl lk_357 (by decide) (by decide) (Nat.le_of_ble_eq_true rfl) dX2_runSome_14 rfl ?_
      refine ev_aload_n (n := 0) dX2_runSome_17 rfl rfl ?_
      refine ev_aload_n (n := 1) dX2_runSome_18 rfl rfl ?_
      obtain ⟨h5, e6, hf⟩ := bn1_of hf
      refine ev_callVv (As := [.ref l1]) cal_X2_askForBlocks kl0 rfl (ev_X2_askForBlocks kl0 kl1 e6) (Nat.le_of_ble_eq_true rfl) rfl lk_386 (by decide) (by decide) (Nat.le_of_ble_eq_true rfl) dX2_runSome_19 rfl ?_
      refine ev_aload_n (n := 0) dX2_runSome_22 rfl rfl ?_
      refine ev_aload_n (n := 1) dX2_runSome_23 rfl rfl ?_
      obtain ⟨h7, e8, hf⟩ := bn1_of hf
      refine ev_callVv (As := [.ref l1]) cal_X2_sendBlocks kl0 rfl (ev_X2_sendBlocks kl0 kl1 e8) (Nat.le_of_ble_eq_true rfl) rfl lk_416 (by decide) (by decide) (Nat.le_of_ble_eq_true rfl) dX2_runSome_24 rfl ?_
      refine ev_aload_n (n := 0) dX2_runSome_27 rfl rfl ?_
      refine ev_aload_n (n := 1) dX2_runSome_28 rfl rfl ?_
      obtain ⟨h9, e10, hf⟩ := bn1_of hf
      refine ev_callVv (As := [.ref l1]) cal_X2_fadeRates kl0 rfl (ev_X2_fadeRates kl0 kl1 e10) (Nat.le_of_ble_eq_true rfl) rfl lk_436 (by decide) (by decide) (Nat.le_of_ble_eq_true rfl) dX2_runSome_29 rfl ?_
      refine ev_aload_n (n := 1) dX2_runSome_32 rfl rfl ?_
      refine ev_dup dX2_runSome_33 rfl ?_
      refine ev_get (v := .int (hI h9 l1 5)) 5 kl1 rfl (by decide) rfl lk_116 dX2_runSome_34 ?_
      refine ev_iconst (v := 1) dX2_runSome_37 (by decide) ?_
      refine ev_iadd dX2_runSome_38 ?_
      refine ev_putI 5 kl1 rfl (by decide) rfl (by decide +kernel) rfl (by exact Nat.le_of_ble_eq_true rfl) lk_116 dX2_runSome_39 ?_
      refine ev_iinc (z := 3) (v := (l3 + 1)) (lv2 := [(3, .int (l3 + 1)), (0, .ref l0), (1, .ref l1), (2, .int l2)]) dX2_runSome_42 rfl rfl (by decide) rfl ?_
      refine ev_goto (tgt := 2) dX2_runSome_45 (by decide) ?_
      refine ev_sub [1, 2, 3, 0] rfl (lv2 := [(0, .ref l0), (1, .ref l1), (2, .int l2), (3, .int (l3 + 1))]) ?_
      exact hk _ _ hf
def f_X2_runSome (h : Hp) (l0 : Nat) (l1 : Nat) (l2 : Int32) : Option (Hp) := (bn1 (f_X2_runSome_l2 l0 l1 l2 fu (0 : Int32) h) (fun h11 => (some h11)))
set_option maxRecDepth 100000 in
set_option maxHeartbeats 4000000 in
theorem ev_X2_runSome {g : Gl} {h : Hp} {l0 : Nat} {l1 : Nat} {l2 : Int32} {h2 : Hp} (kl0 : KD g.1 l0 1 0) (kl1 : KD g.1 l1 2 0) (hf : f_X2_runSome h l0 l1 l2 = some h2) : Ev yX2_runSome cX2_runSome 4 none 4 103 g 0 [] [(0, .ref l0), (1, .ref l1), (2, .int l2)] h none h2 := by
  unfold f_X2_runSome at hf
  refine ev_iconst (v := 0) dX2_runSome_0 (by decide) ?_
  refine ev_istore_n (lv2 := [(3, .int (0 : Int32)), (0, .ref l0), (1, .ref l1), (2, .int l2)]) dX2_runSome_1 rfl (by decide) rfl ?_
  obtain ⟨h11, e12, hf⟩ := bn1_of hf
  refine ev_sub [1, 2, 3, 0] rfl (lv2 := [(0, .ref l0), (1, .ref l1), (2, .int l2), (3, .int (0 : Int32))]) ?_
  refine lp_X2_runSome_2 kl0 kl1 ?_ fu _ _ e12
  obtain rfl := Option.some.inj hf
  exact ev_return_ dX2_runSome_48 rfl
