def f_X5_digestPeer_l6 (l0 : Nat) (l3 : Int32) : Nat → Int64 → Int32 → Hp → Option (Int64 × Hp)
  | 0, _, _, _ => none
  | fu1 + 1, l4, l6, h => (if (9 : Int32) < l6 then (some (l4, h)) else (bn2 (f_X5_of h l0 l3 l6) (fun v1 h2 => (f_X5_digestPeer_l6 l0 l3 fu1 (((31 : Int64) * l4) + v1.toInt64) (l6 + 1) h2))))
theorem f_X5_digestPeer_l6_s (l0 : Nat) (l3 : Int32) (fu1 : Nat) (l4 : Int64) (l6 : Int32) (h : Hp) : f_X5_digestPeer_l6 l0 l3 (fu1 + 1) l4 l6 h = (if (9 : Int32) < l6 then (some (l4, h)) else (bn2 (f_X5_of h l0 l3 l6) (fun v1 h2 => (f_X5_digestPeer_l6 l0 l3 fu1 (((31 : Int64) * l4) + v1.toInt64) (l6 + 1) h2)))) := rfl
theorem f_X5_digestPeer_l6_0 (l0 : Nat) (l3 : Int32) (l4 : Int64) (l6 : Int32) (h : Hp) : f_X5_digestPeer_l6 l0 l3 0 l4 l6 h = none := rfl
set_option maxRecDepth 100000 in
set_option maxHeartbeats 4000000 in
theorem lp_X5_digestPeer_6 {g : Gl} {l0 : Nat} {l3 : Int32} {r : Option Value} {h2 : Hp} {o4 : Int64} {h3 : Hp} (kl0 : KD g.1 l0 4 0) (hx0 : Ev yX5_digestPeer cX5_digestPeer 8 (some .long) 4 89 g 36 [] [(0, .ref l0), (3, .int l3), (4, .long o4)] h3 r h2) : ∀ (fu1 : Nat) (l4 : Int64) (l6 : Int32) (h : Hp), f_X5_digestPeer_l6 l0 l3 fu1 l4 l6 h = some (o4, h3) → Ev yX5_digestPeer cX5_digestPeer 8 (some .long) 4 89 g 6 [] [(0, .ref l0), (3, .int l3), (4, .long l4), (6, .int l6)] h r h2 := by
  intro fu1
  induction fu1 with
  | zero =>
    intro l4 l6 h hf
    cases hf
  | succ fu1 ih =>
    intro l4 l6 h hf
    rw [f_X5_digestPeer_l6_s] at hf
    have hk := ih
    refine ev_iload (n := 3) dX5_digestPeer_6 rfl ?_
    refine ev_bipush (v := 9) dX5_digestPeer_8 (by decide) ?_
    refine ev_icmp_gt (tgt := 36) dX5_digestPeer_10 (by decide) (fun c1 => ?_) (fun c1 => ?_)
    · replace hf := if_t c1 hf
      refine ev_sub [0, 1, 2] rfl (lv2 := [(0, .ref l0), (3, .int l3), (4, .long l4)]) ?_
      obtain ⟨rfl, rfl⟩ := Prod.mk.inj (Option.some.inj hf)
      exact hx0
    · replace hf := if_f c1 hf
      refine ev_ldc2 dX5_digestPeer_13 lk_583 ?_
      refine ev_lload (n := 2) dX5_digestPeer_16 rfl ?_
      refine ev_lmul dX5_digestPeer_18 ?_
      refine ev_aload_n (n := 0) dX5_digestPeer_19 rfl rfl ?_
      refine ev_iload_n (n := 1) dX5_digestPeer_20 rfl rfl ?_
      refine ev_iload (n := 3) dX5_digestPeer_21 rfl ?_
      obtain ⟨v1, h2, e3, hf⟩ := bn2_of hf
      refine ev_callVi (As := [.int l3, .int l6]) cal_X5_of kl0 rfl (ev_X5_of kl0 e3) (Nat.le_of_ble_eq_true rfl) rfl lk_590 (by decide) (by decide) (Nat.le_of_ble_eq_true rfl) dX5_digestPeer_23 rfl ?_
      refine ev_i2l dX5_digestPeer_26 ?_
      refine ev_ladd dX5_digestPeer_27 ?_
      refine ev_lstore (lv2 := [(4, .long (((31 : Int64) * l4) + v1.toInt64)), (0, .ref l0), (3, .int l3), (6, .int l6)]) dX5_digestPeer_28 (by decide) rfl ?_
      refine ev_iinc (z := 3) (v := (l6 + 1)) (lv2 := [(6, .int (l6 + 1)), (4, .long (((31 : Int64) * l4) + v1.toInt64)), (0, .ref l0), (3, .int l3)]) dX5_digestPeer_30 rfl rfl (by decide) rfl ?_
      refine ev_goto (tgt := 6) dX5_digestPeer_33 (by decide) ?_
      refine ev_sub [2, 3, 1, 0] rfl (lv2 := [(0, .ref l0), (3, .int l3), (4, .long (((31 : Int64) * l4) + v1.toInt64)), (6, .int (l6 + 1))]) ?_
      exact hk _ _ _ hf
def f_X5_digestPeer_l54 (l0 : Nat) (l3 : Int32) (l6 : Int32) : Nat → Int64 → Int32 → Hp → Option (Int64 × Hp)
  | 0, _, _, _ => none
  | fu1 + 1, l4, l7, h => (if (hI h (l0 + 1) 1) ≤ l7 then (some (l4, h)) else (bn2 (f_X5_block h l0 l3 l6 l7) (fun v6 h7 => (f_X5_digestPeer_l54 l0 l3 l6 fu1 (((31 : Int64) * l4) + v6.toInt64) (l7 + 1) h7))))
theorem f_X5_digestPeer_l54_s (l0 : Nat) (l3 : Int32) (l6 : Int32) (fu1 : Nat) (l4 : Int64) (l7 : Int32) (h : Hp) : f_X5_digestPeer_l54 l0 l3 l6 (fu1 + 1) l4 l7 h = (if (hI h (l0 + 1) 1) ≤ l7 then (some (l4, h)) else (bn2 (f_X5_block h l0 l3 l6 l7) (fun v6 h7 => (f_X5_digestPeer_l54 l0 l3 l6 fu1 (((31 : Int64) * l4) + v6.toInt64) (l7 + 1) h7)))) := rfl
theorem f_X5_digestPeer_l54_0 (l0 : Nat) (l3 : Int32) (l6 : Int32) (l4 : Int64) (l7 : Int32) (h : Hp) : f_X5_digestPeer_l54 l0 l3 l6 0 l4 l7 h = none := rfl
set_option maxRecDepth 100000 in
set_option maxHeartbeats 4000000 in
theorem lp_X5_digestPeer_54 {g : Gl} {l0 : Nat} {l3 : Int32} {l6 : Int32} {r : Option Value} {h2 : Hp} {o4 : Int64} {h3 : Hp} (kl0 : KD g.1 l0 4 0) (hx0 : Ev yX5_digestPeer cX5_digestPeer 8 (some .long) 4 89 g 91 [] [(0, .ref l0), (3, .int l3), (4, .long o4), (6, .int l6)] h3 r h2) : ∀ (fu1 : Nat) (l4 : Int64) (l7 : Int32) (h : Hp), f_X5_digestPeer_l54 l0 l3 l6 fu1 l4 l7 h = some (o4, h3) → Ev yX5_digestPeer cX5_digestPeer 8 (some .long) 4 89 g 54 [] [(0, .ref l0), (3, .int l3), (4, .long l4), (6, .int l6), (7, .int l7)] h r h2 := by
  intro fu1
  induction fu1 with
  | zero =>
    intro l4 l7 h hf
    cases hf
  | succ fu1 ih =>
    intro l4 l7 h hf
    rw [f_X5_digestPeer_l54_s] at hf
    have hk := ih
    refine ev_iload (n := 4) dX5_digestPeer_54 rfl ?_
    refine ev_aload_n (n := 0) dX5_digestPeer_56 rfl rfl ?_
    refine ev_get (v := .ref (l0 + 1)) 0 kl0 rfl (by decide) rfl lk_216 dX5_digestPeer_57 ?_
    refine ev_get (v := .int (hI h (l0 + 1) 1)) 1 (kd_4_0 kl0) rfl (by decide) rfl lk_107 dX5_digestPeer_60 ?_
    refine ev_icmp_ge (tgt := 91) dX5_digestPeer_63 (by decide) (fun c1 => ?_) (fun c1 => ?_)
    · replace hf := if_t c1 hf
      refine ev_sub [0, 1, 2, 3] rfl (lv2 := [(0, .ref l0), (3, .int l3), (4, .long l4), (6, .int l6)]) ?_
      obtain ⟨rfl, rfl⟩ := Prod.mk.inj (Option.some.inj hf)
      exact hx0
    · replace hf := if_f c1 hf
      refine ev_ldc2 dX5_digestPeer_66 lk_583 ?_
      refine ev_lload (n := 2) dX5_digestPeer_69 rfl ?_
      refine ev_lmul dX5_digestPeer_71 ?_
      refine ev_aload_n (n := 0) dX5_digestPeer_72 rfl rfl ?_
      refine ev_iload_n (n := 1) dX5_digestPeer_73 rfl rfl ?_
      refine ev_iload (n := 3) dX5_digestPeer_74 rfl ?_
      refine ev_iload (n := 4) dX5_digestPeer_76 rfl ?_
      obtain ⟨v6, h7, e8, hf⟩ := bn2_of hf
      refine ev_callVi (As := [.int l3, .int l6, .int l7]) cal_X5_block kl0 rfl (ev_X5_block kl0 e8) (Nat.le_of_ble_eq_true rfl) rfl lk_591 (by decide) (by decide) (Nat.le_of_ble_eq_true rfl) dX5_digestPeer_78 rfl ?_
      refine ev_i2l dX5_digestPeer_81 ?_
      refine ev_ladd dX5_digestPeer_82 ?_
      refine ev_lstore (lv2 := [(4, .long (((31 : Int64) * l4) + v6.toInt64)), (0, .ref l0), (3, .int l3), (6, .int l6), (7, .int l7)]) dX5_digestPeer_83 (by decide) rfl ?_
      refine ev_iinc (z := 4) (v := (l7 + 1)) (lv2 := [(7, .int (l7 + 1)), (4, .long (((31 : Int64) * l4) + v6.toInt64)), (0, .ref l0), (3, .int l3), (6, .int l6)]) dX5_digestPeer_85 rfl rfl (by decide) rfl ?_
      refine ev_goto (tgt := 54) dX5_digestPeer_88 (by decide) ?_
      refine ev_sub [2, 3, 1, 4, 0] rfl (lv2 := [(0, .ref l0), (3, .int l3), (4, .long (((31 : Int64) * l4) + v6.toInt64)), (6, .int l6), (7, .int (l7 + 1))]) ?_
      exact hk _ _ _ hf
def f_X5_digestPeer_l39 (l0 : Nat) (l3 : Int32) : Nat → Int64 → Int32 → Hp → Option (Int64 × Hp)
  | 0, _, _, _ => none
  | fu1 + 1, l4, l6, h => (if (hI h (l0 + 1) 0) ≤ l6 then (some (l4, h)) else (bn2 (f_X5_digestPeer_l54 l0 l3 l6 fu l4 (0 : Int32) h) (fun w4_9 h10 => (f_X5_digestPeer_l39 l0 l3 fu1 w4_9 (l6 + 1) h10))))
theorem f_X5_digestPeer_l39_s (l0 : Nat) (l3 : Int32) (fu1 : Nat) (l4 : Int64) (l6 : Int32) (h : Hp) : f_X5_digestPeer_l39 l0 l3 (fu1 + 1) l4 l6 h = (if (hI h (l0 + 1) 0) ≤ l6 then (some (l4, h)) else (bn2 (f_X5_digestPeer_l54 l0 l3 l6 fu l4 (0 : Int32) h) (fun w4_9 h10 => (f_X5_digestPeer_l39 l0 l3 fu1 w4_9 (l6 + 1) h10)))) := rfl
theorem f_X5_digestPeer_l39_0 (l0 : Nat) (l3 : Int32) (l4 : Int64) (l6 : Int32) (h : Hp) : f_X5_digestPeer_l39 l0 l3 0 l4 l6 h = none := rfl
set_option maxRecDepth 100000 in
set_option maxHeartbeats 4000000 in
theorem lp_X5_digestPeer_39 {g : Gl} {l0 : Nat} {l3 : Int32} {r : Option Value} {h2 : Hp} {o4 : Int64} {h3 : Hp} (kl0 : KD g.1 l0 4 0) (hx0 : Ev yX5_digestPeer cX5_digestPeer 8 (some .long) 4 89 g 97 [] [(0, .ref l0), (3, .int l3), (4, .long o4)] h3 r h2) : ∀ (fu1 : Nat) (l4 : Int64) (l6 : Int32) (h : Hp), f_X5_digestPeer_l39 l0 l3 fu1 l4 l6 h = some (o4, h3) → Ev yX5_digestPeer cX5_digestPeer 8 (some .long) 4 89 g 39 [] [(0, .ref l0), (3, .int l3), (4, .long l4), (6, .int l6)] h r h2 := by
  intro fu1
  induction fu1 with
  | zero =>
    intro l4 l6 h hf
    cases hf
  | succ fu1 ih =>
    intro l4 l6 h hf
    rw [f_X5_digestPeer_l39_s] at hf
    have hk := ih
    refine ev_iload (n := 3) dX5_digestPeer_39 rfl ?_
    refine ev_aload_n (n := 0) dX5_digestPeer_41 rfl rfl ?_
    refine ev_get (v := .ref (l0 + 1)) 0 kl0 rfl (by decide) rfl lk_216 dX5_digestPeer_42 ?_
    refine ev_get (v := .int (hI h (l0 + 1) 0)) 0 (kd_4_0 kl0) rfl (by decide) rfl lk_105 dX5_digestPeer_45 ?_
    refine ev_icmp_ge (tgt := 97) dX5_digestPeer_48 (by decide) (fun c1 => ?_) (fun c1 => ?_)
    · replace hf := if_t c1 hf
      refine ev_sub [0, 1, 2] rfl (lv2 := [(0, .ref l0), (3, .int l3), (4, .long l4)]) ?_
      obtain ⟨rfl, rfl⟩ := Prod.mk.inj (Option.some.inj hf)
      exact hx0
    · replace hf := if_f c1 hf
      refine ev_iconst (v := 0) dX5_digestPeer_51 (by decide) ?_
      refine ev_istore (lv2 := [(7, .int (0 : Int32)), (0, .ref l0), (3, .int l3), (4, .long l4), (6, .int l6)]) dX5_digestPeer_52 (by decide) rfl ?_
      obtain ⟨w4_9, h10, e11, hf⟩ := bn2_of hf
      refine ev_sub [1, 2, 3, 4, 0] rfl (lv2 := [(0, .ref l0), (3, .int l3), (4, .long l4), (6, .int l6), (7, .int (0 : Int32))]) ?_
      refine lp_X5_digestPeer_54 kl0 ?_ fu _ _ _ e11
      refine ev_iinc (z := 3) (v := (l6 + 1)) (lv2 := [(6, .int (l6 + 1)), (0, .ref l0), (3, .int l3), (4, .long w4_9)]) dX5_digestPeer_91 rfl rfl (by decide) rfl ?_
      refine ev_goto (tgt := 39) dX5_digestPeer_94 (by decide) ?_
      refine ev_sub [1, 2, 3, 0] rfl (lv2 := [(0, .ref l0), (3, .int l3), (4, .long w4_9), (6, .int (l6 + 1))]) ?_
      exact hk _ _ _ hf
def f_X5_digestPeer_j152 (kk : Int64 → Int32 → Hp → Option (Int64 × Hp)) (h : Hp) (l0 : Nat) (l3 : Int32) (l4 : Int64) (l6 : Int32) : Option (Int64 × Hp) := (kk l4 (l6 + 1) h)
set_option maxRecDepth 100000 in
set_option maxHeartbeats 4000000 in
theorem jn_X5_digestPeer_152 {g : Gl} {h : Hp} {kk : Int64 → Int32 → Hp → Option (Int64 × Hp)} {l0 : Nat} {l3 : Int32} {l4 : Int64} {l6 : Int32}  {r : Option Value} {h2 : Hp} {o4 : Int64} {h3 : Hp} (kl0 : KD g.1 l0 4 0) (hx0 : Ev yX5_digestPeer cX5_digestPeer 8 (some .long) 4 89 g 158 [] [(4, .long o4)] h3 r h2) (hk : ∀ (x4 : Int64) (x6 : Int32) (hq : Hp), kk x4 x6 hq = some (o4, h3) → Ev yX5_digestPeer cX5_digestPeer 8 (some .long) 4 89 g 100 [] [(0, .ref l0), (3, .int l3), (4, .long x4), (6, .int x6)] hq r h2) (hf : f_X5_digestPeer_j152 kk h l0 l3 l4 l6 = some (o4, h3)) : Ev yX5_digestPeer cX5_digestPeer 8 (some .long) 4 89 g 152 [] [(0, .ref l0), (3, .int l3), (4, .long l4), (6, .int l6)] h r h2 := by
  unfold f_X5_digestPeer_j152 at hf
  refine ev_iinc (z := 3) (v := (l6 + 1)) (lv2 := [(6, .int (l6 + 1)), (0, .ref l0), (3, .int l3), (4, .long l4)]) dX5_digestPeer_152 rfl rfl (by decide) rfl ?_
  refine ev_goto (tgt := 100) dX5_digestPeer_155 (by decide) ?_
  refine ev_sub [1, 2, 3, 0] rfl (lv2 := [(0, .ref l0), (3, .int l3), (4, .long l4), (6, .int (l6 + 1))]) ?_
  exact hk _ _ _ hf
def f_X5_digestPeer_l100 (l0 : Nat) (l3 : Int32) : Nat → Int64 → Int32 → Hp → Option (Int64 × Hp)
  | 0, _, _, _ => none
  | fu1 + 1, l4, l6, h => (if (hI h (l0 + 1) 4) ≤ l6 then (some (l4, h)) else (if l6 = l3 then (f_X5_digestPeer_j152 (f_X5_digestPeer_l100 l0 l3 fu1) h l0 l3 l4 l6) else (bn2 (f_X5_rate h l0 l3 l6) (fun v14 h15 => (bn2 (f_X5_suspects h15 l0 l3 l6) (fun v17 h18 => (f_X5_digestPeer_j152 (f_X5_digestPeer_l100 l0 l3 fu1) h18 l0 l3 (((31 : Int64) * (((31 : Int64) * l4) + v14.toInt64)) + v17.toInt64) l6)))))))
theorem f_X5_digestPeer_l100_s (l0 : Nat) (l3 : Int32) (fu1 : Nat) (l4 : Int64) (l6 : Int32) (h : Hp) : f_X5_digestPeer_l100 l0 l3 (fu1 + 1) l4 l6 h = (if (hI h (l0 + 1) 4) ≤ l6 then (some (l4, h)) else (if l6 = l3 then (f_X5_digestPeer_j152 (f_X5_digestPeer_l100 l0 l3 fu1) h l0 l3 l4 l6) else (bn2 (f_X5_rate h l0 l3 l6) (fun v14 h15 => (bn2 (f_X5_suspects h15 l0 l3 l6) (fun v17 h18 => (f_X5_digestPeer_j152 (f_X5_digestPeer_l100 l0 l3 fu1) h18 l0 l3 (((31 : Int64) * (((31 : Int64) * l4) + v14.toInt64)) + v17.toInt64) l6))))))) := rfl
theorem f_X5_digestPeer_l100_0 (l0 : Nat) (l3 : Int32) (l4 : Int64) (l6 : Int32) (h : Hp) : f_X5_digestPeer_l100 l0 l3 0 l4 l6 h = none := rfl
set_option maxRecDepth 100000 in
set_option maxHeartbeats 4000000 in
theorem lp_X5_digestPeer_100 {g : Gl} {l0 : Nat} {l3 : Int32} {r : Option Value} {h2 : Hp} {o4 : Int64} {h3 : Hp} (kl0 : KD g.1 l0 4 0) (hx0 : Ev yX5_digestPeer cX5_digestPeer 8 (some .long) 4 89 g 158 [] [(4, .long o4)] h3 r h2) : ∀ (fu1 : Nat) (l4 : Int64) (l6 : Int32) (h : Hp), f_X5_digestPeer_l100 l0 l3 fu1 l4 l6 h = some (o4, h3) → Ev yX5_digestPeer cX5_digestPeer 8 (some .long) 4 89 g 100 [] [(0, .ref l0), (3, .int l3), (4, .long l4), (6, .int l6)] h r h2 := by
  intro fu1
  induction fu1 with
  | zero =>
    intro l4 l6 h hf
    cases hf
  | succ fu1 ih =>
    intro l4 l6 h hf
    rw [f_X5_digestPeer_l100_s] at hf
    have hk := ih
    refine ev_iload (n := 3) dX5_digestPeer_100 rfl ?_
    refine ev_aload_n (n := 0) dX5_digestPeer_102 rfl rfl ?_
    refine ev_get (v := .ref (l0 + 1)) 0 kl0 rfl (by decide) rfl lk_216 dX5_digestPeer_103 ?_
    refine ev_get (v := .int (hI h (l0 + 1) 4)) 4 (kd_4_0 kl0) rfl (by decide) rfl lk_114 dX5_digestPeer_106 ?_
    refine ev_icmp_ge (tgt := 158) dX5_digestPeer_109 (by decide) (fun c1 => ?_) (fun c1 => ?_)
    · replace hf := if_t c1 hf
      refine ev_sub [2] rfl (lv2 := [(4, .long l4)]) ?_
      obtain ⟨rfl, rfl⟩ := Prod.mk.inj (Option.some.inj hf)
      exact hx0
    · replace hf := if_f c1 hf
      refine ev_iload (n := 3) dX5_digestPeer_112 rfl ?_
      refine ev_iload_n (n := 1) dX5_digestPeer_114 rfl rfl ?_
      refine ev_icmp_eq (tgt := 152) dX5_digestPeer_115 (by decide) (fun c1 => ?_) (fun c1 => ?_)
      · replace hf := if_t c1 hf
        exact jn_X5_digestPeer_152 kl0 hx0 hk hf
      · replace hf := if_f c1 hf
        refine ev_ldc2 dX5_digestPeer_118 lk_583 ?_
        refine ev_lload (n := 2) dX5_digestPeer_121 rfl ?_
        refine ev_lmul dX5_digestPeer_123 ?_
        refine ev_aload_n (n := 0) dX5_digestPeer_124 rfl rfl ?_
        refine ev_iload_n (n := 1) dX5_digestPeer_125 rfl rfl ?_
        refine ev_iload (n := 3) dX5_digestPeer_126 rfl ?_
        obtain ⟨v14, h15, e16, hf⟩ := bn2_of hf
        refine ev_callVi (As := [.int l3, .int l6]) cal_X5_rate kl0 rfl (ev_X5_rate kl0 e16) (Nat.le_of_ble_eq_true rfl) rfl lk_592 (by decide) (by decide) (Nat.le_of_ble_eq_true rfl) dX5_digestPeer_128 rfl ?_
        refine ev_i2l dX5_digestPeer_131 ?_
        refine ev_ladd dX5_digestPeer_132 ?_
        refine ev_lstore (lv2 := [(4, .long (((31 : Int64) * l4) + v14.toInt64)), (0, .ref l0), (3, .int l3), (6, .int l6)]) dX5_digestPeer_133 (by decide) rfl ?_
        refine ev_ldc2 dX5_digestPeer_135 lk_583 ?_
        refine ev_lload (n := 0) dX5_digestPeer_138 rfl ?_
        refine ev_lmul dX5_digestPeer_140 ?_
        refine ev_aload_n (n := 1) dX5_digestPeer_141 rfl rfl ?_
        refine ev_iload_n (n := 2) dX5_digestPeer_142 rfl rfl ?_
        refine ev_iload (n := 3) dX5_digestPeer_143 rfl ?_
        obtain ⟨v17, h18, e19, hf⟩ := bn2_of hf
        refine ev_callVi (As := [.int l3, .int l6]) cal_X5_suspects kl0 rfl (ev_X5_suspects kl0 e19) (Nat.le_of_ble_eq_true rfl) rfl lk_593 (by decide) (by decide) (Nat.le_of_ble_eq_true rfl) dX5_digestPeer_145 rfl ?_
        refine ev_i2l dX5_digestPeer_148 ?_
        refine ev_ladd dX5_digestPeer_149 ?_
        refine ev_lstore (lv2 := [(4, .long (((31 : Int64) * (((31 : Int64) * l4) + v14.toInt64)) + v17.toInt64)), (0, .ref l0), (3, .int l3), (6, .int l6)]) dX5_digestPeer_150 (by decide) rfl ?_
        refine ev_sub [1, 2, 0, 3] rfl (lv2 := [(0, .ref l0), (3, .int l3), (4, .long (((31 : Int64) * (((31 : Int64) * l4) + v14.toInt64)) + v17.toInt64)), (6, .int l6)]) ?_
        exact jn_X5_digestPeer_152 kl0 hx0 hk hf
def f_X5_digestPeer (h : Hp) (l0 : Nat) (l1 : Int64) (l3 : Int32) : Option (Int64 × Hp) := (bn2 (f_X5_digestPeer_l6 l0 l3 fu l1 (0 : Int32) h) (fun w4_4 h5 => (bn2 (f_X5_digestPeer_l39 l0 l3 fu w4_4 (0 : Int32) h5) (fun w4_12 h13 => (bn2 (f_X5_digestPeer_l100 l0 l3 fu w4_12 (0 : Int32) h13) (fun w4_20 h21 => (some (w4_20, h21))))))))
set_option maxRecDepth 100000 in
set_option maxHeartbeats 4000000 in
theorem ev_X5_digestPeer {g : Gl} {h : Hp} {l0 : Nat} {l1 : Int64} {l3 : Int32} {rv : Int64} {h2 : Hp} (kl0 : KD g.1 l0 4 0) (hf : f_X5_digestPeer h l0 l1 l3 = some (rv, h2)) : Ev yX5_digestPeer cX5_digestPeer 8 (some .long) 4 89 g 0 [] [(0, .ref l0), (1, .long l1), (3, .int l3)] h (some (.long rv)) h2 := by
  unfold f_X5_digestPeer at hf
  refine ev_lload_n (n := 1) dX5_digestPeer_0 rfl rfl ?_
  refine ev_lstore (lv2 := [(4, .long l1), (0, .ref l0), (1, .long l1), (3, .int l3)]) dX5_digestPeer_1 (by decide) rfl ?_
  refine ev_iconst (v := 0) dX5_digestPeer_3 (by decide) ?_
  refine ev_istore (lv2 := [(6, .int (0 : Int32)), (4, .long l1), (0, .ref l0), (1, .long l1), (3, .int l3)]) dX5_digestPeer_4 (by decide) rfl ?_
  obtain ⟨w4_4, h5, e24, hf⟩ := bn2_of hf
  refine ev_sub [2, 4, 1, 0] rfl (lv2 := [(0, .ref l0), (3, .int l3), (4, .long l1), (6, .int (0 : Int32))]) ?_
  refine lp_X5_digestPeer_6 kl0 ?_ fu _ _ _ e24
  refine ev_iconst (v := 0) dX5_digestPeer_36 (by decide) ?_
  refine ev_istore (lv2 := [(6, .int (0 : Int32)), (0, .ref l0), (3, .int l3), (4, .long w4_4)]) dX5_digestPeer_37 (by decide) rfl ?_
  obtain ⟨w4_12, h13, e23, hf⟩ := bn2_of hf
  refine ev_sub [1, 2, 3, 0] rfl (lv2 := [(0, .ref l0), (3, .int l3), (4, .long w4_4), (6, .int (0 : Int32))]) ?_
  refine lp_X5_digestPeer_39 kl0 ?_ fu _ _ _ e23
  refine ev_iconst (v := 0) dX5_digestPeer_97 (by decide) ?_
  refine ev_istore (lv2 := [(6, .int (0 : Int32)), (0, .ref l0), (3, .int l3), (4, .long w4_12)]) dX5_digestPeer_98 (by decide) rfl ?_
  obtain ⟨w4_20, h21, e22, hf⟩ := bn2_of hf
  refine ev_sub [1, 2, 3, 0] rfl (lv2 := [(0, .ref l0), (3, .int l3), (4, .long w4_12), (6, .int (0 : Int32))]) ?_
  refine lp_X5_digestPeer_100 kl0 ?_ fu _ _ _ e22
  refine ev_lload (n := 0) dX5_digestPeer_158 rfl ?_
  obtain ⟨rfl, rfl⟩ := Prod.mk.inj (Option.some.inj hf)
  exact ev_lreturn dX5_digestPeer_160 rfl
def f_X5_digest_l6 (l0 : Nat) : Nat → Int64 → Int32 → Hp → Option (Int64 × Hp)
  | 0, _, _, _ => none
  | fu1 + 1, l1, l3, h => (if (8 : Int32) < l3 then (some (l1, h)) else (bn2 (f_X5_told h l0 l3) (fun v1 h2 => (f_X5_digest_l6 l0 fu1 (((31 : Int64) * l1) + v1.toInt64) (l3 + 1) h2))))
theorem f_X5_digest_l6_s (l0 : Nat) (fu1 : Nat) (l1 : Int64) (l3 : Int32) (h : Hp) : f_X5_digest_l6 l0 (fu1 + 1) l1 l3 h = (if (8 : Int32) < l3 then (some (l1, h)) else (bn2 (f_X5_told h l0 l3) (fun v1 h2 => (f_X5_digest_l6 l0 fu1 (((31 : Int64) * l1) + v1.toInt64) (l3 + 1) h2)))) := rfl
theorem f_X5_digest_l6_0 (l0 : Nat) (l1 : Int64) (l3 : Int32) (h : Hp) : f_X5_digest_l6 l0 0 l1 l3 h = none := rfl
set_option maxRecDepth 100000 in
set_option maxHeartbeats 4000000 in
theorem lp_X5_digest_6 {g : Gl} {l0 : Nat} {r : Option Value} {h2 : Hp} {o1 : Int64} {h3 : Hp} (kl0 : KD g.1 l0 4 0) (hx0 : Ev yX5_digest cX5_digest 4 (some .long) 5 116 g 31 [] [(0, .ref l0), (1, .long o1)] h3 r h2) : ∀ (fu1 : Nat) (l1 : Int64) (l3 : Int32) (h : Hp), f_X5_digest_l6 l0 fu1 l1 l3 h = some (o1, h3) → Ev yX5_digest cX5_digest 4 (some .long) 5 116 g 6 [] [(0, .ref l0), (1, .long l1), (3, .int l3)] h r h2 := by
  intro fu1
  induction fu1 with
  | zero =>
    intro l1 l3 h hf
    cases hf
  | succ fu1 ih =>
    intro l1 l3 h hf
    rw [f_X5_digest_l6_s] at hf
    have hk := ih
    refine ev_iload_n (n := 2) dX5_digest_6 rfl rfl ?_
    refine ev_bipush (v := 8) dX5_digest_7 (by decide) ?_
    refine ev_icmp_gt (tgt := 31) dX5_digest_9 (by decide) (fun c1 => ?_) (fun c1 => ?_)
    · replace hf := if_t c1 hf
      refine ev_sub [0, 1] rfl (lv2 := [(0, .ref l0), (1, .long l1)]) ?_
      obtain ⟨rfl, rfl⟩ := Prod.mk.inj (Option.some.inj hf)
      exact hx0
    · replace hf := if_f c1 hf
      refine ev_ldc2 dX5_digest_12 lk_583 ?_
      refine ev_lload_n (n := 1) dX5_digest_15 rfl rfl ?_
      refine ev_lmul dX5_digest_16 ?_
      refine ev_aload_n (n := 0) dX5_digest_17 rfl rfl ?_
      refine ev_iload_n (n := 2) dX5_digest_18 rfl rfl ?_
      obtain ⟨v1, h2, e3, hf⟩ := bn2_of hf
      refine ev_callVi (As := [.int l3]) cal_X5_told kl0 rfl (ev_X5_told kl0 e3) (Nat.le_of_ble_eq_true rfl) rfl lk_584 (by decide) (by decide) (Nat.le_of_ble_eq_true rfl) dX5_digest_19 rfl ?_
      refine ev_i2l dX5_digest_22 ?_
      refine ev_ladd dX5_digest_23 ?_
      refine ev_lstore_n (lv2 := [(1, .long (((31 : Int64) * l1) + v1.toInt64)), (0, .ref l0), (3, .int l3)]) dX5_digest_24 rfl (by decide) rfl ?_
      refine ev_iinc (z := 2) (v := (l3 + 1)) (lv2 := [(3, .int (l3 + 1)), (1, .long (((31 : Int64) * l1) + v1.toInt64)), (0, .ref l0)]) dX5_digest_25 rfl rfl (by decide) rfl ?_
      refine ev_goto (tgt := 6) dX5_digest_28 (by decide) ?_
      refine ev_sub [2, 1, 0] rfl (lv2 := [(0, .ref l0), (1, .long (((31 : Int64) * l1) + v1.toInt64)), (3, .int (l3 + 1))]) ?_
      exact hk _ _ _ hf
def f_X5_digest_l33 (l0 : Nat) : Nat → Int64 → Int32 → Hp → Option (Int64 × Hp)
  | 0, _, _, _ => none
  | fu1 + 1, l1, l3, h => (if (9 : Int32) < l3 then (some (l1, h)) else (bn2 (f_X5_count h l0 l3) (fun v6 h7 => (f_X5_digest_l33 l0 fu1 (((31 : Int64) * l1) + v6.toInt64) (l3 + 1) h7))))
theorem f_X5_digest_l33_s (l0 : Nat) (fu1 : Nat) (l1 : Int64) (l3 : Int32) (h : Hp) : f_X5_digest_l33 l0 (fu1 + 1) l1 l3 h = (if (9 : Int32) < l3 then (some (l1, h)) else (bn2 (f_X5_count h l0 l3) (fun v6 h7 => (f_X5_digest_l33 l0 fu1 (((31 : Int64) * l1) + v6.toInt64) (l3 + 1) h7)))) := rfl
theorem f_X5_digest_l33_0 (l0 : Nat) (l1 : Int64) (l3 : Int32) (h : Hp) : f_X5_digest_l33 l0 0 l1 l3 h = none := rfl
set_option maxRecDepth 100000 in
set_option maxHeartbeats 4000000 in
theorem lp_X5_digest_33 {g : Gl} {l0 : Nat} {r : Option Value} {h2 : Hp} {o1 : Int64} {h3 : Hp} (kl0 : KD g.1 l0 4 0) (hx0 : Ev yX5_digest cX5_digest 4 (some .long) 5 116 g 58 [] [(0, .ref l0), (1, .long o1)] h3 r h2) : ∀ (fu1 : Nat) (l1 : Int64) (l3 : Int32) (h : Hp), f_X5_digest_l33 l0 fu1 l1 l3 h = some (o1, h3) → Ev yX5_digest cX5_digest 4 (some .long) 5 116 g 33 [] [(0, .ref l0), (1, .long l1), (3, .int l3)] h r h2 := by
  intro fu1
  induction fu1 with
  | zero =>
    intro l1 l3 h hf
    cases hf
  | succ fu1 ih =>
    intro l1 l3 h hf
    rw [f_X5_digest_l33_s] at hf
    have hk := ih
    refine ev_iload_n (n := 2) dX5_digest_33 rfl rfl ?_
    refine ev_bipush (v := 9) dX5_digest_34 (by decide) ?_
    refine ev_icmp_gt (tgt := 58) dX5_digest_36 (by decide) (fun c1 => ?_) (fun c1 => ?_)
    · replace hf := if_t c1 hf
      refine ev_sub [0, 1] rfl (lv2 := [(0, .ref l0), (1, .long l1)]) ?_
      obtain ⟨rfl, rfl⟩ := Prod.mk.inj (Option.some.inj hf)
      exact hx0
    · replace hf := if_f c1 hf
      refine ev_ldc2 dX5_digest_39 lk_583 ?_
      refine ev_lload_n (n := 1) dX5_digest_42 rfl rfl ?_
      refine ev_lmul dX5_digest_43 ?_
      refine ev_aload_n (n := 0) dX5_digest_44 rfl rfl ?_
      refine ev_iload_n (n := 2) dX5_digest_45 rfl rfl ?_
      obtain ⟨v6, h7, e8, hf⟩ := bn2_of hf
      refine ev_callVi (As := [.int l3]) cal_X5_count kl0 rfl (ev_X5_count kl0 e8) (Nat.le_of_ble_eq_true rfl) rfl lk_585 (by decide) (by decide) (Nat.le_of_ble_eq_true rfl) dX5_digest_46 rfl ?_
      refine ev_i2l dX5_digest_49 ?_
      refine ev_ladd dX5_digest_50 ?_
      refine ev_lstore_n (lv2 := [(1, .long (((31 : Int64) * l1) + v6.toInt64)), (0, .ref l0), (3, .int l3)]) dX5_digest_51 rfl (by decide) rfl ?_
      refine ev_iinc (z := 2) (v := (l3 + 1)) (lv2 := [(3, .int (l3 + 1)), (1, .long (((31 : Int64) * l1) + v6.toInt64)), (0, .ref l0)]) dX5_digest_52 rfl rfl (by decide) rfl ?_
      refine ev_goto (tgt := 33) dX5_digest_55 (by decide) ?_
      refine ev_sub [2, 1, 0] rfl (lv2 := [(0, .ref l0), (1, .long (((31 : Int64) * l1) + v6.toInt64)), (3, .int (l3 + 1))]) ?_
      exact hk _ _ _ hf
def f_X5_digest_l60 (l0 : Nat) : Nat → Int64 → Int32 → Hp → Option (Int64 × Hp)
  | 0, _, _, _ => none
  | fu1 + 1, l1, l3, h => (if (hI h (l0 + 1) 4) ≤ l3 then (some (l1, h)) else (bn2 (f_X5_digestPeer h l0 l1 l3) (fun v11 h12 => (f_X5_digest_l60 l0 fu1 v11 (l3 + 1) h12))))
theorem f_X5_digest_l60_s (l0 : Nat) (fu1 : Nat) (l1 : Int64) (l3 : Int32) (h : Hp) : f_X5_digest_l60 l0 (fu1 + 1) l1 l3 h = (if (hI h (l0 + 1) 4) ≤ l3 then (some (l1, h)) else (bn2 (f_X5_digestPeer h l0 l1 l3) (fun v11 h12 => (f_X5_digest_l60 l0 fu1 v11 (l3 + 1) h12)))) := rfl
theorem f_X5_digest_l60_0 (l0 : Nat) (l1 : Int64) (l3 : Int32) (h : Hp) : f_X5_digest_l60 l0 0 l1 l3 h = none := rfl
set_option maxRecDepth 100000 in
set_option maxHeartbeats 4000000 in
theorem lp_X5_digest_60 {g : Gl} {l0 : Nat} {r : Option Value} {h2 : Hp} {o1 : Int64} {h3 : Hp} (kl0 : KD g.1 l0 4 0) (hx0 : Ev yX5_digest cX5_digest 4 (some .long) 5 116 g 84 [] [(0, .ref l0), (1, .long o1)] h3 r h2) : ∀ (fu1 : Nat) (l1 : Int64) (l3 : Int32) (h : Hp), f_X5_digest_l60 l0 fu1 l1 l3 h = some (o1, h3) → Ev yX5_digest cX5_digest 4 (some .long) 5 116 g 60 [] [(0, .ref l0), (1, .long l1), (3, .int l3)] h r h2 := by
  intro fu1
  induction fu1 with
  | zero =>
    intro l1 l3 h hf
    cases hf
  | succ fu1 ih =>
    intro l1 l3 h hf
    rw [f_X5_digest_l60_s] at hf
    have hk := ih
    refine ev_iload_n (n := 2) dX5_digest_60 rfl rfl ?_
    refine ev_aload_n (n := 0) dX5_digest_61 rfl rfl ?_
    refine ev_get (v := .ref (l0 + 1)) 0 kl0 rfl (by decide) rfl lk_216 dX5_digest_62 ?_
    refine ev_get (v := .int (hI h (l0 + 1) 4)) 4 (kd_4_0 kl0) rfl (by decide) rfl lk_114 dX5_digest_65 ?_
    refine ev_icmp_ge (tgt := 84) dX5_digest_68 (by decide) (fun c1 => ?_) (fun c1 => ?_)
    · replace hf := if_t c1 hf
      refine ev_sub [0, 1] rfl (lv2 := [(0, .ref l0), (1, .long l1)]) ?_
      obtain ⟨rfl, rfl⟩ := Prod.mk.inj (Option.some.inj hf)
      exact hx0
    · replace hf := if_f c1 hf
      refine ev_aload_n (n := 0) dX5_digest_71 rfl rfl ?_
      refine ev_lload_n (n := 1) dX5_digest_72 rfl rfl ?_
      refine ev_iload_n (n := 2) dX5_digest_73 rfl rfl ?_
      obtain ⟨v11, h12, e13, hf⟩ := bn2_of hf
      refine ev_callVl (As := [.long l1, .int l3]) cal_X5_digestPeer kl0 rfl (ev_X5_digestPeer kl0 e13) (Nat.le_of_ble_eq_true rfl) rfl lk_586 (by decide) (by decide) (Nat.le_of_ble_eq_true rfl) dX5_digest_74 rfl ?_
      refine ev_lstore_n (lv2 := [(1, .long v11), (0, .ref l0), (3, .int l3)]) dX5_digest_77 rfl (by decide) rfl ?_
      refine ev_iinc (z := 2) (v := (l3 + 1)) (lv2 := [(3, .int (l3 + 1)), (1, .long v11), (0, .ref l0)]) dX5_digest_78 rfl rfl (by decide) rfl ?_
      refine ev_goto (tgt := 60) dX5_digest_81 (by decide) ?_
      refine ev_sub [2, 1, 0] rfl (lv2 := [(0, .ref l0), (1, .long v11), (3, .int (l3 + 1))]) ?_
      exact hk _ _ _ hf
def f_X5_digest (h : Hp) (l0 : Nat) : Option (Int64 × Hp) := (bn2 (f_X5_digest_l6 l0 fu (2559 : Int64) (0 : Int32) h) (fun w1_4 h5 => (bn2 (f_X5_digest_l33 l0 fu w1_4 (0 : Int32) h5) (fun w1_9 h10 => (bn2 (f_X5_digest_l60 l0 fu w1_9 (0 : Int32) h10) (fun w1_14 h15 => (bn1 (f_X5_spread h15 l0) (fun v16 => (bn1 (f_X5_fairness h15 l0) (fun v18 => (some ((((31 : Int64) * (((31 : Int64) * w1_14) + v16.toInt64)) + v18), h15))))))))))))
set_option maxRecDepth 100000 in
set_option maxHeartbeats 4000000 in
theorem ev_X5_digest {g : Gl} {h : Hp} {l0 : Nat} {rv : Int64} {h2 : Hp} (kl0 : KD g.1 l0 4 0) (hf : f_X5_digest h l0 = some (rv, h2)) : Ev yX5_digest cX5_digest 4 (some .long) 5 116 g 0 [] [(0, .ref l0)] h (some (.long rv)) h2 := by
  unfold f_X5_digest at hf
  refine ev_ldc2 dX5_digest_0 lk_582 ?_
  refine ev_lstore_n (lv2 := [(1, .long (2559 : Int64)), (0, .ref l0)]) dX5_digest_3 rfl (by decide) rfl ?_
  refine ev_iconst (v := 0) dX5_digest_4 (by decide) ?_
  refine ev_istore_n (lv2 := [(3, .int (0 : Int32)), (1, .long (2559 : Int64)), (0, .ref l0)]) dX5_digest_5 rfl (by decide) rfl ?_
  obtain ⟨w1_4, h5, e22, hf⟩ := bn2_of hf
  refine ev_sub [2, 1, 0] rfl (lv2 := [(0, .ref l0), (1, .long (2559 : Int64)), (3, .int (0 : Int32))]) ?_
  refine lp_X5_digest_6 kl0 ?_ fu _ _ _ e22
  refine ev_iconst (v := 0) dX5_digest_31 (by decide) ?_
  refine ev_istore_n (lv2 := [(3, .int (0 : Int32)), (0, .ref l0), (1, .long w1_4)]) dX5_digest_32 rfl (by decide) rfl ?_
  obtain ⟨w1_9, h10, e21, hf⟩ := bn2_of hf
  refine ev_sub [1, 2, 0] rfl (lv2 := [(0, .ref l0), (1, .long w1_4), (3, .int (0 : Int32))]) ?_
  refine lp_X5_digest_33 kl0 ?_ fu _ _ _ e21
  refine ev_iconst (v := 0) dX5_digest_58 (by decide) ?_
  refine ev_istore_n (lv2 := [(3, .int (0 : Int32)), (0, .ref l0), (1, .long w1_9)]) dX5_digest_59 rfl (by decide) rfl ?_
  obtain ⟨w1_14, h15, e20, hf⟩ := bn2_of hf
  refine ev_sub [1, 2, 0] rfl (lv2 := [(0, .ref l0), (1, .long w1_9), (3, .int (0 : Int32))]) ?_
  refine lp_X5_digest_60 kl0 ?_ fu _ _ _ e20
  refine ev_ldc2 dX5_digest_84 lk_583 ?_
  refine ev_lload_n (n := 1) dX5_digest_87 rfl rfl ?_
  refine ev_lmul dX5_digest_88 ?_
  refine ev_aload_n (n := 0) dX5_digest_89 rfl rfl ?_
  obtain ⟨v16, e17, hf⟩ := bn1_of hf
  refine ev_callVi (As := []) cal_X5_spread kl0 rfl (ev_X5_spread kl0 e17) (Nat.le_of_ble_eq_true rfl) rfl lk_594 (by decide) (by decide) (Nat.le_of_ble_eq_true rfl) dX5_digest_90 rfl ?_
  refine ev_i2l dX5_digest_93 ?_
  refine ev_ladd dX5_digest_94 ?_
  refine ev_lstore_n (lv2 := [(1, .long (((31 : Int64) * w1_14) + v16.toInt64)), (0, .ref l0)]) dX5_digest_95 rfl (by decide) rfl ?_
  refine ev_ldc2 dX5_digest_96 lk_583 ?_
  refine ev_lload_n (n := 0) dX5_digest_99 rfl rfl ?_
  refine ev_lmul dX5_digest_100 ?_
  refine ev_aload_n (n := 1) dX5_digest_101 rfl rfl ?_
  obtain ⟨v18, e19, hf⟩ := bn1_of hf
  refine ev_callVl (As := []) cal_X5_fairness kl0 rfl (ev_X5_fairness kl0 e19) (Nat.le_of_ble_eq_true rfl) rfl lk_595 (by decide) (by decide) (Nat.le_of_ble_eq_true rfl) dX5_digest_102 rfl ?_
  refine ev_ladd dX5_digest_105 ?_
  obtain ⟨rfl, rfl⟩ := Prod.mk.inj (Option.some.inj hf)
  exact ev_lreturn dX5_digest_106 rfl
