def f_X3_isFinished_j40 (kk : Int32 → Option (Nat)) (h : Hp) (l0 : Nat) (l1 : Int32) : Option (Nat) := (kk (l1 + 1))
set_option maxRecDepth 100000 in
set_option maxHeartbeats 4000000 in
theorem jn_X3_isFinished_40 {g : Gl} {h : Hp} {kk : Int32 → Option (Nat)} {l0 : Nat} {l1 : Int32}  {r : Option Value} {h2 : Hp} {tg : Nat} (kl0 : KD g.1 l0 2 0) (hx0 : tg = 0 → Ev yX3_isFinished cX3_isFinished 2 (some .boolean) 0 0 g 38 [] [] h r h2) (hx1 : tg = 1 → Ev yX3_isFinished cX3_isFinished 2 (some .boolean) 0 0 g 46 [] [] h r h2) (hk : ∀ (x1 : Int32), kk x1 = some tg → Ev yX3_isFinished cX3_isFinished 2 (some .boolean) 0 0 g 2 [] [(0, .ref l0), (1, .int x1)] h r h2) (hf : f_X3_isFinished_j40 kk h l0 l1 = some tg) : Ev yX3_isFinished cX3_isFinished 2 (some .boolean) 0 0 g 40 [] [(0, .ref l0), (1, .int l1)] h r h2 := by
  unfold f_X3_isFinished_j40 at hf
  refine ev_iinc (z := 1) (v := (l1 + 1)) (lv2 := [(1, .int (l1 + 1)), (0, .ref l0)]) dX3_isFinished_40 rfl rfl (by decide) rfl ?_
  refine ev_goto (tgt := 2) dX3_isFinished_43 (by decide) ?_
  refine ev_sub [1, 0] rfl (lv2 := [(0, .ref l0), (1, .int (l1 + 1))]) ?_
  exact hk _ hf
def f_X3_isFinished_l2 (h : Hp) (l0 : Nat) : Nat → Int32 → Option (Nat)
  | 0, _ => none
  | fu1 + 1, l1 => (if (hI h l0 4) ≤ l1 then (some 1) else (if inb l1 6 = true then (if (hI h ((l0 + 2) + 1 + 4 * l1.toNatClampNeg) 0) = 0 then (if inb l1 6 = true then (if (hI h ((l0 + 2) + 1 + 4 * l1.toNatClampNeg) 2) = (hI h l0 2) then (f_X3_isFinished_j40 (f_X3_isFinished_l2 h l0 fu1) h l0 l1) else (some 0)) else none) else (f_X3_isFinished_j40 (f_X3_isFinished_l2 h l0 fu1) h l0 l1)) else none))
theorem f_X3_isFinished_l2_s (h : Hp) (l0 : Nat) (fu1 : Nat) (l1 : Int32) : f_X3_isFinished_l2 h l0 (fu1 + 1) l1 = (if (hI h l0 4) ≤ l1 then (some 1) else (if inb l1 6 = true then (if (hI h ((l0 + 2) + 1 + 4 * l1.toNatClampNeg) 0) = 0 then (if inb l1 6 = true then (if (hI h ((l0 + 2) + 1 + 4 * l1.toNatClampNeg) 2) = (hI h l0 2) then (f_X3_isFinished_j40 (f_X3_isFinished_l2 h l0 fu1) h l0 l1) else (some 0)) else none) else (f_X3_isFinished_j40 (f_X3_isFinished_l2 h l0 fu1) h l0 l1)) else none)) := rfl
theorem f_X3_isFinished_l2_0 (h : Hp) (l0 : Nat) (l1 : Int32) : f_X3_isFinished_l2 h l0 0 l1 = none := rfl
set_option maxRecDepth 100000 in
set_option maxHeartbeats 4000000 in
theorem lp_X3_isFinished_2 {g : Gl} {h : Hp} {l0 : Nat} {r : Option Value} {h2 : Hp} {tg : Nat} (kl0 : KD g.1 l0 2 0) (hx0 : tg = 0 → Ev yX3_isFinished cX3_isFinished 2 (some .boolean) 0 0 g 38 [] [] h r h2) (hx1 : tg = 1 → Ev yX3_isFinished cX3_isFinished 2 (some .boolean) 0 0 g 46 [] [] h r h2) : ∀ (fu1 : Nat) (l1 : Int32), f_X3_isFinished_l2 h l0 fu1 l1 = some tg → Ev yX3_isFinished cX3_isFinished 2 (some .boolean) 0 0 g 2 [] [(0, .ref l0), (1, .int l1)] h r h2 := by
  intro fu1
  induction fu1 with
  | zero =>
    intro l1 hf
    cases hf
  | succ fu1 ih =>
    intro l1 hf
    rw [f_X3_isFinished_l2_s] at hf
    have hk := ih
    refine ev_iload_n (n := 1) dX3_isFinished_2 rfl rfl ?_
    refine ev_aload_n (n := 0) dX3_isFinished_3 rfl rfl ?_
    refine ev_get (v := .int (hI h l0 4)) 4 kl0 rfl (by decide) rfl lk_113 dX3_isFinished_4 ?_
    refine ev_icmp_ge (tgt := 46) dX3_isFinished_7 (by decide) (fun c1 => ?_) (fun c1 => ?_)
    · replace hf := if_t c1 hf
      refine ev_sub [] rfl (lv2 := []) ?_
      obtain rfl := Option.some.inj hf
      exact hx1 rfl
    · replace hf := if_f c1 hf
      refine ev_aload_n (n := 0) dX3_isFinished_10 rfl rfl ?_
      refine ev_get (v := .ref (l0 + 2)) 11 kl0 rfl (by decide) rfl lk_129 dX3_isFinished_11 ?_
      refine ev_iload_n (n := 1) dX3_isFinished_14 rfl rfl ?_
      obtain ⟨gd1, hf⟩ := gd_of hf
      refine ev_aaldP (kd_2_11 kl0) (inb_of gd1) dX3_isFinished_15 ?_
      refine ev_get (v := .int (hI h ((l0 + 2) + 1 + 4 * l1.toNatClampNeg) 0)) 0 (kdPA (kd_2_11 kl0) (inb_of gd1)) rfl (by decide) rfl lk_37 dX3_isFinished_16 ?_
      refine ev_if_ne (tgt := 40) dX3_isFinished_19 (by decide) (fun c1 => ?_) (fun c1 => ?_)
      · replace hf := if_f c1 hf
        exact jn_X3_isFinished_40 kl0 hx0 hx1 hk hf
      · replace hf := if_t c1 hf
        refine ev_aload_n (n := 0) dX3_isFinished_22 rfl rfl ?_
        refine ev_get (v := .ref (l0 + 2)) 11 kl0 rfl (by decide) rfl lk_129 dX3_isFinished_23 ?_
        refine ev_iload_n (n := 1) dX3_isFinished_26 rfl rfl ?_
        obtain ⟨gd2, hf⟩ := gd_of hf
        refine ev_aaldP (kd_2_11 kl0) (inb_of gd2) dX3_isFinished_27 ?_
        refine ev_get (v := .int (hI h ((l0 + 2) + 1 + 4 * l1.toNatClampNeg) 2)) 2 (kdPA (kd_2_11 kl0) (inb_of gd2)) rfl (by decide) rfl lk_43 dX3_isFinished_28 ?_
        refine ev_aload_n (n := 0) dX3_isFinished_31 rfl rfl ?_
        refine ev_get (v := .int (hI h l0 2)) 2 kl0 rfl (by decide) rfl lk_109 dX3_isFinished_32 ?_
        refine ev_icmp_eq (tgt := 40) dX3_isFinished_35 (by decide) (fun c1 => ?_) (fun c1 => ?_)
        · replace hf := if_t c1 hf
          exact jn_X3_isFinished_40 kl0 hx0 hx1 hk hf
        · replace hf := if_f c1 hf
          refine ev_sub [] rfl (lv2 := []) ?_
          obtain rfl := Option.some.inj hf
          exact hx0 rfl
def f_X3_isFinished (h : Hp) (l0 : Nat) : Option (Int32) := (bn1 (f_X3_isFinished_l2 h l0 fu (0 : Int32)) (fun tg2 => (if tg2 = 0 then (some (0 : Int32)) else (some (1 : Int32)))))
set_option maxRecDepth 100000 in
set_option maxHeartbeats 4000000 in
theorem ev_X3_isFinished {g : Gl} {h : Hp} {l0 : Nat} {rv : Int32} (kl0 : KD g.1 l0 2 0) (hf : f_X3_isFinished h l0 = some rv) : Ev yX3_isFinished cX3_isFinished 2 (some .boolean) 0 0 g 0 [] [(0, .ref l0)] h (some (.int rv)) h := by
  unfold f_X3_isFinished at hf
  refine ev_iconst (v := 0) dX3_isFinished_0 (by decide) ?_
  refine ev_istore_n (lv2 := [(1, .int (0 : Int32)), (0, .ref l0)]) dX3_isFinished_1 rfl (by decide) rfl ?_
  obtain ⟨tg2, e3, hf⟩ := bn1_of hf
  refine ev_sub [1, 0] rfl (lv2 := [(0, .ref l0), (1, .int (0 : Int32))]) ?_
  refine lp_X3_isFinished_2 kl0 (fun ht => ?_) (fun ht => ?_) fu _ e3
  · subst ht
    replace hf : _ = _ := hf
    replace hf := if_t rfl hf
    refine ev_iconst (v := 0) dX3_isFinished_38 (by decide) ?_
    obtain rfl := Option.some.inj hf
    exact ev_ireturn dX3_isFinished_39 ⟨.boolean, rfl, rfl⟩
  · subst ht
    replace hf : _ = _ := hf
    replace hf := if_f (by decide) hf
    refine ev_iconst (v := 1) dX3_isFinished_46 (by decide) ?_
    obtain rfl := Option.some.inj hf
    exact ev_ireturn dX3_isFinished_47 ⟨.boolean, rfl, rfl⟩
def f_X3_tellPeer (h : Hp) (l0 : Nat) (l1 : Int32) (l2 : Int32) : Option (Int32) := (if inb l1 6 = true then (if l2 = 0 then (some (hI h ((l0 + 2) + 1 + 4 * l1.toNatClampNeg) 0)) else (if l2 = 1 then (some (hI h ((l0 + 2) + 1 + 4 * l1.toNatClampNeg) 1)) else (if l2 = 2 then (some (hI h ((l0 + 2) + 1 + 4 * l1.toNatClampNeg) 2)) else (if l2 = 3 then (bn1 (f_X3_leftOf h l0 ((l0 + 2) + 1 + 4 * l1.toNatClampNeg)) (fun v4 => (some v4))) else (if l2 = 4 then (some (hI h ((l0 + 2) + 1 + 4 * l1.toNatClampNeg) 4)) else (if l2 = 5 then (some (hI h ((l0 + 2) + 1 + 4 * l1.toNatClampNeg) 5)) else (if l2 = 6 then (some (hI h ((l0 + 2) + 1 + 4 * l1.toNatClampNeg) 6)) else (if l2 = 7 then (some (hI h ((l0 + 2) + 1 + 4 * l1.toNatClampNeg) 7)) else (if l2 = 8 then (some (hI h ((l0 + 2) + 1 + 4 * l1.toNatClampNeg) 8)) else (bn1 (f_X3_claimsOf h l0 l1) (fun v2 => (some v2)))))))))))) else none)
set_option maxRecDepth 100000 in
set_option maxHeartbeats 4000000 in
theorem ev_X3_tellPeer {g : Gl} {h : Hp} {l0 : Nat} {l1 : Int32} {l2 : Int32} {rv : Int32} (kl0 : KD g.1 l0 2 0) (hf : f_X3_tellPeer h l0 l1 l2 = some rv) : Ev yX3_tellPeer cX3_tellPeer 4 (some .int) 2 44 g 0 [] [(0, .ref l0), (1, .int l1), (2, .int l2)] h (some (.int rv)) h := by
  unfold f_X3_tellPeer at hf
  refine ev_aload_n (n := 0) dX3_tellPeer_0 rfl rfl ?_
  refine ev_get (v := .ref (l0 + 2)) 11 kl0 rfl (by decide) rfl lk_129 dX3_tellPeer_1 ?_
  refine ev_iload_n (n := 1) dX3_tellPeer_4 rfl rfl ?_
  obtain ⟨gd1, hf⟩ := gd_of hf
  refine ev_aaldP (kd_2_11 kl0) (inb_of gd1) dX3_tellPeer_5 ?_
  refine ev_astore_n (lv2 := [(3, .ref ((l0 + 2) + 1 + 4 * l1.toNatClampNeg)), (0, .ref l0), (1, .int l1), (2, .int l2)]) dX3_tellPeer_6 rfl (by decide) rfl ?_
  refine ev_iload_n (n := 3) dX3_tellPeer_7 rfl rfl ?_
  by_cases sw0 : l2 = 0
  · replace hf := if_t sw0 hf
    refine ev_tableIn (tgt := 60) dX3_tellPeer_8 (by rw [sw0]; decide) (by rw [sw0]; decide) (by rw [sw0]; rfl) (by decide) ?_
    refine ev_aload_n (n := 0) dX3_tellPeer_60 rfl rfl ?_
    refine ev_get (v := .int (hI h ((l0 + 2) + 1 + 4 * l1.toNatClampNeg) 0)) 0 (kdPA (kd_2_11 kl0) (inb_of gd1)) rfl (by decide) rfl lk_37 dX3_tellPeer_61 ?_
    obtain rfl := Option.some.inj hf
    exact ev_ireturn dX3_tellPeer_64 ⟨.int, rfl, rfl⟩
  replace hf := if_f sw0 hf
  by_cases sw1 : l2 = 1
  · replace hf := if_t sw1 hf
    refine ev_tableIn (tgt := 65) dX3_tellPeer_8 (by rw [sw1]; decide) (by rw [sw1]; decide) (by rw [sw1]; rfl) (by decide) ?_
    refine ev_aload_n (n := 0) dX3_tellPeer_65 rfl rfl ?_
    refine ev_get (v := .int (hI h ((l0 + 2) + 1 + 4 * l1.toNatClampNeg) 1)) 1 (kdPA (kd_2_11 kl0) (inb_of gd1)) rfl (by decide) rfl lk_40 dX3_tellPeer_66 ?_
    obtain rfl := Option.some.inj hf
    exact ev_ireturn dX3_tellPeer_69 ⟨.int, rfl, rfl⟩
  replace hf := if_f sw1 hf
  by_cases sw2 : l2 = 2
  · replace hf := if_t sw2 hf
    refine ev_tableIn (tgt := 70) dX3_tellPeer_8 (by rw [sw2]; decide) (by rw [sw2]; decide) (by rw [sw2]; rfl) (by decide) ?_
    refine ev_aload_n (n := 0) dX3_tellPeer_70 rfl rfl ?_
    refine ev_get (v := .int (hI h ((l0 + 2) + 1 + 4 * l1.toNatClampNeg) 2)) 2 (kdPA (kd_2_11 kl0) (inb_of gd1)) rfl (by decide) rfl lk_43 dX3_tellPeer_71 ?_
    obtain rfl := Option.some.inj hf
    exact ev_ireturn dX3_tellPeer_74 ⟨.int, rfl, rfl⟩
  replace hf := if_f sw2 hf
  by_cases sw3 : l2 = 3
  · replace hf := if_t sw3 hf
    refine ev_tableIn (tgt := 75) dX3_tellPeer_8 (by rw [sw3]; decide) (by rw [sw3]; decide) (by rw [sw3]; rfl) (by decide) ?_
    refine ev_aload_n (n := 1) dX3_tellPeer_75 rfl rfl ?_
    refine ev_aload_n (n := 0) dX3_tellPeer_76 rfl rfl ?_
    obtain ⟨v4, e5, hf⟩ := bn1_of hf
    refine ev_callVi (As := [.ref ((l0 + 2) + 1 + 4 * l1.toNatClampNeg)]) cal_X3_leftOf kl0 rfl (ev_X3_leftOf kl0 (kdPA (kd_2_11 kl0) (inb_of gd1)) e5) (Nat.le_of_ble_eq_true rfl) rfl lk_462 (by decide) (by decide) (Nat.le_of_ble_eq_true rfl) dX3_tellPeer_77 rfl ?_
    obtain rfl := Option.some.inj hf
    exact ev_ireturn dX3_tellPeer_80 ⟨.int, rfl, rfl⟩
  replace hf := if_f sw3 hf
  by_cases sw4 : l2 = 4
  · replace hf := if_t sw4 hf
    refine ev_tableIn (tgt := 81) dX3_tellPeer_8 (by rw [sw4]; decide) (by rw [sw4]; decide) (by rw [sw4]; rfl) (by decide) ?_
    refine ev_aload_n (n := 0) dX3_tellPeer_81 rfl rfl ?_
    refine ev_get (v := .int (hI h ((l0 + 2) + 1 + 4 * l1.toNatClampNeg) 4)) 4 (kdPA (kd_2_11 kl0) (inb_of gd1)) rfl (by decide) rfl lk_49 dX3_tellPeer_82 ?_
    obtain rfl := Option.some.inj hf
    exact ev_ireturn dX3_tellPeer_85 ⟨.int, rfl, rfl⟩
  replace hf := if_f sw4 hf
  by_cases sw5 : l2 = 5
  · replace hf := if_t sw5 hf
    refine ev_tableIn (tgt := 86) dX3_tellPeer_8 (by rw [sw5]; decide) (by rw [sw5]; decide) (by rw [sw5]; rfl) (by decide) ?_
    refine ev_aload_n (n := 0) dX3_tellPeer_86 rfl rfl ?_
    refine ev_get (v := .int (hI h ((l0 + 2) + 1 + 4 * l1.toNatClampNeg) 5)) 5 (kdPA (kd_2_11 kl0) (inb_of gd1)) rfl (by decide) rfl lk_52 dX3_tellPeer_87 ?_
    obtain rfl := Option.some.inj hf
    exact ev_ireturn dX3_tellPeer_90 ⟨.int, rfl, rfl⟩
  replace hf := if_f sw5 hf
  by_cases sw6 : l2 = 6
  · replace hf := if_t sw6 hf
    refine ev_tableIn (tgt := 91) dX3_tellPeer_8 (by rw [sw6]; decide) (by rw [sw6]; decide) (by rw [sw6]; rfl) (by decide) ?_
    refine ev_aload_n (n := 0) dX3_tellPeer_91 rfl rfl ?_
    refine ev_get (v := .int (hI h ((l0 + 2) + 1 + 4 * l1.toNatClampNeg) 6)) 6 (kdPA (kd_2_11 kl0) (inb_of gd1)) rfl (by decide) rfl lk_55 dX3_tellPeer_92 ?_
    obtain rfl := Option.some.inj hf
    exact ev_ireturn dX3_tellPeer_95 ⟨.int, rfl, rfl⟩
  replace hf := if_f sw6 hf
  by_cases sw7 : l2 = 7
  · replace hf := if_t sw7 hf
    refine ev_tableIn (tgt := 96) dX3_tellPeer_8 (by rw [sw7]; decide) (by rw [sw7]; decide) (by rw [sw7]; rfl) (by decide) ?_
    refine ev_aload_n (n := 0) dX3_tellPeer_96 rfl rfl ?_
    refine ev_get (v := .int (hI h ((l0 + 2) + 1 + 4 * l1.toNatClampNeg) 7)) 7 (kdPA (kd_2_11 kl0) (inb_of gd1)) rfl (by decide) rfl lk_59 dX3_tellPeer_97 ?_
    obtain rfl := Option.some.inj hf
    exact ev_ireturn dX3_tellPeer_100 ⟨.int, rfl, rfl⟩
  replace hf := if_f sw7 hf
  by_cases sw8 : l2 = 8
  · replace hf := if_t sw8 hf
    refine ev_tableIn (tgt := 101) dX3_tellPeer_8 (by rw [sw8]; decide) (by rw [sw8]; decide) (by rw [sw8]; rfl) (by decide) ?_
    refine ev_aload_n (n := 0) dX3_tellPeer_101 rfl rfl ?_
    refine ev_get (v := .int (hI h ((l0 + 2) + 1 + 4 * l1.toNatClampNeg) 8)) 8 (kdPA (kd_2_11 kl0) (inb_of gd1)) rfl (by decide) rfl lk_63 dX3_tellPeer_102 ?_
    obtain rfl := Option.some.inj hf
    exact ev_ireturn dX3_tellPeer_105 ⟨.int, rfl, rfl⟩
  replace hf := if_f sw8 hf
  · refine ev_tableOut (tgt := 106) dX3_tellPeer_8 (tsw8 sw0 sw1 sw2 sw3 sw4 sw5 sw6 sw7 sw8) (by decide) ?_
    refine ev_aload_n (n := 1) dX3_tellPeer_106 rfl rfl ?_
    refine ev_iload_n (n := 2) dX3_tellPeer_107 rfl rfl ?_
    obtain ⟨v2, e3, hf⟩ := bn1_of hf
    refine ev_callVi (As := [.int l1]) cal_X3_claimsOf kl0 rfl (ev_X3_claimsOf kl0 e3) (Nat.le_of_ble_eq_true rfl) rfl lk_394 (by decide) (by decide) (Nat.le_of_ble_eq_true rfl) dX3_tellPeer_108 rfl ?_
    obtain rfl := Option.some.inj hf
    exact ev_ireturn dX3_tellPeer_111 ⟨.int, rfl, rfl⟩
def f_X3_sentByAll_l4 (h : Hp) (l0 : Nat) : Nat → Int32 → Int32 → Option (Int32)
  | 0, _, _ => none
  | fu1 + 1, l1, l2 => (if (hI h l0 4) ≤ l2 then (some l1) else (if inb l2 6 = true then (f_X3_sentByAll_l4 h l0 fu1 (l1 + (hI h ((l0 + 2) + 1 + 4 * l2.toNatClampNeg) 7)) (l2 + 1)) else none))
theorem f_X3_sentByAll_l4_s (h : Hp) (l0 : Nat) (fu1 : Nat) (l1 : Int32) (l2 : Int32) : f_X3_sentByAll_l4 h l0 (fu1 + 1) l1 l2 = (if (hI h l0 4) ≤ l2 then (some l1) else (if inb l2 6 = true then (f_X3_sentByAll_l4 h l0 fu1 (l1 + (hI h ((l0 + 2) + 1 + 4 * l2.toNatClampNeg) 7)) (l2 + 1)) else none)) := rfl
theorem f_X3_sentByAll_l4_0 (h : Hp) (l0 : Nat) (l1 : Int32) (l2 : Int32) : f_X3_sentByAll_l4 h l0 0 l1 l2 = none := rfl
set_option maxRecDepth 100000 in
set_option maxHeartbeats 4000000 in
theorem lp_X3_sentByAll_4 {g : Gl} {h : Hp} {l0 : Nat} {r : Option Value} {h2 : Hp} {o1 : Int32} (kl0 : KD g.1 l0 2 0) (hx0 : Ev yX3_sentByAll cX3_sentByAll 3 (some .int) 0 0 g 30 [] [(1, .int o1)] h r h2) : ∀ (fu1 : Nat) (l1 : Int32) (l2 : Int32), f_X3_sentByAll_l4 h l0 fu1 l1 l2 = some o1 → Ev yX3_sentByAll cX3_sentByAll 3 (some .int) 0 0 g 4 [] [(0, .ref l0), (1, .int l1), (2, .int l2)] h r h2 := by
  intro fu1
  induction fu1 with
  | zero =>
    intro l1 l2 hf
    cases hf
  | succ fu1 ih =>
    intro l1 l2 hf
    rw [f_X3_sentByAll_l4_s] at hf
    have hk := ih
    refine ev_iload_n (n := 2) dX3_sentByAll_4 rfl rfl ?_
    refine ev_aload_n (n := 0) dX3_sentByAll_5 rfl rfl ?_
    refine ev_get (v := .int (hI h l0 4)) 4 kl0 rfl (by decide) rfl lk_113 dX3_sentByAll_6 ?_
    refine ev_icmp_ge (tgt := 30) dX3_sentByAll_9 (by decide) (fun c1 => ?_) (fun c1 => ?_)
    · replace hf := if_t c1 hf
      refine ev_sub [1] rfl (lv2 := [(1, .int l1)]) ?_
      obtain rfl := Option.some.inj hf
      exact hx0
    · replace hf := if_f c1 hf
      refine ev_iload_n (n := 1) dX3_sentByAll_12 rfl rfl ?_
      refine ev_aload_n (n := 0) dX3_sentByAll_13 rfl rfl ?_
      refine ev_get (v := .ref (l0 + 2)) 11 kl0 rfl (by decide) rfl lk_129 dX3_sentByAll_14 ?_
      refine ev_iload_n (n := 2) dX3_sentByAll_17 rfl rfl ?_
      obtain ⟨gd1, hf⟩ := gd_of hf
      refine ev_aaldP (kd_2_11 kl0) (inb_of gd1) dX3_sentByAll_18 ?_
      refine ev_get (v := .int (hI h ((l0 + 2) + 1 + 4 * l2.toNatClampNeg) 7)) 7 (kdPA (kd_2_11 kl0) (inb_of gd1)) rfl (by decide) rfl lk_59 dX3_sentByAll_19 ?_
      refine ev_iadd dX3_sentByAll_22 ?_
      refine ev_istore_n (lv2 := [(1, .int (l1 + (hI h ((l0 + 2) + 1 + 4 * l2.toNatClampNeg) 7))), (0, .ref l0), (2, .int l2)]) dX3_sentByAll_23 rfl (by decide) rfl ?_
      refine ev_iinc (z := 2) (v := (l2 + 1)) (lv2 := [(2, .int (l2 + 1)), (1, .int (l1 + (hI h ((l0 + 2) + 1 + 4 * l2.toNatClampNeg) 7))), (0, .ref l0)]) dX3_sentByAll_24 rfl rfl (by decide) rfl ?_
      refine ev_goto (tgt := 4) dX3_sentByAll_27 (by decide) ?_
      refine ev_sub [2, 1, 0] rfl (lv2 := [(0, .ref l0), (1, .int (l1 + (hI h ((l0 + 2) + 1 + 4 * l2.toNatClampNeg) 7))), (2, .int (l2 + 1))]) ?_
      exact hk _ _ hf
def f_X3_sentByAll (h : Hp) (l0 : Nat) : Option (Int32) := (bn1 (f_X3_sentByAll_l4 h l0 fu (0 : Int32) (0 : Int32)) (fun w1_2 => (some w1_2)))
set_option maxRecDepth 100000 in
set_option maxHeartbeats 4000000 in
theorem ev_X3_sentByAll {g : Gl} {h : Hp} {l0 : Nat} {rv : Int32} (kl0 : KD g.1 l0 2 0) (hf : f_X3_sentByAll h l0 = some rv) : Ev yX3_sentByAll cX3_sentByAll 3 (some .int) 0 0 g 0 [] [(0, .ref l0)] h (some (.int rv)) h := by
  unfold f_X3_sentByAll at hf
  refine ev_iconst (v := 0) dX3_sentByAll_0 (by decide) ?_
  refine ev_istore_n (lv2 := [(1, .int (0 : Int32)), (0, .ref l0)]) dX3_sentByAll_1 rfl (by decide) rfl ?_
  refine ev_iconst (v := 0) dX3_sentByAll_2 (by decide) ?_
  refine ev_istore_n (lv2 := [(2, .int (0 : Int32)), (1, .int (0 : Int32)), (0, .ref l0)]) dX3_sentByAll_3 rfl (by decide) rfl ?_
  obtain ⟨w1_2, e3, hf⟩ := bn1_of hf
  refine ev_sub [2, 1, 0] rfl (lv2 := [(0, .ref l0), (1, .int (0 : Int32)), (2, .int (0 : Int32))]) ?_
  refine lp_X3_sentByAll_4 kl0 ?_ fu _ _ e3
  refine ev_iload_n (n := 0) dX3_sentByAll_30 rfl rfl ?_
  obtain rfl := Option.some.inj hf
  exact ev_ireturn dX3_sentByAll_31 ⟨.int, rfl, rfl⟩
def f_X3_pairsThatBar_l4 (h : Hp) (l0 : Nat) : Nat → Int32 → Int32 → Option (Int32)
  | 0, _, _ => none
  | fu1 + 1, l1, l2 => (if (hI h l0 4) ≤ l2 then (some l1) else (if inb l2 6 = true then (bn1 (f_J6_bitCount_0f7a4 h (hI h ((l0 + 2) + 1 + 4 * l2.toNatClampNeg) 6)) (fun v2 => (f_X3_pairsThatBar_l4 h l0 fu1 (l1 + v2) (l2 + 1)))) else none))
theorem f_X3_pairsThatBar_l4_s (h : Hp) (l0 : Nat) (fu1 : Nat) (l1 : Int32) (l2 : Int32) : f_X3_pairsThatBar_l4 h l0 (fu1 + 1) l1 l2 = (if (hI h l0 4) ≤ l2 then (some l1) else (if inb l2 6 = true then (bn1 (f_J6_bitCount_0f7a4 h (hI h ((l0 + 2) + 1 + 4 * l2.toNatClampNeg) 6)) (fun v2 => (f_X3_pairsThatBar_l4 h l0 fu1 (l1 + v2) (l2 + 1)))) else none)) := rfl
theorem f_X3_pairsThatBar_l4_0 (h : Hp) (l0 : Nat) (l1 : Int32) (l2 : Int32) : f_X3_pairsThatBar_l4 h l0 0 l1 l2 = none := rfl
set_option maxRecDepth 100000 in
set_option maxHeartbeats 4000000 in
theorem lp_X3_pairsThatBar_4 {g : Gl} {h : Hp} {l0 : Nat} {r : Option Value} {h2 : Hp} {o1 : Int32} (kl0 : KD g.1 l0 2 0) (hx0 : Ev yX3_pairsThatBar cX3_pairsThatBar 3 (some .int) 1 20 g 33 [] [(1, .int o1)] h r h2) : ∀ (fu1 : Nat) (l1 : Int32) (l2 : Int32), f_X3_pairsThatBar_l4 h l0 fu1 l1 l2 = some o1 → Ev yX3_pairsThatBar cX3_pairsThatBar 3 (some .int) 1 20 g 4 [] [(0, .ref l0), (1, .int l1), (2, .int l2)] h r h2 := by
  intro fu1
  induction fu1 with
  | zero =>
    intro l1 l2 hf
    cases hf
  | succ fu1 ih =>
    intro l1 l2 hf
    rw [f_X3_pairsThatBar_l4_s] at hf
    have hk := ih
    refine ev_iload_n (n := 2) dX3_pairsThatBar_4 rfl rfl ?_
    refine ev_aload_n (n := 0) dX3_pairsThatBar_5 rfl rfl ?_
    refine ev_get (v := .int (hI h l0 4)) 4 kl0 rfl (by decide) rfl lk_113 dX3_pairsThatBar_6 ?_
    refine ev_icmp_ge (tgt := 33) dX3_pairsThatBar_9 (by decide) (fun c1 => ?_) (fun c1 => ?_)
    · replace hf := if_t c1 hf
      refine ev_sub [1] rfl (lv2 := [(1, .int l1)]) ?_
      obtain rfl := Option.some.inj hf
      exact hx0
    · replace hf := if_f c1 hf
      refine ev_iload_n (n := 1) dX3_pairsThatBar_12 rfl rfl ?_
      refine ev_aload_n (n := 0) dX3_pairsThatBar_13 rfl rfl ?_
      refine ev_get (v := .ref (l0 + 2)) 11 kl0 rfl (by decide) rfl lk_129 dX3_pairsThatBar_14 ?_
      refine ev_iload_n (n := 2) dX3_pairsThatBar_17 rfl rfl ?_
      obtain ⟨gd1, hf⟩ := gd_of hf
      refine ev_aaldP (kd_2_11 kl0) (inb_of gd1) dX3_pairsThatBar_18 ?_
      refine ev_get (v := .int (hI h ((l0 + 2) + 1 + 4 * l2.toNatClampNeg) 6)) 6 (kdPA (kd_2_11 kl0) (inb_of gd1)) rfl (by decide) rfl lk_55 dX3_pairsThatBar_19 ?_
      obtain ⟨v2, e3, hf⟩ := bn1_of hf
      refine ev_callSi (As := [.int (hI h ((l0 + 2) + 1 + 4 * l2.toNatClampNeg) 6)]) cal_J6_bitCount_0f7a4 (ev_J6_bitCount_0f7a4 e3) (Nat.le_of_ble_eq_true rfl) rfl lk_313 (by decide) (by decide) (Nat.le_of_ble_eq_true rfl) dX3_pairsThatBar_22 rfl ?_
      refine ev_iadd dX3_pairsThatBar_25 ?_
      refine ev_istore_n (lv2 := [(1, .int (l1 + v2)), (0, .ref l0), (2, .int l2)]) dX3_pairsThatBar_26 rfl (by decide) rfl ?_
      refine ev_iinc (z := 2) (v := (l2 + 1)) (lv2 := [(2, .int (l2 + 1)), (1, .int (l1 + v2)), (0, .ref l0)]) dX3_pairsThatBar_27 rfl rfl (by decide) rfl ?_
      refine ev_goto (tgt := 4) dX3_pairsThatBar_30 (by decide) ?_
      refine ev_sub [2, 1, 0] rfl (lv2 := [(0, .ref l0), (1, .int (l1 + v2)), (2, .int (l2 + 1))]) ?_
      exact hk _ _ hf
def f_X3_pairsThatBar (h : Hp) (l0 : Nat) : Option (Int32) := (bn1 (f_X3_pairsThatBar_l4 h l0 fu (0 : Int32) (0 : Int32)) (fun w1_4 => (some w1_4)))
set_option maxRecDepth 100000 in
set_option maxHeartbeats 4000000 in
theorem ev_X3_pairsThatBar {g : Gl} {h : Hp} {l0 : Nat} {rv : Int32} (kl0 : KD g.1 l0 2 0) (hf : f_X3_pairsThatBar h l0 = some rv) : Ev yX3_pairsThatBar cX3_pairsThatBar 3 (some .int) 1 20 g 0 [] [(0, .ref l0)] h (some (.int rv)) h := by
  unfold f_X3_pairsThatBar at hf
  refine ev_iconst (v := 0) dX3_pairsThatBar_0 (by decide) ?_
  refine ev_istore_n (lv2 := [(1, .int (0 : Int32)), (0, .ref l0)]) dX3_pairsThatBar_1 rfl (by decide) rfl ?_
  refine ev_iconst (v := 0) dX3_pairsThatBar_2 (by decide) ?_
  refine ev_istore_n (lv2 := [(2, .int (0 : Int32)), (1, .int (0 : Int32)), (0, .ref l0)]) dX3_pairsThatBar_3 rfl (by decide) rfl ?_
  obtain ⟨w1_4, e5, hf⟩ := bn1_of hf
  refine ev_sub [2, 1, 0] rfl (lv2 := [(0, .ref l0), (1, .int (0 : Int32)), (2, .int (0 : Int32))]) ?_
  refine lp_X3_pairsThatBar_4 kl0 ?_ fu _ _ e5
  refine ev_iload_n (n := 0) dX3_pairsThatBar_33 rfl rfl ?_
  obtain rfl := Option.some.inj hf
  exact ev_ireturn dX3_pairsThatBar_34 ⟨.int, rfl, rfl⟩
def f_X3_tellCount (h : Hp) (l0 : Nat) (l1 : Int32) : Option (Int32) := (if l1 = 0 then (some (hI h l0 4)) else (if l1 = 1 then (some (hI h l0 0)) else (if l1 = 2 then (some (hI h l0 1)) else (if l1 = 3 then (some (hI h l0 5)) else (if l1 = 4 then (bn1 (f_X3_sentByAll h l0) (fun v5 => (some v5))) else (if l1 = 5 then (some (hI h l0 6)) else (if l1 = 6 then (some (hI h l0 7)) else (if l1 = 7 then (some (hI h l0 8)) else (if l1 = 8 then (bn1 (f_X3_pairsThatBar h l0) (fun v3 => (some v3))) else (bn1 (f_X3_isFinished h l0) (fun v1 => (if v1 = 0 then (some (0 : Int32)) else (some (1 : Int32))))))))))))))
set_option maxRecDepth 100000 in
set_option maxHeartbeats 4000000 in
theorem ev_X3_tellCount {g : Gl} {h : Hp} {l0 : Nat} {l1 : Int32} {rv : Int32} (kl0 : KD g.1 l0 2 0) (hf : f_X3_tellCount h l0 l1 = some rv) : Ev yX3_tellCount cX3_tellCount 2 (some .int) 2 42 g 0 [] [(0, .ref l0), (1, .int l1)] h (some (.int rv)) h := by
  unfold f_X3_tellCount at hf
  refine ev_iload_n (n := 1) dX3_tellCount_0 rfl rfl ?_
  by_cases sw0 : l1 = 0
  · replace hf := if_t sw0 hf
    refine ev_tableIn (tgt := 52) dX3_tellCount_1 (by rw [sw0]; decide) (by rw [sw0]; decide) (by rw [sw0]; rfl) (by decide) ?_
    refine ev_aload_n (n := 0) dX3_tellCount_52 rfl rfl ?_
    refine ev_get (v := .int (hI h l0 4)) 4 kl0 rfl (by decide) rfl lk_113 dX3_tellCount_53 ?_
    obtain rfl := Option.some.inj hf
    exact ev_ireturn dX3_tellCount_56 ⟨.int, rfl, rfl⟩
  replace hf := if_f sw0 hf
  by_cases sw1 : l1 = 1
  · replace hf := if_t sw1 hf
    refine ev_tableIn (tgt := 57) dX3_tellCount_1 (by rw [sw1]; decide) (by rw [sw1]; decide) (by rw [sw1]; rfl) (by decide) ?_
    refine ev_aload_n (n := 0) dX3_tellCount_57 rfl rfl ?_
    refine ev_get (v := .int (hI h l0 0)) 0 kl0 rfl (by decide) rfl lk_103 dX3_tellCount_58 ?_
    obtain rfl := Option.some.inj hf
    exact ev_ireturn dX3_tellCount_61 ⟨.int, rfl, rfl⟩
  replace hf := if_f sw1 hf
  by_cases sw2 : l1 = 2
  · replace hf := if_t sw2 hf
    refine ev_tableIn (tgt := 62) dX3_tellCount_1 (by rw [sw2]; decide) (by rw [sw2]; decide) (by rw [sw2]; rfl) (by decide) ?_
    refine ev_aload_n (n := 0) dX3_tellCount_62 rfl rfl ?_
    refine ev_get (v := .int (hI h l0 1)) 1 kl0 rfl (by decide) rfl lk_106 dX3_tellCount_63 ?_
    obtain rfl := Option.some.inj hf
    exact ev_ireturn dX3_tellCount_66 ⟨.int, rfl, rfl⟩
  replace hf := if_f sw2 hf
  by_cases sw3 : l1 = 3
  · replace hf := if_t sw3 hf
    refine ev_tableIn (tgt := 67) dX3_tellCount_1 (by rw [sw3]; decide) (by rw [sw3]; decide) (by rw [sw3]; rfl) (by decide) ?_
    refine ev_aload_n (n := 0) dX3_tellCount_67 rfl rfl ?_
    refine ev_get (v := .int (hI h l0 5)) 5 kl0 rfl (by decide) rfl lk_117 dX3_tellCount_68 ?_
    obtain rfl := Option.some.inj hf
    exact ev_ireturn dX3_tellCount_71 ⟨.int, rfl, rfl⟩
  replace hf := if_f sw3 hf
  by_cases sw4 : l1 = 4
  · replace hf := if_t sw4 hf
    refine ev_tableIn (tgt := 72) dX3_tellCount_1 (by rw [sw4]; decide) (by rw [sw4]; decide) (by rw [sw4]; rfl) (by decide) ?_
    refine ev_aload_n (n := 0) dX3_tellCount_72 rfl rfl ?_
    obtain ⟨v5, e6, hf⟩ := bn1_of hf
    refine ev_callVi (As := []) cal_X3_sentByAll kl0 rfl (ev_X3_sentByAll kl0 e6) (Nat.le_of_ble_eq_true rfl) rfl lk_525 (by decide) (by decide) (Nat.le_of_ble_eq_true rfl) dX3_tellCount_73 rfl ?_
    obtain rfl := Option.some.inj hf
    exact ev_ireturn dX3_tellCount_76 ⟨.int, rfl, rfl⟩
  replace hf := if_f sw4 hf
  by_cases sw5 : l1 = 5
  · replace hf := if_t sw5 hf
    refine ev_tableIn (tgt := 77) dX3_tellCount_1 (by rw [sw5]; decide) (by rw [sw5]; decide) (by rw [sw5]; rfl) (by decide) ?_
    refine ev_aload_n (n := 0) dX3_tellCount_77 rfl rfl ?_
    refine ev_get (v := .int (hI h l0 6)) 6 kl0 rfl (by decide) rfl lk_119 dX3_tellCount_78 ?_
    obtain rfl := Option.some.inj hf
    exact ev_ireturn dX3_tellCount_81 ⟨.int, rfl, rfl⟩
  replace hf := if_f sw5 hf
  by_cases sw6 : l1 = 6
  · replace hf := if_t sw6 hf
    refine ev_tableIn (tgt := 82) dX3_tellCount_1 (by rw [sw6]; decide) (by rw [sw6]; decide) (by rw [sw6]; rfl) (by decide) ?_
    refine ev_aload_n (n := 0) dX3_tellCount_82 rfl rfl ?_
    refine ev_get (v := .int (hI h l0 7)) 7 kl0 rfl (by decide) rfl lk_121 dX3_tellCount_83 ?_
    obtain rfl := Option.some.inj hf
    exact ev_ireturn dX3_tellCount_86 ⟨.int, rfl, rfl⟩
  replace hf := if_f sw6 hf
  by_cases sw7 : l1 = 7
  · replace hf := if_t sw7 hf
    refine ev_tableIn (tgt := 87) dX3_tellCount_1 (by rw [sw7]; decide) (by rw [sw7]; decide) (by rw [sw7]; rfl) (by decide) ?_
    refine ev_aload_n (n := 0) dX3_tellCount_87 rfl rfl ?_
    refine ev_get (v := .int (hI h l0 8)) 8 kl0 rfl (by decide) rfl lk_123 dX3_tellCount_88 ?_
    obtain rfl := Option.some.inj hf
    exact ev_ireturn dX3_tellCount_91 ⟨.int, rfl, rfl⟩
  replace hf := if_f sw7 hf
  by_cases sw8 : l1 = 8
  · replace hf := if_t sw8 hf
    refine ev_tableIn (tgt := 92) dX3_tellCount_1 (by rw [sw8]; decide) (by rw [sw8]; decide) (by rw [sw8]; rfl) (by decide) ?_
    refine ev_aload_n (n := 0) dX3_tellCount_92 rfl rfl ?_
    obtain ⟨v3, e4, hf⟩ := bn1_of hf
    refine ev_callVi (As := []) cal_X3_pairsThatBar kl0 rfl (ev_X3_pairsThatBar kl0 e4) (Nat.le_of_ble_eq_true rfl) rfl lk_529 (by decide) (by decide) (Nat.le_of_ble_eq_true rfl) dX3_tellCount_93 rfl ?_
    obtain rfl := Option.some.inj hf
    exact ev_ireturn dX3_tellCount_96 ⟨.int, rfl, rfl⟩
  replace hf := if_f sw8 hf
  · refine ev_tableOut (tgt := 97) dX3_tellCount_1 (tsw8 sw0 sw1 sw2 sw3 sw4 sw5 sw6 sw7 sw8) (by decide) ?_
    refine ev_aload_n (n := 0) dX3_tellCount_97 rfl rfl ?_
    obtain ⟨v1, e2, hf⟩ := bn1_of hf
    refine ev_callVi (As := []) cal_X3_isFinished kl0 rfl (ev_X3_isFinished kl0 e2) (Nat.le_of_ble_eq_true rfl) rfl lk_533 (by decide) (by decide) (Nat.le_of_ble_eq_true rfl) dX3_tellCount_98 rfl ?_
    refine ev_if_eq (tgt := 108) dX3_tellCount_101 (by decide) (fun c1 => ?_) (fun c1 => ?_)
    · replace hf := if_t c1 hf
      refine ev_iconst (v := 0) dX3_tellCount_108 (by decide) ?_
      obtain rfl := Option.some.inj hf
      exact ev_ireturn dX3_tellCount_109 ⟨.int, rfl, rfl⟩
    · replace hf := if_f c1 hf
      refine ev_iconst (v := 1) dX3_tellCount_104 (by decide) ?_
      refine ev_goto (tgt := 109) dX3_tellCount_105 (by decide) ?_
      obtain rfl := Option.some.inj hf
      exact ev_ireturn dX3_tellCount_109 ⟨.int, rfl, rfl⟩
def f_X4_append_j29 (h : Hp)  : Option (Hp) := (some h)
set_option maxRecDepth 100000 in
set_option maxHeartbeats 4000000 in
theorem jn_X4_append_29 {g : Gl} {h : Hp}   {h2 : Hp}    (hf : f_X4_append_j29 h = some h2) : Ev yX4_append cX4_append 2 none 0 0 g 29 [] [] h none h2 := by
  unfold f_X4_append_j29 at hf
  obtain rfl := Option.some.inj hf
  exact ev_return_ dX4_append_29 rfl
def f_X4_append (h : Hp) (l0 : Nat) (l1 : Int32) : Option (Hp) := (if (120 : Int32) ≤ (hI h l0 0) then (f_X4_append_j29 h) else (if inb (hI h l0 0) 120 = true then (f_X4_append_j29 (sI (sI h (l0 + 1) (hI h l0 0).toNatClampNeg l1) l0 0 ((hI (sI h (l0 + 1) (hI h l0 0).toNatClampNeg l1) l0 0) + (1 : Int32)))) else none))
set_option maxRecDepth 100000 in
set_option maxHeartbeats 4000000 in
theorem ev_X4_append {g : Gl} {h : Hp} {l0 : Nat} {l1 : Int32} {h2 : Hp} (kl0 : KD g.1 l0 3 0) (hf : f_X4_append h l0 l1 = some h2) : Ev yX4_append cX4_append 2 none 0 0 g 0 [] [(0, .ref l0), (1, .int l1)] h none h2 := by
  unfold f_X4_append at hf
  refine ev_aload_n (n := 0) dX4_append_0 rfl rfl ?_
  refine ev_get (v := .int (hI h l0 0)) 0 kl0 rfl (by decide) rfl lk_183 dX4_append_1 ?_
  refine ev_bipush (v := 120) dX4_append_4 (by decide) ?_
  refine ev_icmp_ge (tgt := 29) dX4_append_6 (by decide) (fun c1 => ?_) (fun c1 => ?_)
  · replace hf := if_t c1 hf
    refine ev_sub [] rfl (lv2 := []) ?_
    exact jn_X4_append_29 hf
  · replace hf := if_f c1 hf
    refine ev_aload_n (n := 0) dX4_append_9 rfl rfl ?_
    refine ev_get (v := .ref (l0 + 1)) 5 kl0 rfl (by decide) rfl lk_193 dX4_append_10 ?_
    refine ev_aload_n (n := 0) dX4_append_13 rfl rfl ?_
    refine ev_get (v := .int (hI h l0 0)) 0 kl0 rfl (by decide) rfl lk_183 dX4_append_14 ?_
    refine ev_iload_n (n := 1) dX4_append_17 rfl rfl ?_
    obtain ⟨gd1, hf⟩ := gd_of hf
    refine ev_iast (kd_3_5 kl0) (inb_of gd1) dX4_append_18 ?_
    refine ev_aload_n (n := 0) dX4_append_19 rfl rfl ?_
    refine ev_dup dX4_append_20 rfl ?_
    refine ev_get (v := .int (hI (sI h (l0 + 1) (hI h l0 0).toNatClampNeg l1) l0 0)) 0 kl0 rfl (by decide) rfl lk_183 dX4_append_21 ?_
    refine ev_iconst (v := 1) dX4_append_24 (by decide) ?_
    refine ev_iadd dX4_append_25 ?_
    refine ev_putI 0 kl0 rfl (by decide) rfl (by decide +kernel) rfl (by exact Nat.le_of_ble_eq_true rfl) lk_183 dX4_append_26 ?_
    refine ev_sub [] rfl (lv2 := []) ?_
    exact jn_X4_append_29 hf
def f_X4_takesLetter_j77 (h : Hp) (s0 : Nat) (s1 : Int32) (l0 : Nat) : Option (Int32 × Hp) := (if isBb (1 : Int32) = true then (some ((1 : Int32), (sI (sI (sI h s0 6 s1) l0 7 (0 : Int32)) l0 8 (1 : Int32)))) else none)
set_option maxRecDepth 100000 in
set_option maxHeartbeats 4000000 in
theorem jn_X4_takesLetter_77 {g : Gl} {h : Hp} {s0 : Nat} {s1 : Int32} {l0 : Nat}  {rv : Int32} {h2 : Hp} (ks0 : KD g.1 s0 3 0) (kl0 : KD g.1 l0 3 0)   (hf : f_X4_takesLetter_j77 h s0 s1 l0 = some (rv, h2)) : Ev yX4_takesLetter cX4_takesLetter 2 (some .boolean) 0 0 g 77 [.int s1, .ref s0] [(0, .ref l0)] h (some (.int rv)) h2 := by
  unfold f_X4_takesLetter_j77 at hf
  refine ev_putI 6 ks0 rfl (by decide) rfl (by decide +kernel) rfl (by exact Nat.le_of_ble_eq_true rfl) lk_194 dX4_takesLetter_77 ?_
  refine ev_aload_n (n := 0) dX4_takesLetter_80 rfl rfl ?_
  refine ev_iconst (v := 0) dX4_takesLetter_81 (by decide) ?_
  refine ev_putI 7 kl0 rfl (by decide) rfl (by decide +kernel) rfl (by exact Nat.le_of_ble_eq_true rfl) lk_195 dX4_takesLetter_82 ?_
  refine ev_aload_n (n := 0) dX4_takesLetter_85 rfl rfl ?_
  refine ev_iconst (v := 1) dX4_takesLetter_86 (by decide) ?_
  obtain ⟨gd4, hf⟩ := gd_of hf
  refine ev_putZ 8 kl0 rfl (by decide) rfl (by decide +kernel) (isBb_of gd4) rfl (by exact Nat.le_of_ble_eq_true rfl) lk_196 dX4_takesLetter_87 ?_
  refine ev_iconst (v := 1) dX4_takesLetter_90 (by decide) ?_
  obtain ⟨rfl, rfl⟩ := Prod.mk.inj (Option.some.inj hf)
  exact ev_ireturn dX4_takesLetter_91 ⟨.boolean, rfl, rfl⟩
def f_X4_takesLetter_j33 (h : Hp)  : Option (Int32 × Hp) := (some ((0 : Int32), h))
set_option maxRecDepth 100000 in
set_option maxHeartbeats 4000000 in
theorem jn_X4_takesLetter_33 {g : Gl} {h : Hp}   {rv : Int32} {h2 : Hp}    (hf : f_X4_takesLetter_j33 h = some (rv, h2)) : Ev yX4_takesLetter cX4_takesLetter 2 (some .boolean) 0 0 g 33 [] [] h (some (.int rv)) h2 := by
  unfold f_X4_takesLetter_j33 at hf
  refine ev_iconst (v := 0) dX4_takesLetter_33 (by decide) ?_
  obtain ⟨rfl, rfl⟩ := Prod.mk.inj (Option.some.inj hf)
  exact ev_ireturn dX4_takesLetter_34 ⟨.boolean, rfl, rfl⟩
def f_X4_takesLetter_j24 (h : Hp) (l0 : Nat) (l1 : Int32) : Option (Int32 × Hp) := (if (hI h l0 1) < (40 : Int32) then (if inb (hI h l0 1) 40 = true then (if inb (hI (sI h (l0 + 2) (hI h l0 1).toNatClampNeg l1) l0 1) 40 = true then (if inb (hI (sI (sI h (l0 + 2) (hI h l0 1).toNatClampNeg l1) (l0 + 3) (hI (sI h (l0 + 2) (hI h l0 1).toNatClampNeg l1) l0 1).toNatClampNeg (0 : Int32)) l0 1) 40 = true then (if l1 = (114 : Int32) then (f_X4_takesLetter_j77 (sI (sI (sI h (l0 + 2) (hI h l0 1).toNatClampNeg l1) (l0 + 3) (hI (sI h (l0 + 2) (hI h l0 1).toNatClampNeg l1) l0 1).toNatClampNeg (0 : Int32)) (l0 + 4) (hI (sI (sI h (l0 + 2) (hI h l0 1).toNatClampNeg l1) (l0 + 3) (hI (sI h (l0 + 2) (hI h l0 1).toNatClampNeg l1) l0 1).toNatClampNeg (0 : Int32)) l0 1).toNatClampNeg (0 : Int32)) l0 (1 : Int32) l0) else (f_X4_takesLetter_j77 (sI (sI (sI h (l0 + 2) (hI h l0 1).toNatClampNeg l1) (l0 + 3) (hI (sI h (l0 + 2) (hI h l0 1).toNatClampNeg l1) l0 1).toNatClampNeg (0 : Int32)) (l0 + 4) (hI (sI (sI h (l0 + 2) (hI h l0 1).toNatClampNeg l1) (l0 + 3) (hI (sI h (l0 + 2) (hI h l0 1).toNatClampNeg l1) l0 1).toNatClampNeg (0 : Int32)) l0 1).toNatClampNeg (0 : Int32)) l0 (2 : Int32) l0)) else none) else none) else none) else (f_X4_takesLetter_j33 h))
set_option maxRecDepth 100000 in
set_option maxHeartbeats 4000000 in
theorem jn_X4_takesLetter_24 {g : Gl} {h : Hp} {l0 : Nat} {l1 : Int32}  {rv : Int32} {h2 : Hp} (kl0 : KD g.1 l0 3 0)   (hf : f_X4_takesLetter_j24 h l0 l1 = some (rv, h2)) : Ev yX4_takesLetter cX4_takesLetter 2 (some .boolean) 0 0 g 24 [] [(0, .ref l0), (1, .int l1)] h (some (.int rv)) h2 := by
  unfold f_X4_takesLetter_j24 at hf
  refine ev_aload_n (n := 0) dX4_takesLetter_24 rfl rfl ?_
  refine ev_get (v := .int (hI h l0 1)) 1 kl0 rfl (by decide) rfl lk_185 dX4_takesLetter_25 ?_
  refine ev_bipush (v := 40) dX4_takesLetter_28 (by decide) ?_
  refine ev_icmp_lt (tgt := 35) dX4_takesLetter_30 (by decide) (fun c1 => ?_) (fun c1 => ?_)
  · replace hf := if_t c1 hf
    refine ev_aload_n (n := 0) dX4_takesLetter_35 rfl rfl ?_
    refine ev_get (v := .ref (l0 + 2)) 2 kl0 rfl (by decide) rfl lk_187 dX4_takesLetter_36 ?_
    refine ev_aload_n (n := 0) dX4_takesLetter_39 rfl rfl ?_
    refine ev_get (v := .int (hI h l0 1)) 1 kl0 rfl (by decide) rfl lk_185 dX4_takesLetter_40 ?_
    refine ev_iload_n (n := 1) dX4_takesLetter_43 rfl rfl ?_
    obtain ⟨gd1, hf⟩ := gd_of hf
    refine ev_iast (kd_3_2 kl0) (inb_of gd1) dX4_takesLetter_44 ?_
    refine ev_aload_n (n := 0) dX4_takesLetter_45 rfl rfl ?_
    refine ev_get (v := .ref (l0 + 3)) 3 kl0 rfl (by decide) rfl lk_189 dX4_takesLetter_46 ?_
    refine ev_aload_n (n := 0) dX4_takesLetter_49 rfl rfl ?_
    refine ev_get (v := .int (hI (sI h (l0 + 2) (hI h l0 1).toNatClampNeg l1) l0 1)) 1 kl0 rfl (by decide) rfl lk_185 dX4_takesLetter_50 ?_
    refine ev_iconst (v := 0) dX4_takesLetter_53 (by decide) ?_
    obtain ⟨gd2, hf⟩ := gd_of hf
    refine ev_iast (kd_3_3 kl0) (inb_of gd2) dX4_takesLetter_54 ?_
    refine ev_aload_n (n := 0) dX4_takesLetter_55 rfl rfl ?_
    refine ev_get (v := .ref (l0 + 4)) 4 kl0 rfl (by decide) rfl lk_191 dX4_takesLetter_56 ?_
    refine ev_aload_n (n := 0) dX4_takesLetter_59 rfl rfl ?_
    refine ev_get (v := .int (hI (sI (sI h (l0 + 2) (hI h l0 1).toNatClampNeg l1) (l0 + 3) (hI (sI h (l0 + 2) (hI h l0 1).toNatClampNeg l1) l0 1).toNatClampNeg (0 : Int32)) l0 1)) 1 kl0 rfl (by decide) rfl lk_185 dX4_takesLetter_60 ?_
    refine ev_iconst (v := 0) dX4_takesLetter_63 (by decide) ?_
    obtain ⟨gd3, hf⟩ := gd_of hf
    refine ev_iast (kd_3_4 kl0) (inb_of gd3) dX4_takesLetter_64 ?_
    refine ev_aload_n (n := 0) dX4_takesLetter_65 rfl rfl ?_
    refine ev_iload_n (n := 1) dX4_takesLetter_66 rfl rfl ?_
    refine ev_bipush (v := 114) dX4_takesLetter_67 (by decide) ?_
    refine ev_icmp_ne (tgt := 76) dX4_takesLetter_69 (by decide) (fun c1 => ?_) (fun c1 => ?_)
    · replace hf := if_f c1 hf
      refine ev_iconst (v := 2) dX4_takesLetter_76 (by decide) ?_
      refine ev_sub [0] rfl (lv2 := [(0, .ref l0)]) ?_
      exact jn_X4_takesLetter_77 kl0 kl0 hf
    · replace hf := if_t c1 hf
      refine ev_iconst (v := 1) dX4_takesLetter_72 (by decide) ?_
      refine ev_goto (tgt := 77) dX4_takesLetter_73 (by decide) ?_
      refine ev_sub [0] rfl (lv2 := [(0, .ref l0)]) ?_
      exact jn_X4_takesLetter_77 kl0 kl0 hf
  · replace hf := if_f c1 hf
    refine ev_sub [] rfl (lv2 := []) ?_
    exact jn_X4_takesLetter_33 hf
def f_X4_takesLetter (h : Hp) (l0 : Nat) (l1 : Int32) : Option (Int32 × Hp) := (if l1 = (112 : Int32) then (f_X4_takesLetter_j24 h l0 l1) else (if l1 = (103 : Int32) then (f_X4_takesLetter_j24 h l0 l1) else (if l1 = (114 : Int32) then (f_X4_takesLetter_j24 h l0 l1) else (if l1 = (115 : Int32) then (f_X4_takesLetter_j24 h l0 l1) else (f_X4_takesLetter_j33 h)))))
set_option maxRecDepth 100000 in
set_option maxHeartbeats 4000000 in
theorem ev_X4_takesLetter {g : Gl} {h : Hp} {l0 : Nat} {l1 : Int32} {rv : Int32} {h2 : Hp} (kl0 : KD g.1 l0 3 0) (hf : f_X4_takesLetter h l0 l1 = some (rv, h2)) : Ev yX4_takesLetter cX4_takesLetter 2 (some .boolean) 0 0 g 0 [] [(0, .ref l0), (1, .int l1)] h (some (.int rv)) h2 := by
  unfold f_X4_takesLetter at hf
  refine ev_iload_n (n := 1) dX4_takesLetter_0 rfl rfl ?_
  refine ev_bipush (v := 112) dX4_takesLetter_1 (by decide) ?_
  refine ev_icmp_eq (tgt := 24) dX4_takesLetter_3 (by decide) (fun c1 => ?_) (fun c1 => ?_)
  · replace hf := if_t c1 hf
    exact jn_X4_takesLetter_24 kl0 hf
  · replace hf := if_f c1 hf
    refine ev_iload_n (n := 1) dX4_takesLetter_6 rfl rfl ?_
    refine ev_bipush (v := 103) dX4_takesLetter_7 (by decide) ?_
    refine ev_icmp_eq (tgt := 24) dX4_takesLetter_9 (by decide) (fun c1 => ?_) (fun c1 => ?_)
    · replace hf := if_t c1 hf
      exact jn_X4_takesLetter_24 kl0 hf
    · replace hf := if_f c1 hf
      refine ev_iload_n (n := 1) dX4_takesLetter_12 rfl rfl ?_
      refine ev_bipush (v := 114) dX4_takesLetter_13 (by decide) ?_
      refine ev_icmp_eq (tgt := 24) dX4_takesLetter_15 (by decide) (fun c1 => ?_) (fun c1 => ?_)
      · replace hf := if_t c1 hf
        exact jn_X4_takesLetter_24 kl0 hf
      · replace hf := if_f c1 hf
        refine ev_iload_n (n := 1) dX4_takesLetter_18 rfl rfl ?_
        refine ev_bipush (v := 115) dX4_takesLetter_19 (by decide) ?_
        refine ev_icmp_ne (tgt := 33) dX4_takesLetter_21 (by decide) (fun c1 => ?_) (fun c1 => ?_)
        · replace hf := if_f c1 hf
          refine ev_sub [] rfl (lv2 := []) ?_
          exact jn_X4_takesLetter_33 hf
        · replace hf := if_t c1 hf
          exact jn_X4_takesLetter_24 kl0 hf
def f_X4_takesFigure_j91 (h : Hp) (s0 : Nat) (l0 : Nat) (l1 : Int32) : Option (Int32 × Hp) := (if inb (hI h l0 1) 40 = true then (if inb (hI h l0 1) 40 = true then (some ((1 : Int32), (sI h s0 (hI h l0 1).toNatClampNeg (((hI h s0 (hI h l0 1).toNatClampNeg) * (10 : Int32)) + l1)))) else none) else none)
set_option maxRecDepth 100000 in
set_option maxHeartbeats 4000000 in
theorem jn_X4_takesFigure_91 {g : Gl} {h : Hp} {s0 : Nat} {l0 : Nat} {l1 : Int32}  {rv : Int32} {h2 : Hp} (ks0 : KD g.1 s0 6 40) (kl0 : KD g.1 l0 3 0)   (hf : f_X4_takesFigure_j91 h s0 l0 l1 = some (rv, h2)) : Ev yX4_takesFigure cX4_takesFigure 4 (some .boolean) 0 0 g 91 [.ref s0] [(0, .ref l0), (1, .int l1)] h (some (.int rv)) h2 := by
  unfold f_X4_takesFigure_j91 at hf
  refine ev_astore_n (lv2 := [(3, .ref s0), (0, .ref l0), (1, .int l1)]) dX4_takesFigure_91 rfl (by decide) rfl ?_
  refine ev_aload_n (n := 0) dX4_takesFigure_92 rfl rfl ?_
  refine ev_aload_n (n := 1) dX4_takesFigure_93 rfl rfl ?_
  refine ev_get (v := .int (hI h l0 1)) 1 kl0 rfl (by decide) rfl lk_185 dX4_takesFigure_94 ?_
  refine ev_aload_n (n := 0) dX4_takesFigure_97 rfl rfl ?_
  refine ev_aload_n (n := 1) dX4_takesFigure_98 rfl rfl ?_
  refine ev_get (v := .int (hI h l0 1)) 1 kl0 rfl (by decide) rfl lk_185 dX4_takesFigure_99 ?_
  obtain ⟨gd2, hf⟩ := gd_of hf
  refine ev_iald ks0 (inb_of gd2) dX4_takesFigure_102 ?_
  refine ev_bipush (v := 10) dX4_takesFigure_103 (by decide) ?_
  refine ev_imul dX4_takesFigure_105 ?_
  refine ev_iload_n (n := 2) dX4_takesFigure_106 rfl rfl ?_
  refine ev_iadd dX4_takesFigure_107 ?_
  obtain ⟨gd3, hf⟩ := gd_of hf
  refine ev_iast ks0 (inb_of gd3) dX4_takesFigure_108 ?_
  refine ev_iconst (v := 1) dX4_takesFigure_109 (by decide) ?_
  obtain ⟨rfl, rfl⟩ := Prod.mk.inj (Option.some.inj hf)
  exact ev_ireturn dX4_takesFigure_110 ⟨.boolean, rfl, rfl⟩
def f_X4_takesFigure_j75 (h : Hp) (s0 : Int32) (l0 : Nat) (l1 : Int32) : Option (Int32 × Hp) := (if s0 = 0 then (f_X4_takesFigure_j91 h (l0 + 3) l0 l1) else (f_X4_takesFigure_j91 h (l0 + 4) l0 l1))
set_option maxRecDepth 100000 in
set_option maxHeartbeats 4000000 in
theorem jn_X4_takesFigure_75 {g : Gl} {h : Hp} {s0 : Int32} {l0 : Nat} {l1 : Int32}  {rv : Int32} {h2 : Hp} (kl0 : KD g.1 l0 3 0)   (hf : f_X4_takesFigure_j75 h s0 l0 l1 = some (rv, h2)) : Ev yX4_takesFigure cX4_takesFigure 4 (some .boolean) 0 0 g 75 [.int s0] [(0, .ref l0), (1, .int l1)] h (some (.int rv)) h2 := by
  unfold f_X4_takesFigure_j75 at hf
  refine ev_istore_n (lv2 := [(2, .int s0), (0, .ref l0), (1, .int l1)]) dX4_takesFigure_75 rfl (by decide) rfl ?_
  refine ev_iload_n (n := 0) dX4_takesFigure_76 rfl rfl ?_
  refine ev_if_eq (tgt := 87) dX4_takesFigure_77 (by decide) (fun c1 => ?_) (fun c1 => ?_)
  · replace hf := if_t c1 hf
    refine ev_aload_n (n := 1) dX4_takesFigure_87 rfl rfl ?_
    refine ev_get (v := .ref (l0 + 3)) 3 kl0 rfl (by decide) rfl lk_189 dX4_takesFigure_88 ?_
    refine ev_sub [1, 2] rfl (lv2 := [(0, .ref l0), (1, .int l1)]) ?_
    exact jn_X4_takesFigure_91 (kd_3_3 kl0) kl0 hf
  · replace hf := if_f c1 hf
    refine ev_aload_n (n := 1) dX4_takesFigure_80 rfl rfl ?_
    refine ev_get (v := .ref (l0 + 4)) 4 kl0 rfl (by decide) rfl lk_191 dX4_takesFigure_81 ?_
    refine ev_goto (tgt := 91) dX4_takesFigure_84 (by decide) ?_
    refine ev_sub [1, 2] rfl (lv2 := [(0, .ref l0), (1, .int l1)]) ?_
    exact jn_X4_takesFigure_91 (kd_3_4 kl0) kl0 hf
def f_X4_takesFigure_j74 (h : Hp) (l0 : Nat) (l1 : Int32) : Option (Int32 × Hp) := (f_X4_takesFigure_j75 h (0 : Int32) l0 l1)
set_option maxRecDepth 100000 in
set_option maxHeartbeats 4000000 in
theorem jn_X4_takesFigure_74 {g : Gl} {h : Hp} {l0 : Nat} {l1 : Int32}  {rv : Int32} {h2 : Hp} (kl0 : KD g.1 l0 3 0)   (hf : f_X4_takesFigure_j74 h l0 l1 = some (rv, h2)) : Ev yX4_takesFigure cX4_takesFigure 4 (some .boolean) 0 0 g 74 [] [(0, .ref l0), (1, .int l1)] h (some (.int rv)) h2 := by
  unfold f_X4_takesFigure_j74 at hf
  refine ev_iconst (v := 0) dX4_takesFigure_74 (by decide) ?_
  exact jn_X4_takesFigure_75 kl0 hf
def f_X4_takesFigure_j39 (h : Hp) (l0 : Nat) (l1 : Int32) : Option (Int32 × Hp) := (if inb (hI (sI h l0 7 ((hI h l0 7) + (1 : Int32))) l0 1) 40 = true then (if (hI (sI h l0 7 ((hI h l0 7) + (1 : Int32))) (l0 + 2) (hI (sI h l0 7 ((hI h l0 7) + (1 : Int32))) l0 1).toNatClampNeg) = (114 : Int32) then (f_X4_takesFigure_j74 (sI h l0 7 ((hI h l0 7) + (1 : Int32))) l0 l1) else (if (hI (sI h l0 7 ((hI h l0 7) + (1 : Int32))) l0 6) = 0 then (f_X4_takesFigure_j75 (sI h l0 7 ((hI h l0 7) + (1 : Int32))) (1 : Int32) l0 l1) else (f_X4_takesFigure_j74 (sI h l0 7 ((hI h l0 7) + (1 : Int32))) l0 l1))) else none)
set_option maxRecDepth 100000 in
set_option maxHeartbeats 4000000 in
theorem jn_X4_takesFigure_39 {g : Gl} {h : Hp} {l0 : Nat} {l1 : Int32}  {rv : Int32} {h2 : Hp} (kl0 : KD g.1 l0 3 0)   (hf : f_X4_takesFigure_j39 h l0 l1 = some (rv, h2)) : Ev yX4_takesFigure cX4_takesFigure 4 (some .boolean) 0 0 g 39 [] [(0, .ref l0), (1, .int l1)] h (some (.int rv)) h2 := by
  unfold f_X4_takesFigure_j39 at hf
  refine ev_aload_n (n := 0) dX4_takesFigure_39 rfl rfl ?_
  refine ev_dup dX4_takesFigure_40 rfl ?_
  refine ev_get (v := .int (hI h l0 7)) 7 kl0 rfl (by decide) rfl lk_195 dX4_takesFigure_41 ?_
  refine ev_iconst (v := 1) dX4_takesFigure_44 (by decide) ?_
  refine ev_iadd dX4_takesFigure_45 ?_
  refine ev_putI 7 kl0 rfl (by decide) rfl (by decide +kernel) rfl (by exact Nat.le_of_ble_eq_true rfl) lk_195 dX4_takesFigure_46 ?_
  refine ev_aload_n (n := 0) dX4_takesFigure_49 rfl rfl ?_
  refine ev_get (v := .ref (l0 + 2)) 2 kl0 rfl (by decide) rfl lk_187 dX4_takesFigure_50 ?_
  refine ev_aload_n (n := 0) dX4_takesFigure_53 rfl rfl ?_
  refine ev_get (v := .int (hI (sI h l0 7 ((hI h l0 7) + (1 : Int32))) l0 1)) 1 kl0 rfl (by decide) rfl lk_185 dX4_takesFigure_54 ?_
  obtain ⟨gd1, hf⟩ := gd_of hf
  refine ev_iald (kd_3_2 kl0) (inb_of gd1) dX4_takesFigure_57 ?_
  refine ev_bipush (v := 114) dX4_takesFigure_58 (by decide) ?_
  refine ev_icmp_eq (tgt := 74) dX4_takesFigure_60 (by decide) (fun c1 => ?_) (fun c1 => ?_)
  · replace hf := if_t c1 hf
    exact jn_X4_takesFigure_74 kl0 hf
  · replace hf := if_f c1 hf
    refine ev_aload_n (n := 0) dX4_takesFigure_63 rfl rfl ?_
    refine ev_get (v := .int (hI (sI h l0 7 ((hI h l0 7) + (1 : Int32))) l0 6)) 6 kl0 rfl (by decide) rfl lk_194 dX4_takesFigure_64 ?_
    refine ev_if_ne (tgt := 74) dX4_takesFigure_67 (by decide) (fun c1 => ?_) (fun c1 => ?_)
    · replace hf := if_f c1 hf
      exact jn_X4_takesFigure_74 kl0 hf
    · replace hf := if_t c1 hf
      refine ev_iconst (v := 1) dX4_takesFigure_70 (by decide) ?_
      refine ev_goto (tgt := 75) dX4_takesFigure_71 (by decide) ?_
      exact jn_X4_takesFigure_75 kl0 hf
def f_X4_takesFigure (h : Hp) (l0 : Nat) (l1 : Int32) : Option (Int32 × Hp) := (if (hI h l0 7) = 0 then (if (hI h l0 6) = 0 then (some ((0 : Int32), h)) else (f_X4_takesFigure_j39 (sI h l0 6 ((hI h l0 6) - (1 : Int32))) l0 l1)) else (if (hI h l0 7) = (2 : Int32) then (some ((0 : Int32), h)) else (f_X4_takesFigure_j39 h l0 l1)))
set_option maxRecDepth 100000 in
set_option maxHeartbeats 4000000 in
theorem ev_X4_takesFigure {g : Gl} {h : Hp} {l0 : Nat} {l1 : Int32} {rv : Int32} {h2 : Hp} (kl0 : KD g.1 l0 3 0) (hf : f_X4_takesFigure h l0 l1 = some (rv, h2)) : Ev yX4_takesFigure cX4_takesFigure 4 (some .boolean) 0 0 g 0 [] [(0, .ref l0), (1, .int l1)] h (some (.int rv)) h2 := by
  unfold f_X4_takesFigure at hf
  refine ev_aload_n (n := 0) dX4_takesFigure_0 rfl rfl ?_
  refine ev_get (v := .int (hI h l0 7)) 7 kl0 rfl (by decide) rfl lk_195 dX4_takesFigure_1 ?_
  refine ev_if_ne (tgt := 29) dX4_takesFigure_4 (by decide) (fun c1 => ?_) (fun c1 => ?_)
  · replace hf := if_f c1 hf
    refine ev_aload_n (n := 0) dX4_takesFigure_29 rfl rfl ?_
    refine ev_get (v := .int (hI h l0 7)) 7 kl0 rfl (by decide) rfl lk_195 dX4_takesFigure_30 ?_
    refine ev_iconst (v := 2) dX4_takesFigure_33 (by decide) ?_
    refine ev_icmp_ne (tgt := 39) dX4_takesFigure_34 (by decide) (fun c1 => ?_) (fun c1 => ?_)
    · replace hf := if_f c1 hf
      exact jn_X4_takesFigure_39 kl0 hf
    · replace hf := if_t c1 hf
      refine ev_iconst (v := 0) dX4_takesFigure_37 (by decide) ?_
      obtain ⟨rfl, rfl⟩ := Prod.mk.inj (Option.some.inj hf)
      exact ev_ireturn dX4_takesFigure_38 ⟨.boolean, rfl, rfl⟩
  · replace hf := if_t c1 hf
    refine ev_aload_n (n := 0) dX4_takesFigure_7 rfl rfl ?_
    refine ev_get (v := .int (hI h l0 6)) 6 kl0 rfl (by decide) rfl lk_194 dX4_takesFigure_8 ?_
    refine ev_if_ne (tgt := 16) dX4_takesFigure_11 (by decide) (fun c1 => ?_) (fun c1 => ?_)
    · replace hf := if_f c1 hf
      refine ev_aload_n (n := 0) dX4_takesFigure_16 rfl rfl ?_
      refine ev_dup dX4_takesFigure_17 rfl ?_
      refine ev_get (v := .int (hI h l0 6)) 6 kl0 rfl (by decide) rfl lk_194 dX4_takesFigure_18 ?_
      refine ev_iconst (v := 1) dX4_takesFigure_21 (by decide) ?_
      refine ev_isub dX4_takesFigure_22 ?_
      refine ev_putI 6 kl0 rfl (by decide) rfl (by decide +kernel) rfl (by exact Nat.le_of_ble_eq_true rfl) lk_194 dX4_takesFigure_23 ?_
      refine ev_goto (tgt := 39) dX4_takesFigure_26 (by decide) ?_
      exact jn_X4_takesFigure_39 kl0 hf
    · replace hf := if_t c1 hf
      refine ev_iconst (v := 0) dX4_takesFigure_14 (by decide) ?_
      obtain ⟨rfl, rfl⟩ := Prod.mk.inj (Option.some.inj hf)
      exact ev_ireturn dX4_takesFigure_15 ⟨.boolean, rfl, rfl⟩
def f_X4_takes_j60 (h : Hp)  : Option (Int32 × Hp) := (some ((0 : Int32), h))
set_option maxRecDepth 100000 in
set_option maxHeartbeats 4000000 in
theorem jn_X4_takes_60 {g : Gl} {h : Hp}   {rv : Int32} {h2 : Hp}    (hf : f_X4_takes_j60 h = some (rv, h2)) : Ev yX4_takes cX4_takes 2 (some .boolean) 1 23 g 60 [] [] h (some (.int rv)) h2 := by
  unfold f_X4_takes_j60 at hf
  refine ev_iconst (v := 0) dX4_takes_60 (by decide) ?_
  obtain ⟨rfl, rfl⟩ := Prod.mk.inj (Option.some.inj hf)
  exact ev_ireturn dX4_takes_61 ⟨.boolean, rfl, rfl⟩
def f_X4_takes_j47 (h : Hp) (l0 : Nat) (l1 : Int32) : Option (Int32 × Hp) := (if l1 = (59 : Int32) then (if (hI h l0 6) ≤ 0 then (if isBb (0 : Int32) = true then (some ((1 : Int32), (sI (sI h l0 8 (0 : Int32)) l0 1 ((hI (sI h l0 8 (0 : Int32)) l0 1) + (1 : Int32))))) else none) else (f_X4_takes_j60 h)) else (f_X4_takes_j60 h))
set_option maxRecDepth 100000 in
set_option maxHeartbeats 4000000 in
theorem jn_X4_takes_47 {g : Gl} {h : Hp} {l0 : Nat} {l1 : Int32}  {rv : Int32} {h2 : Hp} (kl0 : KD g.1 l0 3 0)   (hf : f_X4_takes_j47 h l0 l1 = some (rv, h2)) : Ev yX4_takes cX4_takes 2 (some .boolean) 1 23 g 47 [] [(0, .ref l0), (1, .int l1)] h (some (.int rv)) h2 := by
  unfold f_X4_takes_j47 at hf
  refine ev_iload_n (n := 1) dX4_takes_47 rfl rfl ?_
  refine ev_bipush (v := 59) dX4_takes_48 (by decide) ?_
  refine ev_icmp_ne (tgt := 60) dX4_takes_50 (by decide) (fun c1 => ?_) (fun c1 => ?_)
  · replace hf := if_f c1 hf
    refine ev_sub [] rfl (lv2 := []) ?_
    exact jn_X4_takes_60 hf
  · replace hf := if_t c1 hf
    refine ev_aload_n (n := 0) dX4_takes_53 rfl rfl ?_
    refine ev_get (v := .int (hI h l0 6)) 6 kl0 rfl (by decide) rfl lk_194 dX4_takes_54 ?_
    refine ev_if_le (tgt := 62) dX4_takes_57 (by decide) (fun c1 => ?_) (fun c1 => ?_)
    · replace hf := if_t c1 hf
      refine ev_aload_n (n := 0) dX4_takes_62 rfl rfl ?_
      refine ev_iconst (v := 0) dX4_takes_63 (by decide) ?_
      obtain ⟨gd1, hf⟩ := gd_of hf
      refine ev_putZ 8 kl0 rfl (by decide) rfl (by decide +kernel) (isBb_of gd1) rfl (by exact Nat.le_of_ble_eq_true rfl) lk_196 dX4_takes_64 ?_
      refine ev_aload_n (n := 0) dX4_takes_67 rfl rfl ?_
      refine ev_dup dX4_takes_68 rfl ?_
      refine ev_get (v := .int (hI (sI h l0 8 (0 : Int32)) l0 1)) 1 kl0 rfl (by decide) rfl lk_185 dX4_takes_69 ?_
      refine ev_iconst (v := 1) dX4_takes_72 (by decide) ?_
      refine ev_iadd dX4_takes_73 ?_
      refine ev_putI 1 kl0 rfl (by decide) rfl (by decide +kernel) rfl (by exact Nat.le_of_ble_eq_true rfl) lk_185 dX4_takes_74 ?_
      refine ev_iconst (v := 1) dX4_takes_77 (by decide) ?_
      obtain ⟨rfl, rfl⟩ := Prod.mk.inj (Option.some.inj hf)
      exact ev_ireturn dX4_takes_78 ⟨.boolean, rfl, rfl⟩
    · replace hf := if_f c1 hf
      refine ev_sub [] rfl (lv2 := []) ?_
      exact jn_X4_takes_60 hf
def f_X4_takes (h : Hp) (l0 : Nat) (l1 : Int32) : Option (Int32 × Hp) := (if l1 = (32 : Int32) then (some ((1 : Int32), (sI h l0 7 (0 : Int32)))) else (if (hI h l0 8) = 0 then (bn2 (f_X4_takesLetter h l0 l1) (fun v6 h7 => (if isBb v6 = true then (some (v6, h7)) else none))) else (if l1 < (48 : Int32) then (f_X4_takes_j47 h l0 l1) else (if (57 : Int32) < l1 then (f_X4_takes_j47 h l0 l1) else (bn2 (f_X4_takesFigure h l0 (l1 - (48 : Int32))) (fun v2 h3 => (if isBb v2 = true then (some (v2, h3)) else none)))))))
set_option maxRecDepth 100000 in
set_option maxHeartbeats 4000000 in
theorem ev_X4_takes {g : Gl} {h : Hp} {l0 : Nat} {l1 : Int32} {rv : Int32} {h2 : Hp} (kl0 : KD g.1 l0 3 0) (hf : f_X4_takes h l0 l1 = some (rv, h2)) : Ev yX4_takes cX4_takes 2 (some .boolean) 1 23 g 0 [] [(0, .ref l0), (1, .int l1)] h (some (.int rv)) h2 := by
  unfold f_X4_takes at hf
  refine ev_iload_n (n := 1) dX4_takes_0 rfl rfl ?_
  refine ev_bipush (v := 32) dX4_takes_1 (by decide) ?_
  refine ev_icmp_ne (tgt := 13) dX4_takes_3 (by decide) (fun c1 => ?_) (fun c1 => ?_)
  · replace hf := if_f c1 hf
    refine ev_aload_n (n := 0) dX4_takes_13 rfl rfl ?_
    refine ev_get (v := .int (hI h l0 8)) 8 kl0 rfl (by decide) rfl lk_196 dX4_takes_14 ?_
    refine ev_if_ne (tgt := 26) dX4_takes_17 (by decide) (fun c1 => ?_) (fun c1 => ?_)
    · replace hf := if_f c1 hf
      refine ev_iload_n (n := 1) dX4_takes_26 rfl rfl ?_
      refine ev_bipush (v := 48) dX4_takes_27 (by decide) ?_
      refine ev_icmp_lt (tgt := 47) dX4_takes_29 (by decide) (fun c1 => ?_) (fun c1 => ?_)
      · replace hf := if_t c1 hf
        exact jn_X4_takes_47 kl0 hf
      · replace hf := if_f c1 hf
        refine ev_iload_n (n := 1) dX4_takes_32 rfl rfl ?_
        refine ev_bipush (v := 57) dX4_takes_33 (by decide) ?_
        refine ev_icmp_gt (tgt := 47) dX4_takes_35 (by decide) (fun c1 => ?_) (fun c1 => ?_)
        · replace hf := if_t c1 hf
          exact jn_X4_takes_47 kl0 hf
        · replace hf := if_f c1 hf
          refine ev_aload_n (n := 0) dX4_takes_38 rfl rfl ?_
          refine ev_iload_n (n := 1) dX4_takes_39 rfl rfl ?_
          refine ev_bipush (v := 48) dX4_takes_40 (by decide) ?_
          refine ev_isub dX4_takes_42 ?_
          obtain ⟨v2, h3, e4, hf⟩ := bn2_of hf
          refine ev_callVi (As := [.int (l1 - (48 : Int32))]) cal_X4_takesFigure kl0 rfl (ev_X4_takesFigure kl0 e4) (Nat.le_of_ble_eq_true rfl) rfl lk_562 (by decide) (by decide) (Nat.le_of_ble_eq_true rfl) dX4_takes_43 rfl ?_
          obtain ⟨gd5, hf⟩ := gd_of hf
          obtain ⟨rfl, rfl⟩ := Prod.mk.inj (Option.some.inj hf)
          exact ev_ireturn dX4_takes_46 ⟨.boolean, rfl, isB_nar (isBb_of gd5)⟩
    · replace hf := if_t c1 hf
      refine ev_aload_n (n := 0) dX4_takes_20 rfl rfl ?_
      refine ev_iload_n (n := 1) dX4_takes_21 rfl rfl ?_
      obtain ⟨v6, h7, e8, hf⟩ := bn2_of hf
      refine ev_callVi (As := [.int l1]) cal_X4_takesLetter kl0 rfl (ev_X4_takesLetter kl0 e8) (Nat.le_of_ble_eq_true rfl) rfl lk_558 (by decide) (by decide) (Nat.le_of_ble_eq_true rfl) dX4_takes_22 rfl ?_
      obtain ⟨gd9, hf⟩ := gd_of hf
      obtain ⟨rfl, rfl⟩ := Prod.mk.inj (Option.some.inj hf)
      exact ev_ireturn dX4_takes_25 ⟨.boolean, rfl, isB_nar (isBb_of gd9)⟩
  · replace hf := if_t c1 hf
    refine ev_aload_n (n := 0) dX4_takes_6 rfl rfl ?_
    refine ev_iconst (v := 0) dX4_takes_7 (by decide) ?_
    refine ev_putI 7 kl0 rfl (by decide) rfl (by decide +kernel) rfl (by exact Nat.le_of_ble_eq_true rfl) lk_195 dX4_takes_8 ?_
    refine ev_iconst (v := 1) dX4_takes_11 (by decide) ?_
    obtain ⟨rfl, rfl⟩ := Prod.mk.inj (Option.some.inj hf)
    exact ev_ireturn dX4_takes_12 ⟨.boolean, rfl, rfl⟩
def f_X4_read_l12 (l0 : Nat) : Nat → Int32 → Hp → Option (Nat × Int32 × Hp)
  | 0, _, _ => none
  | fu1 + 1, l1, h => (if (hI h l0 0) ≤ l1 then (some (1, 0, h)) else (if inb l1 120 = true then (bn2 (f_X4_takes h l0 (hI h (l0 + 1) l1.toNatClampNeg)) (fun v3 h4 => (if v3 = 0 then (some (0, l1, h4)) else (f_X4_read_l12 l0 fu1 (l1 + 1) h4)))) else none))
theorem f_X4_read_l12_s (l0 : Nat) (fu1 : Nat) (l1 : Int32) (h : Hp) : f_X4_read_l12 l0 (fu1 + 1) l1 h = (if (hI h l0 0) ≤ l1 then (some (1, 0, h)) else (if inb l1 120 = true then (bn2 (f_X4_takes h l0 (hI h (l0 + 1) l1.toNatClampNeg)) (fun v3 h4 => (if v3 = 0 then (some (0, l1, h4)) else (f_X4_read_l12 l0 fu1 (l1 + 1) h4)))) else none)) := rfl
theorem f_X4_read_l12_0 (l0 : Nat) (l1 : Int32) (h : Hp) : f_X4_read_l12 l0 0 l1 h = none := rfl
set_option maxRecDepth 100000 in
set_option maxHeartbeats 4000000 in
theorem lp_X4_read_12 {g : Gl} {l0 : Nat} {r : Option Value} {h2 : Hp} {tg : Nat} {o1 : Int32} {h3 : Hp} (kl0 : KD g.1 l0 3 0) (hx0 : tg = 0 → Ev yX4_read cX4_read 2 (some .int) 2 44 g 33 [] [(1, .int o1)] h3 r h2) (hx1 : tg = 1 → Ev yX4_read cX4_read 2 (some .int) 2 44 g 41 [] [(0, .ref l0)] h3 r h2) : ∀ (fu1 : Nat) (l1 : Int32) (h : Hp), f_X4_read_l12 l0 fu1 l1 h = some (tg, o1, h3) → Ev yX4_read cX4_read 2 (some .int) 2 44 g 12 [] [(0, .ref l0), (1, .int l1)] h r h2 := by
  intro fu1
  induction fu1 with
  | zero =>
    intro l1 h hf
    cases hf
  | succ fu1 ih =>
    intro l1 h hf
    rw [f_X4_read_l12_s] at hf
    have hk := ih
    refine ev_iload_n (n := 1) dX4_read_12 rfl rfl ?_
    refine ev_aload_n (n := 0) dX4_read_13 rfl rfl ?_
    refine ev_get (v := .int (hI h l0 0)) 0 kl0 rfl (by decide) rfl lk_183 dX4_read_14 ?_
    refine ev_icmp_ge (tgt := 41) dX4_read_17 (by decide) (fun c1 => ?_) (fun c1 => ?_)
    · replace hf := if_t c1 hf
      refine ev_sub [0] rfl (lv2 := [(0, .ref l0)]) ?_
      obtain ⟨rfl, hj0⟩ := Prod.mk.inj (Option.some.inj hf)
      obtain ⟨rfl, rfl⟩ := Prod.mk.inj hj0
      exact hx1 rfl
    · replace hf := if_f c1 hf
      refine ev_aload_n (n := 0) dX4_read_20 rfl rfl ?_
      refine ev_aload_n (n := 0) dX4_read_21 rfl rfl ?_
      refine ev_get (v := .ref (l0 + 1)) 5 kl0 rfl (by decide) rfl lk_193 dX4_read_22 ?_
      refine ev_iload_n (n := 1) dX4_read_25 rfl rfl ?_
      obtain ⟨gd2, hf⟩ := gd_of hf
      refine ev_iald (kd_3_5 kl0) (inb_of gd2) dX4_read_26 ?_
      obtain ⟨v3, h4, e5, hf⟩ := bn2_of hf
      refine ev_callVi (As := [.int (hI h (l0 + 1) l1.toNatClampNeg)]) cal_X4_takes kl0 rfl (ev_X4_takes kl0 e5) (Nat.le_of_ble_eq_true rfl) rfl lk_554 (by decide) (by decide) (Nat.le_of_ble_eq_true rfl) dX4_read_27 rfl ?_
      refine ev_if_ne (tgt := 35) dX4_read_30 (by decide) (fun c1 => ?_) (fun c1 => ?_)
      · replace hf := if_f c1 hf
        refine ev_iinc (z := 1) (v := (l1 + 1)) (lv2 := [(1, .int (l1 + 1)), (0, .ref l0)]) dX4_read_35 rfl rfl (by decide) rfl ?_
        refine ev_goto (tgt := 12) dX4_read_38 (by decide) ?_
        refine ev_sub [1, 0] rfl (lv2 := [(0, .ref l0), (1, .int (l1 + 1))]) ?_
        exact hk _ _ hf
      · replace hf := if_t c1 hf
        refine ev_sub [1] rfl (lv2 := [(1, .int l1)]) ?_
        obtain ⟨rfl, hj0⟩ := Prod.mk.inj (Option.some.inj hf)
        obtain ⟨rfl, rfl⟩ := Prod.mk.inj hj0
        exact hx0 rfl
def f_X4_read_j55 (h : Hp) (l0 : Nat) : Option (Int32 × Hp) := (some ((hI h l0 0), h))
set_option maxRecDepth 100000 in
set_option maxHeartbeats 4000000 in
theorem jn_X4_read_55 {g : Gl} {h : Hp} {l0 : Nat}  {rv : Int32} {h2 : Hp} (kl0 : KD g.1 l0 3 0)   (hf : f_X4_read_j55 h l0 = some (rv, h2)) : Ev yX4_read cX4_read 2 (some .int) 2 44 g 55 [] [(0, .ref l0)] h (some (.int rv)) h2 := by
  unfold f_X4_read_j55 at hf
  refine ev_aload_n (n := 0) dX4_read_55 rfl rfl ?_
  refine ev_get (v := .int (hI h l0 0)) 0 kl0 rfl (by decide) rfl lk_183 dX4_read_56 ?_
  refine ev_goto (tgt := 63) dX4_read_59 (by decide) ?_
  obtain ⟨rfl, rfl⟩ := Prod.mk.inj (Option.some.inj hf)
  exact ev_ireturn dX4_read_63 ⟨.int, rfl, rfl⟩
def f_X4_read (h : Hp) (l0 : Nat) : Option (Int32 × Hp) := (if isBb (0 : Int32) = true then (bn3 (f_X4_read_l12 l0 fu (0 : Int32) (sI (sI h l0 1 (0 : Int32)) l0 8 (0 : Int32))) (fun tg12 w1_6 h7 => (if tg12 = 0 then (some (w1_6, h7)) else (if (hI h7 l0 8) = 0 then (if (hI h7 l0 1) = 0 then (f_X4_read_j55 h7 l0) else (some ((-1 : Int32), h7))) else (f_X4_read_j55 h7 l0))))) else none)
set_option maxRecDepth 100000 in
set_option maxHeartbeats 4000000 in
theorem ev_X4_read {g : Gl} {h : Hp} {l0 : Nat} {rv : Int32} {h2 : Hp} (kl0 : KD g.1 l0 3 0) (hf : f_X4_read h l0 = some (rv, h2)) : Ev yX4_read cX4_read 2 (some .int) 2 44 g 0 [] [(0, .ref l0)] h (some (.int rv)) h2 := by
  unfold f_X4_read at hf
  refine ev_aload_n (n := 0) dX4_read_0 rfl rfl ?_
  refine ev_iconst (v := 0) dX4_read_1 (by decide) ?_
  refine ev_putI 1 kl0 rfl (by decide) rfl (by decide +kernel) rfl (by exact Nat.le_of_ble_eq_true rfl) lk_185 dX4_read_2 ?_
  refine ev_aload_n (n := 0) dX4_read_5 rfl rfl ?_
  refine ev_iconst (v := 0) dX4_read_6 (by decide) ?_
  obtain ⟨gd1, hf⟩ := gd_of hf
  refine ev_putZ 8 kl0 rfl (by decide) rfl (by decide +kernel) (isBb_of gd1) rfl (by exact Nat.le_of_ble_eq_true rfl) lk_196 dX4_read_7 ?_
  refine ev_iconst (v := 0) dX4_read_10 (by decide) ?_
  refine ev_istore_n (lv2 := [(1, .int (0 : Int32)), (0, .ref l0)]) dX4_read_11 rfl (by decide) rfl ?_
  obtain ⟨tg12, w1_6, h7, e8, hf⟩ := bn3_of hf
  refine ev_sub [1, 0] rfl (lv2 := [(0, .ref l0), (1, .int (0 : Int32))]) ?_
  refine lp_X4_read_12 kl0 (fun ht => ?_) (fun ht => ?_) fu _ _ e8
  · subst ht
    replace hf : _ = _ := hf
    replace hf := if_t rfl hf
    refine ev_iload_n (n := 0) dX4_read_33 rfl rfl ?_
    obtain ⟨rfl, rfl⟩ := Prod.mk.inj (Option.some.inj hf)
    exact ev_ireturn dX4_read_34 ⟨.int, rfl, rfl⟩
  · subst ht
    replace hf : _ = _ := hf
    replace hf := if_f (by decide) hf
    refine ev_aload_n (n := 0) dX4_read_41 rfl rfl ?_
    refine ev_get (v := .int (hI h7 l0 8)) 8 kl0 rfl (by decide) rfl lk_196 dX4_read_42 ?_
    refine ev_if_ne (tgt := 55) dX4_read_45 (by decide) (fun c1 => ?_) (fun c1 => ?_)
    · replace hf := if_f c1 hf
      exact jn_X4_read_55 kl0 hf
    · replace hf := if_t c1 hf
      refine ev_aload_n (n := 0) dX4_read_48 rfl rfl ?_
      refine ev_get (v := .int (hI h7 l0 1)) 1 kl0 rfl (by decide) rfl lk_185 dX4_read_49 ?_
      refine ev_if_ne (tgt := 62) dX4_read_52 (by decide) (fun c1 => ?_) (fun c1 => ?_)
      · replace hf := if_f c1 hf
        refine ev_iconst (v := -1) dX4_read_62 (by decide) ?_
        obtain ⟨rfl, rfl⟩ := Prod.mk.inj (Option.some.inj hf)
        exact ev_ireturn dX4_read_63 ⟨.int, rfl, rfl⟩
      · replace hf := if_t c1 hf
        exact jn_X4_read_55 kl0 hf
def f_Jxf58ca_isNaN_12338 (h : Hp) (l0 : UInt32) : Option (Int32) := (if (Op.cmpValue (FP.fcmp l0 l0) .l) = 0 then (some (0 : Int32)) else (some (1 : Int32)))
set_option maxRecDepth 100000 in
set_option maxHeartbeats 4000000 in
theorem ev_Jxf58ca_isNaN_12338 {g : Gl} {h : Hp} {l0 : UInt32} {rv : Int32}  (hf : f_Jxf58ca_isNaN_12338 h l0 = some rv) : Ev yJxf58ca_isNaN_12338 cJxf58ca_isNaN_12338 1 (some .boolean) 0 0 g 0 [] [(0, .float l0)] h (some (.int rv)) h := by
  unfold f_Jxf58ca_isNaN_12338 at hf
  refine ev_fload_n (n := 0) dJxf58ca_isNaN_12338_0 rfl rfl ?_
  refine ev_fload_n (n := 0) dJxf58ca_isNaN_12338_1 rfl rfl ?_
  refine ev_fcmp dJxf58ca_isNaN_12338_2 ?_
  refine ev_if_eq (tgt := 10) dJxf58ca_isNaN_12338_3 (by decide) (fun c1 => ?_) (fun c1 => ?_)
  · replace hf := if_t c1 hf
    refine ev_iconst (v := 0) dJxf58ca_isNaN_12338_10 (by decide) ?_
    obtain rfl := Option.some.inj hf
    exact ev_ireturn dJxf58ca_isNaN_12338_11 ⟨.boolean, rfl, rfl⟩
  · replace hf := if_f c1 hf
    refine ev_iconst (v := 1) dJxf58ca_isNaN_12338_6 (by decide) ?_
    refine ev_goto (tgt := 11) dJxf58ca_isNaN_12338_7 (by decide) ?_
    obtain rfl := Option.some.inj hf
    exact ev_ireturn dJxf58ca_isNaN_12338_11 ⟨.boolean, rfl, rfl⟩
def f_Jxf58ca_floatToIntBits_5c35a (h : Hp) (l0 : UInt32) : Option (Int32) := (bn1 (f_Jxf58ca_isNaN_12338 h l0) (fun v1 => (if v1 = 0 then (some l0.toInt32) else (some (2143289344 : Int32)))))
set_option maxRecDepth 100000 in
set_option maxHeartbeats 4000000 in
theorem ev_Jxf58ca_floatToIntBits_5c35a {g : Gl} {h : Hp} {l0 : UInt32} {rv : Int32}  (hf : f_Jxf58ca_floatToIntBits_5c35a h l0 = some rv) : Ev yJxf58ca_floatToIntBits_5c35a cJxf58ca_floatToIntBits_5c35a 1 (some .int) 1 30 g 0 [] [(0, .float l0)] h (some (.int rv)) h := by
  unfold f_Jxf58ca_floatToIntBits_5c35a at hf
  refine ev_fload_n (n := 0) dJxf58ca_floatToIntBits_5c35a_0 rfl rfl ?_
  obtain ⟨v1, e2, hf⟩ := bn1_of hf
  refine ev_callSi (As := [.float l0]) cal_Jxf58ca_isNaN_12338 (ev_Jxf58ca_isNaN_12338 e2) (Nat.le_of_ble_eq_true rfl) rfl lk_901 (by decide) (by decide) (Nat.le_of_ble_eq_true rfl) dJxf58ca_floatToIntBits_5c35a_1 rfl ?_
  refine ev_if_ne (tgt := 12) dJxf58ca_floatToIntBits_5c35a_4 (by decide) (fun c1 => ?_) (fun c1 => ?_)
  · replace hf := if_f c1 hf
    refine ev_ldc dJxf58ca_floatToIntBits_5c35a_12 lk_907 ?_
    obtain rfl := Option.some.inj hf
    exact ev_ireturn dJxf58ca_floatToIntBits_5c35a_14 ⟨.int, rfl, rfl⟩
  · replace hf := if_t c1 hf
    refine ev_fload_n (n := 0) dJxf58ca_floatToIntBits_5c35a_7 rfl rfl ?_
    refine ev_f2iRaw (by decide) (Nat.le_of_ble_eq_true rfl) lk_904 nf_nat nf_stat nf_ini dJxf58ca_floatToIntBits_5c35a_8 ?_
    obtain rfl := Option.some.inj hf
    exact ev_ireturn dJxf58ca_floatToIntBits_5c35a_11 ⟨.int, rfl, rfl⟩
def f_Jxe99ae_isNaN_b9ae7 (h : Hp) (l0 : UInt64) : Option (Int32) := (if (Op.cmpValue (FP.dcmp l0 l0) .l) = 0 then (some (0 : Int32)) else (some (1 : Int32)))
set_option maxRecDepth 100000 in
set_option maxHeartbeats 4000000 in
theorem ev_Jxe99ae_isNaN_b9ae7 {g : Gl} {h : Hp} {l0 : UInt64} {rv : Int32}  (hf : f_Jxe99ae_isNaN_b9ae7 h l0 = some rv) : Ev yJxe99ae_isNaN_b9ae7 cJxe99ae_isNaN_b9ae7 2 (some .boolean) 0 0 g 0 [] [(0, .double l0)] h (some (.int rv)) h := by
  unfold f_Jxe99ae_isNaN_b9ae7 at hf
  refine ev_dload_n (n := 0) dJxe99ae_isNaN_b9ae7_0 rfl rfl ?_
  refine ev_dload_n (n := 0) dJxe99ae_isNaN_b9ae7_1 rfl rfl ?_
  refine ev_dcmp dJxe99ae_isNaN_b9ae7_2 ?_
  refine ev_if_eq (tgt := 10) dJxe99ae_isNaN_b9ae7_3 (by decide) (fun c1 => ?_) (fun c1 => ?_)
  · replace hf := if_t c1 hf
    refine ev_iconst (v := 0) dJxe99ae_isNaN_b9ae7_10 (by decide) ?_
    obtain rfl := Option.some.inj hf
    exact ev_ireturn dJxe99ae_isNaN_b9ae7_11 ⟨.boolean, rfl, rfl⟩
  · replace hf := if_f c1 hf
    refine ev_iconst (v := 1) dJxe99ae_isNaN_b9ae7_6 (by decide) ?_
    refine ev_goto (tgt := 11) dJxe99ae_isNaN_b9ae7_7 (by decide) ?_
    obtain rfl := Option.some.inj hf
    exact ev_ireturn dJxe99ae_isNaN_b9ae7_11 ⟨.boolean, rfl, rfl⟩
def f_Jxe99ae_doubleToLongBits_ccdee (h : Hp) (l0 : UInt64) : Option (Int64) := (bn1 (f_Jxe99ae_isNaN_b9ae7 h l0) (fun v1 => (if v1 = 0 then (some l0.toInt64) else (some (9221120237041090560 : Int64)))))
set_option maxRecDepth 100000 in
set_option maxHeartbeats 4000000 in
theorem ev_Jxe99ae_doubleToLongBits_ccdee {g : Gl} {h : Hp} {l0 : UInt64} {rv : Int64}  (hf : f_Jxe99ae_doubleToLongBits_ccdee h l0 = some rv) : Ev yJxe99ae_doubleToLongBits_ccdee cJxe99ae_doubleToLongBits_ccdee 2 (some .long) 1 30 g 0 [] [(0, .double l0)] h (some (.long rv)) h := by
  unfold f_Jxe99ae_doubleToLongBits_ccdee at hf
  refine ev_dload_n (n := 0) dJxe99ae_doubleToLongBits_ccdee_0 rfl rfl ?_
  obtain ⟨v1, e2, hf⟩ := bn1_of hf
  refine ev_callSi (As := [.double l0]) cal_Jxe99ae_isNaN_b9ae7 (ev_Jxe99ae_isNaN_b9ae7 e2) (Nat.le_of_ble_eq_true rfl) rfl lk_935 (by decide) (by decide) (Nat.le_of_ble_eq_true rfl) dJxe99ae_doubleToLongBits_ccdee_1 rfl ?_
  refine ev_if_ne (tgt := 12) dJxe99ae_doubleToLongBits_ccdee_4 (by decide) (fun c1 => ?_) (fun c1 => ?_)
  · replace hf := if_f c1 hf
    refine ev_ldc2 dJxe99ae_doubleToLongBits_ccdee_12 lk_941 ?_
    obtain rfl := Option.some.inj hf
    exact ev_lreturn dJxe99ae_doubleToLongBits_ccdee_15 rfl
  · replace hf := if_t c1 hf
    refine ev_dload_n (n := 0) dJxe99ae_doubleToLongBits_ccdee_7 rfl rfl ?_
    refine ev_d2lRaw (by decide) (Nat.le_of_ble_eq_true rfl) lk_938 nd_nat nd_stat nd_ini dJxe99ae_doubleToLongBits_ccdee_8 ?_
    obtain rfl := Option.some.inj hf
    exact ev_lreturn dJxe99ae_doubleToLongBits_ccdee_11 rfl
