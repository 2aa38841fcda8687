def f_X2_wants_j20 (h : Hp)  : Option (Int32) := (some (0 : Int32))
set_option maxRecDepth 100000 in
set_option maxHeartbeats 4000000 in
theorem jn_X2_wants_20 {g : Gl} {h : Hp}   {rv : Int32}    (hf : f_X2_wants_j20 h = some rv) : Ev yX2_wants cX2_wants 4 (some .boolean) 1 21 g 20 [] [] h (some (.int rv)) h := by
  unfold f_X2_wants_j20 at hf
  refine ev_iconst (v := 0) dX2_wants_20 (by decide) ?_
  obtain rfl := Option.some.inj hf
  exact ev_ireturn dX2_wants_21 ⟨.boolean, rfl, rfl⟩
def f_X2_wants_j49 (h : Hp)  : Option (Int32) := (some (0 : Int32))
set_option maxRecDepth 100000 in
set_option maxHeartbeats 4000000 in
theorem jn_X2_wants_49 {g : Gl} {h : Hp}   {rv : Int32}    (hf : f_X2_wants_j49 h = some rv) : Ev yX2_wants cX2_wants 4 (some .boolean) 1 21 g 49 [] [] h (some (.int rv)) h := by
  unfold f_X2_wants_j49 at hf
  refine ev_iconst (v := 0) dX2_wants_49 (by decide) ?_
  obtain rfl := Option.some.inj hf
  exact ev_ireturn dX2_wants_50 ⟨.boolean, rfl, rfl⟩
def f_X2_wants (h : Hp) (l0 : Nat) (l1 : Int32) (l2 : Int32) : Option (Int32) := (if inb l1 6 = true then (if l2 = l1 then (f_X2_wants_j20 h) else (if (hI h ((l0 + 2) + 1 + 4 * l1.toNatClampNeg) 0) = (2 : Int32) then (f_X2_wants_j20 h) else (if (((hI h ((l0 + 2) + 1 + 4 * l1.toNatClampNeg) 6) >>> (l2 &&& 31)) &&& (1 : Int32)) = 0 then (if inb l2 6 = true then (if (((hI h ((l0 + 2) + 1 + 4 * l2.toNatClampNeg) 6) >>> (l1 &&& 31)) &&& (1 : Int32)) = 0 then (bn1 (f_X3_claimsOf h l0 l2) (fun v3 => (if (v3 &&& ((hI h ((l0 + 2) + 1 + 4 * l1.toNatClampNeg) 2) ^^^ (-1 : Int32))) = 0 then (some (0 : Int32)) else (some (1 : Int32))))) else (f_X2_wants_j49 h)) else none) else (f_X2_wants_j49 h)))) else none)
set_option maxRecDepth 100000 in
set_option maxHeartbeats 4000000 in
theorem ev_X2_wants {g : Gl} {h : Hp} {l0 : Nat} {l1 : Int32} {l2 : Int32} {rv : Int32} (kl0 : KD g.1 l0 2 0) (hf : f_X2_wants h l0 l1 l2 = some rv) : Ev yX2_wants cX2_wants 4 (some .boolean) 1 21 g 0 [] [(0, .ref l0), (1, .int l1), (2, .int l2)] h (some (.int rv)) h := by
  unfold f_X2_wants at hf
  refine ev_aload_n (n := 0) dX2_wants_0 rfl rfl ?_
  refine ev_get (v := .ref (l0 + 2)) 11 kl0 rfl (by decide) rfl lk_130 dX2_wants_1 ?_
  refine ev_iload_n (n := 1) dX2_wants_4 rfl rfl ?_
  obtain ⟨gd1, hf⟩ := gd_of hf
  refine ev_aaldP (kd_2_11 kl0) (inb_of gd1) dX2_wants_5 ?_
  refine ev_astore_n (lv2 := [(3, .ref ((l0 + 2) + 1 + 4 * l1.toNatClampNeg)), (0, .ref l0), (1, .int l1), (2, .int l2)]) dX2_wants_6 rfl (by decide) rfl ?_
  refine ev_iload_n (n := 3) dX2_wants_7 rfl rfl ?_
  refine ev_iload_n (n := 2) dX2_wants_8 rfl rfl ?_
  refine ev_icmp_eq (tgt := 20) dX2_wants_9 (by decide) (fun c1 => ?_) (fun c1 => ?_)
  · replace hf := if_t c1 hf
    refine ev_sub [] rfl (lv2 := []) ?_
    exact jn_X2_wants_20 hf
  · replace hf := if_f c1 hf
    refine ev_aload_n (n := 0) dX2_wants_12 rfl rfl ?_
    refine ev_get (v := .int (hI h ((l0 + 2) + 1 + 4 * l1.toNatClampNeg) 0)) 0 (kdPA (kd_2_11 kl0) (inb_of gd1)) rfl (by decide) rfl lk_36 dX2_wants_13 ?_
    refine ev_iconst (v := 2) dX2_wants_16 (by decide) ?_
    refine ev_icmp_ne (tgt := 22) dX2_wants_17 (by decide) (fun c1 => ?_) (fun c1 => ?_)
    · replace hf := if_f c1 hf
      refine ev_aload_n (n := 0) dX2_wants_22 rfl rfl ?_
      refine ev_get (v := .int (hI h ((l0 + 2) + 1 + 4 * l1.toNatClampNeg) 6)) 6 (kdPA (kd_2_11 kl0) (inb_of gd1)) rfl (by decide) rfl lk_54 dX2_wants_23 ?_
      refine ev_iload_n (n := 3) dX2_wants_26 rfl rfl ?_
      refine ev_ishr dX2_wants_27 ?_
      refine ev_iconst (v := 1) dX2_wants_28 (by decide) ?_
      refine ev_iand dX2_wants_29 ?_
      refine ev_if_ne (tgt := 49) dX2_wants_30 (by decide) (fun c1 => ?_) (fun c1 => ?_)
      · replace hf := if_f c1 hf
        refine ev_sub [] rfl (lv2 := []) ?_
        exact jn_X2_wants_49 hf
      · replace hf := if_t c1 hf
        refine ev_aload_n (n := 1) dX2_wants_33 rfl rfl ?_
        refine ev_get (v := .ref (l0 + 2)) 11 kl0 rfl (by decide) rfl lk_130 dX2_wants_34 ?_
        refine ev_iload_n (n := 3) dX2_wants_37 rfl rfl ?_
        obtain ⟨gd2, hf⟩ := gd_of hf
        refine ev_aaldP (kd_2_11 kl0) (inb_of gd2) dX2_wants_38 ?_
        refine ev_get (v := .int (hI h ((l0 + 2) + 1 + 4 * l2.toNatClampNeg) 6)) 6 (kdPA (kd_2_11 kl0) (inb_of gd2)) rfl (by decide) rfl lk_54 dX2_wants_39 ?_
        refine ev_iload_n (n := 2) dX2_wants_42 rfl rfl ?_
        refine ev_ishr dX2_wants_43 ?_
        refine ev_iconst (v := 1) dX2_wants_44 (by decide) ?_
        refine ev_iand dX2_wants_45 ?_
        refine ev_if_eq (tgt := 51) dX2_wants_46 (by decide) (fun c1 => ?_) (fun c1 => ?_)
        · replace hf := if_t c1 hf
          refine ev_aload_n (n := 1) dX2_wants_51 rfl rfl ?_
          refine ev_iload_n (n := 3) dX2_wants_52 rfl rfl ?_
          obtain ⟨v3, e4, hf⟩ := bn1_of hf
          refine ev_callVi (As := [.int l2]) cal_X3_claimsOf kl0 rfl (ev_X3_claimsOf kl0 e4) (Nat.le_of_ble_eq_true rfl) rfl lk_353 (by decide) (by decide) (Nat.le_of_ble_eq_true rfl) dX2_wants_53 rfl ?_
          refine ev_aload_n (n := 0) dX2_wants_56 rfl rfl ?_
          refine ev_get (v := .int (hI h ((l0 + 2) + 1 + 4 * l1.toNatClampNeg) 2)) 2 (kdPA (kd_2_11 kl0) (inb_of gd1)) rfl (by decide) rfl lk_42 dX2_wants_57 ?_
          refine ev_iconst (v := -1) dX2_wants_60 (by decide) ?_
          refine ev_ixor dX2_wants_61 ?_
          refine ev_iand dX2_wants_62 ?_
          refine ev_if_eq (tgt := 70) dX2_wants_63 (by decide) (fun c1 => ?_) (fun c1 => ?_)
          · replace hf := if_t c1 hf
            refine ev_iconst (v := 0) dX2_wants_70 (by decide) ?_
            obtain rfl := Option.some.inj hf
            exact ev_ireturn dX2_wants_71 ⟨.boolean, rfl, rfl⟩
          · replace hf := if_f c1 hf
            refine ev_iconst (v := 1) dX2_wants_66 (by decide) ?_
            refine ev_goto (tgt := 71) dX2_wants_67 (by decide) ?_
            obtain rfl := Option.some.inj hf
            exact ev_ireturn dX2_wants_71 ⟨.boolean, rfl, rfl⟩
        · replace hf := if_f c1 hf
          refine ev_sub [] rfl (lv2 := []) ?_
          exact jn_X2_wants_49 hf
    · replace hf := if_t c1 hf
      refine ev_sub [] rfl (lv2 := []) ?_
      exact jn_X2_wants_20 hf
def f_X2_findWanters_j41 (kk : Int32 → Int32 → Option (Int32)) (h : Hp) (l0 : Nat) (l1 : Nat) (l2 : Int32) (l3 : Int32) (l4 : Int32) : Option (Int32) := (kk l3 (l4 + 1))
set_option maxRecDepth 100000 in
set_option maxHeartbeats 4000000 in
theorem jn_X2_findWanters_41 {g : Gl} {h : Hp} {kk : Int32 → Int32 → Option (Int32)} {l0 : Nat} {l1 : Nat} {l2 : Int32} {l3 : Int32} {l4 : Int32}  {r : Option Value} {h2 : Hp} {o3 : Int32} (kl0 : KD g.1 l0 1 0) (kl1 : KD g.1 l1 2 0) (hx0 : Ev yX2_findWanters cX2_findWanters 5 none 2 44 g 47 [] [(0, .ref l0), (1, .ref l1), (2, .int l2), (3, .int o3)] h r h2) (hk : ∀ (x3 : Int32) (x4 : Int32), kk x3 x4 = some o3 → Ev yX2_findWanters cX2_findWanters 5 none 2 44 g 15 [] [(0, .ref l0), (1, .ref l1), (2, .int l2), (3, .int x3), (4, .int x4)] h r h2) (hf : f_X2_findWanters_j41 kk h l0 l1 l2 l3 l4 = some o3) : Ev yX2_findWanters cX2_findWanters 5 none 2 44 g 41 [] [(0, .ref l0), (1, .ref l1), (2, .int l2), (3, .int l3), (4, .int l4)] h r h2 := by
  unfold f_X2_findWanters_j41 at hf
  refine ev_iinc (z := 4) (v := (l4 + 1)) (lv2 := [(4, .int (l4 + 1)), (0, .ref l0), (1, .ref l1), (2, .int l2), (3, .int l3)]) dX2_findWanters_41 rfl rfl (by decide) rfl ?_
  refine ev_goto (tgt := 15) dX2_findWanters_44 (by decide) ?_
  refine ev_sub [1, 2, 3, 4, 0] rfl (lv2 := [(0, .ref l0), (1, .ref l1), (2, .int l2), (3, .int l3), (4, .int (l4 + 1))]) ?_
  exact hk _ _ hf
def f_X2_findWanters_l15 (h : Hp) (l0 : Nat) (l1 : Nat) (l2 : Int32) : Nat → Int32 → Int32 → Option (Int32)
  | 0, _, _ => none
  | fu1 + 1, l3, l4 => (if (hI h l1 4) ≤ l4 then (some l3) else (bn1 (f_X2_wants h l1 l4 l2) (fun v1 => (if v1 = 0 then (f_X2_findWanters_j41 (f_X2_findWanters_l15 h l0 l1 l2 fu1) h l0 l1 l2 l3 l4) else (f_X2_findWanters_j41 (f_X2_findWanters_l15 h l0 l1 l2 fu1) h l0 l1 l2 (l3 ||| ((1 : Int32) <<< (l4 &&& 31))) l4)))))
theorem f_X2_findWanters_l15_s (h : Hp) (l0 : Nat) (l1 : Nat) (l2 : Int32) (fu1 : Nat) (l3 : Int32) (l4 : Int32) : f_X2_findWanters_l15 h l0 l1 l2 (fu1 + 1) l3 l4 = (if (hI h l1 4) ≤ l4 then (some l3) else (bn1 (f_X2_wants h l1 l4 l2) (fun v1 => (if v1 = 0 then (f_X2_findWanters_j41 (f_X2_findWanters_l15 h l0 l1 l2 fu1) h l0 l1 l2 l3 l4) else (f_X2_findWanters_j41 (f_X2_findWanters_l15 h l0 l1 l2 fu1) h l0 l1 l2 (l3 ||| ((1 : Int32) <<< (l4 &&& 31))) l4))))) := rfl
theorem f_X2_findWanters_l15_0 (h : Hp) (l0 : Nat) (l1 : Nat) (l2 : Int32) (l3 : Int32) (l4 : Int32) : f_X2_findWanters_l15 h l0 l1 l2 0 l3 l4 = none := rfl
set_option maxRecDepth 100000 in
set_option maxHeartbeats 4000000 in
theorem lp_X2_findWanters_15 {g : Gl} {h : Hp} {l0 : Nat} {l1 : Nat} {l2 : Int32} {r : Option Value} {h2 : Hp} {o3 : Int32} (kl0 : KD g.1 l0 1 0) (kl1 : KD g.1 l1 2 0) (hx0 : Ev yX2_findWanters cX2_findWanters 5 none 2 44 g 47 [] [(0, .ref l0), (1, .ref l1), (2, .int l2), (3, .int o3)] h r h2) : ∀ (fu1 : Nat) (l3 : Int32) (l4 : Int32), f_X2_findWanters_l15 h l0 l1 l2 fu1 l3 l4 = some o3 → Ev yX2_findWanters cX2_findWanters 5 none 2 44 g 15 [] [(0, .ref l0), (1, .ref l1), (2, .int l2), (3, .int l3), (4, .int l4)] h r h2 := by
  intro fu1
  induction fu1 with
  | zero =>
    intro l3 l4 hf
    cases hf
  | succ fu1 ih =>
    intro l3 l4 hf
    rw [f_X2_findWanters_l15_s] at hf
    have hk := ih
    refine ev_iload (n := 4) dX2_findWanters_15 rfl ?_
    refine ev_aload_n (n := 1) dX2_findWanters_17 rfl rfl ?_
    refine ev_get (v := .int (hI h l1 4)) 4 kl1 rfl (by decide) rfl lk_115 dX2_findWanters_18 ?_
    refine ev_icmp_ge (tgt := 47) dX2_findWanters_21 (by decide) (fun c1 => ?_) (fun c1 => ?_)
    · replace hf := if_t c1 hf
      refine ev_sub [0, 1, 2, 3] rfl (lv2 := [(0, .ref l0), (1, .ref l1), (2, .int l2), (3, .int l3)]) ?_
      obtain rfl := Option.some.inj hf
      exact hx0
    · replace hf := if_f c1 hf
      refine ev_aload_n (n := 1) dX2_findWanters_24 rfl rfl ?_
      refine ev_iload (n := 4) dX2_findWanters_25 rfl ?_
      refine ev_iload_n (n := 2) dX2_findWanters_27 rfl rfl ?_
      obtain ⟨v1, e2, hf⟩ := bn1_of hf
      refine ev_callSi (As := [.ref l1, .int l4, .int l2]) cal_X2_wants (ev_X2_wants kl1 e2) (Nat.le_of_ble_eq_true rfl) rfl lk_350 (by decide) (by decide) (Nat.le_of_ble_eq_true rfl) dX2_findWanters_28 rfl ?_
      refine ev_if_eq (tgt := 41) dX2_findWanters_31 (by decide) (fun c1 => ?_) (fun c1 => ?_)
      · replace hf := if_t c1 hf
        exact jn_X2_findWanters_41 kl0 kl1 hx0 hk hf
      · replace hf := if_f c1 hf
        refine ev_iload_n (n := 3) dX2_findWanters_34 rfl rfl ?_
        refine ev_iconst (v := 1) dX2_findWanters_35 (by decide) ?_
        refine ev_iload (n := 4) dX2_findWanters_36 rfl ?_
        refine ev_ishl dX2_findWanters_38 ?_
        refine ev_ior dX2_findWanters_39 ?_
        refine ev_istore_n (lv2 := [(3, .int (l3 ||| ((1 : Int32) <<< (l4 &&& 31)))), (0, .ref l0), (1, .ref l1), (2, .int l2), (4, .int l4)]) dX2_findWanters_40 rfl (by decide) rfl ?_
        refine ev_sub [1, 2, 3, 0, 4] rfl (lv2 := [(0, .ref l0), (1, .ref l1), (2, .int l2), (3, .int (l3 ||| ((1 : Int32) <<< (l4 &&& 31)))), (4, .int l4)]) ?_
        exact jn_X2_findWanters_41 kl0 kl1 hx0 hk hf
def f_X2_findWanters_l2 (l0 : Nat) (l1 : Nat) : Nat → Int32 → Hp → Option (Hp)
  | 0, _, _ => none
  | fu1 + 1, l2, h => (if (hI h l1 4) ≤ l2 then (some h) else (bn1 (f_X2_findWanters_l15 h l0 l1 l2 fu (0 : Int32) (0 : Int32)) (fun w3_3 => (if inb l2 6 = true then (f_X2_findWanters_l2 l0 l1 fu1 (l2 + 1) (sI h (l0 + 1) l2.toNatClampNeg w3_3)) else none))))
theorem f_X2_findWanters_l2_s (l0 : Nat) (l1 : Nat) (fu1 : Nat) (l2 : Int32) (h : Hp) : f_X2_findWanters_l2 l0 l1 (fu1 + 1) l2 h = (if (hI h l1 4) ≤ l2 then (some h) else (bn1 (f_X2_findWanters_l15 h l0 l1 l2 fu (0 : Int32) (0 : Int32)) (fun w3_3 => (if inb l2 6 = true then (f_X2_findWanters_l2 l0 l1 fu1 (l2 + 1) (sI h (l0 + 1) l2.toNatClampNeg w3_3)) else none)))) := rfl
theorem f_X2_findWanters_l2_0 (l0 : Nat) (l1 : Nat) (l2 : Int32) (h : Hp) : f_X2_findWanters_l2 l0 l1 0 l2 h = none := rfl
set_option maxRecDepth 100000 in
set_option maxHeartbeats 4000000 in
theorem lp_X2_findWanters_2 {g : Gl} {l0 : Nat} {l1 : Nat} {r : Option Value} {h2 : Hp} {h3 : Hp} (kl0 : KD g.1 l0 1 0) (kl1 : KD g.1 l1 2 0) (hx0 : Ev yX2_findWanters cX2_findWanters 5 none 2 44 g 60 [] [] h3 r h2) : ∀ (fu1 : Nat) (l2 : Int32) (h : Hp), f_X2_findWanters_l2 l0 l1 fu1 l2 h = some h3 → Ev yX2_findWanters cX2_findWanters 5 none 2 44 g 2 [] [(0, .ref l0), (1, .ref l1), (2, .int l2)] h r h2 := by
  intro fu1
  induction fu1 with
  | zero =>
    intro l2 h hf
    cases hf
  | succ fu1 ih =>
    intro l2 h hf
    rw [f_X2_findWanters_l2_s] at hf
    have hk := ih
    refine ev_iload_n (n := 2) dX2_findWanters_2 rfl rfl ?_
    refine ev_aload_n (n := 1) dX2_findWanters_3 rfl rfl ?_
    refine ev_get (v := .int (hI h l1 4)) 4 kl1 rfl (by decide) rfl lk_115 dX2_findWanters_4 ?_
    refine ev_icmp_ge (tgt := 60) dX2_findWanters_7 (by decide) (fun c1 => ?_) (fun c1 => ?_)
    · replace hf := if_t c1 hf
      refine ev_sub [] rfl (lv2 := []) ?_
      obtain rfl := Option.some.inj hf
      exact hx0
    · replace hf := if_f c1 hf
      refine ev_iconst (v := 0) dX2_findWanters_10 (by decide) ?_
      refine ev_istore_n (lv2 := [(3, .int (0 : Int32)), (0, .ref l0), (1, .ref l1), (2, .int l2)]) dX2_findWanters_11 rfl (by decide) rfl ?_
      refine ev_iconst (v := 0) dX2_findWanters_12 (by decide) ?_
      refine ev_istore (lv2 := [(4, .int (0 : Int32)), (3, .int (0 : Int32)), (0, .ref l0), (1, .ref l1), (2, .int l2)]) dX2_findWanters_13 (by decide) rfl ?_
      obtain ⟨w3_3, e5, hf⟩ := bn1_of hf
      refine ev_sub [2, 3, 4, 1, 0] rfl (lv2 := [(0, .ref l0), (1, .ref l1), (2, .int l2), (3, .int (0 : Int32)), (4, .int (0 : Int32))]) ?_
      refine lp_X2_findWanters_15 kl0 kl1 ?_ fu _ _ e5
      refine ev_aload_n (n := 0) dX2_findWanters_47 rfl rfl ?_
      refine ev_get (v := .ref (l0 + 1)) 0 kl0 rfl (by decide) rfl lk_164 dX2_findWanters_48 ?_
      refine ev_iload_n (n := 2) dX2_findWanters_51 rfl rfl ?_
      refine ev_iload_n (n := 3) dX2_findWanters_52 rfl rfl ?_
      obtain ⟨gd4, hf⟩ := gd_of hf
      refine ev_iast (kd_1_0 kl0) (inb_of gd4) dX2_findWanters_53 ?_
      refine ev_iinc (z := 2) (v := (l2 + 1)) (lv2 := [(2, .int (l2 + 1)), (0, .ref l0), (1, .ref l1), (3, .int w3_3)]) dX2_findWanters_54 rfl rfl (by decide) rfl ?_
      refine ev_goto (tgt := 2) dX2_findWanters_57 (by decide) ?_
      refine ev_sub [1, 2, 0] rfl (lv2 := [(0, .ref l0), (1, .ref l1), (2, .int (l2 + 1))]) ?_
      exact hk _ _ hf
def f_X2_findWanters (h : Hp) (l0 : Nat) (l1 : Nat) : Option (Hp) := (bn1 (f_X2_findWanters_l2 l0 l1 fu (0 : Int32) h) (fun h6 => (some h6)))
set_option maxRecDepth 100000 in
set_option maxHeartbeats 4000000 in
theorem ev_X2_findWanters {g : Gl} {h : Hp} {l0 : Nat} {l1 : Nat} {h2 : Hp} (kl0 : KD g.1 l0 1 0) (kl1 : KD g.1 l1 2 0) (hf : f_X2_findWanters h l0 l1 = some h2) : Ev yX2_findWanters cX2_findWanters 5 none 2 44 g 0 [] [(0, .ref l0), (1, .ref l1)] h none h2 := by
  unfold f_X2_findWanters at hf
  refine ev_iconst (v := 0) dX2_findWanters_0 (by decide) ?_
  refine ev_istore_n (lv2 := [(2, .int (0 : Int32)), (0, .ref l0), (1, .ref l1)]) dX2_findWanters_1 rfl (by decide) rfl ?_
  obtain ⟨h6, e7, hf⟩ := bn1_of hf
  refine ev_sub [1, 2, 0] rfl (lv2 := [(0, .ref l0), (1, .ref l1), (2, .int (0 : Int32))]) ?_
  refine lp_X2_findWanters_2 kl0 kl1 ?_ fu _ _ e7
  obtain rfl := Option.some.inj hf
  exact ev_return_ dX2_findWanters_60 rfl
def f_X2_worthOf_j31 (h : Hp) (s0 : Int32) (l0 : Nat) (l1 : Int32) (l2 : Int32) (l3 : Nat) : Option (UInt32) := (if s0 = 0 then (if inb l2 6 = true then (some (hF h (l3 + 3) l2.toNatClampNeg)) else none) else (if inb l2 6 = true then (if inb l1 6 = true then (some (hF h (((l0 + 2) + 1 + 4 * l2.toNatClampNeg) + 3) l1.toNatClampNeg)) else none) else none))
set_option maxRecDepth 100000 in
set_option maxHeartbeats 4000000 in
theorem jn_X2_worthOf_31 {g : Gl} {h : Hp} {s0 : Int32} {l0 : Nat} {l1 : Int32} {l2 : Int32} {l3 : Nat}  {rv : UInt32} (kl0 : KD g.1 l0 2 0) (kl3 : KD g.1 l3 0 0)   (hf : f_X2_worthOf_j31 h s0 l0 l1 l2 l3 = some rv) : Ev yX2_worthOf cX2_worthOf 5 (some .float) 0 0 g 31 [.int s0] [(0, .ref l0), (1, .int l1), (2, .int l2), (3, .ref l3)] h (some (.float rv)) h := by
  unfold f_X2_worthOf_j31 at hf
  refine ev_istore (lv2 := [(4, .int s0), (0, .ref l0), (1, .int l1), (2, .int l2), (3, .ref l3)]) dX2_worthOf_31 (by decide) rfl ?_
  refine ev_iload (n := 0) dX2_worthOf_33 rfl ?_
  refine ev_if_eq (tgt := 52) dX2_worthOf_35 (by decide) (fun c1 => ?_) (fun c1 => ?_)
  · replace hf := if_t c1 hf
    refine ev_aload_n (n := 4) dX2_worthOf_52 rfl rfl ?_
    refine ev_get (v := .ref (l3 + 3)) 11 kl3 rfl (by decide) rfl lk_70 dX2_worthOf_53 ?_
    refine ev_iload_n (n := 3) dX2_worthOf_56 rfl rfl ?_
    obtain ⟨gd2, hf⟩ := gd_of hf
    refine ev_fald (kd_0_11 kl3) (inb_of gd2) dX2_worthOf_57 ?_
    obtain rfl := Option.some.inj hf
    exact ev_freturn dX2_worthOf_58 rfl
  · replace hf := if_f c1 hf
    refine ev_aload_n (n := 1) dX2_worthOf_38 rfl rfl ?_
    refine ev_get (v := .ref (l0 + 2)) 11 kl0 rfl (by decide) rfl lk_130 dX2_worthOf_39 ?_
    refine ev_iload_n (n := 3) dX2_worthOf_42 rfl rfl ?_
    obtain ⟨gd3, hf⟩ := gd_of hf
    refine ev_aaldP (kd_2_11 kl0) (inb_of gd3) dX2_worthOf_43 ?_
    refine ev_get (v := .ref (((l0 + 2) + 1 + 4 * l2.toNatClampNeg) + 3)) 11 (kdPA (kd_2_11 kl0) (inb_of gd3)) rfl (by decide) rfl lk_70 dX2_worthOf_44 ?_
    refine ev_iload_n (n := 2) dX2_worthOf_47 rfl rfl ?_
    obtain ⟨gd4, hf⟩ := gd_of hf
    refine ev_fald (kd_0_11 (kdPA (kd_2_11 kl0) (inb_of gd3))) (inb_of gd4) dX2_worthOf_48 ?_
    refine ev_goto (tgt := 58) dX2_worthOf_49 (by decide) ?_
    obtain rfl := Option.some.inj hf
    exact ev_freturn dX2_worthOf_58 rfl
def f_X2_worthOf_j26 (h : Hp) (l0 : Nat) (l1 : Int32) (l2 : Int32) (l3 : Nat) : Option (UInt32) := (f_X2_worthOf_j31 h (1 : Int32) l0 l1 l2 l3)
set_option maxRecDepth 100000 in
set_option maxHeartbeats 4000000 in
theorem jn_X2_worthOf_26 {g : Gl} {h : Hp} {l0 : Nat} {l1 : Int32} {l2 : Int32} {l3 : Nat}  {rv : UInt32} (kl0 : KD g.1 l0 2 0) (kl3 : KD g.1 l3 0 0)   (hf : f_X2_worthOf_j26 h l0 l1 l2 l3 = some rv) : Ev yX2_worthOf cX2_worthOf 5 (some .float) 0 0 g 26 [] [(0, .ref l0), (1, .int l1), (2, .int l2), (3, .ref l3)] h (some (.float rv)) h := by
  unfold f_X2_worthOf_j26 at hf
  refine ev_iconst (v := 1) dX2_worthOf_26 (by decide) ?_
  refine ev_goto (tgt := 31) dX2_worthOf_27 (by decide) ?_
  exact jn_X2_worthOf_31 kl0 kl3 hf
def f_X2_worthOf (h : Hp) (l0 : Nat) (l1 : Int32) (l2 : Int32) : Option (UInt32) := (if inb l1 6 = true then (if (hI h ((l0 + 2) + 1 + 4 * l1.toNatClampNeg) 0) = (2 : Int32) then (f_X2_worthOf_j26 h l0 l1 l2 ((l0 + 2) + 1 + 4 * l1.toNatClampNeg)) else (if (hI h ((l0 + 2) + 1 + 4 * l1.toNatClampNeg) 2) = (hI h l0 2) then (f_X2_worthOf_j26 h l0 l1 l2 ((l0 + 2) + 1 + 4 * l1.toNatClampNeg)) else (f_X2_worthOf_j31 h (0 : Int32) l0 l1 l2 ((l0 + 2) + 1 + 4 * l1.toNatClampNeg)))) else none)
set_option maxRecDepth 100000 in
set_option maxHeartbeats 4000000 in
theorem ev_X2_worthOf {g : Gl} {h : Hp} {l0 : Nat} {l1 : Int32} {l2 : Int32} {rv : UInt32} (kl0 : KD g.1 l0 2 0) (hf : f_X2_worthOf h l0 l1 l2 = some rv) : Ev yX2_worthOf cX2_worthOf 5 (some .float) 0 0 g 0 [] [(0, .ref l0), (1, .int l1), (2, .int l2)] h (some (.float rv)) h := by
  unfold f_X2_worthOf at hf
  refine ev_aload_n (n := 0) dX2_worthOf_0 rfl rfl ?_
  refine ev_get (v := .ref (l0 + 2)) 11 kl0 rfl (by decide) rfl lk_130 dX2_worthOf_1 ?_
  refine ev_iload_n (n := 1) dX2_worthOf_4 rfl rfl ?_
  obtain ⟨gd1, hf⟩ := gd_of hf
  refine ev_aaldP (kd_2_11 kl0) (inb_of gd1) dX2_worthOf_5 ?_
  refine ev_astore_n (lv2 := [(3, .ref ((l0 + 2) + 1 + 4 * l1.toNatClampNeg)), (0, .ref l0), (1, .int l1), (2, .int l2)]) dX2_worthOf_6 rfl (by decide) rfl ?_
  refine ev_aload_n (n := 0) dX2_worthOf_7 rfl rfl ?_
  refine ev_get (v := .int (hI h ((l0 + 2) + 1 + 4 * l1.toNatClampNeg) 0)) 0 (kdPA (kd_2_11 kl0) (inb_of gd1)) rfl (by decide) rfl lk_36 dX2_worthOf_8 ?_
  refine ev_iconst (v := 2) dX2_worthOf_11 (by decide) ?_
  refine ev_icmp_eq (tgt := 26) dX2_worthOf_12 (by decide) (fun c1 => ?_) (fun c1 => ?_)
  · replace hf := if_t c1 hf
    refine ev_sub [1, 2, 3, 0] rfl (lv2 := [(0, .ref l0), (1, .int l1), (2, .int l2), (3, .ref ((l0 + 2) + 1 + 4 * l1.toNatClampNeg))]) ?_
    exact jn_X2_worthOf_26 kl0 (kdPA (kd_2_11 kl0) (inb_of gd1)) hf
  · replace hf := if_f c1 hf
    refine ev_aload_n (n := 0) dX2_worthOf_15 rfl rfl ?_
    refine ev_get (v := .int (hI h ((l0 + 2) + 1 + 4 * l1.toNatClampNeg) 2)) 2 (kdPA (kd_2_11 kl0) (inb_of gd1)) rfl (by decide) rfl lk_42 dX2_worthOf_16 ?_
    refine ev_aload_n (n := 1) dX2_worthOf_19 rfl rfl ?_
    refine ev_get (v := .int (hI h l0 2)) 2 kl0 rfl (by decide) rfl lk_110 dX2_worthOf_20 ?_
    refine ev_icmp_ne (tgt := 30) dX2_worthOf_23 (by decide) (fun c1 => ?_) (fun c1 => ?_)
    · replace hf := if_f c1 hf
      refine ev_iconst (v := 0) dX2_worthOf_30 (by decide) ?_
      refine ev_sub [1, 2, 3, 0] rfl (lv2 := [(0, .ref l0), (1, .int l1), (2, .int l2), (3, .ref ((l0 + 2) + 1 + 4 * l1.toNatClampNeg))]) ?_
      exact jn_X2_worthOf_31 kl0 (kdPA (kd_2_11 kl0) (inb_of gd1)) hf
    · replace hf := if_t c1 hf
      refine ev_sub [1, 2, 3, 0] rfl (lv2 := [(0, .ref l0), (1, .int l1), (2, .int l2), (3, .ref ((l0 + 2) + 1 + 4 * l1.toNatClampNeg))]) ?_
      exact jn_X2_worthOf_26 kl0 (kdPA (kd_2_11 kl0) (inb_of gd1)) hf
def f_X2_mostWorth_j54 (kk : Int32 → UInt32 → Int32 → Option (Int32)) (h : Hp) (l0 : Nat) (l1 : Int32) (l2 : Int32) (l3 : Int32) (l4 : UInt32) (l5 : Int32) : Option (Int32) := (kk l3 l4 (l5 + 1))
set_option maxRecDepth 100000 in
set_option maxHeartbeats 4000000 in
theorem jn_X2_mostWorth_54 {g : Gl} {h : Hp} {kk : Int32 → UInt32 → Int32 → Option (Int32)} {l0 : Nat} {l1 : Int32} {l2 : Int32} {l3 : Int32} {l4 : UInt32} {l5 : Int32}  {r : Option Value} {h2 : Hp} {o3 : Int32} (kl0 : KD g.1 l0 2 0) (hx0 : Ev yX2_mostWorth cX2_mostWorth 7 (some .int) 1 24 g 60 [] [(3, .int o3)] h r h2) (hk : ∀ (x3 : Int32) (x4 : UInt32) (x5 : Int32), kk x3 x4 x5 = some o3 → Ev yX2_mostWorth cX2_mostWorth 7 (some .int) 1 24 g 8 [] [(0, .ref l0), (1, .int l1), (2, .int l2), (3, .int x3), (4, .float x4), (5, .int x5)] h r h2) (hf : f_X2_mostWorth_j54 kk h l0 l1 l2 l3 l4 l5 = some o3) : Ev yX2_mostWorth cX2_mostWorth 7 (some .int) 1 24 g 54 [] [(0, .ref l0), (1, .int l1), (2, .int l2), (3, .int l3), (4, .float l4), (5, .int l5)] h r h2 := by
  unfold f_X2_mostWorth_j54 at hf
  refine ev_iinc (z := 5) (v := (l5 + 1)) (lv2 := [(5, .int (l5 + 1)), (0, .ref l0), (1, .int l1), (2, .int l2), (3, .int l3), (4, .float l4)]) dX2_mostWorth_54 rfl rfl (by decide) rfl ?_
  refine ev_goto (tgt := 8) dX2_mostWorth_57 (by decide) ?_
  refine ev_sub [1, 2, 3, 4, 5, 0] rfl (lv2 := [(0, .ref l0), (1, .int l1), (2, .int l2), (3, .int l3), (4, .float l4), (5, .int (l5 + 1))]) ?_
  exact hk _ _ _ hf
def f_X2_mostWorth_j47 (kk : Int32 → UInt32 → Int32 → Option (Int32)) (h : Hp) (l0 : Nat) (l1 : Int32) (l2 : Int32) (l5 : Int32) (l6 : UInt32) : Option (Int32) := (f_X2_mostWorth_j54 kk h l0 l1 l2 l5 l6 l5)
set_option maxRecDepth 100000 in
set_option maxHeartbeats 4000000 in
theorem jn_X2_mostWorth_47 {g : Gl} {h : Hp} {kk : Int32 → UInt32 → Int32 → Option (Int32)} {l0 : Nat} {l1 : Int32} {l2 : Int32} {l5 : Int32} {l6 : UInt32}  {r : Option Value} {h2 : Hp} {o3 : Int32} (kl0 : KD g.1 l0 2 0) (hx0 : Ev yX2_mostWorth cX2_mostWorth 7 (some .int) 1 24 g 60 [] [(3, .int o3)] h r h2) (hk : ∀ (x3 : Int32) (x4 : UInt32) (x5 : Int32), kk x3 x4 x5 = some o3 → Ev yX2_mostWorth cX2_mostWorth 7 (some .int) 1 24 g 8 [] [(0, .ref l0), (1, .int l1), (2, .int l2), (3, .int x3), (4, .float x4), (5, .int x5)] h r h2) (hf : f_X2_mostWorth_j47 kk h l0 l1 l2 l5 l6 = some o3) : Ev yX2_mostWorth cX2_mostWorth 7 (some .int) 1 24 g 47 [] [(0, .ref l0), (1, .int l1), (2, .int l2), (5, .int l5), (6, .float l6)] h r h2 := by
  unfold f_X2_mostWorth_j47 at hf
  refine ev_iload (n := 3) dX2_mostWorth_47 rfl ?_
  refine ev_istore_n (lv2 := [(3, .int l5), (0, .ref l0), (1, .int l1), (2, .int l2), (5, .int l5), (6, .float l6)]) dX2_mostWorth_49 rfl (by decide) rfl ?_
  refine ev_fload (n := 5) dX2_mostWorth_50 rfl ?_
  refine ev_fstore (lv2 := [(4, .float l6), (3, .int l5), (0, .ref l0), (1, .int l1), (2, .int l2), (5, .int l5), (6, .float l6)]) dX2_mostWorth_52 (by decide) rfl ?_
  refine ev_sub [2, 3, 4, 1, 0, 5] rfl (lv2 := [(0, .ref l0), (1, .int l1), (2, .int l2), (3, .int l5), (4, .float l6), (5, .int l5)]) ?_
  exact jn_X2_mostWorth_54 kl0 hx0 hk hf
def f_X2_mostWorth_l8 (h : Hp) (l0 : Nat) (l1 : Int32) (l2 : Int32) : Nat → Int32 → UInt32 → Int32 → Option (Int32)
  | 0, _, _, _ => none
  | fu1 + 1, l3, l4, l5 => (if (hI h l0 4) ≤ l5 then (some l3) else (if ((l2 >>> (l5 &&& 31)) &&& (1 : Int32)) = 0 then (f_X2_mostWorth_j54 (f_X2_mostWorth_l8 h l0 l1 l2 fu1) h l0 l1 l2 l3 l4 l5) else (bn1 (f_X2_worthOf h l0 l1 l5) (fun v1 => (if l3 < 0 then (f_X2_mostWorth_j47 (f_X2_mostWorth_l8 h l0 l1 l2 fu1) h l0 l1 l2 l5 v1) else (if (Op.cmpValue (FP.fcmp v1 l4) .l) ≤ 0 then (f_X2_mostWorth_j54 (f_X2_mostWorth_l8 h l0 l1 l2 fu1) h l0 l1 l2 l3 l4 l5) else (f_X2_mostWorth_j47 (f_X2_mostWorth_l8 h l0 l1 l2 fu1) h l0 l1 l2 l5 v1)))))))
theorem f_X2_mostWorth_l8_s (h : Hp) (l0 : Nat) (l1 : Int32) (l2 : Int32) (fu1 : Nat) (l3 : Int32) (l4 : UInt32) (l5 : Int32) : f_X2_mostWorth_l8 h l0 l1 l2 (fu1 + 1) l3 l4 l5 = (if (hI h l0 4) ≤ l5 then (some l3) else (if ((l2 >>> (l5 &&& 31)) &&& (1 : Int32)) = 0 then (f_X2_mostWorth_j54 (f_X2_mostWorth_l8 h l0 l1 l2 fu1) h l0 l1 l2 l3 l4 l5) else (bn1 (f_X2_worthOf h l0 l1 l5) (fun v1 => (if l3 < 0 then (f_X2_mostWorth_j47 (f_X2_mostWorth_l8 h l0 l1 l2 fu1) h l0 l1 l2 l5 v1) else (if (Op.cmpValue (FP.fcmp v1 l4) .l) ≤ 0 then (f_X2_mostWorth_j54 (f_X2_mostWorth_l8 h l0 l1 l2 fu1) h l0 l1 l2 l3 l4 l5) else (f_X2_mostWorth_j47 (f_X2_mostWorth_l8 h l0 l1 l2 fu1) h l0 l1 l2 l5 v1))))))) := rfl
theorem f_X2_mostWorth_l8_0 (h : Hp) (l0 : Nat) (l1 : Int32) (l2 : Int32) (l3 : Int32) (l4 : UInt32) (l5 : Int32) : f_X2_mostWorth_l8 h l0 l1 l2 0 l3 l4 l5 = none := rfl
set_option maxRecDepth 100000 in
set_option maxHeartbeats 4000000 in
theorem lp_X2_mostWorth_8 {g : Gl} {h : Hp} {l0 : Nat} {l1 : Int32} {l2 : Int32} {r : Option Value} {h2 : Hp} {o3 : Int32} (kl0 : KD g.1 l0 2 0) (hx0 : Ev yX2_mostWorth cX2_mostWorth 7 (some .int) 1 24 g 60 [] [(3, .int o3)] h r h2) : ∀ (fu1 : Nat) (l3 : Int32) (l4 : UInt32) (l5 : Int32), f_X2_mostWorth_l8 h l0 l1 l2 fu1 l3 l4 l5 = some o3 → Ev yX2_mostWorth cX2_mostWorth 7 (some .int) 1 24 g 8 [] [(0, .ref l0), (1, .int l1), (2, .int l2), (3, .int l3), (4, .float l4), (5, .int l5)] h r h2 := by
  intro fu1
  induction fu1 with
  | zero =>
    intro l3 l4 l5 hf
    cases hf
  | succ fu1 ih =>
    intro l3 l4 l5 hf
    rw [f_X2_mostWorth_l8_s] at hf
    have hk := ih
    refine ev_iload (n := 5) dX2_mostWorth_8 rfl ?_
    refine ev_aload_n (n := 0) dX2_mostWorth_10 rfl rfl ?_
    refine ev_get (v := .int (hI h l0 4)) 4 kl0 rfl (by decide) rfl lk_115 dX2_mostWorth_11 ?_
    refine ev_icmp_ge (tgt := 60) dX2_mostWorth_14 (by decide) (fun c1 => ?_) (fun c1 => ?_)
    · replace hf := if_t c1 hf
      refine ev_sub [3] rfl (lv2 := [(3, .int l3)]) ?_
      obtain rfl := Option.some.inj hf
      exact hx0
    · replace hf := if_f c1 hf
      refine ev_iload_n (n := 2) dX2_mostWorth_17 rfl rfl ?_
      refine ev_iload (n := 5) dX2_mostWorth_18 rfl ?_
      refine ev_ishr dX2_mostWorth_20 ?_
      refine ev_iconst (v := 1) dX2_mostWorth_21 (by decide) ?_
      refine ev_iand dX2_mostWorth_22 ?_
      refine ev_if_eq (tgt := 54) dX2_mostWorth_23 (by decide) (fun c1 => ?_) (fun c1 => ?_)
      · replace hf := if_t c1 hf
        exact jn_X2_mostWorth_54 kl0 hx0 hk hf
      · replace hf := if_f c1 hf
        refine ev_aload_n (n := 0) dX2_mostWorth_26 rfl rfl ?_
        refine ev_iload_n (n := 1) dX2_mostWorth_27 rfl rfl ?_
        refine ev_iload (n := 5) dX2_mostWorth_28 rfl ?_
        obtain ⟨v1, e2, hf⟩ := bn1_of hf
        refine ev_callSf (As := [.ref l0, .int l1, .int l5]) cal_X2_worthOf (ev_X2_worthOf kl0 e2) (Nat.le_of_ble_eq_true rfl) rfl lk_368 (by decide) (by decide) (Nat.le_of_ble_eq_true rfl) dX2_mostWorth_30 rfl ?_
        refine ev_fstore (lv2 := [(6, .float v1), (0, .ref l0), (1, .int l1), (2, .int l2), (3, .int l3), (4, .float l4), (5, .int l5)]) dX2_mostWorth_33 (by decide) rfl ?_
        refine ev_iload_n (n := 4) dX2_mostWorth_35 rfl rfl ?_
        refine ev_if_lt (tgt := 47) dX2_mostWorth_36 (by decide) (fun c1 => ?_) (fun c1 => ?_)
        · replace hf := if_t c1 hf
          refine ev_sub [1, 2, 3, 6, 0] rfl (lv2 := [(0, .ref l0), (1, .int l1), (2, .int l2), (5, .int l5), (6, .float v1)]) ?_
          exact jn_X2_mostWorth_47 kl0 hx0 hk hf
        · replace hf := if_f c1 hf
          refine ev_fload (n := 0) dX2_mostWorth_39 rfl ?_
          refine ev_fload (n := 5) dX2_mostWorth_41 rfl ?_
          refine ev_fcmp dX2_mostWorth_43 ?_
          refine ev_if_le (tgt := 54) dX2_mostWorth_44 (by decide) (fun c1 => ?_) (fun c1 => ?_)
          · replace hf := if_t c1 hf
            refine ev_sub [1, 2, 3, 4, 5, 6] rfl (lv2 := [(0, .ref l0), (1, .int l1), (2, .int l2), (3, .int l3), (4, .float l4), (5, .int l5)]) ?_
            exact jn_X2_mostWorth_54 kl0 hx0 hk hf
          · replace hf := if_f c1 hf
            refine ev_sub [1, 2, 3, 6, 0] rfl (lv2 := [(0, .ref l0), (1, .int l1), (2, .int l2), (5, .int l5), (6, .float v1)]) ?_
            exact jn_X2_mostWorth_47 kl0 hx0 hk hf
def f_X2_mostWorth (h : Hp) (l0 : Nat) (l1 : Int32) (l2 : Int32) : Option (Int32) := (bn1 (f_X2_mostWorth_l8 h l0 l1 l2 fu (-1 : Int32) FP.fconst0 (0 : Int32)) (fun w3_3 => (some w3_3)))
set_option maxRecDepth 100000 in
set_option maxHeartbeats 4000000 in
theorem ev_X2_mostWorth {g : Gl} {h : Hp} {l0 : Nat} {l1 : Int32} {l2 : Int32} {rv : Int32} (kl0 : KD g.1 l0 2 0) (hf : f_X2_mostWorth h l0 l1 l2 = some rv) : Ev yX2_mostWorth cX2_mostWorth 7 (some .int) 1 24 g 0 [] [(0, .ref l0), (1, .int l1), (2, .int l2)] h (some (.int rv)) h := by
  unfold f_X2_mostWorth at hf
  refine ev_iconst (v := -1) dX2_mostWorth_0 (by decide) ?_
  refine ev_istore_n (lv2 := [(3, .int (-1 : Int32)), (0, .ref l0), (1, .int l1), (2, .int l2)]) dX2_mostWorth_1 rfl (by decide) rfl ?_
  refine ev_fconst0 dX2_mostWorth_2 ?_
  refine ev_fstore (lv2 := [(4, .float FP.fconst0), (3, .int (-1 : Int32)), (0, .ref l0), (1, .int l1), (2, .int l2)]) dX2_mostWorth_3 (by decide) rfl ?_
  refine ev_iconst (v := 0) dX2_mostWorth_5 (by decide) ?_
  refine ev_istore (lv2 := [(5, .int (0 : Int32)), (4, .float FP.fconst0), (3, .int (-1 : Int32)), (0, .ref l0), (1, .int l1), (2, .int l2)]) dX2_mostWorth_6 (by decide) rfl ?_
  obtain ⟨w3_3, e4, hf⟩ := bn1_of hf
  refine ev_sub [3, 4, 5, 2, 1, 0] rfl (lv2 := [(0, .ref l0), (1, .int l1), (2, .int l2), (3, .int (-1 : Int32)), (4, .float FP.fconst0), (5, .int (0 : Int32))]) ?_
  refine lp_X2_mostWorth_8 kl0 ?_ fu _ _ _ e4
  refine ev_iload_n (n := 0) dX2_mostWorth_60 rfl rfl ?_
  obtain rfl := Option.some.inj hf
  exact ev_ireturn dX2_mostWorth_61 ⟨.int, rfl, rfl⟩
def f_X2_pickRegular_j45 (kk : Int32 → Int32 → Option (Int32)) (h : Hp) (l0 : Nat) (l1 : Nat) (l2 : Int32) (l3 : Int32) (l4 : Int32) : Option (Int32) := (kk l3 (l4 + 1))
set_option maxRecDepth 100000 in
set_option maxHeartbeats 4000000 in
theorem jn_X2_pickRegular_45 {g : Gl} {h : Hp} {kk : Int32 → Int32 → Option (Int32)} {l0 : Nat} {l1 : Nat} {l2 : Int32} {l3 : Int32} {l4 : Int32}  {r : Option Value} {h2 : Hp} {o3 : Int32} (kl0 : KD g.1 l0 1 0) (kl1 : KD g.1 l1 2 0) (hx0 : Ev yX2_pickRegular cX2_pickRegular 6 (some .int) 2 50 g 51 [] [(3, .int o3)] h r h2) (hk : ∀ (x3 : Int32) (x4 : Int32), kk x3 x4 = some o3 → Ev yX2_pickRegular cX2_pickRegular 6 (some .int) 2 50 g 5 [] [(0, .ref l0), (1, .ref l1), (2, .int l2), (3, .int x3), (4, .int x4)] h r h2) (hf : f_X2_pickRegular_j45 kk h l0 l1 l2 l3 l4 = some o3) : Ev yX2_pickRegular cX2_pickRegular 6 (some .int) 2 50 g 45 [] [(0, .ref l0), (1, .ref l1), (2, .int l2), (3, .int l3), (4, .int l4)] h r h2 := by
  unfold f_X2_pickRegular_j45 at hf
  refine ev_iinc (z := 4) (v := (l4 + 1)) (lv2 := [(4, .int (l4 + 1)), (0, .ref l0), (1, .ref l1), (2, .int l2), (3, .int l3)]) dX2_pickRegular_45 rfl rfl (by decide) rfl ?_
  refine ev_goto (tgt := 5) dX2_pickRegular_48 (by decide) ?_
  refine ev_sub [1, 2, 3, 4, 0] rfl (lv2 := [(0, .ref l0), (1, .ref l1), (2, .int l2), (3, .int l3), (4, .int (l4 + 1))]) ?_
  exact hk _ _ hf
def f_X2_pickRegular_l5 (h : Hp) (l0 : Nat) (l1 : Nat) (l2 : Int32) : Nat → Int32 → Int32 → Option (Int32)
  | 0, _, _ => none
  | fu1 + 1, l3, l4 => (if (hI h (l1 + 1) (0 : Int32).toNatClampNeg) ≤ l4 then (some l3) else (if inb l2 6 = true then (bn1 (f_X2_mostWorth h l1 l2 ((hI h (l0 + 1) l2.toNatClampNeg) &&& (l3 ^^^ (-1 : Int32)))) (fun v3 => (if v3 < 0 then (f_X2_pickRegular_j45 (f_X2_pickRegular_l5 h l0 l1 l2 fu1) h l0 l1 l2 l3 l4) else (f_X2_pickRegular_j45 (f_X2_pickRegular_l5 h l0 l1 l2 fu1) h l0 l1 l2 (l3 ||| ((1 : Int32) <<< (v3 &&& 31))) l4)))) else none))
theorem f_X2_pickRegular_l5_s (h : Hp) (l0 : Nat) (l1 : Nat) (l2 : Int32) (fu1 : Nat) (l3 : Int32) (l4 : Int32) : f_X2_pickRegular_l5 h l0 l1 l2 (fu1 + 1) l3 l4 = (if (hI h (l1 + 1) (0 : Int32).toNatClampNeg) ≤ l4 then (some l3) else (if inb l2 6 = true then (bn1 (f_X2_mostWorth h l1 l2 ((hI h (l0 + 1) l2.toNatClampNeg) &&& (l3 ^^^ (-1 : Int32)))) (fun v3 => (if v3 < 0 then (f_X2_pickRegular_j45 (f_X2_pickRegular_l5 h l0 l1 l2 fu1) h l0 l1 l2 l3 l4) else (f_X2_pickRegular_j45 (f_X2_pickRegular_l5 h l0 l1 l2 fu1) h l0 l1 l2 (l3 ||| ((1 : Int32) <<< (v3 &&& 31))) l4)))) else none)) := rfl
theorem f_X2_pickRegular_l5_0 (h : Hp) (l0 : Nat) (l1 : Nat) (l2 : Int32) (l3 : Int32) (l4 : Int32) : f_X2_pickRegular_l5 h l0 l1 l2 0 l3 l4 = none := rfl
set_option maxRecDepth 100000 in
set_option maxHeartbeats 4000000 in
theorem lp_X2_pickRegular_5 {g : Gl} {h : Hp} {l0 : Nat} {l1 : Nat} {l2 : Int32} {r : Option Value} {h2 : Hp} {o3 : Int32} (kl0 : KD g.1 l0 1 0) (kl1 : KD g.1 l1 2 0) (hx0 : Ev yX2_pickRegular cX2_pickRegular 6 (some .int) 2 50 g 51 [] [(3, .int o3)] h r h2) : ∀ (fu1 : Nat) (l3 : Int32) (l4 : Int32), f_X2_pickRegular_l5 h l0 l1 l2 fu1 l3 l4 = some o3 → Ev yX2_pickRegular cX2_pickRegular 6 (some .int) 2 50 g 5 [] [(0, .ref l0), (1, .ref l1), (2, .int l2), (3, .int l3), (4, .int l4)] h r h2 := by
  intro fu1
  induction fu1 with
  | zero =>
    intro l3 l4 hf
    cases hf
  | succ fu1 ih =>
    intro l3 l4 hf
    rw [f_X2_pickRegular_l5_s] at hf
    have hk := ih
    refine ev_iload (n := 4) dX2_pickRegular_5 rfl ?_
    refine ev_aload_n (n := 1) dX2_pickRegular_7 rfl rfl ?_
    refine ev_get (v := .ref (l1 + 1)) 10 kl1 rfl (by decide) rfl lk_127 dX2_pickRegular_8 ?_
    refine ev_iconst (v := 0) dX2_pickRegular_11 (by decide) ?_
    refine ev_iald (kd_2_10 kl1) (by unfold vp_in; decide) dX2_pickRegular_12 ?_
    refine ev_icmp_ge (tgt := 51) dX2_pickRegular_13 (by decide) (fun c1 => ?_) (fun c1 => ?_)
    · replace hf := if_t c1 hf
      refine ev_sub [3] rfl (lv2 := [(3, .int l3)]) ?_
      obtain rfl := Option.some.inj hf
      exact hx0
    · replace hf := if_f c1 hf
      refine ev_aload_n (n := 1) dX2_pickRegular_16 rfl rfl ?_
      refine ev_iload_n (n := 2) dX2_pickRegular_17 rfl rfl ?_
      refine ev_aload_n (n := 0) dX2_pickRegular_18 rfl rfl ?_
      refine ev_get (v := .ref (l0 + 1)) 0 kl0 rfl (by decide) rfl lk_164 dX2_pickRegular_19 ?_
      refine ev_iload_n (n := 2) dX2_pickRegular_22 rfl rfl ?_
      obtain ⟨gd2, hf⟩ := gd_of hf
      refine ev_iald (kd_1_0 kl0) (inb_of gd2) dX2_pickRegular_23 ?_
      refine ev_iload_n (n := 3) dX2_pickRegular_24 rfl rfl ?_
      refine ev_iconst (v := -1) dX2_pickRegular_25 (by decide) ?_
      refine ev_ixor dX2_pickRegular_26 ?_
      refine ev_iand dX2_pickRegular_27 ?_
      obtain ⟨v3, e4, hf⟩ := bn1_of hf
      refine ev_callSi (As := [.ref l1, .int l2, .int ((hI h (l0 + 1) l2.toNatClampNeg) &&& (l3 ^^^ (-1 : Int32)))]) cal_X2_mostWorth (ev_X2_mostWorth kl1 e4) (Nat.le_of_ble_eq_true rfl) rfl lk_365 (by decide) (by decide) (Nat.le_of_ble_eq_true rfl) dX2_pickRegular_28 rfl ?_
      refine ev_istore (lv2 := [(5, .int v3), (0, .ref l0), (1, .ref l1), (2, .int l2), (3, .int l3), (4, .int l4)]) dX2_pickRegular_31 (by decide) rfl ?_
      refine ev_iload (n := 0) dX2_pickRegular_33 rfl ?_
      refine ev_if_lt (tgt := 45) dX2_pickRegular_35 (by decide) (fun c1 => ?_) (fun c1 => ?_)
      · replace hf := if_t c1 hf
        refine ev_sub [1, 2, 3, 4, 5] rfl (lv2 := [(0, .ref l0), (1, .ref l1), (2, .int l2), (3, .int l3), (4, .int l4)]) ?_
        exact jn_X2_pickRegular_45 kl0 kl1 hx0 hk hf
      · replace hf := if_f c1 hf
        refine ev_iload_n (n := 4) dX2_pickRegular_38 rfl rfl ?_
        refine ev_iconst (v := 1) dX2_pickRegular_39 (by decide) ?_
        refine ev_iload (n := 0) dX2_pickRegular_40 rfl ?_
        refine ev_ishl dX2_pickRegular_42 ?_
        refine ev_ior dX2_pickRegular_43 ?_
        refine ev_istore_n (lv2 := [(3, .int (l3 ||| ((1 : Int32) <<< (v3 &&& 31)))), (5, .int v3), (0, .ref l0), (1, .ref l1), (2, .int l2), (4, .int l4)]) dX2_pickRegular_44 rfl (by decide) rfl ?_
        refine ev_sub [2, 3, 4, 0, 5] rfl (lv2 := [(0, .ref l0), (1, .ref l1), (2, .int l2), (3, .int (l3 ||| ((1 : Int32) <<< (v3 &&& 31)))), (4, .int l4)]) ?_
        exact jn_X2_pickRegular_45 kl0 kl1 hx0 hk hf
def f_X2_pickRegular (h : Hp) (l0 : Nat) (l1 : Nat) (l2 : Int32) : Option (Int32) := (bn1 (f_X2_pickRegular_l5 h l0 l1 l2 fu (0 : Int32) (1 : Int32)) (fun w3_5 => (some w3_5)))
set_option maxRecDepth 100000 in
set_option maxHeartbeats 4000000 in
theorem ev_X2_pickRegular {g : Gl} {h : Hp} {l0 : Nat} {l1 : Nat} {l2 : Int32} {rv : Int32} (kl0 : KD g.1 l0 1 0) (kl1 : KD g.1 l1 2 0) (hf : f_X2_pickRegular h l0 l1 l2 = some rv) : Ev yX2_pickRegular cX2_pickRegular 6 (some .int) 2 50 g 0 [] [(0, .ref l0), (1, .ref l1), (2, .int l2)] h (some (.int rv)) h := by
  unfold f_X2_pickRegular at hf
  refine ev_iconst (v := 0) dX2_pickRegular_0 (by decide) ?_
  refine ev_istore_n (lv2 := [(3, .int (0 : Int32)), (0, .ref l0), (1, .ref l1), (2, .int l2)]) dX2_pickRegular_1 rfl (by decide) rfl ?_
  refine ev_iconst (v := 1) dX2_pickRegular_2 (by decide) ?_
  refine ev_istore (lv2 := [(4, .int (1 : Int32)), (3, .int (0 : Int32)), (0, .ref l0), (1, .ref l1), (2, .int l2)]) dX2_pickRegular_3 (by decide) rfl ?_
  obtain ⟨w3_5, e6, hf⟩ := bn1_of hf
  refine ev_sub [2, 3, 4, 1, 0] rfl (lv2 := [(0, .ref l0), (1, .ref l1), (2, .int l2), (3, .int (0 : Int32)), (4, .int (1 : Int32))]) ?_
  refine lp_X2_pickRegular_5 kl0 kl1 ?_ fu _ _ e6
  refine ev_iload_n (n := 0) dX2_pickRegular_51 rfl rfl ?_
  obtain rfl := Option.some.inj hf
  exact ev_ireturn dX2_pickRegular_52 ⟨.int, rfl, rfl⟩
def f_X2_pickNumber_j28 (kk : Int32 → Int32 → Option (Nat × Int32)) (h : Hp) (l0 : Int32) (l1 : Int32) (l2 : Int32) (l3 : Int32) : Option (Nat × Int32) := (kk l2 (l3 + 1))
set_option maxRecDepth 100000 in
set_option maxHeartbeats 4000000 in
theorem jn_X2_pickNumber_28 {g : Gl} {h : Hp} {kk : Int32 → Int32 → Option (Nat × Int32)} {l0 : Int32} {l1 : Int32} {l2 : Int32} {l3 : Int32}  {r : Option Value} {h2 : Hp} {tg : Nat} {o3 : Int32}  (hx0 : tg = 0 → Ev yX2_pickNumber cX2_pickNumber 4 (some .int) 0 0 g 23 [] [(3, .int o3)] h r h2) (hx1 : tg = 1 → Ev yX2_pickNumber cX2_pickNumber 4 (some .int) 0 0 g 34 [] [] h r h2) (hk : ∀ (x2 : Int32) (x3 : Int32), kk x2 x3 = some (tg, o3) → Ev yX2_pickNumber cX2_pickNumber 4 (some .int) 0 0 g 4 [] [(0, .int l0), (1, .int l1), (2, .int x2), (3, .int x3)] h r h2) (hf : f_X2_pickNumber_j28 kk h l0 l1 l2 l3 = some (tg, o3)) : Ev yX2_pickNumber cX2_pickNumber 4 (some .int) 0 0 g 28 [] [(0, .int l0), (1, .int l1), (2, .int l2), (3, .int l3)] h r h2 := by
  unfold f_X2_pickNumber_j28 at hf
  refine ev_iinc (z := 3) (v := (l3 + 1)) (lv2 := [(3, .int (l3 + 1)), (0, .int l0), (1, .int l1), (2, .int l2)]) dX2_pickNumber_28 rfl rfl (by decide) rfl ?_
  refine ev_goto (tgt := 4) dX2_pickNumber_31 (by decide) ?_
  refine ev_sub [1, 2, 3, 0] rfl (lv2 := [(0, .int l0), (1, .int l1), (2, .int l2), (3, .int (l3 + 1))]) ?_
  exact hk _ _ hf
def f_X2_pickNumber_l4 (h : Hp) (l0 : Int32) (l1 : Int32) : Nat → Int32 → Int32 → Option (Nat × Int32)
  | 0, _, _ => none
  | fu1 + 1, l2, l3 => (if (6 : Int32) ≤ l3 then (some (1, 0)) else (if ((l0 >>> (l3 &&& 31)) &&& (1 : Int32)) = 0 then (f_X2_pickNumber_j28 (f_X2_pickNumber_l4 h l0 l1 fu1) h l0 l1 l2 l3) else (if l2 = l1 then (some (0, l3)) else (f_X2_pickNumber_j28 (f_X2_pickNumber_l4 h l0 l1 fu1) h l0 l1 (l2 + 1) l3))))
theorem f_X2_pickNumber_l4_s (h : Hp) (l0 : Int32) (l1 : Int32) (fu1 : Nat) (l2 : Int32) (l3 : Int32) : f_X2_pickNumber_l4 h l0 l1 (fu1 + 1) l2 l3 = (if (6 : Int32) ≤ l3 then (some (1, 0)) else (if ((l0 >>> (l3 &&& 31)) &&& (1 : Int32)) = 0 then (f_X2_pickNumber_j28 (f_X2_pickNumber_l4 h l0 l1 fu1) h l0 l1 l2 l3) else (if l2 = l1 then (some (0, l3)) else (f_X2_pickNumber_j28 (f_X2_pickNumber_l4 h l0 l1 fu1) h l0 l1 (l2 + 1) l3)))) := rfl
theorem f_X2_pickNumber_l4_0 (h : Hp) (l0 : Int32) (l1 : Int32) (l2 : Int32) (l3 : Int32) : f_X2_pickNumber_l4 h l0 l1 0 l2 l3 = none := rfl
set_option maxRecDepth 100000 in
set_option maxHeartbeats 4000000 in
theorem lp_X2_pickNumber_4 {g : Gl} {h : Hp} {l0 : Int32} {l1 : Int32} {r : Option Value} {h2 : Hp} {tg : Nat} {o3 : Int32}  (hx0 : tg = 0 → Ev yX2_pickNumber cX2_pickNumber 4 (some .int) 0 0 g 23 [] [(3, .int o3)] h r h2) (hx1 : tg = 1 → Ev yX2_pickNumber cX2_pickNumber 4 (some .int) 0 0 g 34 [] [] h r h2) : ∀ (fu1 : Nat) (l2 : Int32) (l3 : Int32), f_X2_pickNumber_l4 h l0 l1 fu1 l2 l3 = some (tg, o3) → Ev yX2_pickNumber cX2_pickNumber 4 (some .int) 0 0 g 4 [] [(0, .int l0), (1, .int l1), (2, .int l2), (3, .int l3)] h r h2 := by
  intro fu1
  induction fu1 with
  | zero =>
    intro l2 l3 hf
    cases hf
  | succ fu1 ih =>
    intro l2 l3 hf
    rw [f_X2_pickNumber_l4_s] at hf
    have hk := ih
    refine ev_iload_n (n := 3) dX2_pickNumber_4 rfl rfl ?_
    refine ev_bipush (v := 6) dX2_pickNumber_5 (by decide) ?_
    refine ev_icmp_ge (tgt := 34) dX2_pickNumber_7 (by decide) (fun c1 => ?_) (fun c1 => ?_)
    · replace hf := if_t c1 hf
      refine ev_sub [] rfl (lv2 := []) ?_
      obtain ⟨rfl, rfl⟩ := Prod.mk.inj (Option.some.inj hf)
      exact hx1 rfl
    · replace hf := if_f c1 hf
      refine ev_iload_n (n := 0) dX2_pickNumber_10 rfl rfl ?_
      refine ev_iload_n (n := 3) dX2_pickNumber_11 rfl rfl ?_
      refine ev_ishr dX2_pickNumber_12 ?_
      refine ev_iconst (v := 1) dX2_pickNumber_13 (by decide) ?_
      refine ev_iand dX2_pickNumber_14 ?_
      refine ev_if_eq (tgt := 28) dX2_pickNumber_15 (by decide) (fun c1 => ?_) (fun c1 => ?_)
      · replace hf := if_t c1 hf
        exact jn_X2_pickNumber_28 hx0 hx1 hk hf
      · replace hf := if_f c1 hf
        refine ev_iload_n (n := 2) dX2_pickNumber_18 rfl rfl ?_
        refine ev_iload_n (n := 1) dX2_pickNumber_19 rfl rfl ?_
        refine ev_icmp_ne (tgt := 25) dX2_pickNumber_20 (by decide) (fun c1 => ?_) (fun c1 => ?_)
        · replace hf := if_f c1 hf
          refine ev_iinc (z := 2) (v := (l2 + 1)) (lv2 := [(2, .int (l2 + 1)), (0, .int l0), (1, .int l1), (3, .int l3)]) dX2_pickNumber_25 rfl rfl (by decide) rfl ?_
          refine ev_sub [1, 2, 0, 3] rfl (lv2 := [(0, .int l0), (1, .int l1), (2, .int (l2 + 1)), (3, .int l3)]) ?_
          exact jn_X2_pickNumber_28 hx0 hx1 hk hf
        · replace hf := if_t c1 hf
          refine ev_sub [3] rfl (lv2 := [(3, .int l3)]) ?_
          obtain ⟨rfl, rfl⟩ := Prod.mk.inj (Option.some.inj hf)
          exact hx0 rfl
def f_X2_pickNumber (h : Hp) (l0 : Int32) (l1 : Int32) : Option (Int32) := (bn2 (f_X2_pickNumber_l4 h l0 l1 fu (0 : Int32) (0 : Int32)) (fun tg4 w3_1 => (if tg4 = 0 then (some w3_1) else (some (-1 : Int32)))))
set_option maxRecDepth 100000 in
set_option maxHeartbeats 4000000 in
theorem ev_X2_pickNumber {g : Gl} {h : Hp} {l0 : Int32} {l1 : Int32} {rv : Int32}  (hf : f_X2_pickNumber h l0 l1 = some rv) : Ev yX2_pickNumber cX2_pickNumber 4 (some .int) 0 0 g 0 [] [(0, .int l0), (1, .int l1)] h (some (.int rv)) h := by
  unfold f_X2_pickNumber at hf
  refine ev_iconst (v := 0) dX2_pickNumber_0 (by decide) ?_
  refine ev_istore_n (lv2 := [(2, .int (0 : Int32)), (0, .int l0), (1, .int l1)]) dX2_pickNumber_1 rfl (by decide) rfl ?_
  refine ev_iconst (v := 0) dX2_pickNumber_2 (by decide) ?_
  refine ev_istore_n (lv2 := [(3, .int (0 : Int32)), (2, .int (0 : Int32)), (0, .int l0), (1, .int l1)]) dX2_pickNumber_3 rfl (by decide) rfl ?_
  obtain ⟨tg4, w3_1, e2, hf⟩ := bn2_of hf
  refine ev_sub [2, 3, 1, 0] rfl (lv2 := [(0, .int l0), (1, .int l1), (2, .int (0 : Int32)), (3, .int (0 : Int32))]) ?_
  refine lp_X2_pickNumber_4  (fun ht => ?_) (fun ht => ?_) fu _ _ e2
  · subst ht
    replace hf : _ = _ := hf
    replace hf := if_t rfl hf
    refine ev_iload_n (n := 0) dX2_pickNumber_23 rfl rfl ?_
    obtain rfl := Option.some.inj hf
    exact ev_ireturn dX2_pickNumber_24 ⟨.int, rfl, rfl⟩
  · subst ht
    replace hf : _ = _ := hf
    replace hf := if_f (by decide) hf
    refine ev_iconst (v := -1) dX2_pickNumber_34 (by decide) ?_
    obtain rfl := Option.some.inj hf
    exact ev_ireturn dX2_pickNumber_35 ⟨.int, rfl, rfl⟩
def f_X2_pickLucky_j55 (h : Hp) (l0 : Nat) (l2 : Int32) : Option (Int32 × Hp) := (if l2 = 0 then (some ((-1 : Int32), h)) else (bn1 (f_J6_bitCount_0f7a4 h l2) (fun v2 => (bn2 (f_X3_drawBelow h l0 v2) (fun v4 h5 => (bn1 (f_X2_pickNumber h5 l2 v4) (fun v7 => (some (v7, h5)))))))))
set_option maxRecDepth 100000 in
set_option maxHeartbeats 4000000 in
theorem jn_X2_pickLucky_55 {g : Gl} {h : Hp} {l0 : Nat} {l2 : Int32}  {rv : Int32} {h2 : Hp} (kl0 : KD g.1 l0 2 0)   (hf : f_X2_pickLucky_j55 h l0 l2 = some (rv, h2)) : Ev yX2_pickLucky cX2_pickLucky 5 (some .int) 1 23 g 55 [] [(0, .ref l0), (2, .int l2)] h (some (.int rv)) h2 := by
  unfold f_X2_pickLucky_j55 at hf
  refine ev_iload_n (n := 1) dX2_pickLucky_55 rfl rfl ?_
  refine ev_if_ne (tgt := 61) dX2_pickLucky_56 (by decide) (fun c1 => ?_) (fun c1 => ?_)
  · replace hf := if_f c1 hf
    refine ev_iload_n (n := 1) dX2_pickLucky_61 rfl rfl ?_
    refine ev_aload_n (n := 0) dX2_pickLucky_62 rfl rfl ?_
    refine ev_iload_n (n := 1) dX2_pickLucky_63 rfl rfl ?_
    obtain ⟨v2, e3, hf⟩ := bn1_of hf
    refine ev_callSi (As := [.int l2]) cal_J6_bitCount_0f7a4 (ev_J6_bitCount_0f7a4 e3) (Nat.le_of_ble_eq_true rfl) rfl lk_374 (by decide) (by decide) (Nat.le_of_ble_eq_true rfl) dX2_pickLucky_64 rfl ?_
    obtain ⟨v4, h5, e6, hf⟩ := bn2_of hf
    refine ev_callVi (As := [.int v2]) cal_X3_drawBelow kl0 rfl (ev_X3_drawBelow kl0 e6) (Nat.le_of_ble_eq_true rfl) rfl lk_375 (by decide) (by decide) (Nat.le_of_ble_eq_true rfl) dX2_pickLucky_67 rfl ?_
    obtain ⟨v7, e8, hf⟩ := bn1_of hf
    refine ev_callSi (As := [.int l2, .int v4]) cal_X2_pickNumber (ev_X2_pickNumber e8) (Nat.le_of_ble_eq_true rfl) rfl lk_383 (by decide) (by decide) (Nat.le_of_ble_eq_true rfl) dX2_pickLucky_70 rfl ?_
    obtain ⟨rfl, rfl⟩ := Prod.mk.inj (Option.some.inj hf)
    exact ev_ireturn dX2_pickLucky_73 ⟨.int, rfl, rfl⟩
  · replace hf := if_t c1 hf
    refine ev_iconst (v := -1) dX2_pickLucky_59 (by decide) ?_
    obtain ⟨rfl, rfl⟩ := Prod.mk.inj (Option.some.inj hf)
    exact ev_ireturn dX2_pickLucky_60 ⟨.int, rfl, rfl⟩
def f_X2_pickLucky_j25 (h : Hp) (s0 : Int32) (l0 : Nat) (l1 : Nat) (l2 : Int32) : Option (Int32 × Hp) := (if s0 = 0 then (f_X2_pickLucky_j55 h l0 l2) else (if (hI h l1 5) < 0 then (f_X2_pickLucky_j55 h l0 l2) else (if ((l2 >>> ((hI h l1 5) &&& 31)) &&& (1 : Int32)) = 0 then (f_X2_pickLucky_j55 h l0 l2) else (some ((hI h l1 5), h)))))
set_option maxRecDepth 100000 in
set_option maxHeartbeats 4000000 in
theorem jn_X2_pickLucky_25 {g : Gl} {h : Hp} {s0 : Int32} {l0 : Nat} {l1 : Nat} {l2 : Int32}  {rv : Int32} {h2 : Hp} (kl0 : KD g.1 l0 2 0) (kl1 : KD g.1 l1 0 0)   (hf : f_X2_pickLucky_j25 h s0 l0 l1 l2 = some (rv, h2)) : Ev yX2_pickLucky cX2_pickLucky 5 (some .int) 1 23 g 25 [.int s0] [(0, .ref l0), (1, .ref l1), (2, .int l2)] h (some (.int rv)) h2 := by
  unfold f_X2_pickLucky_j25 at hf
  refine ev_istore (lv2 := [(4, .int s0), (0, .ref l0), (1, .ref l1), (2, .int l2)]) dX2_pickLucky_25 (by decide) rfl ?_
  refine ev_iload (n := 0) dX2_pickLucky_27 rfl ?_
  refine ev_if_eq (tgt := 55) dX2_pickLucky_29 (by decide) (fun c1 => ?_) (fun c1 => ?_)
  · replace hf := if_t c1 hf
    refine ev_sub [1, 3] rfl (lv2 := [(0, .ref l0), (2, .int l2)]) ?_
    exact jn_X2_pickLucky_55 kl0 hf
  · replace hf := if_f c1 hf
    refine ev_aload_n (n := 2) dX2_pickLucky_32 rfl rfl ?_
    refine ev_get (v := .int (hI h l1 5)) 5 kl1 rfl (by decide) rfl lk_51 dX2_pickLucky_33 ?_
    refine ev_if_lt (tgt := 55) dX2_pickLucky_36 (by decide) (fun c1 => ?_) (fun c1 => ?_)
    · replace hf := if_t c1 hf
      refine ev_sub [1, 3] rfl (lv2 := [(0, .ref l0), (2, .int l2)]) ?_
      exact jn_X2_pickLucky_55 kl0 hf
    · replace hf := if_f c1 hf
      refine ev_iload_n (n := 3) dX2_pickLucky_39 rfl rfl ?_
      refine ev_aload_n (n := 2) dX2_pickLucky_40 rfl rfl ?_
      refine ev_get (v := .int (hI h l1 5)) 5 kl1 rfl (by decide) rfl lk_51 dX2_pickLucky_41 ?_
      refine ev_ishr dX2_pickLucky_44 ?_
      refine ev_iconst (v := 1) dX2_pickLucky_45 (by decide) ?_
      refine ev_iand dX2_pickLucky_46 ?_
      refine ev_if_eq (tgt := 55) dX2_pickLucky_47 (by decide) (fun c1 => ?_) (fun c1 => ?_)
      · replace hf := if_t c1 hf
        refine ev_sub [1, 3] rfl (lv2 := [(0, .ref l0), (2, .int l2)]) ?_
        exact jn_X2_pickLucky_55 kl0 hf
      · replace hf := if_f c1 hf
        refine ev_aload_n (n := 2) dX2_pickLucky_50 rfl rfl ?_
        refine ev_get (v := .int (hI h l1 5)) 5 kl1 rfl (by decide) rfl lk_51 dX2_pickLucky_51 ?_
        obtain ⟨rfl, rfl⟩ := Prod.mk.inj (Option.some.inj hf)
        exact ev_ireturn dX2_pickLucky_54 ⟨.int, rfl, rfl⟩
def f_X2_pickLucky_j24 (h : Hp) (l0 : Nat) (l1 : Nat) (l2 : Int32) : Option (Int32 × Hp) := (f_X2_pickLucky_j25 h (0 : Int32) l0 l1 l2)
set_option maxRecDepth 100000 in
set_option maxHeartbeats 4000000 in
theorem jn_X2_pickLucky_24 {g : Gl} {h : Hp} {l0 : Nat} {l1 : Nat} {l2 : Int32}  {rv : Int32} {h2 : Hp} (kl0 : KD g.1 l0 2 0) (kl1 : KD g.1 l1 0 0)   (hf : f_X2_pickLucky_j24 h l0 l1 l2 = some (rv, h2)) : Ev yX2_pickLucky cX2_pickLucky 5 (some .int) 1 23 g 24 [] [(0, .ref l0), (1, .ref l1), (2, .int l2)] h (some (.int rv)) h2 := by
  unfold f_X2_pickLucky_j24 at hf
  refine ev_iconst (v := 0) dX2_pickLucky_24 (by decide) ?_
  exact jn_X2_pickLucky_25 kl0 kl1 hf
def f_X2_pickLucky (h : Hp) (l0 : Nat) (l1 : Nat) (l2 : Int32) : Option (Int32 × Hp) := (if (hI h (l0 + 1) (3 : Int32).toNatClampNeg) ≤ 0 then (f_X2_pickLucky_j24 h l0 l1 l2) else (if ¬ (hI h (l0 + 1) (3 : Int32).toNatClampNeg) = 0 then (if ((hI h l0 5) - (hI h l0 5) / (hI h (l0 + 1) (3 : Int32).toNatClampNeg) * (hI h (l0 + 1) (3 : Int32).toNatClampNeg)) = 0 then (f_X2_pickLucky_j24 h l0 l1 l2) else (f_X2_pickLucky_j25 h (1 : Int32) l0 l1 l2)) else none))
set_option maxRecDepth 100000 in
set_option maxHeartbeats 4000000 in
theorem ev_X2_pickLucky {g : Gl} {h : Hp} {l0 : Nat} {l1 : Nat} {l2 : Int32} {rv : Int32} {h2 : Hp} (kl0 : KD g.1 l0 2 0) (kl1 : KD g.1 l1 0 0) (hf : f_X2_pickLucky h l0 l1 l2 = some (rv, h2)) : Ev yX2_pickLucky cX2_pickLucky 5 (some .int) 1 23 g 0 [] [(0, .ref l0), (1, .ref l1), (2, .int l2)] h (some (.int rv)) h2 := by
  unfold f_X2_pickLucky at hf
  refine ev_aload_n (n := 0) dX2_pickLucky_0 rfl rfl ?_
  refine ev_get (v := .ref (l0 + 1)) 10 kl0 rfl (by decide) rfl lk_127 dX2_pickLucky_1 ?_
  refine ev_iconst (v := 3) dX2_pickLucky_4 (by decide) ?_
  refine ev_iald (kd_2_10 kl0) (by unfold vp_in; decide) dX2_pickLucky_5 ?_
  refine ev_istore_n (lv2 := [(3, .int (hI h (l0 + 1) (3 : Int32).toNatClampNeg)), (0, .ref l0), (1, .ref l1), (2, .int l2)]) dX2_pickLucky_6 rfl (by decide) rfl ?_
  refine ev_iload_n (n := 0) dX2_pickLucky_7 rfl rfl ?_
  refine ev_if_le (tgt := 24) dX2_pickLucky_8 (by decide) (fun c1 => ?_) (fun c1 => ?_)
  · replace hf := if_t c1 hf
    refine ev_sub [1, 2, 3] rfl (lv2 := [(0, .ref l0), (1, .ref l1), (2, .int l2)]) ?_
    exact jn_X2_pickLucky_24 kl0 kl1 hf
  · replace hf := if_f c1 hf
    refine ev_aload_n (n := 1) dX2_pickLucky_11 rfl rfl ?_
    refine ev_get (v := .int (hI h l0 5)) 5 kl0 rfl (by decide) rfl lk_116 dX2_pickLucky_12 ?_
    refine ev_iload_n (n := 0) dX2_pickLucky_15 rfl rfl ?_
    obtain ⟨gd9, hf⟩ := gd_of hf
    refine ev_irem dX2_pickLucky_16 gd9 ?_
    refine ev_if_eq (tgt := 24) dX2_pickLucky_17 (by decide) (fun c1 => ?_) (fun c1 => ?_)
    · replace hf := if_t c1 hf
      refine ev_sub [1, 2, 3] rfl (lv2 := [(0, .ref l0), (1, .ref l1), (2, .int l2)]) ?_
      exact jn_X2_pickLucky_24 kl0 kl1 hf
    · replace hf := if_f c1 hf
      refine ev_iconst (v := 1) dX2_pickLucky_20 (by decide) ?_
      refine ev_goto (tgt := 25) dX2_pickLucky_21 (by decide) ?_
      refine ev_sub [1, 2, 3] rfl (lv2 := [(0, .ref l0), (1, .ref l1), (2, .int l2)]) ?_
      exact jn_X2_pickLucky_25 kl0 kl1 hf
def f_X2_openSlots_j78 (kk : Int32 → Hp → Option (Hp)) (h : Hp) (l0 : Nat) (l1 : Nat) (l2 : Int32) : Option (Hp) := (kk (l2 + 1) h)
set_option maxRecDepth 100000 in
set_option maxHeartbeats 4000000 in
theorem jn_X2_openSlots_78 {g : Gl} {h : Hp} {kk : Int32 → Hp → Option (Hp)} {l0 : Nat} {l1 : Nat} {l2 : Int32}  {r : Option Value} {h2 : Hp} {h3 : Hp} (kl0 : KD g.1 l0 1 0) (kl1 : KD g.1 l1 2 0) (hx0 : Ev yX2_openSlots cX2_openSlots 5 none 3 75 g 84 [] [] h3 r h2) (hk : ∀ (x2 : Int32) (hq : Hp), kk x2 hq = some h3 → Ev yX2_openSlots cX2_openSlots 5 none 3 75 g 2 [] [(0, .ref l0), (1, .ref l1), (2, .int x2)] hq r h2) (hf : f_X2_openSlots_j78 kk h l0 l1 l2 = some h3) : Ev yX2_openSlots cX2_openSlots 5 none 3 75 g 78 [] [(0, .ref l0), (1, .ref l1), (2, .int l2)] h r h2 := by
  unfold f_X2_openSlots_j78 at hf
  refine ev_iinc (z := 2) (v := (l2 + 1)) (lv2 := [(2, .int (l2 + 1)), (0, .ref l0), (1, .ref l1)]) dX2_openSlots_78 rfl rfl (by decide) rfl ?_
  refine ev_goto (tgt := 2) dX2_openSlots_81 (by decide) ?_
  refine ev_sub [1, 2, 0] rfl (lv2 := [(0, .ref l0), (1, .ref l1), (2, .int (l2 + 1))]) ?_
  exact hk _ _ hf
def f_X2_openSlots_j75 (kk : Int32 → Hp → Option (Hp)) (h : Hp) (s0 : Nat) (s1 : Int32) (l0 : Nat) (l1 : Nat) (l2 : Int32) : Option (Hp) := (f_X2_openSlots_j78 kk (sI h s0 4 s1) l0 l1 l2)
set_option maxRecDepth 100000 in
set_option maxHeartbeats 4000000 in
theorem jn_X2_openSlots_75 {g : Gl} {h : Hp} {kk : Int32 → Hp → Option (Hp)} {s0 : Nat} {s1 : Int32} {l0 : Nat} {l1 : Nat} {l2 : Int32}  {r : Option Value} {h2 : Hp} {h3 : Hp} (ks0 : KD g.1 s0 0 0) (kl0 : KD g.1 l0 1 0) (kl1 : KD g.1 l1 2 0) (hx0 : Ev yX2_openSlots cX2_openSlots 5 none 3 75 g 84 [] [] h3 r h2) (hk : ∀ (x2 : Int32) (hq : Hp), kk x2 hq = some h3 → Ev yX2_openSlots cX2_openSlots 5 none 3 75 g 2 [] [(0, .ref l0), (1, .ref l1), (2, .int x2)] hq r h2) (hf : f_X2_openSlots_j75 kk h s0 s1 l0 l1 l2 = some h3) : Ev yX2_openSlots cX2_openSlots 5 none 3 75 g 75 [.int s1, .ref s0] [(0, .ref l0), (1, .ref l1), (2, .int l2)] h r h2 := by
  unfold f_X2_openSlots_j75 at hf
  refine ev_putI 4 ks0 rfl (by decide) rfl (by decide +kernel) rfl (by exact Nat.le_of_ble_eq_true rfl) lk_48 dX2_openSlots_75 ?_
  exact jn_X2_openSlots_78 kl0 kl1 hx0 hk hf
def f_X2_openSlots_l2 (l0 : Nat) (l1 : Nat) : Nat → Int32 → Hp → Option (Hp)
  | 0, _, _ => none
  | fu1 + 1, l2, h => (if (hI h l1 4) ≤ l2 then (some h) else (if inb l2 6 = true then (if (hI h ((l1 + 2) + 1 + 4 * l2.toNatClampNeg) 0) = (1 : Int32) then (f_X2_openSlots_j78 (f_X2_openSlots_l2 l0 l1 fu1) h l0 l1 l2) else (bn1 (f_X2_pickRegular h l0 l1 l2) (fun v2 => (if inb l2 6 = true then (bn2 (f_X2_pickLucky h l1 ((l1 + 2) + 1 + 4 * l2.toNatClampNeg) ((hI h (l0 + 1) l2.toNatClampNeg) &&& (v2 ^^^ (-1 : Int32)))) (fun v5 h6 => (if 0 ≤ (hI (sI h6 ((l1 + 2) + 1 + 4 * l2.toNatClampNeg) 5 v5) ((l1 + 2) + 1 + 4 * l2.toNatClampNeg) 5) then (f_X2_openSlots_j75 (f_X2_openSlots_l2 l0 l1 fu1) (sI h6 ((l1 + 2) + 1 + 4 * l2.toNatClampNeg) 5 v5) ((l1 + 2) + 1 + 4 * l2.toNatClampNeg) (v2 ||| ((1 : Int32) <<< ((hI (sI h6 ((l1 + 2) + 1 + 4 * l2.toNatClampNeg) 5 v5) ((l1 + 2) + 1 + 4 * l2.toNatClampNeg) 5) &&& 31))) l0 l1 l2) else (f_X2_openSlots_j75 (f_X2_openSlots_l2 l0 l1 fu1) (sI h6 ((l1 + 2) + 1 + 4 * l2.toNatClampNeg) 5 v5) ((l1 + 2) + 1 + 4 * l2.toNatClampNeg) v2 l0 l1 l2)))) else none)))) else none))
theorem f_X2_openSlots_l2_s (l0 : Nat) (l1 : Nat) (fu1 : Nat) (l2 : Int32) (h : Hp) : f_X2_openSlots_l2 l0 l1 (fu1 + 1) l2 h = (if (hI h l1 4) ≤ l2 then (some h) else (if inb l2 6 = true then (if (hI h ((l1 + 2) + 1 + 4 * l2.toNatClampNeg) 0) = (1 : Int32) then (f_X2_openSlots_j78 (f_X2_openSlots_l2 l0 l1 fu1) h l0 l1 l2) else (bn1 (f_X2_pickRegular h l0 l1 l2) (fun v2 => (if inb l2 6 = true then (bn2 (f_X2_pickLucky h l1 ((l1 + 2) + 1 + 4 * l2.toNatClampNeg) ((hI h (l0 + 1) l2.toNatClampNeg) &&& (v2 ^^^ (-1 : Int32)))) (fun v5 h6 => (if 0 ≤ (hI (sI h6 ((l1 + 2) + 1 + 4 * l2.toNatClampNeg) 5 v5) ((l1 + 2) + 1 + 4 * l2.toNatClampNeg) 5) then (f_X2_openSlots_j75 (f_X2_openSlots_l2 l0 l1 fu1) (sI h6 ((l1 + 2) + 1 + 4 * l2.toNatClampNeg) 5 v5) ((l1 + 2) + 1 + 4 * l2.toNatClampNeg) (v2 ||| ((1 : Int32) <<< ((hI (sI h6 ((l1 + 2) + 1 + 4 * l2.toNatClampNeg) 5 v5) ((l1 + 2) + 1 + 4 * l2.toNatClampNeg) 5) &&& 31))) l0 l1 l2) else (f_X2_openSlots_j75 (f_X2_openSlots_l2 l0 l1 fu1) (sI h6 ((l1 + 2) + 1 + 4 * l2.toNatClampNeg) 5 v5) ((l1 + 2) + 1 + 4 * l2.toNatClampNeg) v2 l0 l1 l2)))) else none)))) else none)) := rfl
theorem f_X2_openSlots_l2_0 (l0 : Nat) (l1 : Nat) (l2 : Int32) (h : Hp) : f_X2_openSlots_l2 l0 l1 0 l2 h = none := rfl
set_option maxRecDepth 100000 in
set_option maxHeartbeats 4000000 in
theorem lp_X2_openSlots_2 {g : Gl} {l0 : Nat} {l1 : Nat} {r : Option Value} {h2 : Hp} {h3 : Hp} (kl0 : KD g.1 l0 1 0) (kl1 : KD g.1 l1 2 0) (hx0 : Ev yX2_openSlots cX2_openSlots 5 none 3 75 g 84 [] [] h3 r h2) : ∀ (fu1 : Nat) (l2 : Int32) (h : Hp), f_X2_openSlots_l2 l0 l1 fu1 l2 h = some h3 → Ev yX2_openSlots cX2_openSlots 5 none 3 75 g 2 [] [(0, .ref l0), (1, .ref l1), (2, .int l2)] h r h2 := by
  intro fu1
  induction fu1 with
  | zero =>
    intro l2 h hf
    cases hf
  | succ fu1 ih =>
    intro l2 h hf
    rw [f_X2_openSlots_l2_s] at hf
    have hk := ih
    refine ev_iload_n (n := 2) dX2_openSlots_2 rfl rfl ?_
    refine ev_aload_n (n := 1) dX2_openSlots_3 rfl rfl ?_
    refine ev_get (v := .int (hI h l1 4)) 4 kl1 rfl (by decide) rfl lk_115 dX2_openSlots_4 ?_
    refine ev_icmp_ge (tgt := 84) dX2_openSlots_7 (by decide) (fun c1 => ?_) (fun c1 => ?_)
    · replace hf := if_t c1 hf
      refine ev_sub [] rfl (lv2 := []) ?_
      obtain rfl := Option.some.inj hf
      exact hx0
    · replace hf := if_f c1 hf
      refine ev_aload_n (n := 1) dX2_openSlots_10 rfl rfl ?_
      refine ev_get (v := .ref (l1 + 2)) 11 kl1 rfl (by decide) rfl lk_130 dX2_openSlots_11 ?_
      refine ev_iload_n (n := 2) dX2_openSlots_14 rfl rfl ?_
      obtain ⟨gd1, hf⟩ := gd_of hf
      refine ev_aaldP (kd_2_11 kl1) (inb_of gd1) dX2_openSlots_15 ?_
      refine ev_astore_n (lv2 := [(3, .ref ((l1 + 2) + 1 + 4 * l2.toNatClampNeg)), (0, .ref l0), (1, .ref l1), (2, .int l2)]) dX2_openSlots_16 rfl (by decide) rfl ?_
      refine ev_aload_n (n := 0) dX2_openSlots_17 rfl rfl ?_
      refine ev_get (v := .int (hI h ((l1 + 2) + 1 + 4 * l2.toNatClampNeg) 0)) 0 (kdPA (kd_2_11 kl1) (inb_of gd1)) rfl (by decide) rfl lk_36 dX2_openSlots_18 ?_
      refine ev_iconst (v := 1) dX2_openSlots_21 (by decide) ?_
      refine ev_icmp_eq (tgt := 78) dX2_openSlots_22 (by decide) (fun c1 => ?_) (fun c1 => ?_)
      · replace hf := if_t c1 hf
        refine ev_sub [1, 2, 3] rfl (lv2 := [(0, .ref l0), (1, .ref l1), (2, .int l2)]) ?_
        exact jn_X2_openSlots_78 kl0 kl1 hx0 hk hf
      · replace hf := if_f c1 hf
        refine ev_aload_n (n := 1) dX2_openSlots_25 rfl rfl ?_
        refine ev_aload_n (n := 2) dX2_openSlots_26 rfl rfl ?_
        refine ev_iload_n (n := 3) dX2_openSlots_27 rfl rfl ?_
        obtain ⟨v2, e3, hf⟩ := bn1_of hf
        refine ev_callVi (As := [.ref l1, .int l2]) cal_X2_pickRegular kl0 rfl (ev_X2_pickRegular kl0 kl1 e3) (Nat.le_of_ble_eq_true rfl) rfl lk_361 (by decide) (by decide) (Nat.le_of_ble_eq_true rfl) dX2_openSlots_28 rfl ?_
        refine ev_istore (lv2 := [(4, .int v2), (3, .ref ((l1 + 2) + 1 + 4 * l2.toNatClampNeg)), (0, .ref l0), (1, .ref l1), (2, .int l2)]) dX2_openSlots_31 (by decide) rfl ?_
        refine ev_aload_n (n := 1) dX2_openSlots_33 rfl rfl ?_
        refine ev_aload_n (n := 3) dX2_openSlots_34 rfl rfl ?_
        refine ev_aload_n (n := 1) dX2_openSlots_35 rfl rfl ?_
        refine ev_aload_n (n := 2) dX2_openSlots_36 rfl rfl ?_
        refine ev_get (v := .ref (l0 + 1)) 0 kl0 rfl (by decide) rfl lk_164 dX2_openSlots_37 ?_
        refine ev_iload_n (n := 4) dX2_openSlots_40 rfl rfl ?_
        obtain ⟨gd4, hf⟩ := gd_of hf
        refine ev_iald (kd_1_0 kl0) (inb_of gd4) dX2_openSlots_41 ?_
        refine ev_iload (n := 0) dX2_openSlots_42 rfl ?_
        refine ev_iconst (v := -1) dX2_openSlots_44 (by decide) ?_
        refine ev_ixor dX2_openSlots_45 ?_
        refine ev_iand dX2_openSlots_46 ?_
        obtain ⟨v5, h6, e7, hf⟩ := bn2_of hf
        refine ev_callSi (As := [.ref l1, .ref ((l1 + 2) + 1 + 4 * l2.toNatClampNeg), .int ((hI h (l0 + 1) l2.toNatClampNeg) &&& (v2 ^^^ (-1 : Int32)))]) cal_X2_pickLucky (ev_X2_pickLucky kl1 (kdPA (kd_2_11 kl1) (inb_of gd1)) e7) (Nat.le_of_ble_eq_true rfl) rfl lk_371 (by decide) (by decide) (Nat.le_of_ble_eq_true rfl) dX2_openSlots_47 rfl ?_
        refine ev_putI 5 (kdPA (kd_2_11 kl1) (inb_of gd1)) rfl (by decide) rfl (by decide +kernel) rfl (by exact Nat.le_of_ble_eq_true rfl) lk_51 dX2_openSlots_50 ?_
        refine ev_aload_n (n := 1) dX2_openSlots_53 rfl rfl ?_
        refine ev_aload_n (n := 1) dX2_openSlots_54 rfl rfl ?_
        refine ev_get (v := .int (hI (sI h6 ((l1 + 2) + 1 + 4 * l2.toNatClampNeg) 5 v5) ((l1 + 2) + 1 + 4 * l2.toNatClampNeg) 5)) 5 (kdPA (kd_2_11 kl1) (inb_of gd1)) rfl (by decide) rfl lk_51 dX2_openSlots_55 ?_
        refine ev_if_ge (tgt := 66) dX2_openSlots_58 (by decide) (fun c1 => ?_) (fun c1 => ?_)
        · replace hf := if_t c1 hf
          refine ev_iload (n := 0) dX2_openSlots_66 rfl ?_
          refine ev_iconst (v := 1) dX2_openSlots_68 (by decide) ?_
          refine ev_aload_n (n := 1) dX2_openSlots_69 rfl rfl ?_
          refine ev_get (v := .int (hI (sI h6 ((l1 + 2) + 1 + 4 * l2.toNatClampNeg) 5 v5) ((l1 + 2) + 1 + 4 * l2.toNatClampNeg) 5)) 5 (kdPA (kd_2_11 kl1) (inb_of gd1)) rfl (by decide) rfl lk_51 dX2_openSlots_70 ?_
          refine ev_ishl dX2_openSlots_73 ?_
          refine ev_ior dX2_openSlots_74 ?_
          refine ev_sub [2, 3, 4] rfl (lv2 := [(0, .ref l0), (1, .ref l1), (2, .int l2)]) ?_
          exact jn_X2_openSlots_75 (kdPA (kd_2_11 kl1) (inb_of gd1)) kl0 kl1 hx0 hk hf
        · replace hf := if_f c1 hf
          refine ev_iload (n := 0) dX2_openSlots_61 rfl ?_
          refine ev_goto (tgt := 75) dX2_openSlots_63 (by decide) ?_
          refine ev_sub [2, 3, 4] rfl (lv2 := [(0, .ref l0), (1, .ref l1), (2, .int l2)]) ?_
          exact jn_X2_openSlots_75 (kdPA (kd_2_11 kl1) (inb_of gd1)) kl0 kl1 hx0 hk hf
def f_X2_openSlots (h : Hp) (l0 : Nat) (l1 : Nat) : Option (Hp) := (bn1 (f_X2_openSlots_l2 l0 l1 fu (0 : Int32) h) (fun h8 => (some h8)))
set_option maxRecDepth 100000 in
set_option maxHeartbeats 4000000 in
theorem ev_X2_openSlots {g : Gl} {h : Hp} {l0 : Nat} {l1 : Nat} {h2 : Hp} (kl0 : KD g.1 l0 1 0) (kl1 : KD g.1 l1 2 0) (hf : f_X2_openSlots h l0 l1 = some h2) : Ev yX2_openSlots cX2_openSlots 5 none 3 75 g 0 [] [(0, .ref l0), (1, .ref l1)] h none h2 := by
  unfold f_X2_openSlots at hf
  refine ev_iconst (v := 0) dX2_openSlots_0 (by decide) ?_
  refine ev_istore_n (lv2 := [(2, .int (0 : Int32)), (0, .ref l0), (1, .ref l1)]) dX2_openSlots_1 rfl (by decide) rfl ?_
  obtain ⟨h8, e9, hf⟩ := bn1_of hf
  refine ev_sub [1, 2, 0] rfl (lv2 := [(0, .ref l0), (1, .ref l1), (2, .int (0 : Int32))]) ?_
  refine lp_X2_openSlots_2 kl0 kl1 ?_ fu _ _ e9
  obtain rfl := Option.some.inj hf
  exact ev_return_ dX2_openSlots_84 rfl
def f_X2_hasMissing (h : Hp) (l0 : Nat) (l1 : Int32) (l2 : Int32) : Option (Int32) := (if (((l2.toUInt32 >>> ((l1 * (4 : Int32)).toUInt32 &&& Int32.toUInt32 31)).toInt32) &&& (hI h l0 3)) = (hI h l0 3) then (some (0 : Int32)) else (some (1 : Int32)))
set_option maxRecDepth 100000 in
set_option maxHeartbeats 4000000 in
theorem ev_X2_hasMissing {g : Gl} {h : Hp} {l0 : Nat} {l1 : Int32} {l2 : Int32} {rv : Int32} (kl0 : KD g.1 l0 2 0) (hf : f_X2_hasMissing h l0 l1 l2 = some rv) : Ev yX2_hasMissing cX2_hasMissing 3 (some .boolean) 0 0 g 0 [] [(0, .ref l0), (1, .int l1), (2, .int l2)] h (some (.int rv)) h := by
  unfold f_X2_hasMissing at hf
  refine ev_iload_n (n := 2) dX2_hasMissing_0 rfl rfl ?_
  refine ev_iload_n (n := 1) dX2_hasMissing_1 rfl rfl ?_
  refine ev_iconst (v := 4) dX2_hasMissing_2 (by decide) ?_
  refine ev_imul dX2_hasMissing_3 ?_
  refine ev_iushr dX2_hasMissing_4 ?_
  refine ev_aload_n (n := 0) dX2_hasMissing_5 rfl rfl ?_
  refine ev_get (v := .int (hI h l0 3)) 3 kl0 rfl (by decide) rfl lk_112 dX2_hasMissing_6 ?_
  refine ev_iand dX2_hasMissing_9 ?_
  refine ev_aload_n (n := 0) dX2_hasMissing_10 rfl rfl ?_
  refine ev_get (v := .int (hI h l0 3)) 3 kl0 rfl (by decide) rfl lk_112 dX2_hasMissing_11 ?_
  refine ev_icmp_eq (tgt := 21) dX2_hasMissing_14 (by decide) (fun c1 => ?_) (fun c1 => ?_)
  · replace hf := if_t c1 hf
    refine ev_iconst (v := 0) dX2_hasMissing_21 (by decide) ?_
    obtain rfl := Option.some.inj hf
    exact ev_ireturn dX2_hasMissing_22 ⟨.boolean, rfl, rfl⟩
  · replace hf := if_f c1 hf
    refine ev_iconst (v := 1) dX2_hasMissing_17 (by decide) ?_
    refine ev_goto (tgt := 22) dX2_hasMissing_18 (by decide) ?_
    obtain rfl := Option.some.inj hf
    exact ev_ireturn dX2_hasMissing_22 ⟨.boolean, rfl, rfl⟩
def f_X2_rarestFree_j105 (kk : Int32 → Int32 → Int32 → Option (Int32)) (h : Hp) (l0 : Nat) (l1 : Nat) (l2 : Int32) (l3 : Int32) (l4 : Int32) (l5 : Int32) (l6 : Int32) : Option (Int32) := (kk l4 l5 (l6 + 1))
set_option maxRecDepth 100000 in
set_option maxHeartbeats 4000000 in
theorem jn_X2_rarestFree_105 {g : Gl} {h : Hp} {kk : Int32 → Int32 → Int32 → Option (Int32)} {l0 : Nat} {l1 : Nat} {l2 : Int32} {l3 : Int32} {l4 : Int32} {l5 : Int32} {l6 : Int32}  {r : Option Value} {h2 : Hp} {o4 : Int32} (kl0 : KD g.1 l0 1 0) (kl1 : KD g.1 l1 2 0) (hx0 : Ev yX2_rarestFree cX2_rarestFree 8 (some .int) 1 22 g 111 [] [(4, .int o4)] h r h2) (hk : ∀ (x4 : Int32) (x5 : Int32) (x6 : Int32), kk x4 x5 x6 = some o4 → Ev yX2_rarestFree cX2_rarestFree 8 (some .int) 1 22 g 9 [] [(0, .ref l0), (1, .ref l1), (2, .int l2), (3, .int l3), (4, .int x4), (5, .int x5), (6, .int x6)] h r h2) (hf : f_X2_rarestFree_j105 kk h l0 l1 l2 l3 l4 l5 l6 = some o4) : Ev yX2_rarestFree cX2_rarestFree 8 (some .int) 1 22 g 105 [] [(0, .ref l0), (1, .ref l1), (2, .int l2), (3, .int l3), (4, .int l4), (5, .int l5), (6, .int l6)] h r h2 := by
  unfold f_X2_rarestFree_j105 at hf
  refine ev_iinc (z := 6) (v := (l6 + 1)) (lv2 := [(6, .int (l6 + 1)), (0, .ref l0), (1, .ref l1), (2, .int l2), (3, .int l3), (4, .int l4), (5, .int l5)]) dX2_rarestFree_105 rfl rfl (by decide) rfl ?_
  refine ev_goto (tgt := 9) dX2_rarestFree_108 (by decide) ?_
  refine ev_sub [1, 2, 3, 4, 5, 6, 0] rfl (lv2 := [(0, .ref l0), (1, .ref l1), (2, .int l2), (3, .int l3), (4, .int l4), (5, .int l5), (6, .int (l6 + 1))]) ?_
  exact hk _ _ _ hf
def f_X2_rarestFree_j97 (kk : Int32 → Int32 → Int32 → Option (Int32)) (h : Hp) (l0 : Nat) (l1 : Nat) (l2 : Int32) (l3 : Int32) (l6 : Int32) (l7 : Int32) : Option (Int32) := (f_X2_rarestFree_j105 kk h l0 l1 l2 l3 l6 l7 l6)
set_option maxRecDepth 100000 in
set_option maxHeartbeats 4000000 in
theorem jn_X2_rarestFree_97 {g : Gl} {h : Hp} {kk : Int32 → Int32 → Int32 → Option (Int32)} {l0 : Nat} {l1 : Nat} {l2 : Int32} {l3 : Int32} {l6 : Int32} {l7 : Int32}  {r : Option Value} {h2 : Hp} {o4 : Int32} (kl0 : KD g.1 l0 1 0) (kl1 : KD g.1 l1 2 0) (hx0 : Ev yX2_rarestFree cX2_rarestFree 8 (some .int) 1 22 g 111 [] [(4, .int o4)] h r h2) (hk : ∀ (x4 : Int32) (x5 : Int32) (x6 : Int32), kk x4 x5 x6 = some o4 → Ev yX2_rarestFree cX2_rarestFree 8 (some .int) 1 22 g 9 [] [(0, .ref l0), (1, .ref l1), (2, .int l2), (3, .int l3), (4, .int x4), (5, .int x5), (6, .int x6)] h r h2) (hf : f_X2_rarestFree_j97 kk h l0 l1 l2 l3 l6 l7 = some o4) : Ev yX2_rarestFree cX2_rarestFree 8 (some .int) 1 22 g 97 [] [(0, .ref l0), (1, .ref l1), (2, .int l2), (3, .int l3), (6, .int l6), (7, .int l7)] h r h2 := by
  unfold f_X2_rarestFree_j97 at hf
  refine ev_iload (n := 4) dX2_rarestFree_97 rfl ?_
  refine ev_istore (lv2 := [(4, .int l6), (0, .ref l0), (1, .ref l1), (2, .int l2), (3, .int l3), (6, .int l6), (7, .int l7)]) dX2_rarestFree_99 (by decide) rfl ?_
  refine ev_iload (n := 6) dX2_rarestFree_101 rfl ?_
  refine ev_istore (lv2 := [(5, .int l7), (4, .int l6), (0, .ref l0), (1, .ref l1), (2, .int l2), (3, .int l3), (6, .int l6), (7, .int l7)]) dX2_rarestFree_103 (by decide) rfl ?_
  refine ev_sub [2, 3, 4, 5, 1, 0, 6] rfl (lv2 := [(0, .ref l0), (1, .ref l1), (2, .int l2), (3, .int l3), (4, .int l6), (5, .int l7), (6, .int l6)]) ?_
  exact jn_X2_rarestFree_105 kl0 kl1 hx0 hk hf
def f_X2_rarestFree_j73 (kk : Int32 → Int32 → Int32 → Option (Int32)) (h : Hp) (l0 : Nat) (l1 : Nat) (l2 : Int32) (l3 : Int32) (l4 : Int32) (l5 : Int32) (l6 : Int32) (l7 : Int32) : Option (Int32) := (if l7 = l5 then (if inb l6 8 = true then (if inb l4 8 = true then (if (hI h (l0 + 2) l4.toNatClampNeg) ≤ (hI h (l0 + 2) l6.toNatClampNeg) then (f_X2_rarestFree_j105 kk h l0 l1 l2 l3 l4 l5 l6) else (f_X2_rarestFree_j97 kk h l0 l1 l2 l3 l6 l7)) else none) else none) else (f_X2_rarestFree_j105 kk h l0 l1 l2 l3 l4 l5 l6))
set_option maxRecDepth 100000 in
set_option maxHeartbeats 4000000 in
theorem jn_X2_rarestFree_73 {g : Gl} {h : Hp} {kk : Int32 → Int32 → Int32 → Option (Int32)} {l0 : Nat} {l1 : Nat} {l2 : Int32} {l3 : Int32} {l4 : Int32} {l5 : Int32} {l6 : Int32} {l7 : Int32}  {r : Option Value} {h2 : Hp} {o4 : Int32} (kl0 : KD g.1 l0 1 0) (kl1 : KD g.1 l1 2 0) (hx0 : Ev yX2_rarestFree cX2_rarestFree 8 (some .int) 1 22 g 111 [] [(4, .int o4)] h r h2) (hk : ∀ (x4 : Int32) (x5 : Int32) (x6 : Int32), kk x4 x5 x6 = some o4 → Ev yX2_rarestFree cX2_rarestFree 8 (some .int) 1 22 g 9 [] [(0, .ref l0), (1, .ref l1), (2, .int l2), (3, .int l3), (4, .int x4), (5, .int x5), (6, .int x6)] h r h2) (hf : f_X2_rarestFree_j73 kk h l0 l1 l2 l3 l4 l5 l6 l7 = some o4) : Ev yX2_rarestFree cX2_rarestFree 8 (some .int) 1 22 g 73 [] [(0, .ref l0), (1, .ref l1), (2, .int l2), (3, .int l3), (4, .int l4), (5, .int l5), (6, .int l6), (7, .int l7)] h r h2 := by
  unfold f_X2_rarestFree_j73 at hf
  refine ev_iload (n := 7) dX2_rarestFree_73 rfl ?_
  refine ev_iload (n := 5) dX2_rarestFree_75 rfl ?_
  refine ev_icmp_ne (tgt := 105) dX2_rarestFree_77 (by decide) (fun c1 => ?_) (fun c1 => ?_)
  · replace hf := if_f c1 hf
    refine ev_sub [0, 1, 2, 3, 4, 5, 6] rfl (lv2 := [(0, .ref l0), (1, .ref l1), (2, .int l2), (3, .int l3), (4, .int l4), (5, .int l5), (6, .int l6)]) ?_
    exact jn_X2_rarestFree_105 kl0 kl1 hx0 hk hf
  · replace hf := if_t c1 hf
    refine ev_aload_n (n := 0) dX2_rarestFree_80 rfl rfl ?_
    refine ev_get (v := .ref (l0 + 2)) 1 kl0 rfl (by decide) rfl lk_165 dX2_rarestFree_81 ?_
    refine ev_iload (n := 6) dX2_rarestFree_84 rfl ?_
    obtain ⟨gd3, hf⟩ := gd_of hf
    refine ev_iald (kd_1_1 kl0) (inb_of gd3) dX2_rarestFree_86 ?_
    refine ev_aload_n (n := 0) dX2_rarestFree_87 rfl rfl ?_
    refine ev_get (v := .ref (l0 + 2)) 1 kl0 rfl (by decide) rfl lk_165 dX2_rarestFree_88 ?_
    refine ev_iload (n := 4) dX2_rarestFree_91 rfl ?_
    obtain ⟨gd4, hf⟩ := gd_of hf
    refine ev_iald (kd_1_1 kl0) (inb_of gd4) dX2_rarestFree_93 ?_
    refine ev_icmp_ge (tgt := 105) dX2_rarestFree_94 (by decide) (fun c1 => ?_) (fun c1 => ?_)
    · replace hf := if_t c1 hf
      refine ev_sub [0, 1, 2, 3, 4, 5, 6] rfl (lv2 := [(0, .ref l0), (1, .ref l1), (2, .int l2), (3, .int l3), (4, .int l4), (5, .int l5), (6, .int l6)]) ?_
      exact jn_X2_rarestFree_105 kl0 kl1 hx0 hk hf
    · replace hf := if_f c1 hf
      refine ev_sub [0, 1, 2, 3, 6, 7] rfl (lv2 := [(0, .ref l0), (1, .ref l1), (2, .int l2), (3, .int l3), (6, .int l6), (7, .int l7)]) ?_
      exact jn_X2_rarestFree_97 kl0 kl1 hx0 hk hf
def f_X2_rarestFree_j56 (kk : Int32 → Int32 → Int32 → Option (Int32)) (h : Hp) (s0 : Int32) (l0 : Nat) (l1 : Nat) (l2 : Int32) (l3 : Int32) (l4 : Int32) (l5 : Int32) (l6 : Int32) : Option (Int32) := (if l4 < 0 then (f_X2_rarestFree_j97 kk h l0 l1 l2 l3 l6 s0) else (if s0 = 0 then (f_X2_rarestFree_j73 kk h l0 l1 l2 l3 l4 l5 l6 s0) else (if l5 = 0 then (f_X2_rarestFree_j97 kk h l0 l1 l2 l3 l6 s0) else (f_X2_rarestFree_j73 kk h l0 l1 l2 l3 l4 l5 l6 s0))))
set_option maxRecDepth 100000 in
set_option maxHeartbeats 4000000 in
theorem jn_X2_rarestFree_56 {g : Gl} {h : Hp} {kk : Int32 → Int32 → Int32 → Option (Int32)} {s0 : Int32} {l0 : Nat} {l1 : Nat} {l2 : Int32} {l3 : Int32} {l4 : Int32} {l5 : Int32} {l6 : Int32}  {r : Option Value} {h2 : Hp} {o4 : Int32} (kl0 : KD g.1 l0 1 0) (kl1 : KD g.1 l1 2 0) (hx0 : Ev yX2_rarestFree cX2_rarestFree 8 (some .int) 1 22 g 111 [] [(4, .int o4)] h r h2) (hk : ∀ (x4 : Int32) (x5 : Int32) (x6 : Int32), kk x4 x5 x6 = some o4 → Ev yX2_rarestFree cX2_rarestFree 8 (some .int) 1 22 g 9 [] [(0, .ref l0), (1, .ref l1), (2, .int l2), (3, .int l3), (4, .int x4), (5, .int x5), (6, .int x6)] h r h2) (hf : f_X2_rarestFree_j56 kk h s0 l0 l1 l2 l3 l4 l5 l6 = some o4) : Ev yX2_rarestFree cX2_rarestFree 8 (some .int) 1 22 g 56 [.int s0] [(0, .ref l0), (1, .ref l1), (2, .int l2), (3, .int l3), (4, .int l4), (5, .int l5), (6, .int l6)] h r h2 := by
  unfold f_X2_rarestFree_j56 at hf
  refine ev_istore (lv2 := [(7, .int s0), (0, .ref l0), (1, .ref l1), (2, .int l2), (3, .int l3), (4, .int l4), (5, .int l5), (6, .int l6)]) dX2_rarestFree_56 (by decide) rfl ?_
  refine ev_iload (n := 5) dX2_rarestFree_58 rfl ?_
  refine ev_if_lt (tgt := 97) dX2_rarestFree_60 (by decide) (fun c1 => ?_) (fun c1 => ?_)
  · replace hf := if_t c1 hf
    refine ev_sub [1, 2, 3, 4, 7, 0] rfl (lv2 := [(0, .ref l0), (1, .ref l1), (2, .int l2), (3, .int l3), (6, .int l6), (7, .int s0)]) ?_
    exact jn_X2_rarestFree_97 kl0 kl1 hx0 hk hf
  · replace hf := if_f c1 hf
    refine ev_iload (n := 0) dX2_rarestFree_63 rfl ?_
    refine ev_if_eq (tgt := 73) dX2_rarestFree_65 (by decide) (fun c1 => ?_) (fun c1 => ?_)
    · replace hf := if_t c1 hf
      refine ev_sub [1, 2, 3, 4, 5, 6, 7, 0] rfl (lv2 := [(0, .ref l0), (1, .ref l1), (2, .int l2), (3, .int l3), (4, .int l4), (5, .int l5), (6, .int l6), (7, .int s0)]) ?_
      exact jn_X2_rarestFree_73 kl0 kl1 hx0 hk hf
    · replace hf := if_f c1 hf
      refine ev_iload (n := 6) dX2_rarestFree_68 rfl ?_
      refine ev_if_eq (tgt := 97) dX2_rarestFree_70 (by decide) (fun c1 => ?_) (fun c1 => ?_)
      · replace hf := if_t c1 hf
        refine ev_sub [1, 2, 3, 4, 7, 0] rfl (lv2 := [(0, .ref l0), (1, .ref l1), (2, .int l2), (3, .int l3), (6, .int l6), (7, .int s0)]) ?_
        exact jn_X2_rarestFree_97 kl0 kl1 hx0 hk hf
      · replace hf := if_f c1 hf
        refine ev_sub [1, 2, 3, 4, 5, 6, 7, 0] rfl (lv2 := [(0, .ref l0), (1, .ref l1), (2, .int l2), (3, .int l3), (4, .int l4), (5, .int l5), (6, .int l6), (7, .int s0)]) ?_
        exact jn_X2_rarestFree_73 kl0 kl1 hx0 hk hf
def f_X2_rarestFree_l9 (h : Hp) (l0 : Nat) (l1 : Nat) (l2 : Int32) (l3 : Int32) : Nat → Int32 → Int32 → Int32 → Option (Int32)
  | 0, _, _, _ => none
  | fu1 + 1, l4, l5, l6 => (if (hI h l1 0) ≤ l6 then (some l4) else (if ((l2 >>> (l6 &&& 31)) &&& (1 : Int32)) = 0 then (f_X2_rarestFree_j105 (f_X2_rarestFree_l9 h l0 l1 l2 l3 fu1) h l0 l1 l2 l3 l4 l5 l6) else (bn1 (f_X2_hasMissing h l1 l6 l3) (fun v1 => (if v1 = 0 then (f_X2_rarestFree_j105 (f_X2_rarestFree_l9 h l0 l1 l2 l3 fu1) h l0 l1 l2 l3 l4 l5 l6) else (if (((l3.toUInt32 >>> ((l6 * (4 : Int32)).toUInt32 &&& Int32.toUInt32 31)).toInt32) &&& (hI h l1 3)) = 0 then (f_X2_rarestFree_j56 (f_X2_rarestFree_l9 h l0 l1 l2 l3 fu1) h (0 : Int32) l0 l1 l2 l3 l4 l5 l6) else (f_X2_rarestFree_j56 (f_X2_rarestFree_l9 h l0 l1 l2 l3 fu1) h (1 : Int32) l0 l1 l2 l3 l4 l5 l6)))))))
theorem f_X2_rarestFree_l9_s (h : Hp) (l0 : Nat) (l1 : Nat) (l2 : Int32) (l3 : Int32) (fu1 : Nat) (l4 : Int32) (l5 : Int32) (l6 : Int32) : f_X2_rarestFree_l9 h l0 l1 l2 l3 (fu1 + 1) l4 l5 l6 = (if (hI h l1 0) ≤ l6 then (some l4) else (if ((l2 >>> (l6 &&& 31)) &&& (1 : Int32)) = 0 then (f_X2_rarestFree_j105 (f_X2_rarestFree_l9 h l0 l1 l2 l3 fu1) h l0 l1 l2 l3 l4 l5 l6) else (bn1 (f_X2_hasMissing h l1 l6 l3) (fun v1 => (if v1 = 0 then (f_X2_rarestFree_j105 (f_X2_rarestFree_l9 h l0 l1 l2 l3 fu1) h l0 l1 l2 l3 l4 l5 l6) else (if (((l3.toUInt32 >>> ((l6 * (4 : Int32)).toUInt32 &&& Int32.toUInt32 31)).toInt32) &&& (hI h l1 3)) = 0 then (f_X2_rarestFree_j56 (f_X2_rarestFree_l9 h l0 l1 l2 l3 fu1) h (0 : Int32) l0 l1 l2 l3 l4 l5 l6) else (f_X2_rarestFree_j56 (f_X2_rarestFree_l9 h l0 l1 l2 l3 fu1) h (1 : Int32) l0 l1 l2 l3 l4 l5 l6))))))) := rfl
theorem f_X2_rarestFree_l9_0 (h : Hp) (l0 : Nat) (l1 : Nat) (l2 : Int32) (l3 : Int32) (l4 : Int32) (l5 : Int32) (l6 : Int32) : f_X2_rarestFree_l9 h l0 l1 l2 l3 0 l4 l5 l6 = none := rfl
set_option maxRecDepth 100000 in
set_option maxHeartbeats 4000000 in
theorem lp_X2_rarestFree_9 {g : Gl} {h : Hp} {l0 : Nat} {l1 : Nat} {l2 : Int32} {l3 : Int32} {r : Option Value} {h2 : Hp} {o4 : Int32} (kl0 : KD g.1 l0 1 0) (kl1 : KD g.1 l1 2 0) (hx0 : Ev yX2_rarestFree cX2_rarestFree 8 (some .int) 1 22 g 111 [] [(4, .int o4)] h r h2) : ∀ (fu1 : Nat) (l4 : Int32) (l5 : Int32) (l6 : Int32), f_X2_rarestFree_l9 h l0 l1 l2 l3 fu1 l4 l5 l6 = some o4 → Ev yX2_rarestFree cX2_rarestFree 8 (some .int) 1 22 g 9 [] [(0, .ref l0), (1, .ref l1), (2, .int l2), (3, .int l3), (4, .int l4), (5, .int l5), (6, .int l6)] h r h2 := by
  intro fu1
  induction fu1 with
  | zero =>
    intro l4 l5 l6 hf
    cases hf
  | succ fu1 ih =>
    intro l4 l5 l6 hf
    rw [f_X2_rarestFree_l9_s] at hf
    have hk := ih
    refine ev_iload (n := 6) dX2_rarestFree_9 rfl ?_
    refine ev_aload_n (n := 1) dX2_rarestFree_11 rfl rfl ?_
    refine ev_get (v := .int (hI h l1 0)) 0 kl1 rfl (by decide) rfl lk_104 dX2_rarestFree_12 ?_
    refine ev_icmp_ge (tgt := 111) dX2_rarestFree_15 (by decide) (fun c1 => ?_) (fun c1 => ?_)
    · replace hf := if_t c1 hf
      refine ev_sub [4] rfl (lv2 := [(4, .int l4)]) ?_
      obtain rfl := Option.some.inj hf
      exact hx0
    · replace hf := if_f c1 hf
      refine ev_iload_n (n := 2) dX2_rarestFree_18 rfl rfl ?_
      refine ev_iload (n := 6) dX2_rarestFree_19 rfl ?_
      refine ev_ishr dX2_rarestFree_21 ?_
      refine ev_iconst (v := 1) dX2_rarestFree_22 (by decide) ?_
      refine ev_iand dX2_rarestFree_23 ?_
      refine ev_if_eq (tgt := 105) dX2_rarestFree_24 (by decide) (fun c1 => ?_) (fun c1 => ?_)
      · replace hf := if_t c1 hf
        exact jn_X2_rarestFree_105 kl0 kl1 hx0 hk hf
      · replace hf := if_f c1 hf
        refine ev_aload_n (n := 1) dX2_rarestFree_27 rfl rfl ?_
        refine ev_iload (n := 6) dX2_rarestFree_28 rfl ?_
        refine ev_iload_n (n := 3) dX2_rarestFree_30 rfl rfl ?_
        obtain ⟨v1, e2, hf⟩ := bn1_of hf
        refine ev_callSi (As := [.ref l1, .int l6, .int l3]) cal_X2_hasMissing (ev_X2_hasMissing kl1 e2) (Nat.le_of_ble_eq_true rfl) rfl lk_403 (by decide) (by decide) (Nat.le_of_ble_eq_true rfl) dX2_rarestFree_31 rfl ?_
        refine ev_if_eq (tgt := 105) dX2_rarestFree_34 (by decide) (fun c1 => ?_) (fun c1 => ?_)
        · replace hf := if_t c1 hf
          exact jn_X2_rarestFree_105 kl0 kl1 hx0 hk hf
        · replace hf := if_f c1 hf
          refine ev_iload_n (n := 3) dX2_rarestFree_37 rfl rfl ?_
          refine ev_iload (n := 6) dX2_rarestFree_38 rfl ?_
          refine ev_iconst (v := 4) dX2_rarestFree_40 (by decide) ?_
          refine ev_imul dX2_rarestFree_41 ?_
          refine ev_iushr dX2_rarestFree_42 ?_
          refine ev_aload_n (n := 1) dX2_rarestFree_43 rfl rfl ?_
          refine ev_get (v := .int (hI h l1 3)) 3 kl1 rfl (by decide) rfl lk_112 dX2_rarestFree_44 ?_
          refine ev_iand dX2_rarestFree_47 ?_
          refine ev_if_eq (tgt := 55) dX2_rarestFree_48 (by decide) (fun c1 => ?_) (fun c1 => ?_)
          · replace hf := if_t c1 hf
            refine ev_iconst (v := 0) dX2_rarestFree_55 (by decide) ?_
            exact jn_X2_rarestFree_56 kl0 kl1 hx0 hk hf
          · replace hf := if_f c1 hf
            refine ev_iconst (v := 1) dX2_rarestFree_51 (by decide) ?_
            refine ev_goto (tgt := 56) dX2_rarestFree_52 (by decide) ?_
            exact jn_X2_rarestFree_56 kl0 kl1 hx0 hk hf
def f_X2_rarestFree (h : Hp) (l0 : Nat) (l1 : Nat) (l2 : Int32) (l3 : Int32) : Option (Int32) := (bn1 (f_X2_rarestFree_l9 h l0 l1 l2 l3 fu (-1 : Int32) (0 : Int32) (0 : Int32)) (fun w4_5 => (some w4_5)))
set_option maxRecDepth 100000 in
set_option maxHeartbeats 4000000 in
theorem ev_X2_rarestFree {g : Gl} {h : Hp} {l0 : Nat} {l1 : Nat} {l2 : Int32} {l3 : Int32} {rv : Int32} (kl0 : KD g.1 l0 1 0) (kl1 : KD g.1 l1 2 0) (hf : f_X2_rarestFree h l0 l1 l2 l3 = some rv) : Ev yX2_rarestFree cX2_rarestFree 8 (some .int) 1 22 g 0 [] [(0, .ref l0), (1, .ref l1), (2, .int l2), (3, .int l3)] h (some (.int rv)) h := by
  unfold f_X2_rarestFree at hf
  refine ev_iconst (v := -1) dX2_rarestFree_0 (by decide) ?_
  refine ev_istore (lv2 := [(4, .int (-1 : Int32)), (0, .ref l0), (1, .ref l1), (2, .int l2), (3, .int l3)]) dX2_rarestFree_1 (by decide) rfl ?_
  refine ev_iconst (v := 0) dX2_rarestFree_3 (by decide) ?_
  refine ev_istore (lv2 := [(5, .int (0 : Int32)), (4, .int (-1 : Int32)), (0, .ref l0), (1, .ref l1), (2, .int l2), (3, .int l3)]) dX2_rarestFree_4 (by decide) rfl ?_
  refine ev_iconst (v := 0) dX2_rarestFree_6 (by decide) ?_
  refine ev_istore (lv2 := [(6, .int (0 : Int32)), (5, .int (0 : Int32)), (4, .int (-1 : Int32)), (0, .ref l0), (1, .ref l1), (2, .int l2), (3, .int l3)]) dX2_rarestFree_7 (by decide) rfl ?_
  obtain ⟨w4_5, e6, hf⟩ := bn1_of hf
  refine ev_sub [3, 4, 5, 6, 2, 1, 0] rfl (lv2 := [(0, .ref l0), (1, .ref l1), (2, .int l2), (3, .int l3), (4, .int (-1 : Int32)), (5, .int (0 : Int32)), (6, .int (0 : Int32))]) ?_
  refine lp_X2_rarestFree_9 kl0 kl1 ?_ fu _ _ _ e6
  refine ev_iload (n := 0) dX2_rarestFree_111 rfl ?_
  obtain rfl := Option.some.inj hf
  exact ev_ireturn dX2_rarestFree_113 ⟨.int, rfl, rfl⟩
def f_X2_leastMissing_l2 (h : Hp) (l0 : Nat) (l1 : Int32) (l2 : Int32) : Nat → Int32 → Option (Nat × Int32)
  | 0, _ => none
  | fu1 + 1, l3 => (if (hI h l0 1) ≤ l3 then (some (1, 0)) else (if (((l2.toUInt32 >>> (((l1 * (4 : Int32)) + l3).toUInt32 &&& Int32.toUInt32 31)).toInt32) &&& (1 : Int32)) = 0 then (some (0, ((l1 * (4 : Int32)) + l3))) else (f_X2_leastMissing_l2 h l0 l1 l2 fu1 (l3 + 1))))
theorem f_X2_leastMissing_l2_s (h : Hp) (l0 : Nat) (l1 : Int32) (l2 : Int32) (fu1 : Nat) (l3 : Int32) : f_X2_leastMissing_l2 h l0 l1 l2 (fu1 + 1) l3 = (if (hI h l0 1) ≤ l3 then (some (1, 0)) else (if (((l2.toUInt32 >>> (((l1 * (4 : Int32)) + l3).toUInt32 &&& Int32.toUInt32 31)).toInt32) &&& (1 : Int32)) = 0 then (some (0, ((l1 * (4 : Int32)) + l3))) else (f_X2_leastMissing_l2 h l0 l1 l2 fu1 (l3 + 1)))) := rfl
theorem f_X2_leastMissing_l2_0 (h : Hp) (l0 : Nat) (l1 : Int32) (l2 : Int32) (l3 : Int32) : f_X2_leastMissing_l2 h l0 l1 l2 0 l3 = none := rfl
set_option maxRecDepth 100000 in
set_option maxHeartbeats 4000000 in
theorem lp_X2_leastMissing_2 {g : Gl} {h : Hp} {l0 : Nat} {l1 : Int32} {l2 : Int32} {r : Option Value} {h2 : Hp} {tg : Nat} {o4 : Int32} (kl0 : KD g.1 l0 2 0) (hx0 : tg = 0 → Ev yX2_leastMissing cX2_leastMissing 5 (some .int) 0 0 g 26 [] [(4, .int o4)] h r h2) (hx1 : tg = 1 → Ev yX2_leastMissing cX2_leastMissing 5 (some .int) 0 0 g 35 [] [] h r h2) : ∀ (fu1 : Nat) (l3 : Int32), f_X2_leastMissing_l2 h l0 l1 l2 fu1 l3 = some (tg, o4) → Ev yX2_leastMissing cX2_leastMissing 5 (some .int) 0 0 g 2 [] [(0, .ref l0), (1, .int l1), (2, .int l2), (3, .int l3)] h r h2 := by
  intro fu1
  induction fu1 with
  | zero =>
    intro l3 hf
    cases hf
  | succ fu1 ih =>
    intro l3 hf
    rw [f_X2_leastMissing_l2_s] at hf
    have hk := ih
    refine ev_iload_n (n := 3) dX2_leastMissing_2 rfl rfl ?_
    refine ev_aload_n (n := 0) dX2_leastMissing_3 rfl rfl ?_
    refine ev_get (v := .int (hI h l0 1)) 1 kl0 rfl (by decide) rfl lk_108 dX2_leastMissing_4 ?_
    refine ev_icmp_ge (tgt := 35) dX2_leastMissing_7 (by decide) (fun c1 => ?_) (fun c1 => ?_)
    · replace hf := if_t c1 hf
      refine ev_sub [] rfl (lv2 := []) ?_
      obtain ⟨rfl, rfl⟩ := Prod.mk.inj (Option.some.inj hf)
      exact hx1 rfl
    · replace hf := if_f c1 hf
      refine ev_iload_n (n := 1) dX2_leastMissing_10 rfl rfl ?_
      refine ev_iconst (v := 4) dX2_leastMissing_11 (by decide) ?_
      refine ev_imul dX2_leastMissing_12 ?_
      refine ev_iload_n (n := 3) dX2_leastMissing_13 rfl rfl ?_
      refine ev_iadd dX2_leastMissing_14 ?_
      refine ev_istore (lv2 := [(4, .int ((l1 * (4 : Int32)) + l3)), (0, .ref l0), (1, .int l1), (2, .int l2), (3, .int l3)]) dX2_leastMissing_15 (by decide) rfl ?_
      refine ev_iload_n (n := 3) dX2_leastMissing_17 rfl rfl ?_
      refine ev_iload (n := 0) dX2_leastMissing_18 rfl ?_
      refine ev_iushr dX2_leastMissing_20 ?_
      refine ev_iconst (v := 1) dX2_leastMissing_21 (by decide) ?_
      refine ev_iand dX2_leastMissing_22 ?_
      refine ev_if_ne (tgt := 29) dX2_leastMissing_23 (by decide) (fun c1 => ?_) (fun c1 => ?_)
      · replace hf := if_f c1 hf
        refine ev_iinc (z := 4) (v := (l3 + 1)) (lv2 := [(3, .int (l3 + 1)), (4, .int ((l1 * (4 : Int32)) + l3)), (0, .ref l0), (1, .int l1), (2, .int l2)]) dX2_leastMissing_29 rfl rfl (by decide) rfl ?_
        refine ev_goto (tgt := 2) dX2_leastMissing_32 (by decide) ?_
        refine ev_sub [2, 3, 4, 0] rfl (lv2 := [(0, .ref l0), (1, .int l1), (2, .int l2), (3, .int (l3 + 1))]) ?_
        exact hk _ hf
      · replace hf := if_t c1 hf
        refine ev_sub [0] rfl (lv2 := [(4, .int ((l1 * (4 : Int32)) + l3))]) ?_
        obtain ⟨rfl, rfl⟩ := Prod.mk.inj (Option.some.inj hf)
        exact hx0 rfl
def f_X2_leastMissing (h : Hp) (l0 : Nat) (l1 : Int32) (l2 : Int32) : Option (Int32) := (bn2 (f_X2_leastMissing_l2 h l0 l1 l2 fu (0 : Int32)) (fun tg2 w4_1 => (if tg2 = 0 then (some w4_1) else (some (-1 : Int32)))))
set_option maxRecDepth 100000 in
set_option maxHeartbeats 4000000 in
theorem ev_X2_leastMissing {g : Gl} {h : Hp} {l0 : Nat} {l1 : Int32} {l2 : Int32} {rv : Int32} (kl0 : KD g.1 l0 2 0) (hf : f_X2_leastMissing h l0 l1 l2 = some rv) : Ev yX2_leastMissing cX2_leastMissing 5 (some .int) 0 0 g 0 [] [(0, .ref l0), (1, .int l1), (2, .int l2)] h (some (.int rv)) h := by
  unfold f_X2_leastMissing at hf
  refine ev_iconst (v := 0) dX2_leastMissing_0 (by decide) ?_
  refine ev_istore_n (lv2 := [(3, .int (0 : Int32)), (0, .ref l0), (1, .int l1), (2, .int l2)]) dX2_leastMissing_1 rfl (by decide) rfl ?_
  obtain ⟨tg2, w4_1, e2, hf⟩ := bn2_of hf
  refine ev_sub [1, 2, 3, 0] rfl (lv2 := [(0, .ref l0), (1, .int l1), (2, .int l2), (3, .int (0 : Int32))]) ?_
  refine lp_X2_leastMissing_2 kl0 (fun ht => ?_) (fun ht => ?_) fu _ e2
  · subst ht
    replace hf : _ = _ := hf
    replace hf := if_t rfl hf
    refine ev_iload (n := 0) dX2_leastMissing_26 rfl ?_
    obtain rfl := Option.some.inj hf
    exact ev_ireturn dX2_leastMissing_28 ⟨.int, rfl, rfl⟩
  · subst ht
    replace hf : _ = _ := hf
    replace hf := if_f (by decide) hf
    refine ev_iconst (v := -1) dX2_leastMissing_35 (by decide) ?_
    obtain rfl := Option.some.inj hf
    exact ev_ireturn dX2_leastMissing_36 ⟨.int, rfl, rfl⟩
def f_X2_leastFree_j29 (kk : Int32 → Option (Nat × Int32)) (h : Hp) (l0 : Nat) (l1 : Int32) (l2 : Int32) (l3 : Int32) : Option (Nat × Int32) := (kk (l3 + 1))
set_option maxRecDepth 100000 in
set_option maxHeartbeats 4000000 in
theorem jn_X2_leastFree_29 {g : Gl} {h : Hp} {kk : Int32 → Option (Nat × Int32)} {l0 : Nat} {l1 : Int32} {l2 : Int32} {l3 : Int32}  {r : Option Value} {h2 : Hp} {tg : Nat} {o3 : Int32} (kl0 : KD g.1 l0 2 0) (hx0 : tg = 0 → Ev yX2_leastFree cX2_leastFree 4 (some .int) 1 22 g 27 [] [(3, .int o3)] h r h2) (hx1 : tg = 1 → Ev yX2_leastFree cX2_leastFree 4 (some .int) 1 22 g 35 [] [] h r h2) (hk : ∀ (x3 : Int32), kk x3 = some (tg, o3) → Ev yX2_leastFree cX2_leastFree 4 (some .int) 1 22 g 2 [] [(0, .ref l0), (1, .int l1), (2, .int l2), (3, .int x3)] h r h2) (hf : f_X2_leastFree_j29 kk h l0 l1 l2 l3 = some (tg, o3)) : Ev yX2_leastFree cX2_leastFree 4 (some .int) 1 22 g 29 [] [(0, .ref l0), (1, .int l1), (2, .int l2), (3, .int l3)] h r h2 := by
  unfold f_X2_leastFree_j29 at hf
  refine ev_iinc (z := 3) (v := (l3 + 1)) (lv2 := [(3, .int (l3 + 1)), (0, .ref l0), (1, .int l1), (2, .int l2)]) dX2_leastFree_29 rfl rfl (by decide) rfl ?_
  refine ev_goto (tgt := 2) dX2_leastFree_32 (by decide) ?_
  refine ev_sub [1, 2, 3, 0] rfl (lv2 := [(0, .ref l0), (1, .int l1), (2, .int l2), (3, .int (l3 + 1))]) ?_
  exact hk _ hf
def f_X2_leastFree_l2 (h : Hp) (l0 : Nat) (l1 : Int32) (l2 : Int32) : Nat → Int32 → Option (Nat × Int32)
  | 0, _ => none
  | fu1 + 1, l3 => (if (hI h l0 0) ≤ l3 then (some (1, 0)) else (if ((l1 >>> (l3 &&& 31)) &&& (1 : Int32)) = 0 then (f_X2_leastFree_j29 (f_X2_leastFree_l2 h l0 l1 l2 fu1) h l0 l1 l2 l3) else (bn1 (f_X2_hasMissing h l0 l3 l2) (fun v1 => (if v1 = 0 then (f_X2_leastFree_j29 (f_X2_leastFree_l2 h l0 l1 l2 fu1) h l0 l1 l2 l3) else (some (0, l3)))))))
theorem f_X2_leastFree_l2_s (h : Hp) (l0 : Nat) (l1 : Int32) (l2 : Int32) (fu1 : Nat) (l3 : Int32) : f_X2_leastFree_l2 h l0 l1 l2 (fu1 + 1) l3 = (if (hI h l0 0) ≤ l3 then (some (1, 0)) else (if ((l1 >>> (l3 &&& 31)) &&& (1 : Int32)) = 0 then (f_X2_leastFree_j29 (f_X2_leastFree_l2 h l0 l1 l2 fu1) h l0 l1 l2 l3) else (bn1 (f_X2_hasMissing h l0 l3 l2) (fun v1 => (if v1 = 0 then (f_X2_leastFree_j29 (f_X2_leastFree_l2 h l0 l1 l2 fu1) h l0 l1 l2 l3) else (some (0, l3))))))) := rfl
theorem f_X2_leastFree_l2_0 (h : Hp) (l0 : Nat) (l1 : Int32) (l2 : Int32) (l3 : Int32) : f_X2_leastFree_l2 h l0 l1 l2 0 l3 = none := rfl
set_option maxRecDepth 100000 in
set_option maxHeartbeats 4000000 in
theorem lp_X2_leastFree_2 {g : Gl} {h : Hp} {l0 : Nat} {l1 : Int32} {l2 : Int32} {r : Option Value} {h2 : Hp} {tg : Nat} {o3 : Int32} (kl0 : KD g.1 l0 2 0) (hx0 : tg = 0 → Ev yX2_leastFree cX2_leastFree 4 (some .int) 1 22 g 27 [] [(3, .int o3)] h r h2) (hx1 : tg = 1 → Ev yX2_leastFree cX2_leastFree 4 (some .int) 1 22 g 35 [] [] h r h2) : ∀ (fu1 : Nat) (l3 : Int32), f_X2_leastFree_l2 h l0 l1 l2 fu1 l3 = some (tg, o3) → Ev yX2_leastFree cX2_leastFree 4 (some .int) 1 22 g 2 [] [(0, .ref l0), (1, .int l1), (2, .int l2), (3, .int l3)] h r h2 := by
  intro fu1
  induction fu1 with
  | zero =>
    intro l3 hf
    cases hf
  | succ fu1 ih =>
    intro l3 hf
    rw [f_X2_leastFree_l2_s] at hf
    have hk := ih
    refine ev_iload_n (n := 3) dX2_leastFree_2 rfl rfl ?_
    refine ev_aload_n (n := 0) dX2_leastFree_3 rfl rfl ?_
    refine ev_get (v := .int (hI h l0 0)) 0 kl0 rfl (by decide) rfl lk_104 dX2_leastFree_4 ?_
    refine ev_icmp_ge (tgt := 35) dX2_leastFree_7 (by decide) (fun c1 => ?_) (fun c1 => ?_)
    · replace hf := if_t c1 hf
      refine ev_sub [] rfl (lv2 := []) ?_
      obtain ⟨rfl, rfl⟩ := Prod.mk.inj (Option.some.inj hf)
      exact hx1 rfl
    · replace hf := if_f c1 hf
      refine ev_iload_n (n := 1) dX2_leastFree_10 rfl rfl ?_
      refine ev_iload_n (n := 3) dX2_leastFree_11 rfl rfl ?_
      refine ev_ishr dX2_leastFree_12 ?_
      refine ev_iconst (v := 1) dX2_leastFree_13 (by decide) ?_
      refine ev_iand dX2_leastFree_14 ?_
      refine ev_if_eq (tgt := 29) dX2_leastFree_15 (by decide) (fun c1 => ?_) (fun c1 => ?_)
      · replace hf := if_t c1 hf
        exact jn_X2_leastFree_29 kl0 hx0 hx1 hk hf
      · replace hf := if_f c1 hf
        refine ev_aload_n (n := 0) dX2_leastFree_18 rfl rfl ?_
        refine ev_iload_n (n := 3) dX2_leastFree_19 rfl rfl ?_
        refine ev_iload_n (n := 2) dX2_leastFree_20 rfl rfl ?_
        obtain ⟨v1, e2, hf⟩ := bn1_of hf
        refine ev_callSi (As := [.ref l0, .int l3, .int l2]) cal_X2_hasMissing (ev_X2_hasMissing kl0 e2) (Nat.le_of_ble_eq_true rfl) rfl lk_403 (by decide) (by decide) (Nat.le_of_ble_eq_true rfl) dX2_leastFree_21 rfl ?_
        refine ev_if_eq (tgt := 29) dX2_leastFree_24 (by decide) (fun c1 => ?_) (fun c1 => ?_)
        · replace hf := if_t c1 hf
          exact jn_X2_leastFree_29 kl0 hx0 hx1 hk hf
        · replace hf := if_f c1 hf
          refine ev_sub [3] rfl (lv2 := [(3, .int l3)]) ?_
          obtain ⟨rfl, rfl⟩ := Prod.mk.inj (Option.some.inj hf)
          exact hx0 rfl
def f_X2_leastFree (h : Hp) (l0 : Nat) (l1 : Int32) (l2 : Int32) : Option (Int32) := (bn2 (f_X2_leastFree_l2 h l0 l1 l2 fu (0 : Int32)) (fun tg2 w3_3 => (if tg2 = 0 then (some w3_3) else (some (-1 : Int32)))))
set_option maxRecDepth 100000 in
set_option maxHeartbeats 4000000 in
theorem ev_X2_leastFree {g : Gl} {h : Hp} {l0 : Nat} {l1 : Int32} {l2 : Int32} {rv : Int32} (kl0 : KD g.1 l0 2 0) (hf : f_X2_leastFree h l0 l1 l2 = some rv) : Ev yX2_leastFree cX2_leastFree 4 (some .int) 1 22 g 0 [] [(0, .ref l0), (1, .int l1), (2, .int l2)] h (some (.int rv)) h := by
  unfold f_X2_leastFree at hf
  refine ev_iconst (v := 0) dX2_leastFree_0 (by decide) ?_
  refine ev_istore_n (lv2 := [(3, .int (0 : Int32)), (0, .ref l0), (1, .int l1), (2, .int l2)]) dX2_leastFree_1 rfl (by decide) rfl ?_
  obtain ⟨tg2, w3_3, e4, hf⟩ := bn2_of hf
  refine ev_sub [1, 2, 3, 0] rfl (lv2 := [(0, .ref l0), (1, .int l1), (2, .int l2), (3, .int (0 : Int32))]) ?_
  refine lp_X2_leastFree_2 kl0 (fun ht => ?_) (fun ht => ?_) fu _ e4
  · subst ht
    replace hf : _ = _ := hf
    replace hf := if_t rfl hf
    refine ev_iload_n (n := 0) dX2_leastFree_27 rfl rfl ?_
    obtain rfl := Option.some.inj hf
    exact ev_ireturn dX2_leastFree_28 ⟨.int, rfl, rfl⟩
  · subst ht
    replace hf : _ = _ := hf
    replace hf := if_f (by decide) hf
    refine ev_iconst (v := -1) dX2_leastFree_35 (by decide) ?_
    obtain rfl := Option.some.inj hf
    exact ev_ireturn dX2_leastFree_36 ⟨.int, rfl, rfl⟩
def f_X2_chooseSpot (h : Hp) (l0 : Nat) (l1 : Nat) (l2 : Int32) (l3 : Int32) (l4 : Int32) : Option (Int32) := (if inb l2 6 = true then (bn1 (f_X3_claimsOf h l1 l3) (fun v2 => (bn1 (f_X2_rarestFree h l0 l1 (v2 &&& ((hI h ((l1 + 2) + 1 + 4 * l2.toNatClampNeg) 2) ^^^ (-1 : Int32))) ((hI h ((l1 + 2) + 1 + 4 * l2.toNatClampNeg) 3) ||| l4)) (fun v4 => (if v4 < 0 then (bn1 (f_X3_leftOf h l1 ((l1 + 2) + 1 + 4 * l2.toNatClampNeg)) (fun v6 => (if v6 ≤ (hI h (l1 + 1) (2 : Int32).toNatClampNeg) then (bn1 (f_X2_leastFree h l1 (v2 &&& ((hI h ((l1 + 2) + 1 + 4 * l2.toNatClampNeg) 2) ^^^ (-1 : Int32))) (hI h ((l1 + 2) + 1 + 4 * l2.toNatClampNeg) 3)) (fun v9 => (if v9 < 0 then (some (-1 : Int32)) else (bn1 (f_X2_leastMissing h l1 v9 (hI h ((l1 + 2) + 1 + 4 * l2.toNatClampNeg) 3)) (fun v11 => (some v11)))))) else (some (-1 : Int32))))) else (bn1 (f_X2_leastMissing h l1 v4 ((hI h ((l1 + 2) + 1 + 4 * l2.toNatClampNeg) 3) ||| l4)) (fun v13 => (some v13)))))))) else none)
set_option maxRecDepth 100000 in
set_option maxHeartbeats 4000000 in
theorem ev_X2_chooseSpot {g : Gl} {h : Hp} {l0 : Nat} {l1 : Nat} {l2 : Int32} {l3 : Int32} {l4 : Int32} {rv : Int32} (kl0 : KD g.1 l0 1 0) (kl1 : KD g.1 l1 2 0) (hf : f_X2_chooseSpot h l0 l1 l2 l3 l4 = some rv) : Ev yX2_chooseSpot cX2_chooseSpot 9 (some .int) 2 49 g 0 [] [(0, .ref l0), (1, .ref l1), (2, .int l2), (3, .int l3), (4, .int l4)] h (some (.int rv)) h := by
  unfold f_X2_chooseSpot at hf
  refine ev_aload_n (n := 1) dX2_chooseSpot_0 rfl rfl ?_
  refine ev_get (v := .ref (l1 + 2)) 11 kl1 rfl (by decide) rfl lk_130 dX2_chooseSpot_1 ?_
  refine ev_iload_n (n := 2) dX2_chooseSpot_4 rfl rfl ?_
  obtain ⟨gd1, hf⟩ := gd_of hf
  refine ev_aaldP (kd_2_11 kl1) (inb_of gd1) dX2_chooseSpot_5 ?_
  refine ev_astore (lv2 := [(5, .ref ((l1 + 2) + 1 + 4 * l2.toNatClampNeg)), (0, .ref l0), (1, .ref l1), (2, .int l2), (3, .int l3), (4, .int l4)]) dX2_chooseSpot_6 (by decide) rfl ?_
  refine ev_aload_n (n := 2) dX2_chooseSpot_8 rfl rfl ?_
  refine ev_iload_n (n := 4) dX2_chooseSpot_9 rfl rfl ?_
  obtain ⟨v2, e3, hf⟩ := bn1_of hf
  refine ev_callVi (As := [.int l3]) cal_X3_claimsOf kl1 rfl (ev_X3_claimsOf kl1 e3) (Nat.le_of_ble_eq_true rfl) rfl lk_353 (by decide) (by decide) (Nat.le_of_ble_eq_true rfl) dX2_chooseSpot_10 rfl ?_
  refine ev_aload (n := 0) dX2_chooseSpot_13 rfl ?_
  refine ev_get (v := .int (hI h ((l1 + 2) + 1 + 4 * l2.toNatClampNeg) 2)) 2 (kdPA (kd_2_11 kl1) (inb_of gd1)) rfl (by decide) rfl lk_42 dX2_chooseSpot_15 ?_
  refine ev_iconst (v := -1) dX2_chooseSpot_18 (by decide) ?_
  refine ev_ixor dX2_chooseSpot_19 ?_
  refine ev_iand dX2_chooseSpot_20 ?_
  refine ev_istore (lv2 := [(6, .int (v2 &&& ((hI h ((l1 + 2) + 1 + 4 * l2.toNatClampNeg) 2) ^^^ (-1 : Int32)))), (5, .ref ((l1 + 2) + 1 + 4 * l2.toNatClampNeg)), (0, .ref l0), (1, .ref l1), (2, .int l2), (3, .int l3), (4, .int l4)]) dX2_chooseSpot_21 (by decide) rfl ?_
  refine ev_aload (n := 1) dX2_chooseSpot_23 rfl ?_
  refine ev_get (v := .int (hI h ((l1 + 2) + 1 + 4 * l2.toNatClampNeg) 3)) 3 (kdPA (kd_2_11 kl1) (inb_of gd1)) rfl (by decide) rfl lk_45 dX2_chooseSpot_25 ?_
  refine ev_iload (n := 6) dX2_chooseSpot_28 rfl ?_
  refine ev_ior dX2_chooseSpot_30 ?_
  refine ev_istore (lv2 := [(7, .int ((hI h ((l1 + 2) + 1 + 4 * l2.toNatClampNeg) 3) ||| l4)), (6, .int (v2 &&& ((hI h ((l1 + 2) + 1 + 4 * l2.toNatClampNeg) 2) ^^^ (-1 : Int32)))), (5, .ref ((l1 + 2) + 1 + 4 * l2.toNatClampNeg)), (0, .ref l0), (1, .ref l1), (2, .int l2), (3, .int l3), (4, .int l4)]) dX2_chooseSpot_31 (by decide) rfl ?_
  refine ev_aload_n (n := 3) dX2_chooseSpot_33 rfl rfl ?_
  refine ev_aload_n (n := 4) dX2_chooseSpot_34 rfl rfl ?_
  refine ev_iload (n := 1) dX2_chooseSpot_35 rfl ?_
  refine ev_iload (n := 0) dX2_chooseSpot_37 rfl ?_
  obtain ⟨v4, e5, hf⟩ := bn1_of hf
  refine ev_callVi (As := [.ref l1, .int (v2 &&& ((hI h ((l1 + 2) + 1 + 4 * l2.toNatClampNeg) 2) ^^^ (-1 : Int32))), .int ((hI h ((l1 + 2) + 1 + 4 * l2.toNatClampNeg) 3) ||| l4)]) cal_X2_rarestFree kl0 rfl (ev_X2_rarestFree kl0 kl1 e5) (Nat.le_of_ble_eq_true rfl) rfl lk_399 (by decide) (by decide) (Nat.le_of_ble_eq_true rfl) dX2_chooseSpot_39 rfl ?_
  refine ev_istore (lv2 := [(8, .int v4), (7, .int ((hI h ((l1 + 2) + 1 + 4 * l2.toNatClampNeg) 3) ||| l4)), (6, .int (v2 &&& ((hI h ((l1 + 2) + 1 + 4 * l2.toNatClampNeg) 2) ^^^ (-1 : Int32)))), (5, .ref ((l1 + 2) + 1 + 4 * l2.toNatClampNeg)), (0, .ref l0), (1, .ref l1), (2, .int l2), (3, .int l3), (4, .int l4)]) dX2_chooseSpot_42 (by decide) rfl ?_
  refine ev_iload (n := 0) dX2_chooseSpot_44 rfl ?_
  refine ev_if_lt (tgt := 58) dX2_chooseSpot_46 (by decide) (fun c1 => ?_) (fun c1 => ?_)
  · replace hf := if_t c1 hf
    refine ev_aload_n (n := 5) dX2_chooseSpot_58 rfl rfl ?_
    refine ev_aload (n := 3) dX2_chooseSpot_59 rfl ?_
    obtain ⟨v6, e7, hf⟩ := bn1_of hf
    refine ev_callVi (As := [.ref ((l1 + 2) + 1 + 4 * l2.toNatClampNeg)]) cal_X3_leftOf kl1 rfl (ev_X3_leftOf kl1 (kdPA (kd_2_11 kl1) (inb_of gd1)) e7) (Nat.le_of_ble_eq_true rfl) rfl lk_409 (by decide) (by decide) (Nat.le_of_ble_eq_true rfl) dX2_chooseSpot_61 rfl ?_
    refine ev_aload_n (n := 5) dX2_chooseSpot_64 rfl rfl ?_
    refine ev_get (v := .ref (l1 + 1)) 10 kl1 rfl (by decide) rfl lk_127 dX2_chooseSpot_65 ?_
    refine ev_iconst (v := 2) dX2_chooseSpot_68 (by decide) ?_
    refine ev_iald (kd_2_10 kl1) (by unfold vp_in; decide) dX2_chooseSpot_69 ?_
    refine ev_icmp_le (tgt := 75) dX2_chooseSpot_70 (by decide) (fun c1 => ?_) (fun c1 => ?_)
    · replace hf := if_t c1 hf
      refine ev_aload_n (n := 5) dX2_chooseSpot_75 rfl rfl ?_
      refine ev_iload (n := 2) dX2_chooseSpot_76 rfl ?_
      refine ev_aload (n := 3) dX2_chooseSpot_78 rfl ?_
      refine ev_get (v := .int (hI h ((l1 + 2) + 1 + 4 * l2.toNatClampNeg) 3)) 3 (kdPA (kd_2_11 kl1) (inb_of gd1)) rfl (by decide) rfl lk_45 dX2_chooseSpot_80 ?_
      obtain ⟨v9, e10, hf⟩ := bn1_of hf
      refine ev_callSi (As := [.ref l1, .int (v2 &&& ((hI h ((l1 + 2) + 1 + 4 * l2.toNatClampNeg) 2) ^^^ (-1 : Int32))), .int (hI h ((l1 + 2) + 1 + 4 * l2.toNatClampNeg) 3)]) cal_X2_leastFree (ev_X2_leastFree kl1 e10) (Nat.le_of_ble_eq_true rfl) rfl lk_413 (by decide) (by decide) (Nat.le_of_ble_eq_true rfl) dX2_chooseSpot_83 rfl ?_
      refine ev_istore (lv2 := [(8, .int v9), (7, .int ((hI h ((l1 + 2) + 1 + 4 * l2.toNatClampNeg) 3) ||| l4)), (6, .int (v2 &&& ((hI h ((l1 + 2) + 1 + 4 * l2.toNatClampNeg) 2) ^^^ (-1 : Int32)))), (5, .ref ((l1 + 2) + 1 + 4 * l2.toNatClampNeg)), (0, .ref l0), (1, .ref l1), (2, .int l2), (3, .int l3), (4, .int l4)]) dX2_chooseSpot_86 (by decide) rfl ?_
      refine ev_iload (n := 0) dX2_chooseSpot_88 rfl ?_
      refine ev_if_lt (tgt := 107) dX2_chooseSpot_90 (by decide) (fun c1 => ?_) (fun c1 => ?_)
      · replace hf := if_t c1 hf
        refine ev_iconst (v := -1) dX2_chooseSpot_107 (by decide) ?_
        obtain rfl := Option.some.inj hf
        exact ev_ireturn dX2_chooseSpot_108 ⟨.int, rfl, rfl⟩
      · replace hf := if_f c1 hf
        refine ev_aload_n (n := 5) dX2_chooseSpot_93 rfl rfl ?_
        refine ev_iload (n := 0) dX2_chooseSpot_94 rfl ?_
        refine ev_aload (n := 3) dX2_chooseSpot_96 rfl ?_
        refine ev_get (v := .int (hI h ((l1 + 2) + 1 + 4 * l2.toNatClampNeg) 3)) 3 (kdPA (kd_2_11 kl1) (inb_of gd1)) rfl (by decide) rfl lk_45 dX2_chooseSpot_98 ?_
        obtain ⟨v11, e12, hf⟩ := bn1_of hf
        refine ev_callSi (As := [.ref l1, .int v9, .int (hI h ((l1 + 2) + 1 + 4 * l2.toNatClampNeg) 3)]) cal_X2_leastMissing (ev_X2_leastMissing kl1 e12) (Nat.le_of_ble_eq_true rfl) rfl lk_406 (by decide) (by decide) (Nat.le_of_ble_eq_true rfl) dX2_chooseSpot_101 rfl ?_
        refine ev_goto (tgt := 108) dX2_chooseSpot_104 (by decide) ?_
        obtain rfl := Option.some.inj hf
        exact ev_ireturn dX2_chooseSpot_108 ⟨.int, rfl, rfl⟩
    · replace hf := if_f c1 hf
      refine ev_iconst (v := -1) dX2_chooseSpot_73 (by decide) ?_
      obtain rfl := Option.some.inj hf
      exact ev_ireturn dX2_chooseSpot_74 ⟨.int, rfl, rfl⟩
  · replace hf := if_f c1 hf
    refine ev_aload_n (n := 5) dX2_chooseSpot_49 rfl rfl ?_
    refine ev_iload (n := 0) dX2_chooseSpot_50 rfl ?_
    refine ev_iload (n := 1) dX2_chooseSpot_52 rfl ?_
    obtain ⟨v13, e14, hf⟩ := bn1_of hf
    refine ev_callSi (As := [.ref l1, .int v4, .int ((hI h ((l1 + 2) + 1 + 4 * l2.toNatClampNeg) 3) ||| l4)]) cal_X2_leastMissing (ev_X2_leastMissing kl1 e14) (Nat.le_of_ble_eq_true rfl) rfl lk_406 (by decide) (by decide) (Nat.le_of_ble_eq_true rfl) dX2_chooseSpot_54 rfl ?_
    obtain rfl := Option.some.inj hf
    exact ev_ireturn dX2_chooseSpot_57 ⟨.int, rfl, rfl⟩
def f_X2_askForBlocks_l2 (l0 : Nat) (l1 : Nat) : Nat → Int32 → Hp → Option (Hp)
  | 0, _, _ => none
  | fu1 + 1, l2, h => (if (hI h l1 0) ≤ l2 then (some h) else (bn1 (f_X3_copiesOf h l1 l2) (fun v1 => (if inb l2 8 = true then (f_X2_askForBlocks_l2 l0 l1 fu1 (l2 + 1) (sI h (l0 + 2) l2.toNatClampNeg v1)) else none))))
theorem f_X2_askForBlocks_l2_s (l0 : Nat) (l1 : Nat) (fu1 : Nat) (l2 : Int32) (h : Hp) : f_X2_askForBlocks_l2 l0 l1 (fu1 + 1) l2 h = (if (hI h l1 0) ≤ l2 then (some h) else (bn1 (f_X3_copiesOf h l1 l2) (fun v1 => (if inb l2 8 = true then (f_X2_askForBlocks_l2 l0 l1 fu1 (l2 + 1) (sI h (l0 + 2) l2.toNatClampNeg v1)) else none)))) := rfl
theorem f_X2_askForBlocks_l2_0 (l0 : Nat) (l1 : Nat) (l2 : Int32) (h : Hp) : f_X2_askForBlocks_l2 l0 l1 0 l2 h = none := rfl
set_option maxRecDepth 100000 in
set_option maxHeartbeats 4000000 in
theorem lp_X2_askForBlocks_2 {g : Gl} {l0 : Nat} {l1 : Nat} {r : Option Value} {h2 : Hp} {h3 : Hp} (kl0 : KD g.1 l0 1 0) (kl1 : KD g.1 l1 2 0) (hx0 : Ev yX2_askForBlocks cX2_askForBlocks 6 none 3 77 g 27 [] [(0, .ref l0), (1, .ref l1)] h3 r h2) : ∀ (fu1 : Nat) (l2 : Int32) (h : Hp), f_X2_askForBlocks_l2 l0 l1 fu1 l2 h = some h3 → Ev yX2_askForBlocks cX2_askForBlocks 6 none 3 77 g 2 [] [(0, .ref l0), (1, .ref l1), (2, .int l2)] h r h2 := by
  intro fu1
  induction fu1 with
  | zero =>
    intro l2 h hf
    cases hf
  | succ fu1 ih =>
    intro l2 h hf
    rw [f_X2_askForBlocks_l2_s] at hf
    have hk := ih
    refine ev_iload_n (n := 2) dX2_askForBlocks_2 rfl rfl ?_
    refine ev_aload_n (n := 1) dX2_askForBlocks_3 rfl rfl ?_
    refine ev_get (v := .int (hI h l1 0)) 0 kl1 rfl (by decide) rfl lk_104 dX2_askForBlocks_4 ?_
    refine ev_icmp_ge (tgt := 27) dX2_askForBlocks_7 (by decide) (fun c1 => ?_) (fun c1 => ?_)
    · replace hf := if_t c1 hf
      refine ev_sub [0, 1] rfl (lv2 := [(0, .ref l0), (1, .ref l1)]) ?_
      obtain rfl := Option.some.inj hf
      exact hx0
    · replace hf := if_f c1 hf
      refine ev_aload_n (n := 0) dX2_askForBlocks_10 rfl rfl ?_
      refine ev_get (v := .ref (l0 + 2)) 1 kl0 rfl (by decide) rfl lk_165 dX2_askForBlocks_11 ?_
      refine ev_iload_n (n := 2) dX2_askForBlocks_14 rfl rfl ?_
      refine ev_aload_n (n := 1) dX2_askForBlocks_15 rfl rfl ?_
      refine ev_iload_n (n := 2) dX2_askForBlocks_16 rfl rfl ?_
      obtain ⟨v1, e2, hf⟩ := bn1_of hf
      refine ev_callVi (As := [.int l2]) cal_X3_copiesOf kl1 rfl (ev_X3_copiesOf kl1 e2) (Nat.le_of_ble_eq_true rfl) rfl lk_390 (by decide) (by decide) (Nat.le_of_ble_eq_true rfl) dX2_askForBlocks_17 rfl ?_
      obtain ⟨gd3, hf⟩ := gd_of hf
      refine ev_iast (kd_1_1 kl0) (inb_of gd3) dX2_askForBlocks_20 ?_
      refine ev_iinc (z := 2) (v := (l2 + 1)) (lv2 := [(2, .int (l2 + 1)), (0, .ref l0), (1, .ref l1)]) dX2_askForBlocks_21 rfl rfl (by decide) rfl ?_
      refine ev_goto (tgt := 2) dX2_askForBlocks_24 (by decide) ?_
      refine ev_sub [1, 2, 0] rfl (lv2 := [(0, .ref l0), (1, .ref l1), (2, .int (l2 + 1))]) ?_
      exact hk _ _ hf
def f_X2_askForBlocks_j94 (kk : Int32 → Int32 → Hp → Option (Hp)) (h : Hp) (l0 : Nat) (l1 : Nat) (l2 : Int32) (l3 : Int32) (l4 : Int32) (l5 : Int32) : Option (Hp) := (if inb ((l4 * (6 : Int32)) + l2) 36 = true then (kk l3 (l4 + 1) (sI h (l0 + 3) ((l4 * (6 : Int32)) + l2).toNatClampNeg l5)) else none)
set_option maxRecDepth 100000 in
set_option maxHeartbeats 4000000 in
theorem jn_X2_askForBlocks_94 {g : Gl} {h : Hp} {kk : Int32 → Int32 → Hp → Option (Hp)} {l0 : Nat} {l1 : Nat} {l2 : Int32} {l3 : Int32} {l4 : Int32} {l5 : Int32}  {r : Option Value} {h2 : Hp} {h3 : Hp} (kl0 : KD g.1 l0 1 0) (kl1 : KD g.1 l1 2 0) (hx0 : Ev yX2_askForBlocks cX2_askForBlocks 6 none 3 77 g 114 [] [(0, .ref l0), (1, .ref l1), (2, .int l2)] h3 r h2) (hk : ∀ (x3 : Int32) (x4 : Int32) (hq : Hp), kk x3 x4 hq = some h3 → Ev yX2_askForBlocks cX2_askForBlocks 6 none 3 77 g 42 [] [(0, .ref l0), (1, .ref l1), (2, .int l2), (3, .int x3), (4, .int x4)] hq r h2) (hf : f_X2_askForBlocks_j94 kk h l0 l1 l2 l3 l4 l5 = some h3) : Ev yX2_askForBlocks cX2_askForBlocks 6 none 3 77 g 94 [] [(0, .ref l0), (1, .ref l1), (2, .int l2), (3, .int l3), (4, .int l4), (5, .int l5)] h r h2 := by
  unfold f_X2_askForBlocks_j94 at hf
  refine ev_aload_n (n := 0) dX2_askForBlocks_94 rfl rfl ?_
  refine ev_get (v := .ref (l0 + 3)) 2 kl0 rfl (by decide) rfl lk_166 dX2_askForBlocks_95 ?_
  refine ev_iload (n := 4) dX2_askForBlocks_98 rfl ?_
  refine ev_bipush (v := 6) dX2_askForBlocks_100 (by decide) ?_
  refine ev_imul dX2_askForBlocks_102 ?_
  refine ev_iload_n (n := 2) dX2_askForBlocks_103 rfl rfl ?_
  refine ev_iadd dX2_askForBlocks_104 ?_
  refine ev_iload (n := 5) dX2_askForBlocks_105 rfl ?_
  obtain ⟨gd6, hf⟩ := gd_of hf
  refine ev_iast (kd_1_2 kl0) (inb_of gd6) dX2_askForBlocks_107 ?_
  refine ev_iinc (z := 4) (v := (l4 + 1)) (lv2 := [(4, .int (l4 + 1)), (0, .ref l0), (1, .ref l1), (2, .int l2), (3, .int l3), (5, .int l5)]) dX2_askForBlocks_108 rfl rfl (by decide) rfl ?_
  refine ev_goto (tgt := 42) dX2_askForBlocks_111 (by decide) ?_
  refine ev_sub [1, 2, 3, 4, 0] rfl (lv2 := [(0, .ref l0), (1, .ref l1), (2, .int l2), (3, .int l3), (4, .int (l4 + 1))]) ?_
  exact hk _ _ _ hf
def f_X2_askForBlocks_j82 (kk : Int32 → Int32 → Hp → Option (Hp)) (h : Hp) (l0 : Nat) (l1 : Nat) (l2 : Int32) (l3 : Int32) (l4 : Int32) (l5 : Int32) : Option (Hp) := (if l5 < 0 then (f_X2_askForBlocks_j94 kk h l0 l1 l2 l3 l4 l5) else (f_X2_askForBlocks_j94 kk h l0 l1 l2 (l3 ||| ((1 : Int32) <<< (l5 &&& 31))) l4 l5))
set_option maxRecDepth 100000 in
set_option maxHeartbeats 4000000 in
theorem jn_X2_askForBlocks_82 {g : Gl} {h : Hp} {kk : Int32 → Int32 → Hp → Option (Hp)} {l0 : Nat} {l1 : Nat} {l2 : Int32} {l3 : Int32} {l4 : Int32} {l5 : Int32}  {r : Option Value} {h2 : Hp} {h3 : Hp} (kl0 : KD g.1 l0 1 0) (kl1 : KD g.1 l1 2 0) (hx0 : Ev yX2_askForBlocks cX2_askForBlocks 6 none 3 77 g 114 [] [(0, .ref l0), (1, .ref l1), (2, .int l2)] h3 r h2) (hk : ∀ (x3 : Int32) (x4 : Int32) (hq : Hp), kk x3 x4 hq = some h3 → Ev yX2_askForBlocks cX2_askForBlocks 6 none 3 77 g 42 [] [(0, .ref l0), (1, .ref l1), (2, .int l2), (3, .int x3), (4, .int x4)] hq r h2) (hf : f_X2_askForBlocks_j82 kk h l0 l1 l2 l3 l4 l5 = some h3) : Ev yX2_askForBlocks cX2_askForBlocks 6 none 3 77 g 82 [] [(0, .ref l0), (1, .ref l1), (2, .int l2), (3, .int l3), (4, .int l4), (5, .int l5)] h r h2 := by
  unfold f_X2_askForBlocks_j82 at hf
  refine ev_iload (n := 5) dX2_askForBlocks_82 rfl ?_
  refine ev_if_lt (tgt := 94) dX2_askForBlocks_84 (by decide) (fun c1 => ?_) (fun c1 => ?_)
  · replace hf := if_t c1 hf
    exact jn_X2_askForBlocks_94 kl0 kl1 hx0 hk hf
  · replace hf := if_f c1 hf
    refine ev_iload_n (n := 3) dX2_askForBlocks_87 rfl rfl ?_
    refine ev_iconst (v := 1) dX2_askForBlocks_88 (by decide) ?_
    refine ev_iload (n := 5) dX2_askForBlocks_89 rfl ?_
    refine ev_ishl dX2_askForBlocks_91 ?_
    refine ev_ior dX2_askForBlocks_92 ?_
    refine ev_istore_n (lv2 := [(3, .int (l3 ||| ((1 : Int32) <<< (l5 &&& 31)))), (0, .ref l0), (1, .ref l1), (2, .int l2), (4, .int l4), (5, .int l5)]) dX2_askForBlocks_93 rfl (by decide) rfl ?_
    refine ev_sub [1, 2, 3, 0, 4, 5] rfl (lv2 := [(0, .ref l0), (1, .ref l1), (2, .int l2), (3, .int (l3 ||| ((1 : Int32) <<< (l5 &&& 31)))), (4, .int l4), (5, .int l5)]) ?_
    exact jn_X2_askForBlocks_94 kl0 kl1 hx0 hk hf
def f_X2_askForBlocks_l42 (l0 : Nat) (l1 : Nat) (l2 : Int32) : Nat → Int32 → Int32 → Hp → Option (Hp)
  | 0, _, _, _ => none
  | fu1 + 1, l3, l4, h => (if (hI h l1 4) ≤ l4 then (some h) else (if inb l4 6 = true then (if (((hI h ((l1 + 2) + 1 + 4 * l4.toNatClampNeg) 4) >>> (l2 &&& 31)) &&& (1 : Int32)) = 0 then (f_X2_askForBlocks_j82 (f_X2_askForBlocks_l42 l0 l1 l2 fu1) h l0 l1 l2 l3 l4 (-1 : Int32)) else (bn1 (f_X2_chooseSpot h l0 l1 l2 l4 l3) (fun v7 => (f_X2_askForBlocks_j82 (f_X2_askForBlocks_l42 l0 l1 l2 fu1) h l0 l1 l2 l3 l4 v7)))) else none))
theorem f_X2_askForBlocks_l42_s (l0 : Nat) (l1 : Nat) (l2 : Int32) (fu1 : Nat) (l3 : Int32) (l4 : Int32) (h : Hp) : f_X2_askForBlocks_l42 l0 l1 l2 (fu1 + 1) l3 l4 h = (if (hI h l1 4) ≤ l4 then (some h) else (if inb l4 6 = true then (if (((hI h ((l1 + 2) + 1 + 4 * l4.toNatClampNeg) 4) >>> (l2 &&& 31)) &&& (1 : Int32)) = 0 then (f_X2_askForBlocks_j82 (f_X2_askForBlocks_l42 l0 l1 l2 fu1) h l0 l1 l2 l3 l4 (-1 : Int32)) else (bn1 (f_X2_chooseSpot h l0 l1 l2 l4 l3) (fun v7 => (f_X2_askForBlocks_j82 (f_X2_askForBlocks_l42 l0 l1 l2 fu1) h l0 l1 l2 l3 l4 v7)))) else none)) := rfl
theorem f_X2_askForBlocks_l42_0 (l0 : Nat) (l1 : Nat) (l2 : Int32) (l3 : Int32) (l4 : Int32) (h : Hp) : f_X2_askForBlocks_l42 l0 l1 l2 0 l3 l4 h = none := rfl
set_option maxRecDepth 100000 in
set_option maxHeartbeats 4000000 in
theorem lp_X2_askForBlocks_42 {g : Gl} {l0 : Nat} {l1 : Nat} {l2 : Int32} {r : Option Value} {h2 : Hp} {h3 : Hp} (kl0 : KD g.1 l0 1 0) (kl1 : KD g.1 l1 2 0) (hx0 : Ev yX2_askForBlocks cX2_askForBlocks 6 none 3 77 g 114 [] [(0, .ref l0), (1, .ref l1), (2, .int l2)] h3 r h2) : ∀ (fu1 : Nat) (l3 : Int32) (l4 : Int32) (h : Hp), f_X2_askForBlocks_l42 l0 l1 l2 fu1 l3 l4 h = some h3 → Ev yX2_askForBlocks cX2_askForBlocks 6 none 3 77 g 42 [] [(0, .ref l0), (1, .ref l1), (2, .int l2), (3, .int l3), (4, .int l4)] h r h2 := by
  intro fu1
  induction fu1 with
  | zero =>
    intro l3 l4 h hf
    cases hf
  | succ fu1 ih =>
    intro l3 l4 h hf
    rw [f_X2_askForBlocks_l42_s] at hf
    have hk := ih
    refine ev_iload (n := 4) dX2_askForBlocks_42 rfl ?_
    refine ev_aload_n (n := 1) dX2_askForBlocks_44 rfl rfl ?_
    refine ev_get (v := .int (hI h l1 4)) 4 kl1 rfl (by decide) rfl lk_115 dX2_askForBlocks_45 ?_
    refine ev_icmp_ge (tgt := 114) dX2_askForBlocks_48 (by decide) (fun c1 => ?_) (fun c1 => ?_)
    · replace hf := if_t c1 hf
      refine ev_sub [0, 1, 2] rfl (lv2 := [(0, .ref l0), (1, .ref l1), (2, .int l2)]) ?_
      obtain rfl := Option.some.inj hf
      exact hx0
    · replace hf := if_f c1 hf
      refine ev_iconst (v := -1) dX2_askForBlocks_51 (by decide) ?_
      refine ev_istore (lv2 := [(5, .int (-1 : Int32)), (0, .ref l0), (1, .ref l1), (2, .int l2), (3, .int l3), (4, .int l4)]) dX2_askForBlocks_52 (by decide) rfl ?_
      refine ev_aload_n (n := 2) dX2_askForBlocks_54 rfl rfl ?_
      refine ev_get (v := .ref (l1 + 2)) 11 kl1 rfl (by decide) rfl lk_130 dX2_askForBlocks_55 ?_
      refine ev_iload (n := 5) dX2_askForBlocks_58 rfl ?_
      obtain ⟨gd5, hf⟩ := gd_of hf
      refine ev_aaldP (kd_2_11 kl1) (inb_of gd5) dX2_askForBlocks_60 ?_
      refine ev_get (v := .int (hI h ((l1 + 2) + 1 + 4 * l4.toNatClampNeg) 4)) 4 (kdPA (kd_2_11 kl1) (inb_of gd5)) rfl (by decide) rfl lk_48 dX2_askForBlocks_61 ?_
      refine ev_iload_n (n := 3) dX2_askForBlocks_64 rfl rfl ?_
      refine ev_ishr dX2_askForBlocks_65 ?_
      refine ev_iconst (v := 1) dX2_askForBlocks_66 (by decide) ?_
      refine ev_iand dX2_askForBlocks_67 ?_
      refine ev_if_eq (tgt := 82) dX2_askForBlocks_68 (by decide) (fun c1 => ?_) (fun c1 => ?_)
      · replace hf := if_t c1 hf
        refine ev_sub [1, 2, 3, 4, 5, 0] rfl (lv2 := [(0, .ref l0), (1, .ref l1), (2, .int l2), (3, .int l3), (4, .int l4), (5, .int (-1 : Int32))]) ?_
        exact jn_X2_askForBlocks_82 kl0 kl1 hx0 hk hf
      · replace hf := if_f c1 hf
        refine ev_aload_n (n := 1) dX2_askForBlocks_71 rfl rfl ?_
        refine ev_aload_n (n := 2) dX2_askForBlocks_72 rfl rfl ?_
        refine ev_iload_n (n := 3) dX2_askForBlocks_73 rfl rfl ?_
        refine ev_iload (n := 5) dX2_askForBlocks_74 rfl ?_
        refine ev_iload_n (n := 4) dX2_askForBlocks_76 rfl rfl ?_
        obtain ⟨v7, e8, hf⟩ := bn1_of hf
        refine ev_callVi (As := [.ref l1, .int l2, .int l4, .int l3]) cal_X2_chooseSpot kl0 rfl (ev_X2_chooseSpot kl0 kl1 e8) (Nat.le_of_ble_eq_true rfl) rfl lk_395 (by decide) (by decide) (Nat.le_of_ble_eq_true rfl) dX2_askForBlocks_77 rfl ?_
        refine ev_istore (lv2 := [(5, .int v7), (0, .ref l0), (1, .ref l1), (2, .int l2), (3, .int l3), (4, .int l4)]) dX2_askForBlocks_80 (by decide) rfl ?_
        refine ev_sub [1, 2, 3, 4, 5, 0] rfl (lv2 := [(0, .ref l0), (1, .ref l1), (2, .int l2), (3, .int l3), (4, .int l4), (5, .int v7)]) ?_
        exact jn_X2_askForBlocks_82 kl0 kl1 hx0 hk hf
def f_X2_askForBlocks_l29 (l0 : Nat) (l1 : Nat) : Nat → Int32 → Hp → Option (Hp)
  | 0, _, _ => none
  | fu1 + 1, l2, h => (if (hI h l1 4) ≤ l2 then (some h) else (bn1 (f_X2_askForBlocks_l42 l0 l1 l2 fu (0 : Int32) (0 : Int32) h) (fun h9 => (f_X2_askForBlocks_l29 l0 l1 fu1 (l2 + 1) h9))))
theorem f_X2_askForBlocks_l29_s (l0 : Nat) (l1 : Nat) (fu1 : Nat) (l2 : Int32) (h : Hp) : f_X2_askForBlocks_l29 l0 l1 (fu1 + 1) l2 h = (if (hI h l1 4) ≤ l2 then (some h) else (bn1 (f_X2_askForBlocks_l42 l0 l1 l2 fu (0 : Int32) (0 : Int32) h) (fun h9 => (f_X2_askForBlocks_l29 l0 l1 fu1 (l2 + 1) h9)))) := rfl
theorem f_X2_askForBlocks_l29_0 (l0 : Nat) (l1 : Nat) (l2 : Int32) (h : Hp) : f_X2_askForBlocks_l29 l0 l1 0 l2 h = none := rfl
set_option maxRecDepth 100000 in
set_option maxHeartbeats 4000000 in
theorem lp_X2_askForBlocks_29 {g : Gl} {l0 : Nat} {l1 : Nat} {r : Option Value} {h2 : Hp} {h3 : Hp} (kl0 : KD g.1 l0 1 0) (kl1 : KD g.1 l1 2 0) (hx0 : Ev yX2_askForBlocks cX2_askForBlocks 6 none 3 77 g 120 [] [] h3 r h2) : ∀ (fu1 : Nat) (l2 : Int32) (h : Hp), f_X2_askForBlocks_l29 l0 l1 fu1 l2 h = some h3 → Ev yX2_askForBlocks cX2_askForBlocks 6 none 3 77 g 29 [] [(0, .ref l0), (1, .ref l1), (2, .int l2)] h r h2 := by
  intro fu1
  induction fu1 with
  | zero =>
    intro l2 h hf
    cases hf
  | succ fu1 ih =>
    intro l2 h hf
    rw [f_X2_askForBlocks_l29_s] at hf
    have hk := ih
    refine ev_iload_n (n := 2) dX2_askForBlocks_29 rfl rfl ?_
    refine ev_aload_n (n := 1) dX2_askForBlocks_30 rfl rfl ?_
    refine ev_get (v := .int (hI h l1 4)) 4 kl1 rfl (by decide) rfl lk_115 dX2_askForBlocks_31 ?_
    refine ev_icmp_ge (tgt := 120) dX2_askForBlocks_34 (by decide) (fun c1 => ?_) (fun c1 => ?_)
    · replace hf := if_t c1 hf
      refine ev_sub [] rfl (lv2 := []) ?_
      obtain rfl := Option.some.inj hf
      exact hx0
    · replace hf := if_f c1 hf
      refine ev_iconst (v := 0) dX2_askForBlocks_37 (by decide) ?_
      refine ev_istore_n (lv2 := [(3, .int (0 : Int32)), (0, .ref l0), (1, .ref l1), (2, .int l2)]) dX2_askForBlocks_38 rfl (by decide) rfl ?_
      refine ev_iconst (v := 0) dX2_askForBlocks_39 (by decide) ?_
      refine ev_istore (lv2 := [(4, .int (0 : Int32)), (3, .int (0 : Int32)), (0, .ref l0), (1, .ref l1), (2, .int l2)]) dX2_askForBlocks_40 (by decide) rfl ?_
      obtain ⟨h9, e10, hf⟩ := bn1_of hf
      refine ev_sub [2, 3, 4, 1, 0] rfl (lv2 := [(0, .ref l0), (1, .ref l1), (2, .int l2), (3, .int (0 : Int32)), (4, .int (0 : Int32))]) ?_
      refine lp_X2_askForBlocks_42 kl0 kl1 ?_ fu _ _ _ e10
      refine ev_iinc (z := 2) (v := (l2 + 1)) (lv2 := [(2, .int (l2 + 1)), (0, .ref l0), (1, .ref l1)]) dX2_askForBlocks_114 rfl rfl (by decide) rfl ?_
      refine ev_goto (tgt := 29) dX2_askForBlocks_117 (by decide) ?_
      refine ev_sub [1, 2, 0] rfl (lv2 := [(0, .ref l0), (1, .ref l1), (2, .int (l2 + 1))]) ?_
      exact hk _ _ hf
def f_X2_askForBlocks (h : Hp) (l0 : Nat) (l1 : Nat) : Option (Hp) := (bn1 (f_X2_askForBlocks_l2 l0 l1 fu (0 : Int32) h) (fun h4 => (bn1 (f_X2_askForBlocks_l29 l0 l1 fu (0 : Int32) h4) (fun h11 => (some h11)))))
set_option maxRecDepth 100000 in
set_option maxHeartbeats 4000000 in
theorem ev_X2_askForBlocks {g : Gl} {h : Hp} {l0 : Nat} {l1 : Nat} {h2 : Hp} (kl0 : KD g.1 l0 1 0) (kl1 : KD g.1 l1 2 0) (hf : f_X2_askForBlocks h l0 l1 = some h2) : Ev yX2_askForBlocks cX2_askForBlocks 6 none 3 77 g 0 [] [(0, .ref l0), (1, .ref l1)] h none h2 := by
  unfold f_X2_askForBlocks at hf
  refine ev_iconst (v := 0) dX2_askForBlocks_0 (by decide) ?_
  refine ev_istore_n (lv2 := [(2, .int (0 : Int32)), (0, .ref l0), (1, .ref l1)]) dX2_askForBlocks_1 rfl (by decide) rfl ?_
  obtain ⟨h4, e13, hf⟩ := bn1_of hf
  refine ev_sub [1, 2, 0] rfl (lv2 := [(0, .ref l0), (1, .ref l1), (2, .int (0 : Int32))]) ?_
  refine lp_X2_askForBlocks_2 kl0 kl1 ?_ fu _ _ e13
  refine ev_iconst (v := 0) dX2_askForBlocks_27 (by decide) ?_
  refine ev_istore_n (lv2 := [(2, .int (0 : Int32)), (0, .ref l0), (1, .ref l1)]) dX2_askForBlocks_28 rfl (by decide) rfl ?_
  obtain ⟨h11, e12, hf⟩ := bn1_of hf
  refine ev_sub [1, 2, 0] rfl (lv2 := [(0, .ref l0), (1, .ref l1), (2, .int (0 : Int32))]) ?_
  refine lp_X2_askForBlocks_29 kl0 kl1 ?_ fu _ _ e12
  obtain rfl := Option.some.inj hf
  exact ev_return_ dX2_askForBlocks_120 rfl
def f_X2_suspectAll_j74 (kk : Int32 → Hp → Option (Hp)) (h : Hp) (l0 : Nat) (l1 : Nat) (l2 : Int32) (l3 : Int32) (l4 : Int32) : Option (Hp) := (kk (l4 + 1) h)
set_option maxRecDepth 100000 in
set_option maxHeartbeats 4000000 in
theorem jn_X2_suspectAll_74 {g : Gl} {h : Hp} {kk : Int32 → Hp → Option (Hp)} {l0 : Nat} {l1 : Nat} {l2 : Int32} {l3 : Int32} {l4 : Int32}  {r : Option Value} {h2 : Hp} {h3 : Hp} (kl0 : KD g.1 l0 2 0) (kl1 : KD g.1 l1 0 0) (hx0 : Ev yX2_suspectAll cX2_suspectAll 5 none 0 0 g 80 [] [] h3 r h2) (hk : ∀ (x4 : Int32) (hq : Hp), kk x4 hq = some h3 → Ev yX2_suspectAll cX2_suspectAll 5 none 0 0 g 17 [] [(0, .ref l0), (1, .ref l1), (2, .int l2), (3, .int l3), (4, .int x4)] hq r h2) (hf : f_X2_suspectAll_j74 kk h l0 l1 l2 l3 l4 = some h3) : Ev yX2_suspectAll cX2_suspectAll 5 none 0 0 g 74 [] [(0, .ref l0), (1, .ref l1), (2, .int l2), (3, .int l3), (4, .int l4)] h r h2 := by
  unfold f_X2_suspectAll_j74 at hf
  refine ev_iinc (z := 4) (v := (l4 + 1)) (lv2 := [(4, .int (l4 + 1)), (0, .ref l0), (1, .ref l1), (2, .int l2), (3, .int l3)]) dX2_suspectAll_74 rfl rfl (by decide) rfl ?_
  refine ev_goto (tgt := 17) dX2_suspectAll_77 (by decide) ?_
  refine ev_sub [1, 2, 3, 4, 0] rfl (lv2 := [(0, .ref l0), (1, .ref l1), (2, .int l2), (3, .int l3), (4, .int (l4 + 1))]) ?_
  exact hk _ _ hf
def f_X2_suspectAll_j61 (kk : Int32 → Hp → Option (Hp)) (h : Hp) (l0 : Nat) (l1 : Nat) (l2 : Int32) (l3 : Int32) (l4 : Int32) : Option (Hp) := (f_X2_suspectAll_j74 kk (sI h l1 6 ((hI h l1 6) ||| ((1 : Int32) <<< (l4 &&& 31)))) l0 l1 l2 l3 l4)
set_option maxRecDepth 100000 in
set_option maxHeartbeats 4000000 in
theorem jn_X2_suspectAll_61 {g : Gl} {h : Hp} {kk : Int32 → Hp → Option (Hp)} {l0 : Nat} {l1 : Nat} {l2 : Int32} {l3 : Int32} {l4 : Int32}  {r : Option Value} {h2 : Hp} {h3 : Hp} (kl0 : KD g.1 l0 2 0) (kl1 : KD g.1 l1 0 0) (hx0 : Ev yX2_suspectAll cX2_suspectAll 5 none 0 0 g 80 [] [] h3 r h2) (hk : ∀ (x4 : Int32) (hq : Hp), kk x4 hq = some h3 → Ev yX2_suspectAll cX2_suspectAll 5 none 0 0 g 17 [] [(0, .ref l0), (1, .ref l1), (2, .int l2), (3, .int l3), (4, .int x4)] hq r h2) (hf : f_X2_suspectAll_j61 kk h l0 l1 l2 l3 l4 = some h3) : Ev yX2_suspectAll cX2_suspectAll 5 none 0 0 g 61 [] [(0, .ref l0), (1, .ref l1), (2, .int l2), (3, .int l3), (4, .int l4)] h r h2 := by
  unfold f_X2_suspectAll_j61 at hf
  refine ev_aload_n (n := 1) dX2_suspectAll_61 rfl rfl ?_
  refine ev_dup dX2_suspectAll_62 rfl ?_
  refine ev_get (v := .int (hI h l1 6)) 6 kl1 rfl (by decide) rfl lk_54 dX2_suspectAll_63 ?_
  refine ev_iconst (v := 1) dX2_suspectAll_66 (by decide) ?_
  refine ev_iload (n := 4) dX2_suspectAll_67 rfl ?_
  refine ev_ishl dX2_suspectAll_69 ?_
  refine ev_ior dX2_suspectAll_70 ?_
  refine ev_putI 6 kl1 rfl (by decide) rfl (by decide +kernel) rfl (by exact Nat.le_of_ble_eq_true rfl) lk_54 dX2_suspectAll_71 ?_
  exact jn_X2_suspectAll_74 kl0 kl1 hx0 hk hf
def f_X2_suspectAll_l17 (l0 : Nat) (l1 : Nat) (l2 : Int32) (l3 : Int32) : Nat → Int32 → Hp → Option (Hp)
  | 0, _, _ => none
  | fu1 + 1, l4, h => (if (hI h l0 4) ≤ l4 then (some h) else (if ((l2 >>> (l4 &&& 31)) &&& (1 : Int32)) = 0 then (f_X2_suspectAll_j74 (f_X2_suspectAll_l17 l0 l1 l2 l3 fu1) h l0 l1 l2 l3 l4) else (if inb l4 6 = true then (if inb l4 6 = true then (if l3 = 0 then (if inb l4 6 = true then (if (hI (sI h (l1 + 2) l4.toNatClampNeg ((hI h (l1 + 2) l4.toNatClampNeg) + (1 : Int32))) (l1 + 2) l4.toNatClampNeg) < (2 : Int32) then (f_X2_suspectAll_j74 (f_X2_suspectAll_l17 l0 l1 l2 l3 fu1) (sI h (l1 + 2) l4.toNatClampNeg ((hI h (l1 + 2) l4.toNatClampNeg) + (1 : Int32))) l0 l1 l2 l3 l4) else (f_X2_suspectAll_j61 (f_X2_suspectAll_l17 l0 l1 l2 l3 fu1) (sI h (l1 + 2) l4.toNatClampNeg ((hI h (l1 + 2) l4.toNatClampNeg) + (1 : Int32))) l0 l1 l2 l3 l4)) else none) else (f_X2_suspectAll_j61 (f_X2_suspectAll_l17 l0 l1 l2 l3 fu1) (sI h (l1 + 2) l4.toNatClampNeg ((hI h (l1 + 2) l4.toNatClampNeg) + (1 : Int32))) l0 l1 l2 l3 l4)) else none) else none)))
theorem f_X2_suspectAll_l17_s (l0 : Nat) (l1 : Nat) (l2 : Int32) (l3 : Int32) (fu1 : Nat) (l4 : Int32) (h : Hp) : f_X2_suspectAll_l17 l0 l1 l2 l3 (fu1 + 1) l4 h = (if (hI h l0 4) ≤ l4 then (some h) else (if ((l2 >>> (l4 &&& 31)) &&& (1 : Int32)) = 0 then (f_X2_suspectAll_j74 (f_X2_suspectAll_l17 l0 l1 l2 l3 fu1) h l0 l1 l2 l3 l4) else (if inb l4 6 = true then (if inb l4 6 = true then (if l3 = 0 then (if inb l4 6 = true then (if (hI (sI h (l1 + 2) l4.toNatClampNeg ((hI h (l1 + 2) l4.toNatClampNeg) + (1 : Int32))) (l1 + 2) l4.toNatClampNeg) < (2 : Int32) then (f_X2_suspectAll_j74 (f_X2_suspectAll_l17 l0 l1 l2 l3 fu1) (sI h (l1 + 2) l4.toNatClampNeg ((hI h (l1 + 2) l4.toNatClampNeg) + (1 : Int32))) l0 l1 l2 l3 l4) else (f_X2_suspectAll_j61 (f_X2_suspectAll_l17 l0 l1 l2 l3 fu1) (sI h (l1 + 2) l4.toNatClampNeg ((hI h (l1 + 2) l4.toNatClampNeg) + (1 : Int32))) l0 l1 l2 l3 l4)) else none) else (f_X2_suspectAll_j61 (f_X2_suspectAll_l17 l0 l1 l2 l3 fu1) (sI h (l1 + 2) l4.toNatClampNeg ((hI h (l1 + 2) l4.toNatClampNeg) + (1 : Int32))) l0 l1 l2 l3 l4)) else none) else none))) := rfl
theorem f_X2_suspectAll_l17_0 (l0 : Nat) (l1 : Nat) (l2 : Int32) (l3 : Int32) (l4 : Int32) (h : Hp) : f_X2_suspectAll_l17 l0 l1 l2 l3 0 l4 h = none := rfl
set_option maxRecDepth 100000 in
set_option maxHeartbeats 4000000 in
theorem lp_X2_suspectAll_17 {g : Gl} {l0 : Nat} {l1 : Nat} {l2 : Int32} {l3 : Int32} {r : Option Value} {h2 : Hp} {h3 : Hp} (kl0 : KD g.1 l0 2 0) (kl1 : KD g.1 l1 0 0) (hx0 : Ev yX2_suspectAll cX2_suspectAll 5 none 0 0 g 80 [] [] h3 r h2) : ∀ (fu1 : Nat) (l4 : Int32) (h : Hp), f_X2_suspectAll_l17 l0 l1 l2 l3 fu1 l4 h = some h3 → Ev yX2_suspectAll cX2_suspectAll 5 none 0 0 g 17 [] [(0, .ref l0), (1, .ref l1), (2, .int l2), (3, .int l3), (4, .int l4)] h r h2 := by
  intro fu1
  induction fu1 with
  | zero =>
    intro l4 h hf
    cases hf
  | succ fu1 ih =>
    intro l4 h hf
    rw [f_X2_suspectAll_l17_s] at hf
    have hk := ih
    refine ev_iload (n := 4) dX2_suspectAll_17 rfl ?_
    refine ev_aload_n (n := 0) dX2_suspectAll_19 rfl rfl ?_
    refine ev_get (v := .int (hI h l0 4)) 4 kl0 rfl (by decide) rfl lk_115 dX2_suspectAll_20 ?_
    refine ev_icmp_ge (tgt := 80) dX2_suspectAll_23 (by decide) (fun c1 => ?_) (fun c1 => ?_)
    · replace hf := if_t c1 hf
      refine ev_sub [] rfl (lv2 := []) ?_
      obtain rfl := Option.some.inj hf
      exact hx0
    · replace hf := if_f c1 hf
      refine ev_iload_n (n := 2) dX2_suspectAll_26 rfl rfl ?_
      refine ev_iload (n := 4) dX2_suspectAll_27 rfl ?_
      refine ev_ishr dX2_suspectAll_29 ?_
      refine ev_iconst (v := 1) dX2_suspectAll_30 (by decide) ?_
      refine ev_iand dX2_suspectAll_31 ?_
      refine ev_if_eq (tgt := 74) dX2_suspectAll_32 (by decide) (fun c1 => ?_) (fun c1 => ?_)
      · replace hf := if_t c1 hf
        exact jn_X2_suspectAll_74 kl0 kl1 hx0 hk hf
      · replace hf := if_f c1 hf
        refine ev_aload_n (n := 1) dX2_suspectAll_35 rfl rfl ?_
        refine ev_get (v := .ref (l1 + 2)) 10 kl1 rfl (by decide) rfl lk_68 dX2_suspectAll_36 ?_
        refine ev_iload (n := 4) dX2_suspectAll_39 rfl ?_
        refine ev_dup2 dX2_suspectAll_41 rfl rfl ?_
        obtain ⟨gd1, hf⟩ := gd_of hf
        refine ev_iald (kd_0_10 kl1) (inb_of gd1) dX2_suspectAll_42 ?_
        refine ev_iconst (v := 1) dX2_suspectAll_43 (by decide) ?_
        refine ev_iadd dX2_suspectAll_44 ?_
        obtain ⟨gd2, hf⟩ := gd_of hf
        refine ev_iast (kd_0_10 kl1) (inb_of gd2) dX2_suspectAll_45 ?_
        refine ev_iload_n (n := 3) dX2_suspectAll_46 rfl rfl ?_
        refine ev_if_ne (tgt := 61) dX2_suspectAll_47 (by decide) (fun c1 => ?_) (fun c1 => ?_)
        · replace hf := if_f c1 hf
          exact jn_X2_suspectAll_61 kl0 kl1 hx0 hk hf
        · replace hf := if_t c1 hf
          refine ev_aload_n (n := 1) dX2_suspectAll_50 rfl rfl ?_
          refine ev_get (v := .ref (l1 + 2)) 10 kl1 rfl (by decide) rfl lk_68 dX2_suspectAll_51 ?_
          refine ev_iload (n := 4) dX2_suspectAll_54 rfl ?_
          obtain ⟨gd3, hf⟩ := gd_of hf
          refine ev_iald (kd_0_10 kl1) (inb_of gd3) dX2_suspectAll_56 ?_
          refine ev_iconst (v := 2) dX2_suspectAll_57 (by decide) ?_
          refine ev_icmp_lt (tgt := 74) dX2_suspectAll_58 (by decide) (fun c1 => ?_) (fun c1 => ?_)
          · replace hf := if_t c1 hf
            exact jn_X2_suspectAll_74 kl0 kl1 hx0 hk hf
          · replace hf := if_f c1 hf
            exact jn_X2_suspectAll_61 kl0 kl1 hx0 hk hf
def f_X2_suspectAll_j13 (h : Hp) (s0 : Int32) (l0 : Nat) (l1 : Nat) (l2 : Int32) : Option (Hp) := (bn1 (f_X2_suspectAll_l17 l0 l1 l2 s0 fu (0 : Int32) h) (fun h4 => (some h4)))
set_option maxRecDepth 100000 in
set_option maxHeartbeats 4000000 in
theorem jn_X2_suspectAll_13 {g : Gl} {h : Hp} {s0 : Int32} {l0 : Nat} {l1 : Nat} {l2 : Int32}  {h2 : Hp} (kl0 : KD g.1 l0 2 0) (kl1 : KD g.1 l1 0 0)   (hf : f_X2_suspectAll_j13 h s0 l0 l1 l2 = some h2) : Ev yX2_suspectAll cX2_suspectAll 5 none 0 0 g 13 [.int s0] [(0, .ref l0), (1, .ref l1), (2, .int l2)] h none h2 := by
  unfold f_X2_suspectAll_j13 at hf
  refine ev_istore_n (lv2 := [(3, .int s0), (0, .ref l0), (1, .ref l1), (2, .int l2)]) dX2_suspectAll_13 rfl (by decide) rfl ?_
  refine ev_iconst (v := 0) dX2_suspectAll_14 (by decide) ?_
  refine ev_istore (lv2 := [(4, .int (0 : Int32)), (3, .int s0), (0, .ref l0), (1, .ref l1), (2, .int l2)]) dX2_suspectAll_15 (by decide) rfl ?_
  obtain ⟨h4, e5, hf⟩ := bn1_of hf
  refine ev_sub [2, 3, 4, 1, 0] rfl (lv2 := [(0, .ref l0), (1, .ref l1), (2, .int l2), (3, .int s0), (4, .int (0 : Int32))]) ?_
  refine lp_X2_suspectAll_17 kl0 kl1 ?_ fu _ _ e5
  obtain rfl := Option.some.inj hf
  exact ev_return_ dX2_suspectAll_80 rfl
def f_X2_suspectAll (h : Hp) (l0 : Nat) (l1 : Nat) (l2 : Int32) : Option (Hp) := (if (l2 &&& (l2 - (1 : Int32))) = 0 then (f_X2_suspectAll_j13 h (1 : Int32) l0 l1 l2) else (f_X2_suspectAll_j13 h (0 : Int32) l0 l1 l2))
set_option maxRecDepth 100000 in
set_option maxHeartbeats 4000000 in
theorem ev_X2_suspectAll {g : Gl} {h : Hp} {l0 : Nat} {l1 : Nat} {l2 : Int32} {h2 : Hp} (kl0 : KD g.1 l0 2 0) (kl1 : KD g.1 l1 0 0) (hf : f_X2_suspectAll h l0 l1 l2 = some h2) : Ev yX2_suspectAll cX2_suspectAll 5 none 0 0 g 0 [] [(0, .ref l0), (1, .ref l1), (2, .int l2)] h none h2 := by
  unfold f_X2_suspectAll at hf
  refine ev_iload_n (n := 2) dX2_suspectAll_0 rfl rfl ?_
  refine ev_iload_n (n := 2) dX2_suspectAll_1 rfl rfl ?_
  refine ev_iconst (v := 1) dX2_suspectAll_2 (by decide) ?_
  refine ev_isub dX2_suspectAll_3 ?_
  refine ev_iand dX2_suspectAll_4 ?_
  refine ev_if_ne (tgt := 12) dX2_suspectAll_5 (by decide) (fun c1 => ?_) (fun c1 => ?_)
  · replace hf := if_f c1 hf
    refine ev_iconst (v := 0) dX2_suspectAll_12 (by decide) ?_
    exact jn_X2_suspectAll_13 kl0 kl1 hf
  · replace hf := if_t c1 hf
    refine ev_iconst (v := 1) dX2_suspectAll_8 (by decide) ?_
    refine ev_goto (tgt := 13) dX2_suspectAll_9 (by decide) ?_
    exact jn_X2_suspectAll_13 kl0 kl1 hf
def f_X2_lookAt_j61 (kk : Int32 → Int32 → Int32 → Option (Int32 × Int32)) (h : Hp) (s0 : Int32) (l0 : Nat) (l1 : Nat) (l2 : Int32) (l3 : Int32) (l5 : Int32) : Option (Int32 × Int32) := (kk l3 s0 (l5 + 1))
set_option maxRecDepth 100000 in
set_option maxHeartbeats 4000000 in
theorem jn_X2_lookAt_61 {g : Gl} {h : Hp} {kk : Int32 → Int32 → Int32 → Option (Int32 × Int32)} {s0 : Int32} {l0 : Nat} {l1 : Nat} {l2 : Int32} {l3 : Int32} {l5 : Int32}  {r : Option Value} {h2 : Hp} {o3 : Int32} {o4 : Int32} (kl0 : KD g.1 l0 2 0) (kl1 : KD g.1 l1 0 0) (hx0 : Ev yX2_lookAt cX2_lookAt 7 none 1 24 g 69 [] [(0, .ref l0), (1, .ref l1), (2, .int l2), (3, .int o3), (4, .int o4)] h r h2) (hk : ∀ (x3 : Int32) (x4 : Int32) (x5 : Int32), kk x3 x4 x5 = some (o3, o4) → Ev yX2_lookAt cX2_lookAt 7 none 1 24 g 8 [] [(0, .ref l0), (1, .ref l1), (2, .int l2), (3, .int x3), (4, .int x4), (5, .int x5)] h r h2) (hf : f_X2_lookAt_j61 kk h s0 l0 l1 l2 l3 l5 = some (o3, o4)) : Ev yX2_lookAt cX2_lookAt 7 none 1 24 g 61 [.int s0] [(0, .ref l0), (1, .ref l1), (2, .int l2), (3, .int l3), (5, .int l5)] h r h2 := by
  unfold f_X2_lookAt_j61 at hf
  refine ev_istore (lv2 := [(4, .int s0), (0, .ref l0), (1, .ref l1), (2, .int l2), (3, .int l3), (5, .int l5)]) dX2_lookAt_61 (by decide) rfl ?_
  refine ev_iinc (z := 5) (v := (l5 + 1)) (lv2 := [(5, .int (l5 + 1)), (4, .int s0), (0, .ref l0), (1, .ref l1), (2, .int l2), (3, .int l3)]) dX2_lookAt_63 rfl rfl (by decide) rfl ?_
  refine ev_goto (tgt := 8) dX2_lookAt_66 (by decide) ?_
  refine ev_sub [2, 3, 4, 5, 1, 0] rfl (lv2 := [(0, .ref l0), (1, .ref l1), (2, .int l2), (3, .int l3), (4, .int s0), (5, .int (l5 + 1))]) ?_
  exact hk _ _ _ hf
def f_X2_lookAt_j60 (kk : Int32 → Int32 → Int32 → Option (Int32 × Int32)) (h : Hp) (l0 : Nat) (l1 : Nat) (l2 : Int32) (l3 : Int32) (l5 : Int32) : Option (Int32 × Int32) := (f_X2_lookAt_j61 kk h (0 : Int32) l0 l1 l2 l3 l5)
set_option maxRecDepth 100000 in
set_option maxHeartbeats 4000000 in
theorem jn_X2_lookAt_60 {g : Gl} {h : Hp} {kk : Int32 → Int32 → Int32 → Option (Int32 × Int32)} {l0 : Nat} {l1 : Nat} {l2 : Int32} {l3 : Int32} {l5 : Int32}  {r : Option Value} {h2 : Hp} {o3 : Int32} {o4 : Int32} (kl0 : KD g.1 l0 2 0) (kl1 : KD g.1 l1 0 0) (hx0 : Ev yX2_lookAt cX2_lookAt 7 none 1 24 g 69 [] [(0, .ref l0), (1, .ref l1), (2, .int l2), (3, .int o3), (4, .int o4)] h r h2) (hk : ∀ (x3 : Int32) (x4 : Int32) (x5 : Int32), kk x3 x4 x5 = some (o3, o4) → Ev yX2_lookAt cX2_lookAt 7 none 1 24 g 8 [] [(0, .ref l0), (1, .ref l1), (2, .int l2), (3, .int x3), (4, .int x4), (5, .int x5)] h r h2) (hf : f_X2_lookAt_j60 kk h l0 l1 l2 l3 l5 = some (o3, o4)) : Ev yX2_lookAt cX2_lookAt 7 none 1 24 g 60 [] [(0, .ref l0), (1, .ref l1), (2, .int l2), (3, .int l3), (5, .int l5)] h r h2 := by
  unfold f_X2_lookAt_j60 at hf
  refine ev_iconst (v := 0) dX2_lookAt_60 (by decide) ?_
  exact jn_X2_lookAt_61 kl0 kl1 hx0 hk hf
def f_X2_lookAt_l8 (h : Hp) (l0 : Nat) (l1 : Nat) (l2 : Int32) : Nat → Int32 → Int32 → Int32 → Option (Int32 × Int32)
  | 0, _, _, _ => none
  | fu1 + 1, l3, l4, l5 => (if (hI h l0 1) ≤ l5 then (some (l3, l4)) else (if inb ((l2 * (4 : Int32)) + l5) 32 = true then (if l4 = 0 then (f_X2_lookAt_j60 (f_X2_lookAt_l8 h l0 l1 l2 fu1) h l0 l1 l2 (l3 ||| ((1 : Int32) <<< ((hI h (l1 + 1) ((l2 * (4 : Int32)) + l5).toNatClampNeg) &&& 31))) l5) else (if inb (hI h (l1 + 1) ((l2 * (4 : Int32)) + l5).toNatClampNeg) 6 = true then (if (hI h ((l0 + 2) + 1 + 4 * (hI h (l1 + 1) ((l2 * (4 : Int32)) + l5).toNatClampNeg).toNatClampNeg) 0) = (2 : Int32) then (f_X2_lookAt_j60 (f_X2_lookAt_l8 h l0 l1 l2 fu1) h l0 l1 l2 (l3 ||| ((1 : Int32) <<< ((hI h (l1 + 1) ((l2 * (4 : Int32)) + l5).toNatClampNeg) &&& 31))) l5) else (f_X2_lookAt_j61 (f_X2_lookAt_l8 h l0 l1 l2 fu1) h (1 : Int32) l0 l1 l2 (l3 ||| ((1 : Int32) <<< ((hI h (l1 + 1) ((l2 * (4 : Int32)) + l5).toNatClampNeg) &&& 31))) l5)) else none)) else none))
theorem f_X2_lookAt_l8_s (h : Hp) (l0 : Nat) (l1 : Nat) (l2 : Int32) (fu1 : Nat) (l3 : Int32) (l4 : Int32) (l5 : Int32) : f_X2_lookAt_l8 h l0 l1 l2 (fu1 + 1) l3 l4 l5 = (if (hI h l0 1) ≤ l5 then (some (l3, l4)) else (if inb ((l2 * (4 : Int32)) + l5) 32 = true then (if l4 = 0 then (f_X2_lookAt_j60 (f_X2_lookAt_l8 h l0 l1 l2 fu1) h l0 l1 l2 (l3 ||| ((1 : Int32) <<< ((hI h (l1 + 1) ((l2 * (4 : Int32)) + l5).toNatClampNeg) &&& 31))) l5) else (if inb (hI h (l1 + 1) ((l2 * (4 : Int32)) + l5).toNatClampNeg) 6 = true then (if (hI h ((l0 + 2) + 1 + 4 * (hI h (l1 + 1) ((l2 * (4 : Int32)) + l5).toNatClampNeg).toNatClampNeg) 0) = (2 : Int32) then (f_X2_lookAt_j60 (f_X2_lookAt_l8 h l0 l1 l2 fu1) h l0 l1 l2 (l3 ||| ((1 : Int32) <<< ((hI h (l1 + 1) ((l2 * (4 : Int32)) + l5).toNatClampNeg) &&& 31))) l5) else (f_X2_lookAt_j61 (f_X2_lookAt_l8 h l0 l1 l2 fu1) h (1 : Int32) l0 l1 l2 (l3 ||| ((1 : Int32) <<< ((hI h (l1 + 1) ((l2 * (4 : Int32)) + l5).toNatClampNeg) &&& 31))) l5)) else none)) else none)) := rfl
theorem f_X2_lookAt_l8_0 (h : Hp) (l0 : Nat) (l1 : Nat) (l2 : Int32) (l3 : Int32) (l4 : Int32) (l5 : Int32) : f_X2_lookAt_l8 h l0 l1 l2 0 l3 l4 l5 = none := rfl
set_option maxRecDepth 100000 in
set_option maxHeartbeats 4000000 in
theorem lp_X2_lookAt_8 {g : Gl} {h : Hp} {l0 : Nat} {l1 : Nat} {l2 : Int32} {r : Option Value} {h2 : Hp} {o3 : Int32} {o4 : Int32} (kl0 : KD g.1 l0 2 0) (kl1 : KD g.1 l1 0 0) (hx0 : Ev yX2_lookAt cX2_lookAt 7 none 1 24 g 69 [] [(0, .ref l0), (1, .ref l1), (2, .int l2), (3, .int o3), (4, .int o4)] h r h2) : ∀ (fu1 : Nat) (l3 : Int32) (l4 : Int32) (l5 : Int32), f_X2_lookAt_l8 h l0 l1 l2 fu1 l3 l4 l5 = some (o3, o4) → Ev yX2_lookAt cX2_lookAt 7 none 1 24 g 8 [] [(0, .ref l0), (1, .ref l1), (2, .int l2), (3, .int l3), (4, .int l4), (5, .int l5)] h r h2 := by
  intro fu1
  induction fu1 with
  | zero =>
    intro l3 l4 l5 hf
    cases hf
  | succ fu1 ih =>
    intro l3 l4 l5 hf
    rw [f_X2_lookAt_l8_s] at hf
    have hk := ih
    refine ev_iload (n := 5) dX2_lookAt_8 rfl ?_
    refine ev_aload_n (n := 0) dX2_lookAt_10 rfl rfl ?_
    refine ev_get (v := .int (hI h l0 1)) 1 kl0 rfl (by decide) rfl lk_108 dX2_lookAt_11 ?_
    refine ev_icmp_ge (tgt := 69) dX2_lookAt_14 (by decide) (fun c1 => ?_) (fun c1 => ?_)
    · replace hf := if_t c1 hf
      refine ev_sub [0, 1, 2, 3, 4] rfl (lv2 := [(0, .ref l0), (1, .ref l1), (2, .int l2), (3, .int l3), (4, .int l4)]) ?_
      obtain ⟨rfl, rfl⟩ := Prod.mk.inj (Option.some.inj hf)
      exact hx0
    · replace hf := if_f c1 hf
      refine ev_aload_n (n := 1) dX2_lookAt_17 rfl rfl ?_
      refine ev_get (v := .ref (l1 + 1)) 9 kl1 rfl (by decide) rfl lk_65 dX2_lookAt_18 ?_
      refine ev_iload_n (n := 2) dX2_lookAt_21 rfl rfl ?_
      refine ev_iconst (v := 4) dX2_lookAt_22 (by decide) ?_
      refine ev_imul dX2_lookAt_23 ?_
      refine ev_iload (n := 5) dX2_lookAt_24 rfl ?_
      refine ev_iadd dX2_lookAt_26 ?_
      obtain ⟨gd1, hf⟩ := gd_of hf
      refine ev_iald (kd_0_9 kl1) (inb_of gd1) dX2_lookAt_27 ?_
      refine ev_istore (lv2 := [(6, .int (hI h (l1 + 1) ((l2 * (4 : Int32)) + l5).toNatClampNeg)), (0, .ref l0), (1, .ref l1), (2, .int l2), (3, .int l3), (4, .int l4), (5, .int l5)]) dX2_lookAt_28 (by decide) rfl ?_
      refine ev_iload_n (n := 4) dX2_lookAt_30 rfl rfl ?_
      refine ev_iconst (v := 1) dX2_lookAt_31 (by decide) ?_
      refine ev_iload (n := 0) dX2_lookAt_32 rfl ?_
      refine ev_ishl dX2_lookAt_34 ?_
      refine ev_ior dX2_lookAt_35 ?_
      refine ev_istore_n (lv2 := [(3, .int (l3 ||| ((1 : Int32) <<< ((hI h (l1 + 1) ((l2 * (4 : Int32)) + l5).toNatClampNeg) &&& 31)))), (6, .int (hI h (l1 + 1) ((l2 * (4 : Int32)) + l5).toNatClampNeg)), (0, .ref l0), (1, .ref l1), (2, .int l2), (4, .int l4), (5, .int l5)]) dX2_lookAt_36 rfl (by decide) rfl ?_
      refine ev_iload (n := 5) dX2_lookAt_37 rfl ?_
      refine ev_if_eq (tgt := 60) dX2_lookAt_39 (by decide) (fun c1 => ?_) (fun c1 => ?_)
      · replace hf := if_t c1 hf
        refine ev_sub [2, 3, 4, 0, 6] rfl (lv2 := [(0, .ref l0), (1, .ref l1), (2, .int l2), (3, .int (l3 ||| ((1 : Int32) <<< ((hI h (l1 + 1) ((l2 * (4 : Int32)) + l5).toNatClampNeg) &&& 31)))), (5, .int l5)]) ?_
        exact jn_X2_lookAt_60 kl0 kl1 hx0 hk hf
      · replace hf := if_f c1 hf
        refine ev_aload_n (n := 2) dX2_lookAt_42 rfl rfl ?_
        refine ev_get (v := .ref (l0 + 2)) 11 kl0 rfl (by decide) rfl lk_130 dX2_lookAt_43 ?_
        refine ev_iload (n := 1) dX2_lookAt_46 rfl ?_
        obtain ⟨gd2, hf⟩ := gd_of hf
        refine ev_aaldP (kd_2_11 kl0) (inb_of gd2) dX2_lookAt_48 ?_
        refine ev_get (v := .int (hI h ((l0 + 2) + 1 + 4 * (hI h (l1 + 1) ((l2 * (4 : Int32)) + l5).toNatClampNeg).toNatClampNeg) 0)) 0 (kdPA (kd_2_11 kl0) (inb_of gd2)) rfl (by decide) rfl lk_36 dX2_lookAt_49 ?_
        refine ev_iconst (v := 2) dX2_lookAt_52 (by decide) ?_
        refine ev_icmp_eq (tgt := 60) dX2_lookAt_53 (by decide) (fun c1 => ?_) (fun c1 => ?_)
        · replace hf := if_t c1 hf
          refine ev_sub [2, 3, 4, 0, 6] rfl (lv2 := [(0, .ref l0), (1, .ref l1), (2, .int l2), (3, .int (l3 ||| ((1 : Int32) <<< ((hI h (l1 + 1) ((l2 * (4 : Int32)) + l5).toNatClampNeg) &&& 31)))), (5, .int l5)]) ?_
          exact jn_X2_lookAt_60 kl0 kl1 hx0 hk hf
        · replace hf := if_f c1 hf
          refine ev_iconst (v := 1) dX2_lookAt_56 (by decide) ?_
          refine ev_goto (tgt := 61) dX2_lookAt_57 (by decide) ?_
          refine ev_sub [2, 3, 4, 0, 6] rfl (lv2 := [(0, .ref l0), (1, .ref l1), (2, .int l2), (3, .int (l3 ||| ((1 : Int32) <<< ((hI h (l1 + 1) ((l2 * (4 : Int32)) + l5).toNatClampNeg) &&& 31)))), (5, .int l5)]) ?_
          exact jn_X2_lookAt_61 kl0 kl1 hx0 hk hf
def f_X2_lookAt_j110 (h : Hp)  : Option (Hp) := (some h)
set_option maxRecDepth 100000 in
set_option maxHeartbeats 4000000 in
theorem jn_X2_lookAt_110 {g : Gl} {h : Hp}   {h2 : Hp}    (hf : f_X2_lookAt_j110 h = some h2) : Ev yX2_lookAt cX2_lookAt 7 none 1 24 g 110 [] [] h none h2 := by
  unfold f_X2_lookAt_j110 at hf
  obtain rfl := Option.some.inj hf
  exact ev_return_ dX2_lookAt_110 rfl
def f_X2_lookAt (h : Hp) (l0 : Nat) (l1 : Nat) (l2 : Int32) : Option (Hp) := (bn2 (f_X2_lookAt_l8 h l0 l1 l2 fu (0 : Int32) (1 : Int32) (0 : Int32)) (fun w3_3 w4_4 => (bn1 (f_X1_loseBlocks h l1 l2) (fun h5 => (if w4_4 = 0 then (bn1 (f_X2_suspectAll (sI h5 l0 8 ((hI h5 l0 8) + (1 : Int32))) l0 l1 w3_3) (fun h7 => (f_X2_lookAt_j110 h7))) else (f_X2_lookAt_j110 (sI h5 l1 2 ((hI h5 l1 2) ||| ((1 : Int32) <<< (l2 &&& 31))))))))))
set_option maxRecDepth 100000 in
set_option maxHeartbeats 4000000 in
theorem ev_X2_lookAt {g : Gl} {h : Hp} {l0 : Nat} {l1 : Nat} {l2 : Int32} {h2 : Hp} (kl0 : KD g.1 l0 2 0) (kl1 : KD g.1 l1 0 0) (hf : f_X2_lookAt h l0 l1 l2 = some h2) : Ev yX2_lookAt cX2_lookAt 7 none 1 24 g 0 [] [(0, .ref l0), (1, .ref l1), (2, .int l2)] h none h2 := by
  unfold f_X2_lookAt at hf
  refine ev_iconst (v := 0) dX2_lookAt_0 (by decide) ?_
  refine ev_istore_n (lv2 := [(3, .int (0 : Int32)), (0, .ref l0), (1, .ref l1), (2, .int l2)]) dX2_lookAt_1 rfl (by decide) rfl ?_
  refine ev_iconst (v := 1) dX2_lookAt_2 (by decide) ?_
  refine ev_istore (lv2 := [(4, .int (1 : Int32)), (3, .int (0 : Int32)), (0, .ref l0), (1, .ref l1), (2, .int l2)]) dX2_lookAt_3 (by decide) rfl ?_
  refine ev_iconst (v := 0) dX2_lookAt_5 (by decide) ?_
  refine ev_istore (lv2 := [(5, .int (0 : Int32)), (4, .int (1 : Int32)), (3, .int (0 : Int32)), (0, .ref l0), (1, .ref l1), (2, .int l2)]) dX2_lookAt_6 (by decide) rfl ?_
  obtain ⟨w3_3, w4_4, e9, hf⟩ := bn2_of hf
  refine ev_sub [3, 4, 5, 2, 1, 0] rfl (lv2 := [(0, .ref l0), (1, .ref l1), (2, .int l2), (3, .int (0 : Int32)), (4, .int (1 : Int32)), (5, .int (0 : Int32))]) ?_
  refine lp_X2_lookAt_8 kl0 kl1 ?_ fu _ _ _ e9
  refine ev_aload_n (n := 1) dX2_lookAt_69 rfl rfl ?_
  refine ev_iload_n (n := 2) dX2_lookAt_70 rfl rfl ?_
  obtain ⟨h5, e6, hf⟩ := bn1_of hf
  refine ev_callVv (As := [.int l2]) cal_X1_loseBlocks kl1 rfl (ev_X1_loseBlocks kl1 e6) (Nat.le_of_ble_eq_true rfl) rfl lk_432 (by decide) (by decide) (Nat.le_of_ble_eq_true rfl) dX2_lookAt_71 rfl ?_
  refine ev_iload (n := 4) dX2_lookAt_74 rfl ?_
  refine ev_if_eq (tgt := 94) dX2_lookAt_76 (by decide) (fun c1 => ?_) (fun c1 => ?_)
  · replace hf := if_t c1 hf
    refine ev_aload_n (n := 0) dX2_lookAt_94 rfl rfl ?_
    refine ev_dup dX2_lookAt_95 rfl ?_
    refine ev_get (v := .int (hI h5 l0 8)) 8 kl0 rfl (by decide) rfl lk_124 dX2_lookAt_96 ?_
    refine ev_iconst (v := 1) dX2_lookAt_99 (by decide) ?_
    refine ev_iadd dX2_lookAt_100 ?_
    refine ev_putI 8 kl0 rfl (by decide) rfl (by decide +kernel) rfl (by exact Nat.le_of_ble_eq_true rfl) lk_124 dX2_lookAt_101 ?_
    refine ev_aload_n (n := 0) dX2_lookAt_104 rfl rfl ?_
    refine ev_aload_n (n := 1) dX2_lookAt_105 rfl rfl ?_
    refine ev_iload_n (n := 3) dX2_lookAt_106 rfl rfl ?_
    obtain ⟨h7, e8, hf⟩ := bn1_of hf
    refine ev_callSv (As := [.ref l0, .ref l1, .int w3_3]) cal_X2_suspectAll (ev_X2_suspectAll kl0 kl1 e8) (Nat.le_of_ble_eq_true rfl) rfl lk_433 (by decide) (by decide) (Nat.le_of_ble_eq_true rfl) dX2_lookAt_107 rfl ?_
    refine ev_sub [] rfl (lv2 := []) ?_
    exact jn_X2_lookAt_110 hf
  · replace hf := if_f c1 hf
    refine ev_aload_n (n := 1) dX2_lookAt_79 rfl rfl ?_
    refine ev_dup dX2_lookAt_80 rfl ?_
    refine ev_get (v := .int (hI h5 l1 2)) 2 kl1 rfl (by decide) rfl lk_42 dX2_lookAt_81 ?_
    refine ev_iconst (v := 1) dX2_lookAt_84 (by decide) ?_
    refine ev_iload_n (n := 2) dX2_lookAt_85 rfl rfl ?_
    refine ev_ishl dX2_lookAt_86 ?_
    refine ev_ior dX2_lookAt_87 ?_
    refine ev_putI 2 kl1 rfl (by decide) rfl (by decide +kernel) rfl (by exact Nat.le_of_ble_eq_true rfl) lk_42 dX2_lookAt_88 ?_
    refine ev_goto (tgt := 110) dX2_lookAt_91 (by decide) ?_
    refine ev_sub [] rfl (lv2 := []) ?_
    exact jn_X2_lookAt_110 hf
def f_X2_sendOne_j123 (h : Hp)  : Option (Hp) := (some h)
set_option maxRecDepth 100000 in
set_option maxHeartbeats 4000000 in
theorem jn_X2_sendOne_123 {g : Gl} {h : Hp}   {h2 : Hp}    (hf : f_X2_sendOne_j123 h = some h2) : Ev yX2_sendOne cX2_sendOne 8 none 2 50 g 123 [] [] h none h2 := by
  unfold f_X2_sendOne_j123 at hf
  obtain rfl := Option.some.inj hf
  exact ev_return_ dX2_sendOne_123 rfl
def f_X2_sendOne_j52 (h : Hp) (l0 : Nat) (l1 : Nat) (l2 : Int32) (l3 : Int32) (l4 : Int32) (l6 : Nat) (l7 : Int32) : Option (Hp) := (if inb l4 32 = true then (if inb ((l3 * (6 : Int32)) + l2) 36 = true then (if inb ((l3 * (6 : Int32)) + l2) 36 = true then (bn1 (f_X2_hasMissing (sI (sI (sI (sI h l6 8 ((hI h l6 8) + (1 : Int32))) l6 3 ((hI (sI h l6 8 ((hI h l6 8) + (1 : Int32))) l6 3) ||| ((1 : Int32) <<< (l4 &&& 31)))) (l6 + 1) l4.toNatClampNeg l2) (l0 + 4) ((l3 * (6 : Int32)) + l2).toNatClampNeg ((hI (sI (sI (sI h l6 8 ((hI h l6 8) + (1 : Int32))) l6 3 ((hI (sI h l6 8 ((hI h l6 8) + (1 : Int32))) l6 3) ||| ((1 : Int32) <<< (l4 &&& 31)))) (l6 + 1) l4.toNatClampNeg l2) (l0 + 4) ((l3 * (6 : Int32)) + l2).toNatClampNeg) + (1 : Int32))) l1 l7 (hI (sI (sI (sI (sI h l6 8 ((hI h l6 8) + (1 : Int32))) l6 3 ((hI (sI h l6 8 ((hI h l6 8) + (1 : Int32))) l6 3) ||| ((1 : Int32) <<< (l4 &&& 31)))) (l6 + 1) l4.toNatClampNeg l2) (l0 + 4) ((l3 * (6 : Int32)) + l2).toNatClampNeg ((hI (sI (sI (sI h l6 8 ((hI h l6 8) + (1 : Int32))) l6 3 ((hI (sI h l6 8 ((hI h l6 8) + (1 : Int32))) l6 3) ||| ((1 : Int32) <<< (l4 &&& 31)))) (l6 + 1) l4.toNatClampNeg l2) (l0 + 4) ((l3 * (6 : Int32)) + l2).toNatClampNeg) + (1 : Int32))) l6 3)) (fun v6 => (if v6 = 0 then (bn1 (f_X2_lookAt (sI (sI (sI (sI h l6 8 ((hI h l6 8) + (1 : Int32))) l6 3 ((hI (sI h l6 8 ((hI h l6 8) + (1 : Int32))) l6 3) ||| ((1 : Int32) <<< (l4 &&& 31)))) (l6 + 1) l4.toNatClampNeg l2) (l0 + 4) ((l3 * (6 : Int32)) + l2).toNatClampNeg ((hI (sI (sI (sI h l6 8 ((hI h l6 8) + (1 : Int32))) l6 3 ((hI (sI h l6 8 ((hI h l6 8) + (1 : Int32))) l6 3) ||| ((1 : Int32) <<< (l4 &&& 31)))) (l6 + 1) l4.toNatClampNeg l2) (l0 + 4) ((l3 * (6 : Int32)) + l2).toNatClampNeg) + (1 : Int32))) l1 l6 l7) (fun h8 => (f_X2_sendOne_j123 h8))) else (f_X2_sendOne_j123 (sI (sI (sI (sI h l6 8 ((hI h l6 8) + (1 : Int32))) l6 3 ((hI (sI h l6 8 ((hI h l6 8) + (1 : Int32))) l6 3) ||| ((1 : Int32) <<< (l4 &&& 31)))) (l6 + 1) l4.toNatClampNeg l2) (l0 + 4) ((l3 * (6 : Int32)) + l2).toNatClampNeg ((hI (sI (sI (sI h l6 8 ((hI h l6 8) + (1 : Int32))) l6 3 ((hI (sI h l6 8 ((hI h l6 8) + (1 : Int32))) l6 3) ||| ((1 : Int32) <<< (l4 &&& 31)))) (l6 + 1) l4.toNatClampNeg l2) (l0 + 4) ((l3 * (6 : Int32)) + l2).toNatClampNeg) + (1 : Int32))))))) else none) else none) else none)
set_option maxRecDepth 100000 in
set_option maxHeartbeats 4000000 in
theorem jn_X2_sendOne_52 {g : Gl} {h : Hp} {l0 : Nat} {l1 : Nat} {l2 : Int32} {l3 : Int32} {l4 : Int32} {l6 : Nat} {l7 : Int32}  {h2 : Hp} (kl0 : KD g.1 l0 1 0) (kl1 : KD g.1 l1 2 0) (kl6 : KD g.1 l6 0 0)   (hf : f_X2_sendOne_j52 h l0 l1 l2 l3 l4 l6 l7 = some h2) : Ev yX2_sendOne cX2_sendOne 8 none 2 50 g 52 [] [(0, .ref l0), (1, .ref l1), (2, .int l2), (3, .int l3), (4, .int l4), (6, .ref l6), (7, .int l7)] h none h2 := by
  unfold f_X2_sendOne_j52 at hf
  refine ev_aload (n := 5) dX2_sendOne_52 rfl ?_
  refine ev_dup dX2_sendOne_54 rfl ?_
  refine ev_get (v := .int (hI h l6 8)) 8 kl6 rfl (by decide) rfl lk_62 dX2_sendOne_55 ?_
  refine ev_iconst (v := 1) dX2_sendOne_58 (by decide) ?_
  refine ev_iadd dX2_sendOne_59 ?_
  refine ev_putI 8 kl6 rfl (by decide) rfl (by decide +kernel) rfl (by exact Nat.le_of_ble_eq_true rfl) lk_62 dX2_sendOne_60 ?_
  refine ev_aload (n := 5) dX2_sendOne_63 rfl ?_
  refine ev_dup dX2_sendOne_65 rfl ?_
  refine ev_get (v := .int (hI (sI h l6 8 ((hI h l6 8) + (1 : Int32))) l6 3)) 3 kl6 rfl (by decide) rfl lk_45 dX2_sendOne_66 ?_
  refine ev_iconst (v := 1) dX2_sendOne_69 (by decide) ?_
  refine ev_iload (n := 4) dX2_sendOne_70 rfl ?_
  refine ev_ishl dX2_sendOne_72 ?_
  refine ev_ior dX2_sendOne_73 ?_
  refine ev_putI 3 kl6 rfl (by decide) rfl (by decide +kernel) rfl (by exact Nat.le_of_ble_eq_true rfl) lk_45 dX2_sendOne_74 ?_
  refine ev_aload (n := 5) dX2_sendOne_77 rfl ?_
  refine ev_get (v := .ref (l6 + 1)) 9 kl6 rfl (by decide) rfl lk_65 dX2_sendOne_79 ?_
  refine ev_iload (n := 4) dX2_sendOne_82 rfl ?_
  refine ev_iload_n (n := 2) dX2_sendOne_84 rfl rfl ?_
  obtain ⟨gd3, hf⟩ := gd_of hf
  refine ev_iast (kd_0_9 kl6) (inb_of gd3) dX2_sendOne_85 ?_
  refine ev_aload_n (n := 0) dX2_sendOne_86 rfl rfl ?_
  refine ev_get (v := .ref (l0 + 4)) 3 kl0 rfl (by decide) rfl lk_167 dX2_sendOne_87 ?_
  refine ev_iload_n (n := 3) dX2_sendOne_90 rfl rfl ?_
  refine ev_bipush (v := 6) dX2_sendOne_91 (by decide) ?_
  refine ev_imul dX2_sendOne_93 ?_
  refine ev_iload_n (n := 2) dX2_sendOne_94 rfl rfl ?_
  refine ev_iadd dX2_sendOne_95 ?_
  refine ev_dup2 dX2_sendOne_96 rfl rfl ?_
  obtain ⟨gd4, hf⟩ := gd_of hf
  refine ev_iald (kd_1_3 kl0) (inb_of gd4) dX2_sendOne_97 ?_
  refine ev_iconst (v := 1) dX2_sendOne_98 (by decide) ?_
  refine ev_iadd dX2_sendOne_99 ?_
  obtain ⟨gd5, hf⟩ := gd_of hf
  refine ev_iast (kd_1_3 kl0) (inb_of gd5) dX2_sendOne_100 ?_
  refine ev_aload_n (n := 1) dX2_sendOne_101 rfl rfl ?_
  refine ev_iload (n := 6) dX2_sendOne_102 rfl ?_
  refine ev_aload (n := 5) dX2_sendOne_104 rfl ?_
  refine ev_get (v := .int (hI (sI (sI (sI (sI h l6 8 ((hI h l6 8) + (1 : Int32))) l6 3 ((hI (sI h l6 8 ((hI h l6 8) + (1 : Int32))) l6 3) ||| ((1 : Int32) <<< (l4 &&& 31)))) (l6 + 1) l4.toNatClampNeg l2) (l0 + 4) ((l3 * (6 : Int32)) + l2).toNatClampNeg ((hI (sI (sI (sI h l6 8 ((hI h l6 8) + (1 : Int32))) l6 3 ((hI (sI h l6 8 ((hI h l6 8) + (1 : Int32))) l6 3) ||| ((1 : Int32) <<< (l4 &&& 31)))) (l6 + 1) l4.toNatClampNeg l2) (l0 + 4) ((l3 * (6 : Int32)) + l2).toNatClampNeg) + (1 : Int32))) l6 3)) 3 kl6 rfl (by decide) rfl lk_45 dX2_sendOne_106 ?_
  obtain ⟨v6, e7, hf⟩ := bn1_of hf
  refine ev_callSi (As := [.ref l1, .int l7, .int (hI (sI (sI (sI (sI h l6 8 ((hI h l6 8) + (1 : Int32))) l6 3 ((hI (sI h l6 8 ((hI h l6 8) + (1 : Int32))) l6 3) ||| ((1 : Int32) <<< (l4 &&& 31)))) (l6 + 1) l4.toNatClampNeg l2) (l0 + 4) ((l3 * (6 : Int32)) + l2).toNatClampNeg ((hI (sI (sI (sI h l6 8 ((hI h l6 8) + (1 : Int32))) l6 3 ((hI (sI h l6 8 ((hI h l6 8) + (1 : Int32))) l6 3) ||| ((1 : Int32) <<< (l4 &&& 31)))) (l6 + 1) l4.toNatClampNeg l2) (l0 + 4) ((l3 * (6 : Int32)) + l2).toNatClampNeg) + (1 : Int32))) l6 3)]) cal_X2_hasMissing (ev_X2_hasMissing kl1 e7) (Nat.le_of_ble_eq_true rfl) rfl lk_403 (by decide) (by decide) (Nat.le_of_ble_eq_true rfl) dX2_sendOne_109 rfl ?_
  refine ev_if_ne (tgt := 123) dX2_sendOne_112 (by decide) (fun c1 => ?_) (fun c1 => ?_)
  · replace hf := if_f c1 hf
    refine ev_sub [] rfl (lv2 := []) ?_
    exact jn_X2_sendOne_123 hf
  · replace hf := if_t c1 hf
    refine ev_aload_n (n := 1) dX2_sendOne_115 rfl rfl ?_
    refine ev_aload (n := 5) dX2_sendOne_116 rfl ?_
    refine ev_iload (n := 6) dX2_sendOne_118 rfl ?_
    obtain ⟨h8, e9, hf⟩ := bn1_of hf
    refine ev_callSv (As := [.ref l1, .ref l6, .int l7]) cal_X2_lookAt (ev_X2_lookAt kl1 kl6 e9) (Nat.le_of_ble_eq_true rfl) rfl lk_429 (by decide) (by decide) (Nat.le_of_ble_eq_true rfl) dX2_sendOne_120 rfl ?_
    refine ev_sub [] rfl (lv2 := []) ?_
    exact jn_X2_sendOne_123 hf
def f_X2_sendOne (h : Hp) (l0 : Nat) (l1 : Nat) (l2 : Int32) (l3 : Int32) (l4 : Int32) : Option (Hp) := (if inb l2 6 = true then (if inb l3 6 = true then (if (hI (sI h ((l1 + 2) + 1 + 4 * l2.toNatClampNeg) 7 ((hI h ((l1 + 2) + 1 + 4 * l2.toNatClampNeg) 7) + (1 : Int32))) ((l1 + 2) + 1 + 4 * l2.toNatClampNeg) 0) = (2 : Int32) then (f_X2_sendOne_j52 (sI (sI h ((l1 + 2) + 1 + 4 * l2.toNatClampNeg) 7 ((hI h ((l1 + 2) + 1 + 4 * l2.toNatClampNeg) 7) + (1 : Int32))) l1 6 ((hI (sI h ((l1 + 2) + 1 + 4 * l2.toNatClampNeg) 7 ((hI h ((l1 + 2) + 1 + 4 * l2.toNatClampNeg) 7) + (1 : Int32))) l1 6) + (1 : Int32))) l0 l1 l2 l3 l4 ((l1 + 2) + 1 + 4 * l3.toNatClampNeg) (l4 / (4 : Int32))) else (f_X2_sendOne_j52 (sI h ((l1 + 2) + 1 + 4 * l2.toNatClampNeg) 7 ((hI h ((l1 + 2) + 1 + 4 * l2.toNatClampNeg) 7) + (1 : Int32))) l0 l1 l2 l3 l4 ((l1 + 2) + 1 + 4 * l3.toNatClampNeg) (l4 / (4 : Int32)))) else none) else none)
set_option maxRecDepth 100000 in
set_option maxHeartbeats 4000000 in
theorem ev_X2_sendOne {g : Gl} {h : Hp} {l0 : Nat} {l1 : Nat} {l2 : Int32} {l3 : Int32} {l4 : Int32} {h2 : Hp} (kl0 : KD g.1 l0 1 0) (kl1 : KD g.1 l1 2 0) (hf : f_X2_sendOne h l0 l1 l2 l3 l4 = some h2) : Ev yX2_sendOne cX2_sendOne 8 none 2 50 g 0 [] [(0, .ref l0), (1, .ref l1), (2, .int l2), (3, .int l3), (4, .int l4)] h none h2 := by
  unfold f_X2_sendOne at hf
  refine ev_aload_n (n := 1) dX2_sendOne_0 rfl rfl ?_
  refine ev_get (v := .ref (l1 + 2)) 11 kl1 rfl (by decide) rfl lk_130 dX2_sendOne_1 ?_
  refine ev_iload_n (n := 2) dX2_sendOne_4 rfl rfl ?_
  obtain ⟨gd1, hf⟩ := gd_of hf
  refine ev_aaldP (kd_2_11 kl1) (inb_of gd1) dX2_sendOne_5 ?_
  refine ev_astore (lv2 := [(5, .ref ((l1 + 2) + 1 + 4 * l2.toNatClampNeg)), (0, .ref l0), (1, .ref l1), (2, .int l2), (3, .int l3), (4, .int l4)]) dX2_sendOne_6 (by decide) rfl ?_
  refine ev_aload_n (n := 2) dX2_sendOne_8 rfl rfl ?_
  refine ev_get (v := .ref (l1 + 2)) 11 kl1 rfl (by decide) rfl lk_130 dX2_sendOne_9 ?_
  refine ev_iload_n (n := 4) dX2_sendOne_12 rfl rfl ?_
  obtain ⟨gd2, hf⟩ := gd_of hf
  refine ev_aaldP (kd_2_11 kl1) (inb_of gd2) dX2_sendOne_13 ?_
  refine ev_astore (lv2 := [(6, .ref ((l1 + 2) + 1 + 4 * l3.toNatClampNeg)), (5, .ref ((l1 + 2) + 1 + 4 * l2.toNatClampNeg)), (0, .ref l0), (1, .ref l1), (2, .int l2), (3, .int l3), (4, .int l4)]) dX2_sendOne_14 (by decide) rfl ?_
  refine ev_iload (n := 6) dX2_sendOne_16 rfl ?_
  refine ev_iconst (v := 4) dX2_sendOne_18 (by decide) ?_
  refine ev_idiv dX2_sendOne_19 (by decide) ?_
  refine ev_istore (lv2 := [(7, .int (l4 / (4 : Int32))), (6, .ref ((l1 + 2) + 1 + 4 * l3.toNatClampNeg)), (5, .ref ((l1 + 2) + 1 + 4 * l2.toNatClampNeg)), (0, .ref l0), (1, .ref l1), (2, .int l2), (3, .int l3), (4, .int l4)]) dX2_sendOne_20 (by decide) rfl ?_
  refine ev_aload (n := 2) dX2_sendOne_22 rfl ?_
  refine ev_dup dX2_sendOne_24 rfl ?_
  refine ev_get (v := .int (hI h ((l1 + 2) + 1 + 4 * l2.toNatClampNeg) 7)) 7 (kdPA (kd_2_11 kl1) (inb_of gd1)) rfl (by decide) rfl lk_58 dX2_sendOne_25 ?_
  refine ev_iconst (v := 1) dX2_sendOne_28 (by decide) ?_
  refine ev_iadd dX2_sendOne_29 ?_
  refine ev_putI 7 (kdPA (kd_2_11 kl1) (inb_of gd1)) rfl (by decide) rfl (by decide +kernel) rfl (by exact Nat.le_of_ble_eq_true rfl) lk_58 dX2_sendOne_30 ?_
  refine ev_aload (n := 2) dX2_sendOne_33 rfl ?_
  refine ev_get (v := .int (hI (sI h ((l1 + 2) + 1 + 4 * l2.toNatClampNeg) 7 ((hI h ((l1 + 2) + 1 + 4 * l2.toNatClampNeg) 7) + (1 : Int32))) ((l1 + 2) + 1 + 4 * l2.toNatClampNeg) 0)) 0 (kdPA (kd_2_11 kl1) (inb_of gd1)) rfl (by decide) rfl lk_36 dX2_sendOne_35 ?_
  refine ev_iconst (v := 2) dX2_sendOne_38 (by decide) ?_
  refine ev_icmp_ne (tgt := 52) dX2_sendOne_39 (by decide) (fun c1 => ?_) (fun c1 => ?_)
  · replace hf := if_f c1 hf
    refine ev_sub [3, 4, 5, 6, 7, 1, 0] rfl (lv2 := [(0, .ref l0), (1, .ref l1), (2, .int l2), (3, .int l3), (4, .int l4), (6, .ref ((l1 + 2) + 1 + 4 * l3.toNatClampNeg)), (7, .int (l4 / (4 : Int32)))]) ?_
    exact jn_X2_sendOne_52 kl0 kl1 (kdPA (kd_2_11 kl1) (inb_of gd2)) hf
  · replace hf := if_t c1 hf
    refine ev_aload_n (n := 4) dX2_sendOne_42 rfl rfl ?_
    refine ev_dup dX2_sendOne_43 rfl ?_
    refine ev_get (v := .int (hI (sI h ((l1 + 2) + 1 + 4 * l2.toNatClampNeg) 7 ((hI h ((l1 + 2) + 1 + 4 * l2.toNatClampNeg) 7) + (1 : Int32))) l1 6)) 6 kl1 rfl (by decide) rfl lk_120 dX2_sendOne_44 ?_
    refine ev_iconst (v := 1) dX2_sendOne_47 (by decide) ?_
    refine ev_iadd dX2_sendOne_48 ?_
    refine ev_putI 6 kl1 rfl (by decide) rfl (by decide +kernel) rfl (by exact Nat.le_of_ble_eq_true rfl) lk_120 dX2_sendOne_49 ?_
    refine ev_sub [3, 4, 5, 6, 7, 1, 0] rfl (lv2 := [(0, .ref l0), (1, .ref l1), (2, .int l2), (3, .int l3), (4, .int l4), (6, .ref ((l1 + 2) + 1 + 4 * l3.toNatClampNeg)), (7, .int (l4 / (4 : Int32)))]) ?_
    exact jn_X2_sendOne_52 kl0 kl1 (kdPA (kd_2_11 kl1) (inb_of gd2)) hf
