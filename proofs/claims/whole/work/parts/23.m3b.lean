def f_X6_isFree_j28 (h : Hp)  : Option (Int32) := (some (0 : Int32))
set_option maxRecDepth 100000 in
set_option maxHeartbeats 4000000 in
theorem jn_X6_isFree_28 {g : Gl} {h : Hp}   {rv : Int32}    (hf : f_X6_isFree_j28 h = some rv) : Ev yX6_isFree cX6_isFree 4 (some .boolean) 2 43 g 28 [] [] h (some (.int rv)) h := by
  unfold f_X6_isFree_j28 at hf
  refine ev_iconst (v := 0) dX6_isFree_28 (by decide) ?_
  obtain rfl := Option.some.inj hf
  exact ev_ireturn dX6_isFree_29 ⟨.boolean, rfl, rfl⟩
def f_X6_isFree (h : Hp) (l0 : Nat) (l1 : Int32) (l2 : Int32) (l3 : Int32) : Option (Int32) := (bn1 (f_X6_source h l0 l1 l2 l3) (fun v1 => (if v1 = (-1 : Int32) then (if inb (((4 : Int32) * l2) + l3) 32 = true then (if (hI h (l0 + 8) (((4 : Int32) * l2) + l3).toNatClampNeg) = 0 then (some (1 : Int32)) else (f_X6_isFree_j28 h)) else none) else (f_X6_isFree_j28 h))))
set_option maxRecDepth 100000 in
set_option maxHeartbeats 4000000 in
theorem ev_X6_isFree {g : Gl} {h : Hp} {l0 : Nat} {l1 : Int32} {l2 : Int32} {l3 : Int32} {rv : Int32} (kl0 : KD g.1 l0 5 0) (hf : f_X6_isFree h l0 l1 l2 l3 = some rv) : Ev yX6_isFree cX6_isFree 4 (some .boolean) 2 43 g 0 [] [(0, .ref l0), (1, .int l1), (2, .int l2), (3, .int l3)] h (some (.int rv)) h := by
  unfold f_X6_isFree at hf
  refine ev_aload_n (n := 0) dX6_isFree_0 rfl rfl ?_
  refine ev_iload_n (n := 1) dX6_isFree_1 rfl rfl ?_
  refine ev_iload_n (n := 2) dX6_isFree_2 rfl rfl ?_
  refine ev_iload_n (n := 3) dX6_isFree_3 rfl rfl ?_
  obtain ⟨v1, e2, hf⟩ := bn1_of hf
  refine ev_callVi (As := [.int l1, .int l2, .int l3]) cal_X6_source kl0 rfl (ev_X6_source kl0 e2) (Nat.le_of_ble_eq_true rfl) rfl lk_817 (by decide) (by decide) (Nat.le_of_ble_eq_true rfl) dX6_isFree_4 rfl ?_
  refine ev_iconst (v := -1) dX6_isFree_7 (by decide) ?_
  refine ev_icmp_ne (tgt := 28) dX6_isFree_8 (by decide) (fun c1 => ?_) (fun c1 => ?_)
  · replace hf := if_f c1 hf
    refine ev_sub [] rfl (lv2 := []) ?_
    exact jn_X6_isFree_28 hf
  · replace hf := if_t c1 hf
    refine ev_aload_n (n := 0) dX6_isFree_11 rfl rfl ?_
    refine ev_get (v := .ref (l0 + 8)) 9 kl0 rfl (by decide) rfl lk_615 dX6_isFree_12 ?_
    refine ev_iconst (v := 4) dX6_isFree_15 (by decide) ?_
    refine ev_iload_n (n := 2) dX6_isFree_16 rfl rfl ?_
    refine ev_imul dX6_isFree_17 ?_
    refine ev_iload_n (n := 3) dX6_isFree_18 rfl rfl ?_
    refine ev_iadd dX6_isFree_19 ?_
    obtain ⟨gd3, hf⟩ := gd_of hf
    refine ev_zald (kd_5_9 kl0) (inb_of gd3) dX6_isFree_20 ?_
    refine ev_if_ne (tgt := 28) dX6_isFree_21 (by decide) (fun c1 => ?_) (fun c1 => ?_)
    · replace hf := if_f c1 hf
      refine ev_sub [] rfl (lv2 := []) ?_
      exact jn_X6_isFree_28 hf
    · replace hf := if_t c1 hf
      refine ev_iconst (v := 1) dX6_isFree_24 (by decide) ?_
      refine ev_goto (tgt := 29) dX6_isFree_25 (by decide) ?_
      obtain rfl := Option.some.inj hf
      exact ev_ireturn dX6_isFree_29 ⟨.boolean, rfl, rfl⟩
def f_X6_freeBlock_j34 (kk : Int32 → Int32 → Option (Int32)) (h : Hp) (s0 : Int32) (l0 : Nat) (l1 : Int32) (l2 : Int32) (l4 : Int32) : Option (Int32) := (kk s0 (l4 + (-1)))
set_option maxRecDepth 100000 in
set_option maxHeartbeats 4000000 in
theorem jn_X6_freeBlock_34 {g : Gl} {h : Hp} {kk : Int32 → Int32 → Option (Int32)} {s0 : Int32} {l0 : Nat} {l1 : Int32} {l2 : Int32} {l4 : Int32}  {r : Option Value} {h2 : Hp} {o3 : Int32} (kl0 : KD g.1 l0 5 0) (hx0 : Ev yX6_freeBlock cX6_freeBlock 5 (some .int) 3 66 g 41 [] [(3, .int o3)] h r h2) (hk : ∀ (x3 : Int32) (x4 : Int32), kk x3 x4 = some o3 → Ev yX6_freeBlock cX6_freeBlock 5 (some .int) 3 66 g 12 [] [(0, .ref l0), (1, .int l1), (2, .int l2), (3, .int x3), (4, .int x4)] h r h2) (hf : f_X6_freeBlock_j34 kk h s0 l0 l1 l2 l4 = some o3) : Ev yX6_freeBlock cX6_freeBlock 5 (some .int) 3 66 g 34 [.int s0] [(0, .ref l0), (1, .int l1), (2, .int l2), (4, .int l4)] h r h2 := by
  unfold f_X6_freeBlock_j34 at hf
  refine ev_istore_n (lv2 := [(3, .int s0), (0, .ref l0), (1, .int l1), (2, .int l2), (4, .int l4)]) dX6_freeBlock_34 rfl (by decide) rfl ?_
  refine ev_iinc (z := 4) (v := (l4 + (-1))) (lv2 := [(4, .int (l4 + (-1))), (3, .int s0), (0, .ref l0), (1, .int l1), (2, .int l2)]) dX6_freeBlock_35 rfl rfl (by decide) rfl ?_
  refine ev_goto (tgt := 12) dX6_freeBlock_38 (by decide) ?_
  refine ev_sub [2, 3, 4, 1, 0] rfl (lv2 := [(0, .ref l0), (1, .int l1), (2, .int l2), (3, .int s0), (4, .int (l4 + (-1)))]) ?_
  exact hk _ _ hf
def f_X6_freeBlock_l12 (h : Hp) (l0 : Nat) (l1 : Int32) (l2 : Int32) : Nat → Int32 → Int32 → Option (Int32)
  | 0, _, _ => none
  | fu1 + 1, l3, l4 => (if l4 < 0 then (some l3) else (bn1 (f_X6_isFree h l0 l1 l2 l4) (fun v2 => (if v2 = 0 then (f_X6_freeBlock_j34 (f_X6_freeBlock_l12 h l0 l1 l2 fu1) h l3 l0 l1 l2 l4) else (f_X6_freeBlock_j34 (f_X6_freeBlock_l12 h l0 l1 l2 fu1) h l4 l0 l1 l2 l4)))))
theorem f_X6_freeBlock_l12_s (h : Hp) (l0 : Nat) (l1 : Int32) (l2 : Int32) (fu1 : Nat) (l3 : Int32) (l4 : Int32) : f_X6_freeBlock_l12 h l0 l1 l2 (fu1 + 1) l3 l4 = (if l4 < 0 then (some l3) else (bn1 (f_X6_isFree h l0 l1 l2 l4) (fun v2 => (if v2 = 0 then (f_X6_freeBlock_j34 (f_X6_freeBlock_l12 h l0 l1 l2 fu1) h l3 l0 l1 l2 l4) else (f_X6_freeBlock_j34 (f_X6_freeBlock_l12 h l0 l1 l2 fu1) h l4 l0 l1 l2 l4))))) := rfl
theorem f_X6_freeBlock_l12_0 (h : Hp) (l0 : Nat) (l1 : Int32) (l2 : Int32) (l3 : Int32) (l4 : Int32) : f_X6_freeBlock_l12 h l0 l1 l2 0 l3 l4 = none := rfl
set_option maxRecDepth 100000 in
set_option maxHeartbeats 4000000 in
theorem lp_X6_freeBlock_12 {g : Gl} {h : Hp} {l0 : Nat} {l1 : Int32} {l2 : Int32} {r : Option Value} {h2 : Hp} {o3 : Int32} (kl0 : KD g.1 l0 5 0) (hx0 : Ev yX6_freeBlock cX6_freeBlock 5 (some .int) 3 66 g 41 [] [(3, .int o3)] h r h2) : ∀ (fu1 : Nat) (l3 : Int32) (l4 : Int32), f_X6_freeBlock_l12 h l0 l1 l2 fu1 l3 l4 = some o3 → Ev yX6_freeBlock cX6_freeBlock 5 (some .int) 3 66 g 12 [] [(0, .ref l0), (1, .int l1), (2, .int l2), (3, .int l3), (4, .int l4)] h r h2 := by
  intro fu1
  induction fu1 with
  | zero =>
    intro l3 l4 hf
    cases hf
  | succ fu1 ih =>
    intro l3 l4 hf
    rw [f_X6_freeBlock_l12_s] at hf
    have hk := ih
    refine ev_iload (n := 4) dX6_freeBlock_12 rfl ?_
    refine ev_if_lt (tgt := 41) dX6_freeBlock_14 (by decide) (fun c1 => ?_) (fun c1 => ?_)
    · replace hf := if_t c1 hf
      refine ev_sub [3] rfl (lv2 := [(3, .int l3)]) ?_
      obtain rfl := Option.some.inj hf
      exact hx0
    · replace hf := if_f c1 hf
      refine ev_aload_n (n := 0) dX6_freeBlock_17 rfl rfl ?_
      refine ev_iload_n (n := 1) dX6_freeBlock_18 rfl rfl ?_
      refine ev_iload_n (n := 2) dX6_freeBlock_19 rfl rfl ?_
      refine ev_iload (n := 4) dX6_freeBlock_20 rfl ?_
      obtain ⟨v2, e3, hf⟩ := bn1_of hf
      refine ev_callVi (As := [.int l1, .int l2, .int l4]) cal_X6_isFree kl0 rfl (ev_X6_isFree kl0 e3) (Nat.le_of_ble_eq_true rfl) rfl lk_813 (by decide) (by decide) (Nat.le_of_ble_eq_true rfl) dX6_freeBlock_22 rfl ?_
      refine ev_if_eq (tgt := 33) dX6_freeBlock_25 (by decide) (fun c1 => ?_) (fun c1 => ?_)
      · replace hf := if_t c1 hf
        refine ev_iload_n (n := 3) dX6_freeBlock_33 rfl rfl ?_
        refine ev_sub [0, 1, 2, 4] rfl (lv2 := [(0, .ref l0), (1, .int l1), (2, .int l2), (4, .int l4)]) ?_
        exact jn_X6_freeBlock_34 kl0 hx0 hk hf
      · replace hf := if_f c1 hf
        refine ev_iload (n := 4) dX6_freeBlock_28 rfl ?_
        refine ev_goto (tgt := 34) dX6_freeBlock_30 (by decide) ?_
        refine ev_sub [0, 1, 2, 4] rfl (lv2 := [(0, .ref l0), (1, .int l1), (2, .int l2), (4, .int l4)]) ?_
        exact jn_X6_freeBlock_34 kl0 hx0 hk hf
def f_X6_freeBlock (h : Hp) (l0 : Nat) (l1 : Int32) (l2 : Int32) : Option (Int32) := (bn1 (f_X6_freeBlock_l12 h l0 l1 l2 fu (-1 : Int32) ((hI h (l0 + 2) (2 : Int32).toNatClampNeg) - (1 : Int32))) (fun w3_4 => (some w3_4)))
set_option maxRecDepth 100000 in
set_option maxHeartbeats 4000000 in
theorem ev_X6_freeBlock {g : Gl} {h : Hp} {l0 : Nat} {l1 : Int32} {l2 : Int32} {rv : Int32} (kl0 : KD g.1 l0 5 0) (hf : f_X6_freeBlock h l0 l1 l2 = some rv) : Ev yX6_freeBlock cX6_freeBlock 5 (some .int) 3 66 g 0 [] [(0, .ref l0), (1, .int l1), (2, .int l2)] h (some (.int rv)) h := by
  unfold f_X6_freeBlock at hf
  refine ev_iconst (v := -1) dX6_freeBlock_0 (by decide) ?_
  refine ev_istore_n (lv2 := [(3, .int (-1 : Int32)), (0, .ref l0), (1, .int l1), (2, .int l2)]) dX6_freeBlock_1 rfl (by decide) rfl ?_
  refine ev_aload_n (n := 1) dX6_freeBlock_2 rfl rfl ?_
  refine ev_get (v := .ref (l0 + 2)) 1 kl0 rfl (by decide) rfl lk_607 dX6_freeBlock_3 ?_
  refine ev_iconst (v := 2) dX6_freeBlock_6 (by decide) ?_
  refine ev_iald (kd_5_1 kl0) (by unfold vp_in; decide) dX6_freeBlock_7 ?_
  refine ev_iconst (v := 1) dX6_freeBlock_8 (by decide) ?_
  refine ev_isub dX6_freeBlock_9 ?_
  refine ev_istore (lv2 := [(4, .int ((hI h (l0 + 2) (2 : Int32).toNatClampNeg) - (1 : Int32))), (3, .int (-1 : Int32)), (0, .ref l0), (1, .int l1), (2, .int l2)]) dX6_freeBlock_10 (by decide) rfl ?_
  obtain ⟨w3_4, e5, hf⟩ := bn1_of hf
  refine ev_sub [2, 3, 4, 1, 0] rfl (lv2 := [(0, .ref l0), (1, .int l1), (2, .int l2), (3, .int (-1 : Int32)), (4, .int ((hI h (l0 + 2) (2 : Int32).toNatClampNeg) - (1 : Int32)))]) ?_
  refine lp_X6_freeBlock_12 kl0 ?_ fu _ _ e5
  refine ev_iload_n (n := 0) dX6_freeBlock_41 rfl rfl ?_
  obtain rfl := Option.some.inj hf
  exact ev_ireturn dX6_freeBlock_42 ⟨.int, rfl, rfl⟩
def f_X6_isStarted_j51 (kk : Int32 → Int32 → Option (Int32)) (h : Hp) (s0 : Int32) (l0 : Nat) (l1 : Int32) (l2 : Int32) (l4 : Int32) : Option (Int32) := (kk s0 (l4 + 1))
set_option maxRecDepth 100000 in
set_option maxHeartbeats 4000000 in
theorem jn_X6_isStarted_51 {g : Gl} {h : Hp} {kk : Int32 → Int32 → Option (Int32)} {s0 : Int32} {l0 : Nat} {l1 : Int32} {l2 : Int32} {l4 : Int32}  {r : Option Value} {h2 : Hp} {o3 : Int32} (kl0 : KD g.1 l0 5 0) (hx0 : Ev yX6_isStarted cX6_isStarted 5 (some .boolean) 2 43 g 58 [] [(3, .int o3)] h r h2) (hk : ∀ (x3 : Int32) (x4 : Int32), kk x3 x4 = some o3 → Ev yX6_isStarted cX6_isStarted 5 (some .boolean) 2 43 g 5 [] [(0, .ref l0), (1, .int l1), (2, .int l2), (3, .int x3), (4, .int x4)] h r h2) (hf : f_X6_isStarted_j51 kk h s0 l0 l1 l2 l4 = some o3) : Ev yX6_isStarted cX6_isStarted 5 (some .boolean) 2 43 g 51 [.int s0] [(0, .ref l0), (1, .int l1), (2, .int l2), (4, .int l4)] h r h2 := by
  unfold f_X6_isStarted_j51 at hf
  refine ev_istore_n (lv2 := [(3, .int s0), (0, .ref l0), (1, .int l1), (2, .int l2), (4, .int l4)]) dX6_isStarted_51 rfl (by decide) rfl ?_
  refine ev_iinc (z := 4) (v := (l4 + 1)) (lv2 := [(4, .int (l4 + 1)), (3, .int s0), (0, .ref l0), (1, .int l1), (2, .int l2)]) dX6_isStarted_52 rfl rfl (by decide) rfl ?_
  refine ev_goto (tgt := 5) dX6_isStarted_55 (by decide) ?_
  refine ev_sub [2, 3, 4, 1, 0] rfl (lv2 := [(0, .ref l0), (1, .int l1), (2, .int l2), (3, .int s0), (4, .int (l4 + 1))]) ?_
  exact hk _ _ hf
def f_X6_isStarted_j46 (kk : Int32 → Int32 → Option (Int32)) (h : Hp) (l0 : Nat) (l1 : Int32) (l2 : Int32) (l4 : Int32) : Option (Int32) := (f_X6_isStarted_j51 kk h (1 : Int32) l0 l1 l2 l4)
set_option maxRecDepth 100000 in
set_option maxHeartbeats 4000000 in
theorem jn_X6_isStarted_46 {g : Gl} {h : Hp} {kk : Int32 → Int32 → Option (Int32)} {l0 : Nat} {l1 : Int32} {l2 : Int32} {l4 : Int32}  {r : Option Value} {h2 : Hp} {o3 : Int32} (kl0 : KD g.1 l0 5 0) (hx0 : Ev yX6_isStarted cX6_isStarted 5 (some .boolean) 2 43 g 58 [] [(3, .int o3)] h r h2) (hk : ∀ (x3 : Int32) (x4 : Int32), kk x3 x4 = some o3 → Ev yX6_isStarted cX6_isStarted 5 (some .boolean) 2 43 g 5 [] [(0, .ref l0), (1, .int l1), (2, .int l2), (3, .int x3), (4, .int x4)] h r h2) (hf : f_X6_isStarted_j46 kk h l0 l1 l2 l4 = some o3) : Ev yX6_isStarted cX6_isStarted 5 (some .boolean) 2 43 g 46 [] [(0, .ref l0), (1, .int l1), (2, .int l2), (4, .int l4)] h r h2 := by
  unfold f_X6_isStarted_j46 at hf
  refine ev_iconst (v := 1) dX6_isStarted_46 (by decide) ?_
  refine ev_goto (tgt := 51) dX6_isStarted_47 (by decide) ?_
  exact jn_X6_isStarted_51 kl0 hx0 hk hf
def f_X6_isStarted_l5 (h : Hp) (l0 : Nat) (l1 : Int32) (l2 : Int32) : Nat → Int32 → Int32 → Option (Int32)
  | 0, _, _ => none
  | fu1 + 1, l3, l4 => (if (hI h (l0 + 2) (2 : Int32).toNatClampNeg) ≤ l4 then (some l3) else (if l3 = 0 then (bn1 (f_X6_source h l0 l1 l2 l4) (fun v2 => (if v2 = (-1 : Int32) then (if inb (((4 : Int32) * l2) + l4) 32 = true then (if (hI h (l0 + 8) (((4 : Int32) * l2) + l4).toNatClampNeg) = 0 then (f_X6_isStarted_j51 (f_X6_isStarted_l5 h l0 l1 l2 fu1) h (0 : Int32) l0 l1 l2 l4) else (f_X6_isStarted_j46 (f_X6_isStarted_l5 h l0 l1 l2 fu1) h l0 l1 l2 l4)) else none) else (f_X6_isStarted_j46 (f_X6_isStarted_l5 h l0 l1 l2 fu1) h l0 l1 l2 l4)))) else (f_X6_isStarted_j46 (f_X6_isStarted_l5 h l0 l1 l2 fu1) h l0 l1 l2 l4)))
theorem f_X6_isStarted_l5_s (h : Hp) (l0 : Nat) (l1 : Int32) (l2 : Int32) (fu1 : Nat) (l3 : Int32) (l4 : Int32) : f_X6_isStarted_l5 h l0 l1 l2 (fu1 + 1) l3 l4 = (if (hI h (l0 + 2) (2 : Int32).toNatClampNeg) ≤ l4 then (some l3) else (if l3 = 0 then (bn1 (f_X6_source h l0 l1 l2 l4) (fun v2 => (if v2 = (-1 : Int32) then (if inb (((4 : Int32) * l2) + l4) 32 = true then (if (hI h (l0 + 8) (((4 : Int32) * l2) + l4).toNatClampNeg) = 0 then (f_X6_isStarted_j51 (f_X6_isStarted_l5 h l0 l1 l2 fu1) h (0 : Int32) l0 l1 l2 l4) else (f_X6_isStarted_j46 (f_X6_isStarted_l5 h l0 l1 l2 fu1) h l0 l1 l2 l4)) else none) else (f_X6_isStarted_j46 (f_X6_isStarted_l5 h l0 l1 l2 fu1) h l0 l1 l2 l4)))) else (f_X6_isStarted_j46 (f_X6_isStarted_l5 h l0 l1 l2 fu1) h l0 l1 l2 l4))) := rfl
theorem f_X6_isStarted_l5_0 (h : Hp) (l0 : Nat) (l1 : Int32) (l2 : Int32) (l3 : Int32) (l4 : Int32) : f_X6_isStarted_l5 h l0 l1 l2 0 l3 l4 = none := rfl
set_option maxRecDepth 100000 in
set_option maxHeartbeats 4000000 in
theorem lp_X6_isStarted_5 {g : Gl} {h : Hp} {l0 : Nat} {l1 : Int32} {l2 : Int32} {r : Option Value} {h2 : Hp} {o3 : Int32} (kl0 : KD g.1 l0 5 0) (hx0 : Ev yX6_isStarted cX6_isStarted 5 (some .boolean) 2 43 g 58 [] [(3, .int o3)] h r h2) : ∀ (fu1 : Nat) (l3 : Int32) (l4 : Int32), f_X6_isStarted_l5 h l0 l1 l2 fu1 l3 l4 = some o3 → Ev yX6_isStarted cX6_isStarted 5 (some .boolean) 2 43 g 5 [] [(0, .ref l0), (1, .int l1), (2, .int l2), (3, .int l3), (4, .int l4)] h r h2 := by
  intro fu1
  induction fu1 with
  | zero =>
    intro l3 l4 hf
    cases hf
  | succ fu1 ih =>
    intro l3 l4 hf
    rw [f_X6_isStarted_l5_s] at hf
    have hk := ih
    refine ev_iload (n := 4) dX6_isStarted_5 rfl ?_
    refine ev_aload_n (n := 0) dX6_isStarted_7 rfl rfl ?_
    refine ev_get (v := .ref (l0 + 2)) 1 kl0 rfl (by decide) rfl lk_607 dX6_isStarted_8 ?_
    refine ev_iconst (v := 2) dX6_isStarted_11 (by decide) ?_
    refine ev_iald (kd_5_1 kl0) (by unfold vp_in; decide) dX6_isStarted_12 ?_
    refine ev_icmp_ge (tgt := 58) dX6_isStarted_13 (by decide) (fun c1 => ?_) (fun c1 => ?_)
    · replace hf := if_t c1 hf
      refine ev_sub [3] rfl (lv2 := [(3, .int l3)]) ?_
      obtain rfl := Option.some.inj hf
      exact hx0
    · replace hf := if_f c1 hf
      refine ev_iload_n (n := 3) dX6_isStarted_16 rfl rfl ?_
      refine ev_if_ne (tgt := 46) dX6_isStarted_17 (by decide) (fun c1 => ?_) (fun c1 => ?_)
      · replace hf := if_f c1 hf
        refine ev_sub [0, 1, 2, 4] rfl (lv2 := [(0, .ref l0), (1, .int l1), (2, .int l2), (4, .int l4)]) ?_
        exact jn_X6_isStarted_46 kl0 hx0 hk hf
      · replace hf := if_t c1 hf
        refine ev_aload_n (n := 0) dX6_isStarted_20 rfl rfl ?_
        refine ev_iload_n (n := 1) dX6_isStarted_21 rfl rfl ?_
        refine ev_iload_n (n := 2) dX6_isStarted_22 rfl rfl ?_
        refine ev_iload (n := 4) dX6_isStarted_23 rfl ?_
        obtain ⟨v2, e3, hf⟩ := bn1_of hf
        refine ev_callVi (As := [.int l1, .int l2, .int l4]) cal_X6_source kl0 rfl (ev_X6_source kl0 e3) (Nat.le_of_ble_eq_true rfl) rfl lk_817 (by decide) (by decide) (Nat.le_of_ble_eq_true rfl) dX6_isStarted_25 rfl ?_
        refine ev_iconst (v := -1) dX6_isStarted_28 (by decide) ?_
        refine ev_icmp_ne (tgt := 46) dX6_isStarted_29 (by decide) (fun c1 => ?_) (fun c1 => ?_)
        · replace hf := if_f c1 hf
          refine ev_sub [0, 1, 2, 4] rfl (lv2 := [(0, .ref l0), (1, .int l1), (2, .int l2), (4, .int l4)]) ?_
          exact jn_X6_isStarted_46 kl0 hx0 hk hf
        · replace hf := if_t c1 hf
          refine ev_aload_n (n := 0) dX6_isStarted_32 rfl rfl ?_
          refine ev_get (v := .ref (l0 + 8)) 9 kl0 rfl (by decide) rfl lk_615 dX6_isStarted_33 ?_
          refine ev_iconst (v := 4) dX6_isStarted_36 (by decide) ?_
          refine ev_iload_n (n := 2) dX6_isStarted_37 rfl rfl ?_
          refine ev_imul dX6_isStarted_38 ?_
          refine ev_iload (n := 4) dX6_isStarted_39 rfl ?_
          refine ev_iadd dX6_isStarted_41 ?_
          obtain ⟨gd4, hf⟩ := gd_of hf
          refine ev_zald (kd_5_9 kl0) (inb_of gd4) dX6_isStarted_42 ?_
          refine ev_if_eq (tgt := 50) dX6_isStarted_43 (by decide) (fun c1 => ?_) (fun c1 => ?_)
          · replace hf := if_t c1 hf
            refine ev_iconst (v := 0) dX6_isStarted_50 (by decide) ?_
            refine ev_sub [0, 1, 2, 4] rfl (lv2 := [(0, .ref l0), (1, .int l1), (2, .int l2), (4, .int l4)]) ?_
            exact jn_X6_isStarted_51 kl0 hx0 hk hf
          · replace hf := if_f c1 hf
            refine ev_sub [0, 1, 2, 4] rfl (lv2 := [(0, .ref l0), (1, .int l1), (2, .int l2), (4, .int l4)]) ?_
            exact jn_X6_isStarted_46 kl0 hx0 hk hf
def f_X6_isStarted (h : Hp) (l0 : Nat) (l1 : Int32) (l2 : Int32) : Option (Int32) := (bn1 (f_X6_isStarted_l5 h l0 l1 l2 fu (0 : Int32) (0 : Int32)) (fun w3_5 => (if isBb w3_5 = true then (some w3_5) else none)))
set_option maxRecDepth 100000 in
set_option maxHeartbeats 4000000 in
theorem ev_X6_isStarted {g : Gl} {h : Hp} {l0 : Nat} {l1 : Int32} {l2 : Int32} {rv : Int32} (kl0 : KD g.1 l0 5 0) (hf : f_X6_isStarted h l0 l1 l2 = some rv) : Ev yX6_isStarted cX6_isStarted 5 (some .boolean) 2 43 g 0 [] [(0, .ref l0), (1, .int l1), (2, .int l2)] h (some (.int rv)) h := by
  unfold f_X6_isStarted at hf
  refine ev_iconst (v := 0) dX6_isStarted_0 (by decide) ?_
  refine ev_istore_n (lv2 := [(3, .int (0 : Int32)), (0, .ref l0), (1, .int l1), (2, .int l2)]) dX6_isStarted_1 rfl (by decide) rfl ?_
  refine ev_iconst (v := 0) dX6_isStarted_2 (by decide) ?_
  refine ev_istore (lv2 := [(4, .int (0 : Int32)), (3, .int (0 : Int32)), (0, .ref l0), (1, .int l1), (2, .int l2)]) dX6_isStarted_3 (by decide) rfl ?_
  obtain ⟨w3_5, e7, hf⟩ := bn1_of hf
  refine ev_sub [2, 3, 4, 1, 0] rfl (lv2 := [(0, .ref l0), (1, .int l1), (2, .int l2), (3, .int (0 : Int32)), (4, .int (0 : Int32))]) ?_
  refine lp_X6_isStarted_5 kl0 ?_ fu _ _ e7
  refine ev_iload_n (n := 0) dX6_isStarted_58 rfl rfl ?_
  obtain ⟨gd6, hf⟩ := gd_of hf
  obtain rfl := Option.some.inj hf
  exact ev_ireturn dX6_isStarted_59 ⟨.boolean, rfl, isB_nar (isBb_of gd6)⟩
def f_X6_isSooner (h : Hp) (l0 : Nat) (l1 : Int32) (l2 : Int32) (l3 : Int32) : Option (Int32) := (bn1 (f_X6_isStarted h l0 l1 l2) (fun v1 => (bn1 (f_X6_isStarted h l0 l1 l3) (fun v3 => (if v1 = v3 then (bn1 (f_X6_copiesOf h l0 l2) (fun v5 => (bn1 (f_X6_copiesOf h l0 l3) (fun v7 => (if v7 ≤ v5 then (some (0 : Int32)) else (some (1 : Int32))))))) else (if isBb v1 = true then (some v1) else none))))))
set_option maxRecDepth 100000 in
set_option maxHeartbeats 4000000 in
theorem ev_X6_isSooner {g : Gl} {h : Hp} {l0 : Nat} {l1 : Int32} {l2 : Int32} {l3 : Int32} {rv : Int32} (kl0 : KD g.1 l0 5 0) (hf : f_X6_isSooner h l0 l1 l2 l3 = some rv) : Ev yX6_isSooner cX6_isSooner 6 (some .boolean) 4 86 g 0 [] [(0, .ref l0), (1, .int l1), (2, .int l2), (3, .int l3)] h (some (.int rv)) h := by
  unfold f_X6_isSooner at hf
  refine ev_aload_n (n := 0) dX6_isSooner_0 rfl rfl ?_
  refine ev_iload_n (n := 1) dX6_isSooner_1 rfl rfl ?_
  refine ev_iload_n (n := 2) dX6_isSooner_2 rfl rfl ?_
  obtain ⟨v1, e2, hf⟩ := bn1_of hf
  refine ev_callVi (As := [.int l1, .int l2]) cal_X6_isStarted kl0 rfl (ev_X6_isStarted kl0 e2) (Nat.le_of_ble_eq_true rfl) rfl lk_825 (by decide) (by decide) (Nat.le_of_ble_eq_true rfl) dX6_isSooner_3 rfl ?_
  refine ev_istore (lv2 := [(4, .int v1), (0, .ref l0), (1, .int l1), (2, .int l2), (3, .int l3)]) dX6_isSooner_6 (by decide) rfl ?_
  refine ev_aload_n (n := 1) dX6_isSooner_8 rfl rfl ?_
  refine ev_iload_n (n := 2) dX6_isSooner_9 rfl rfl ?_
  refine ev_iload_n (n := 4) dX6_isSooner_10 rfl rfl ?_
  obtain ⟨v3, e4, hf⟩ := bn1_of hf
  refine ev_callVi (As := [.int l1, .int l3]) cal_X6_isStarted kl0 rfl (ev_X6_isStarted kl0 e4) (Nat.le_of_ble_eq_true rfl) rfl lk_825 (by decide) (by decide) (Nat.le_of_ble_eq_true rfl) dX6_isSooner_11 rfl ?_
  refine ev_istore (lv2 := [(5, .int v3), (4, .int v1), (0, .ref l0), (1, .int l1), (2, .int l2), (3, .int l3)]) dX6_isSooner_14 (by decide) rfl ?_
  refine ev_iload (n := 1) dX6_isSooner_16 rfl ?_
  refine ev_iload (n := 0) dX6_isSooner_18 rfl ?_
  refine ev_icmp_eq (tgt := 28) dX6_isSooner_20 (by decide) (fun c1 => ?_) (fun c1 => ?_)
  · replace hf := if_t c1 hf
    refine ev_aload_n (n := 2) dX6_isSooner_28 rfl rfl ?_
    refine ev_iload_n (n := 4) dX6_isSooner_29 rfl rfl ?_
    obtain ⟨v5, e6, hf⟩ := bn1_of hf
    refine ev_callVi (As := [.int l2]) cal_X6_copiesOf kl0 rfl (ev_X6_copiesOf kl0 e6) (Nat.le_of_ble_eq_true rfl) rfl lk_829 (by decide) (by decide) (Nat.le_of_ble_eq_true rfl) dX6_isSooner_30 rfl ?_
    refine ev_aload_n (n := 2) dX6_isSooner_33 rfl rfl ?_
    refine ev_iload_n (n := 5) dX6_isSooner_34 rfl rfl ?_
    obtain ⟨v7, e8, hf⟩ := bn1_of hf
    refine ev_callVi (As := [.int l3]) cal_X6_copiesOf kl0 rfl (ev_X6_copiesOf kl0 e8) (Nat.le_of_ble_eq_true rfl) rfl lk_829 (by decide) (by decide) (Nat.le_of_ble_eq_true rfl) dX6_isSooner_35 rfl ?_
    refine ev_icmp_ge (tgt := 45) dX6_isSooner_38 (by decide) (fun c1 => ?_) (fun c1 => ?_)
    · replace hf := if_t c1 hf
      refine ev_iconst (v := 0) dX6_isSooner_45 (by decide) ?_
      obtain rfl := Option.some.inj hf
      exact ev_ireturn dX6_isSooner_46 ⟨.boolean, rfl, rfl⟩
    · replace hf := if_f c1 hf
      refine ev_iconst (v := 1) dX6_isSooner_41 (by decide) ?_
      refine ev_goto (tgt := 46) dX6_isSooner_42 (by decide) ?_
      obtain rfl := Option.some.inj hf
      exact ev_ireturn dX6_isSooner_46 ⟨.boolean, rfl, rfl⟩
  · replace hf := if_f c1 hf
    refine ev_iload (n := 1) dX6_isSooner_23 rfl ?_
    refine ev_goto (tgt := 46) dX6_isSooner_25 (by decide) ?_
    obtain ⟨gd9, hf⟩ := gd_of hf
    obtain rfl := Option.some.inj hf
    exact ev_ireturn dX6_isSooner_46 ⟨.boolean, rfl, isB_nar (isBb_of gd9)⟩
def f_X6_lastBlock_j97 (kk : Int32 → Int32 → Option (Int32)) (h : Hp) (s0 : Int32) (l0 : Nat) (l1 : Int32) (l2 : Int32) (l4 : Int32) : Option (Int32) := (kk s0 (l4 + (-1)))
set_option maxRecDepth 100000 in
set_option maxHeartbeats 4000000 in
theorem jn_X6_lastBlock_97 {g : Gl} {h : Hp} {kk : Int32 → Int32 → Option (Int32)} {s0 : Int32} {l0 : Nat} {l1 : Int32} {l2 : Int32} {l4 : Int32}  {r : Option Value} {h2 : Hp} {o3 : Int32} (kl0 : KD g.1 l0 5 0) (hx0 : Ev yX6_lastBlock cX6_lastBlock 8 (some .int) 3 64 g 104 [] [(3, .int o3)] h r h2) (hk : ∀ (x3 : Int32) (x4 : Int32), kk x3 x4 = some o3 → Ev yX6_lastBlock cX6_lastBlock 8 (some .int) 3 64 g 14 [] [(0, .ref l0), (1, .int l1), (2, .int l2), (3, .int x3), (4, .int x4)] h r h2) (hf : f_X6_lastBlock_j97 kk h s0 l0 l1 l2 l4 = some o3) : Ev yX6_lastBlock cX6_lastBlock 8 (some .int) 3 64 g 97 [.int s0] [(0, .ref l0), (1, .int l1), (2, .int l2), (4, .int l4)] h r h2 := by
  unfold f_X6_lastBlock_j97 at hf
  refine ev_istore_n (lv2 := [(3, .int s0), (0, .ref l0), (1, .int l1), (2, .int l2), (4, .int l4)]) dX6_lastBlock_97 rfl (by decide) rfl ?_
  refine ev_iinc (z := 4) (v := (l4 + (-1))) (lv2 := [(4, .int (l4 + (-1))), (3, .int s0), (0, .ref l0), (1, .int l1), (2, .int l2)]) dX6_lastBlock_98 rfl rfl (by decide) rfl ?_
  refine ev_goto (tgt := 14) dX6_lastBlock_101 (by decide) ?_
  refine ev_sub [2, 3, 4, 1, 0] rfl (lv2 := [(0, .ref l0), (1, .int l1), (2, .int l2), (3, .int s0), (4, .int (l4 + (-1)))]) ?_
  exact hk _ _ hf
def f_X6_lastBlock_j84 (kk : Int32 → Int32 → Option (Int32)) (h : Hp) (s0 : Int32) (l0 : Nat) (l1 : Int32) (l2 : Int32) (l3 : Int32) (l4 : Int32) : Option (Int32) := (if s0 = 0 then (f_X6_lastBlock_j97 kk h l3 l0 l1 l2 l4) else (f_X6_lastBlock_j97 kk h l4 l0 l1 l2 l4))
set_option maxRecDepth 100000 in
set_option maxHeartbeats 4000000 in
theorem jn_X6_lastBlock_84 {g : Gl} {h : Hp} {kk : Int32 → Int32 → Option (Int32)} {s0 : Int32} {l0 : Nat} {l1 : Int32} {l2 : Int32} {l3 : Int32} {l4 : Int32}  {r : Option Value} {h2 : Hp} {o3 : Int32} (kl0 : KD g.1 l0 5 0) (hx0 : Ev yX6_lastBlock cX6_lastBlock 8 (some .int) 3 64 g 104 [] [(3, .int o3)] h r h2) (hk : ∀ (x3 : Int32) (x4 : Int32), kk x3 x4 = some o3 → Ev yX6_lastBlock cX6_lastBlock 8 (some .int) 3 64 g 14 [] [(0, .ref l0), (1, .int l1), (2, .int l2), (3, .int x3), (4, .int x4)] h r h2) (hf : f_X6_lastBlock_j84 kk h s0 l0 l1 l2 l3 l4 = some o3) : Ev yX6_lastBlock cX6_lastBlock 8 (some .int) 3 64 g 84 [.int s0] [(0, .ref l0), (1, .int l1), (2, .int l2), (3, .int l3), (4, .int l4)] h r h2 := by
  unfold f_X6_lastBlock_j84 at hf
  refine ev_istore (lv2 := [(7, .int s0), (0, .ref l0), (1, .int l1), (2, .int l2), (3, .int l3), (4, .int l4)]) dX6_lastBlock_84 (by decide) rfl ?_
  refine ev_iload (n := 0) dX6_lastBlock_86 rfl ?_
  refine ev_if_eq (tgt := 96) dX6_lastBlock_88 (by decide) (fun c1 => ?_) (fun c1 => ?_)
  · replace hf := if_t c1 hf
    refine ev_iload_n (n := 4) dX6_lastBlock_96 rfl rfl ?_
    refine ev_sub [1, 2, 3, 5] rfl (lv2 := [(0, .ref l0), (1, .int l1), (2, .int l2), (4, .int l4)]) ?_
    exact jn_X6_lastBlock_97 kl0 hx0 hk hf
  · replace hf := if_f c1 hf
    refine ev_iload (n := 5) dX6_lastBlock_91 rfl ?_
    refine ev_goto (tgt := 97) dX6_lastBlock_93 (by decide) ?_
    refine ev_sub [1, 2, 3, 5] rfl (lv2 := [(0, .ref l0), (1, .int l1), (2, .int l2), (4, .int l4)]) ?_
    exact jn_X6_lastBlock_97 kl0 hx0 hk hf
def f_X6_lastBlock_j83 (kk : Int32 → Int32 → Option (Int32)) (h : Hp) (l0 : Nat) (l1 : Int32) (l2 : Int32) (l3 : Int32) (l4 : Int32) : Option (Int32) := (f_X6_lastBlock_j84 kk h (0 : Int32) l0 l1 l2 l3 l4)
set_option maxRecDepth 100000 in
set_option maxHeartbeats 4000000 in
theorem jn_X6_lastBlock_83 {g : Gl} {h : Hp} {kk : Int32 → Int32 → Option (Int32)} {l0 : Nat} {l1 : Int32} {l2 : Int32} {l3 : Int32} {l4 : Int32}  {r : Option Value} {h2 : Hp} {o3 : Int32} (kl0 : KD g.1 l0 5 0) (hx0 : Ev yX6_lastBlock cX6_lastBlock 8 (some .int) 3 64 g 104 [] [(3, .int o3)] h r h2) (hk : ∀ (x3 : Int32) (x4 : Int32), kk x3 x4 = some o3 → Ev yX6_lastBlock cX6_lastBlock 8 (some .int) 3 64 g 14 [] [(0, .ref l0), (1, .int l1), (2, .int l2), (3, .int x3), (4, .int x4)] h r h2) (hf : f_X6_lastBlock_j83 kk h l0 l1 l2 l3 l4 = some o3) : Ev yX6_lastBlock cX6_lastBlock 8 (some .int) 3 64 g 83 [] [(0, .ref l0), (1, .int l1), (2, .int l2), (3, .int l3), (4, .int l4)] h r h2 := by
  unfold f_X6_lastBlock_j83 at hf
  refine ev_iconst (v := 0) dX6_lastBlock_83 (by decide) ?_
  exact jn_X6_lastBlock_84 kl0 hx0 hk hf
def f_X6_lastBlock_l14 (h : Hp) (l0 : Nat) (l1 : Int32) (l2 : Int32) : Nat → Int32 → Int32 → Option (Int32)
  | 0, _, _ => none
  | fu1 + 1, l3, l4 => (if l4 < 0 then (some l3) else (bn1 (f_X6_claims h l0 l2) (fun v2 => (if ((v2 >>> ((l4 / (4 : Int32)) &&& 31)) &&& (1 : Int32)) = (1 : Int32) then (bn1 (f_X6_has h l0 l1 (l4 / (4 : Int32))) (fun v4 => (if v4 = 0 then (if (hI h (l0 + 2) (2 : Int32).toNatClampNeg) ≤ (l4 - l4 / (4 : Int32) * (4 : Int32)) then (f_X6_lastBlock_j83 (f_X6_lastBlock_l14 h l0 l1 l2 fu1) h l0 l1 l2 l3 l4) else (bn1 (f_X6_source h l0 l1 (l4 / (4 : Int32)) (l4 - l4 / (4 : Int32) * (4 : Int32))) (fun v7 => (if v7 = (-1 : Int32) then (f_X6_lastBlock_j84 (f_X6_lastBlock_l14 h l0 l1 l2 fu1) h (1 : Int32) l0 l1 l2 l3 l4) else (f_X6_lastBlock_j83 (f_X6_lastBlock_l14 h l0 l1 l2 fu1) h l0 l1 l2 l3 l4))))) else (f_X6_lastBlock_j83 (f_X6_lastBlock_l14 h l0 l1 l2 fu1) h l0 l1 l2 l3 l4)))) else (f_X6_lastBlock_j83 (f_X6_lastBlock_l14 h l0 l1 l2 fu1) h l0 l1 l2 l3 l4)))))
theorem f_X6_lastBlock_l14_s (h : Hp) (l0 : Nat) (l1 : Int32) (l2 : Int32) (fu1 : Nat) (l3 : Int32) (l4 : Int32) : f_X6_lastBlock_l14 h l0 l1 l2 (fu1 + 1) l3 l4 = (if l4 < 0 then (some l3) else (bn1 (f_X6_claims h l0 l2) (fun v2 => (if ((v2 >>> ((l4 / (4 : Int32)) &&& 31)) &&& (1 : Int32)) = (1 : Int32) then (bn1 (f_X6_has h l0 l1 (l4 / (4 : Int32))) (fun v4 => (if v4 = 0 then (if (hI h (l0 + 2) (2 : Int32).toNatClampNeg) ≤ (l4 - l4 / (4 : Int32) * (4 : Int32)) then (f_X6_lastBlock_j83 (f_X6_lastBlock_l14 h l0 l1 l2 fu1) h l0 l1 l2 l3 l4) else (bn1 (f_X6_source h l0 l1 (l4 / (4 : Int32)) (l4 - l4 / (4 : Int32) * (4 : Int32))) (fun v7 => (if v7 = (-1 : Int32) then (f_X6_lastBlock_j84 (f_X6_lastBlock_l14 h l0 l1 l2 fu1) h (1 : Int32) l0 l1 l2 l3 l4) else (f_X6_lastBlock_j83 (f_X6_lastBlock_l14 h l0 l1 l2 fu1) h l0 l1 l2 l3 l4))))) else (f_X6_lastBlock_j83 (f_X6_lastBlock_l14 h l0 l1 l2 fu1) h l0 l1 l2 l3 l4)))) else (f_X6_lastBlock_j83 (f_X6_lastBlock_l14 h l0 l1 l2 fu1) h l0 l1 l2 l3 l4))))) := rfl
theorem f_X6_lastBlock_l14_0 (h : Hp) (l0 : Nat) (l1 : Int32) (l2 : Int32) (l3 : Int32) (l4 : Int32) : f_X6_lastBlock_l14 h l0 l1 l2 0 l3 l4 = none := rfl
set_option maxRecDepth 100000 in
set_option maxHeartbeats 4000000 in
theorem lp_X6_lastBlock_14 {g : Gl} {h : Hp} {l0 : Nat} {l1 : Int32} {l2 : Int32} {r : Option Value} {h2 : Hp} {o3 : Int32} (kl0 : KD g.1 l0 5 0) (hx0 : Ev yX6_lastBlock cX6_lastBlock 8 (some .int) 3 64 g 104 [] [(3, .int o3)] h r h2) : ∀ (fu1 : Nat) (l3 : Int32) (l4 : Int32), f_X6_lastBlock_l14 h l0 l1 l2 fu1 l3 l4 = some o3 → Ev yX6_lastBlock cX6_lastBlock 8 (some .int) 3 64 g 14 [] [(0, .ref l0), (1, .int l1), (2, .int l2), (3, .int l3), (4, .int l4)] h r h2 := by
  intro fu1
  induction fu1 with
  | zero =>
    intro l3 l4 hf
    cases hf
  | succ fu1 ih =>
    intro l3 l4 hf
    rw [f_X6_lastBlock_l14_s] at hf
    have hk := ih
    refine ev_iload (n := 4) dX6_lastBlock_14 rfl ?_
    refine ev_if_lt (tgt := 104) dX6_lastBlock_16 (by decide) (fun c1 => ?_) (fun c1 => ?_)
    · replace hf := if_t c1 hf
      refine ev_sub [3] rfl (lv2 := [(3, .int l3)]) ?_
      obtain rfl := Option.some.inj hf
      exact hx0
    · replace hf := if_f c1 hf
      refine ev_iload (n := 4) dX6_lastBlock_19 rfl ?_
      refine ev_iconst (v := 4) dX6_lastBlock_21 (by decide) ?_
      refine ev_idiv dX6_lastBlock_22 (by decide) ?_
      refine ev_istore (lv2 := [(5, .int (l4 / (4 : Int32))), (0, .ref l0), (1, .int l1), (2, .int l2), (3, .int l3), (4, .int l4)]) dX6_lastBlock_23 (by decide) rfl ?_
      refine ev_iload (n := 5) dX6_lastBlock_25 rfl ?_
      refine ev_iconst (v := 4) dX6_lastBlock_27 (by decide) ?_
      refine ev_irem dX6_lastBlock_28 (by decide) ?_
      refine ev_istore (lv2 := [(6, .int (l4 - l4 / (4 : Int32) * (4 : Int32))), (5, .int (l4 / (4 : Int32))), (0, .ref l0), (1, .int l1), (2, .int l2), (3, .int l3), (4, .int l4)]) dX6_lastBlock_29 (by decide) rfl ?_
      refine ev_aload_n (n := 2) dX6_lastBlock_31 rfl rfl ?_
      refine ev_iload_n (n := 4) dX6_lastBlock_32 rfl rfl ?_
      obtain ⟨v2, e3, hf⟩ := bn1_of hf
      refine ev_callVi (As := [.int l2]) cal_X6_claims kl0 rfl (ev_X6_claims kl0 e3) (Nat.le_of_ble_eq_true rfl) rfl lk_771 (by decide) (by decide) (Nat.le_of_ble_eq_true rfl) dX6_lastBlock_33 rfl ?_
      refine ev_iload (n := 1) dX6_lastBlock_36 rfl ?_
      refine ev_ishr dX6_lastBlock_38 ?_
      refine ev_iconst (v := 1) dX6_lastBlock_39 (by decide) ?_
      refine ev_iand dX6_lastBlock_40 ?_
      refine ev_iconst (v := 1) dX6_lastBlock_41 (by decide) ?_
      refine ev_icmp_ne (tgt := 83) dX6_lastBlock_42 (by decide) (fun c1 => ?_) (fun c1 => ?_)
      · replace hf := if_f c1 hf
        refine ev_sub [2, 3, 4, 5, 6] rfl (lv2 := [(0, .ref l0), (1, .int l1), (2, .int l2), (3, .int l3), (4, .int l4)]) ?_
        exact jn_X6_lastBlock_83 kl0 hx0 hk hf
      · replace hf := if_t c1 hf
        refine ev_aload_n (n := 2) dX6_lastBlock_45 rfl rfl ?_
        refine ev_iload_n (n := 3) dX6_lastBlock_46 rfl rfl ?_
        refine ev_iload (n := 1) dX6_lastBlock_47 rfl ?_
        obtain ⟨v4, e5, hf⟩ := bn1_of hf
        refine ev_callVi (As := [.int l1, .int (l4 / (4 : Int32))]) cal_X6_has kl0 rfl (ev_X6_has kl0 e5) (Nat.le_of_ble_eq_true rfl) rfl lk_715 (by decide) (by decide) (Nat.le_of_ble_eq_true rfl) dX6_lastBlock_49 rfl ?_
        refine ev_if_ne (tgt := 83) dX6_lastBlock_52 (by decide) (fun c1 => ?_) (fun c1 => ?_)
        · replace hf := if_f c1 hf
          refine ev_sub [2, 3, 4, 5, 6] rfl (lv2 := [(0, .ref l0), (1, .int l1), (2, .int l2), (3, .int l3), (4, .int l4)]) ?_
          exact jn_X6_lastBlock_83 kl0 hx0 hk hf
        · replace hf := if_t c1 hf
          refine ev_iload (n := 0) dX6_lastBlock_55 rfl ?_
          refine ev_aload_n (n := 2) dX6_lastBlock_57 rfl rfl ?_
          refine ev_get (v := .ref (l0 + 2)) 1 kl0 rfl (by decide) rfl lk_607 dX6_lastBlock_58 ?_
          refine ev_iconst (v := 2) dX6_lastBlock_61 (by decide) ?_
          refine ev_iald (kd_5_1 kl0) (by unfold vp_in; decide) dX6_lastBlock_62 ?_
          refine ev_icmp_ge (tgt := 83) dX6_lastBlock_63 (by decide) (fun c1 => ?_) (fun c1 => ?_)
          · replace hf := if_t c1 hf
            refine ev_sub [2, 3, 4, 5, 6] rfl (lv2 := [(0, .ref l0), (1, .int l1), (2, .int l2), (3, .int l3), (4, .int l4)]) ?_
            exact jn_X6_lastBlock_83 kl0 hx0 hk hf
          · replace hf := if_f c1 hf
            refine ev_aload_n (n := 2) dX6_lastBlock_66 rfl rfl ?_
            refine ev_iload_n (n := 3) dX6_lastBlock_67 rfl rfl ?_
            refine ev_iload (n := 1) dX6_lastBlock_68 rfl ?_
            refine ev_iload (n := 0) dX6_lastBlock_70 rfl ?_
            obtain ⟨v7, e8, hf⟩ := bn1_of hf
            refine ev_callVi (As := [.int l1, .int (l4 / (4 : Int32)), .int (l4 - l4 / (4 : Int32) * (4 : Int32))]) cal_X6_source kl0 rfl (ev_X6_source kl0 e8) (Nat.le_of_ble_eq_true rfl) rfl lk_817 (by decide) (by decide) (Nat.le_of_ble_eq_true rfl) dX6_lastBlock_72 rfl ?_
            refine ev_iconst (v := -1) dX6_lastBlock_75 (by decide) ?_
            refine ev_icmp_ne (tgt := 83) dX6_lastBlock_76 (by decide) (fun c1 => ?_) (fun c1 => ?_)
            · replace hf := if_f c1 hf
              refine ev_sub [2, 3, 4, 5, 6] rfl (lv2 := [(0, .ref l0), (1, .int l1), (2, .int l2), (3, .int l3), (4, .int l4)]) ?_
              exact jn_X6_lastBlock_83 kl0 hx0 hk hf
            · replace hf := if_t c1 hf
              refine ev_iconst (v := 1) dX6_lastBlock_79 (by decide) ?_
              refine ev_goto (tgt := 84) dX6_lastBlock_80 (by decide) ?_
              refine ev_sub [2, 3, 4, 5, 6] rfl (lv2 := [(0, .ref l0), (1, .int l1), (2, .int l2), (3, .int l3), (4, .int l4)]) ?_
              exact jn_X6_lastBlock_84 kl0 hx0 hk hf
def f_X6_lastBlock (h : Hp) (l0 : Nat) (l1 : Int32) (l2 : Int32) : Option (Int32) := (bn1 (f_X6_lastBlock_l14 h l0 l1 l2 fu (-1 : Int32) (((4 : Int32) * (hI h (l0 + 2) (1 : Int32).toNatClampNeg)) - (1 : Int32))) (fun w3_9 => (some w3_9)))
set_option maxRecDepth 100000 in
set_option maxHeartbeats 4000000 in
theorem ev_X6_lastBlock {g : Gl} {h : Hp} {l0 : Nat} {l1 : Int32} {l2 : Int32} {rv : Int32} (kl0 : KD g.1 l0 5 0) (hf : f_X6_lastBlock h l0 l1 l2 = some rv) : Ev yX6_lastBlock cX6_lastBlock 8 (some .int) 3 64 g 0 [] [(0, .ref l0), (1, .int l1), (2, .int l2)] h (some (.int rv)) h := by
  unfold f_X6_lastBlock at hf
  refine ev_iconst (v := -1) dX6_lastBlock_0 (by decide) ?_
  refine ev_istore_n (lv2 := [(3, .int (-1 : Int32)), (0, .ref l0), (1, .int l1), (2, .int l2)]) dX6_lastBlock_1 rfl (by decide) rfl ?_
  refine ev_iconst (v := 4) dX6_lastBlock_2 (by decide) ?_
  refine ev_aload_n (n := 1) dX6_lastBlock_3 rfl rfl ?_
  refine ev_get (v := .ref (l0 + 2)) 1 kl0 rfl (by decide) rfl lk_607 dX6_lastBlock_4 ?_
  refine ev_iconst (v := 1) dX6_lastBlock_7 (by decide) ?_
  refine ev_iald (kd_5_1 kl0) (by unfold vp_in; decide) dX6_lastBlock_8 ?_
  refine ev_imul dX6_lastBlock_9 ?_
  refine ev_iconst (v := 1) dX6_lastBlock_10 (by decide) ?_
  refine ev_isub dX6_lastBlock_11 ?_
  refine ev_istore (lv2 := [(4, .int (((4 : Int32) * (hI h (l0 + 2) (1 : Int32).toNatClampNeg)) - (1 : Int32))), (3, .int (-1 : Int32)), (0, .ref l0), (1, .int l1), (2, .int l2)]) dX6_lastBlock_12 (by decide) rfl ?_
  obtain ⟨w3_9, e10, hf⟩ := bn1_of hf
  refine ev_sub [2, 3, 4, 1, 0] rfl (lv2 := [(0, .ref l0), (1, .int l1), (2, .int l2), (3, .int (-1 : Int32)), (4, .int (((4 : Int32) * (hI h (l0 + 2) (1 : Int32).toNatClampNeg)) - (1 : Int32)))]) ?_
  refine lp_X6_lastBlock_14 kl0 ?_ fu _ _ e10
  refine ev_iload_n (n := 0) dX6_lastBlock_104 rfl rfl ?_
  obtain rfl := Option.some.inj hf
  exact ev_ireturn dX6_lastBlock_105 ⟨.int, rfl, rfl⟩
def f_X6_askedOf_j82 (kk : Int32 → Int32 → Option (Int32)) (h : Hp) (l0 : Nat) (l1 : Int32) (l2 : Int32) (l3 : Int32) (l4 : Int32) : Option (Int32) := (kk l3 (l4 + 1))
set_option maxRecDepth 100000 in
set_option maxHeartbeats 4000000 in
theorem jn_X6_askedOf_82 {g : Gl} {h : Hp} {kk : Int32 → Int32 → Option (Int32)} {l0 : Nat} {l1 : Int32} {l2 : Int32} {l3 : Int32} {l4 : Int32}  {r : Option Value} {h2 : Hp} {o3 : Int32} (kl0 : KD g.1 l0 5 0) (hx0 : Ev yX6_askedOf cX6_askedOf 6 (some .int) 5 111 g 88 [] [(0, .ref l0), (1, .int l1), (2, .int l2), (3, .int o3)] h r h2) (hk : ∀ (x3 : Int32) (x4 : Int32), kk x3 x4 = some o3 → Ev yX6_askedOf cX6_askedOf 6 (some .int) 5 111 g 5 [] [(0, .ref l0), (1, .int l1), (2, .int l2), (3, .int x3), (4, .int x4)] h r h2) (hf : f_X6_askedOf_j82 kk h l0 l1 l2 l3 l4 = some o3) : Ev yX6_askedOf cX6_askedOf 6 (some .int) 5 111 g 82 [] [(0, .ref l0), (1, .int l1), (2, .int l2), (3, .int l3), (4, .int l4)] h r h2 := by
  unfold f_X6_askedOf_j82 at hf
  refine ev_iinc (z := 4) (v := (l4 + 1)) (lv2 := [(4, .int (l4 + 1)), (0, .ref l0), (1, .int l1), (2, .int l2), (3, .int l3)]) dX6_askedOf_82 rfl rfl (by decide) rfl ?_
  refine ev_goto (tgt := 5) dX6_askedOf_85 (by decide) ?_
  refine ev_sub [1, 2, 3, 4, 0] rfl (lv2 := [(0, .ref l0), (1, .int l1), (2, .int l2), (3, .int l3), (4, .int (l4 + 1))]) ?_
  exact hk _ _ hf
def f_X6_askedOf_j79 (kk : Int32 → Int32 → Option (Int32)) (h : Hp) (l0 : Nat) (l1 : Int32) (l2 : Int32) (l4 : Int32) : Option (Int32) := (f_X6_askedOf_j82 kk h l0 l1 l2 l4 l4)
set_option maxRecDepth 100000 in
set_option maxHeartbeats 4000000 in
theorem jn_X6_askedOf_79 {g : Gl} {h : Hp} {kk : Int32 → Int32 → Option (Int32)} {l0 : Nat} {l1 : Int32} {l2 : Int32} {l4 : Int32}  {r : Option Value} {h2 : Hp} {o3 : Int32} (kl0 : KD g.1 l0 5 0) (hx0 : Ev yX6_askedOf cX6_askedOf 6 (some .int) 5 111 g 88 [] [(0, .ref l0), (1, .int l1), (2, .int l2), (3, .int o3)] h r h2) (hk : ∀ (x3 : Int32) (x4 : Int32), kk x3 x4 = some o3 → Ev yX6_askedOf cX6_askedOf 6 (some .int) 5 111 g 5 [] [(0, .ref l0), (1, .int l1), (2, .int l2), (3, .int x3), (4, .int x4)] h r h2) (hf : f_X6_askedOf_j79 kk h l0 l1 l2 l4 = some o3) : Ev yX6_askedOf cX6_askedOf 6 (some .int) 5 111 g 79 [] [(0, .ref l0), (1, .int l1), (2, .int l2), (4, .int l4)] h r h2 := by
  unfold f_X6_askedOf_j79 at hf
  refine ev_iload (n := 3) dX6_askedOf_79 rfl ?_
  refine ev_istore_n (lv2 := [(3, .int l4), (0, .ref l0), (1, .int l1), (2, .int l2), (4, .int l4)]) dX6_askedOf_81 rfl (by decide) rfl ?_
  refine ev_sub [1, 2, 3, 0, 4] rfl (lv2 := [(0, .ref l0), (1, .int l1), (2, .int l2), (3, .int l4), (4, .int l4)]) ?_
  exact jn_X6_askedOf_82 kl0 hx0 hk hf
def f_X6_askedOf_j56 (kk : Int32 → Int32 → Option (Int32)) (h : Hp) (s0 : Int32) (l0 : Nat) (l1 : Int32) (l2 : Int32) (l3 : Int32) (l4 : Int32) : Option (Int32) := (if s0 = 0 then (f_X6_askedOf_j82 kk h l0 l1 l2 l3 l4) else (if l3 = (-1 : Int32) then (f_X6_askedOf_j79 kk h l0 l1 l2 l4) else (bn1 (f_X6_isSooner h l0 l1 l4 l3) (fun v4 => (if v4 = 0 then (f_X6_askedOf_j82 kk h l0 l1 l2 l3 l4) else (f_X6_askedOf_j79 kk h l0 l1 l2 l4))))))
set_option maxRecDepth 100000 in
set_option maxHeartbeats 4000000 in
theorem jn_X6_askedOf_56 {g : Gl} {h : Hp} {kk : Int32 → Int32 → Option (Int32)} {s0 : Int32} {l0 : Nat} {l1 : Int32} {l2 : Int32} {l3 : Int32} {l4 : Int32}  {r : Option Value} {h2 : Hp} {o3 : Int32} (kl0 : KD g.1 l0 5 0) (hx0 : Ev yX6_askedOf cX6_askedOf 6 (some .int) 5 111 g 88 [] [(0, .ref l0), (1, .int l1), (2, .int l2), (3, .int o3)] h r h2) (hk : ∀ (x3 : Int32) (x4 : Int32), kk x3 x4 = some o3 → Ev yX6_askedOf cX6_askedOf 6 (some .int) 5 111 g 5 [] [(0, .ref l0), (1, .int l1), (2, .int l2), (3, .int x3), (4, .int x4)] h r h2) (hf : f_X6_askedOf_j56 kk h s0 l0 l1 l2 l3 l4 = some o3) : Ev yX6_askedOf cX6_askedOf 6 (some .int) 5 111 g 56 [.int s0] [(0, .ref l0), (1, .int l1), (2, .int l2), (3, .int l3), (4, .int l4)] h r h2 := by
  unfold f_X6_askedOf_j56 at hf
  refine ev_istore (lv2 := [(5, .int s0), (0, .ref l0), (1, .int l1), (2, .int l2), (3, .int l3), (4, .int l4)]) dX6_askedOf_56 (by decide) rfl ?_
  refine ev_iload (n := 0) dX6_askedOf_58 rfl ?_
  refine ev_if_eq (tgt := 82) dX6_askedOf_60 (by decide) (fun c1 => ?_) (fun c1 => ?_)
  · replace hf := if_t c1 hf
    refine ev_sub [1, 2, 3, 4, 5] rfl (lv2 := [(0, .ref l0), (1, .int l1), (2, .int l2), (3, .int l3), (4, .int l4)]) ?_
    exact jn_X6_askedOf_82 kl0 hx0 hk hf
  · replace hf := if_f c1 hf
    refine ev_iload_n (n := 4) dX6_askedOf_63 rfl rfl ?_
    refine ev_iconst (v := -1) dX6_askedOf_64 (by decide) ?_
    refine ev_icmp_eq (tgt := 79) dX6_askedOf_65 (by decide) (fun c1 => ?_) (fun c1 => ?_)
    · replace hf := if_t c1 hf
      refine ev_sub [1, 2, 3, 5] rfl (lv2 := [(0, .ref l0), (1, .int l1), (2, .int l2), (4, .int l4)]) ?_
      exact jn_X6_askedOf_79 kl0 hx0 hk hf
    · replace hf := if_f c1 hf
      refine ev_aload_n (n := 1) dX6_askedOf_68 rfl rfl ?_
      refine ev_iload_n (n := 2) dX6_askedOf_69 rfl rfl ?_
      refine ev_iload (n := 5) dX6_askedOf_70 rfl ?_
      refine ev_iload_n (n := 4) dX6_askedOf_72 rfl rfl ?_
      obtain ⟨v4, e5, hf⟩ := bn1_of hf
      refine ev_callVi (As := [.int l1, .int l4, .int l3]) cal_X6_isSooner kl0 rfl (ev_X6_isSooner kl0 e5) (Nat.le_of_ble_eq_true rfl) rfl lk_821 (by decide) (by decide) (Nat.le_of_ble_eq_true rfl) dX6_askedOf_73 rfl ?_
      refine ev_if_eq (tgt := 82) dX6_askedOf_76 (by decide) (fun c1 => ?_) (fun c1 => ?_)
      · replace hf := if_t c1 hf
        refine ev_sub [1, 2, 3, 4, 5] rfl (lv2 := [(0, .ref l0), (1, .int l1), (2, .int l2), (3, .int l3), (4, .int l4)]) ?_
        exact jn_X6_askedOf_82 kl0 hx0 hk hf
      · replace hf := if_f c1 hf
        refine ev_sub [1, 2, 3, 5] rfl (lv2 := [(0, .ref l0), (1, .int l1), (2, .int l2), (4, .int l4)]) ?_
        exact jn_X6_askedOf_79 kl0 hx0 hk hf
def f_X6_askedOf_j55 (kk : Int32 → Int32 → Option (Int32)) (h : Hp) (l0 : Nat) (l1 : Int32) (l2 : Int32) (l3 : Int32) (l4 : Int32) : Option (Int32) := (f_X6_askedOf_j56 kk h (0 : Int32) l0 l1 l2 l3 l4)
set_option maxRecDepth 100000 in
set_option maxHeartbeats 4000000 in
theorem jn_X6_askedOf_55 {g : Gl} {h : Hp} {kk : Int32 → Int32 → Option (Int32)} {l0 : Nat} {l1 : Int32} {l2 : Int32} {l3 : Int32} {l4 : Int32}  {r : Option Value} {h2 : Hp} {o3 : Int32} (kl0 : KD g.1 l0 5 0) (hx0 : Ev yX6_askedOf cX6_askedOf 6 (some .int) 5 111 g 88 [] [(0, .ref l0), (1, .int l1), (2, .int l2), (3, .int o3)] h r h2) (hk : ∀ (x3 : Int32) (x4 : Int32), kk x3 x4 = some o3 → Ev yX6_askedOf cX6_askedOf 6 (some .int) 5 111 g 5 [] [(0, .ref l0), (1, .int l1), (2, .int l2), (3, .int x3), (4, .int x4)] h r h2) (hf : f_X6_askedOf_j55 kk h l0 l1 l2 l3 l4 = some o3) : Ev yX6_askedOf cX6_askedOf 6 (some .int) 5 111 g 55 [] [(0, .ref l0), (1, .int l1), (2, .int l2), (3, .int l3), (4, .int l4)] h r h2 := by
  unfold f_X6_askedOf_j55 at hf
  refine ev_iconst (v := 0) dX6_askedOf_55 (by decide) ?_
  exact jn_X6_askedOf_56 kl0 hx0 hk hf
def f_X6_askedOf_l5 (h : Hp) (l0 : Nat) (l1 : Int32) (l2 : Int32) : Nat → Int32 → Int32 → Option (Int32)
  | 0, _, _ => none
  | fu1 + 1, l3, l4 => (if (hI h (l0 + 2) (1 : Int32).toNatClampNeg) ≤ l4 then (some l3) else (bn1 (f_X6_claims h l0 l2) (fun v2 => (if ((v2 >>> (l4 &&& 31)) &&& (1 : Int32)) = (1 : Int32) then (bn1 (f_X6_has h l0 l1 l4) (fun v6 => (if v6 = 0 then (bn1 (f_X6_freeBlock h l0 l1 l4) (fun v8 => (if v8 = (-1 : Int32) then (f_X6_askedOf_j55 (f_X6_askedOf_l5 h l0 l1 l2 fu1) h l0 l1 l2 l3 l4) else (f_X6_askedOf_j56 (f_X6_askedOf_l5 h l0 l1 l2 fu1) h (1 : Int32) l0 l1 l2 l3 l4)))) else (f_X6_askedOf_j55 (f_X6_askedOf_l5 h l0 l1 l2 fu1) h l0 l1 l2 l3 l4)))) else (f_X6_askedOf_j55 (f_X6_askedOf_l5 h l0 l1 l2 fu1) h l0 l1 l2 l3 l4)))))
theorem f_X6_askedOf_l5_s (h : Hp) (l0 : Nat) (l1 : Int32) (l2 : Int32) (fu1 : Nat) (l3 : Int32) (l4 : Int32) : f_X6_askedOf_l5 h l0 l1 l2 (fu1 + 1) l3 l4 = (if (hI h (l0 + 2) (1 : Int32).toNatClampNeg) ≤ l4 then (some l3) else (bn1 (f_X6_claims h l0 l2) (fun v2 => (if ((v2 >>> (l4 &&& 31)) &&& (1 : Int32)) = (1 : Int32) then (bn1 (f_X6_has h l0 l1 l4) (fun v6 => (if v6 = 0 then (bn1 (f_X6_freeBlock h l0 l1 l4) (fun v8 => (if v8 = (-1 : Int32) then (f_X6_askedOf_j55 (f_X6_askedOf_l5 h l0 l1 l2 fu1) h l0 l1 l2 l3 l4) else (f_X6_askedOf_j56 (f_X6_askedOf_l5 h l0 l1 l2 fu1) h (1 : Int32) l0 l1 l2 l3 l4)))) else (f_X6_askedOf_j55 (f_X6_askedOf_l5 h l0 l1 l2 fu1) h l0 l1 l2 l3 l4)))) else (f_X6_askedOf_j55 (f_X6_askedOf_l5 h l0 l1 l2 fu1) h l0 l1 l2 l3 l4))))) := rfl
theorem f_X6_askedOf_l5_0 (h : Hp) (l0 : Nat) (l1 : Int32) (l2 : Int32) (l3 : Int32) (l4 : Int32) : f_X6_askedOf_l5 h l0 l1 l2 0 l3 l4 = none := rfl
set_option maxRecDepth 100000 in
set_option maxHeartbeats 4000000 in
theorem lp_X6_askedOf_5 {g : Gl} {h : Hp} {l0 : Nat} {l1 : Int32} {l2 : Int32} {r : Option Value} {h2 : Hp} {o3 : Int32} (kl0 : KD g.1 l0 5 0) (hx0 : Ev yX6_askedOf cX6_askedOf 6 (some .int) 5 111 g 88 [] [(0, .ref l0), (1, .int l1), (2, .int l2), (3, .int o3)] h r h2) : ∀ (fu1 : Nat) (l3 : Int32) (l4 : Int32), f_X6_askedOf_l5 h l0 l1 l2 fu1 l3 l4 = some o3 → Ev yX6_askedOf cX6_askedOf 6 (some .int) 5 111 g 5 [] [(0, .ref l0), (1, .int l1), (2, .int l2), (3, .int l3), (4, .int l4)] h r h2 := by
  intro fu1
  induction fu1 with
  | zero =>
    intro l3 l4 hf
    cases hf
  | succ fu1 ih =>
    intro l3 l4 hf
    rw [f_X6_askedOf_l5_s] at hf
    have hk := ih
    refine ev_iload (n := 4) dX6_askedOf_5 rfl ?_
    refine ev_aload_n (n := 0) dX6_askedOf_7 rfl rfl ?_
    refine ev_get (v := .ref (l0 + 2)) 1 kl0 rfl (by decide) rfl lk_607 dX6_askedOf_8 ?_
    refine ev_iconst (v := 1) dX6_askedOf_11 (by decide) ?_
    refine ev_iald (kd_5_1 kl0) (by unfold vp_in; decide) dX6_askedOf_12 ?_
    refine ev_icmp_ge (tgt := 88) dX6_askedOf_13 (by decide) (fun c1 => ?_) (fun c1 => ?_)
    · replace hf := if_t c1 hf
      refine ev_sub [0, 1, 2, 3] rfl (lv2 := [(0, .ref l0), (1, .int l1), (2, .int l2), (3, .int l3)]) ?_
      obtain rfl := Option.some.inj hf
      exact hx0
    · replace hf := if_f c1 hf
      refine ev_aload_n (n := 0) dX6_askedOf_16 rfl rfl ?_
      refine ev_iload_n (n := 2) dX6_askedOf_17 rfl rfl ?_
      obtain ⟨v2, e3, hf⟩ := bn1_of hf
      refine ev_callVi (As := [.int l2]) cal_X6_claims kl0 rfl (ev_X6_claims kl0 e3) (Nat.le_of_ble_eq_true rfl) rfl lk_771 (by decide) (by decide) (Nat.le_of_ble_eq_true rfl) dX6_askedOf_18 rfl ?_
      refine ev_iload (n := 4) dX6_askedOf_21 rfl ?_
      refine ev_ishr dX6_askedOf_23 ?_
      refine ev_iconst (v := 1) dX6_askedOf_24 (by decide) ?_
      refine ev_iand dX6_askedOf_25 ?_
      refine ev_iconst (v := 1) dX6_askedOf_26 (by decide) ?_
      refine ev_icmp_ne (tgt := 55) dX6_askedOf_27 (by decide) (fun c1 => ?_) (fun c1 => ?_)
      · replace hf := if_f c1 hf
        exact jn_X6_askedOf_55 kl0 hx0 hk hf
      · replace hf := if_t c1 hf
        refine ev_aload_n (n := 0) dX6_askedOf_30 rfl rfl ?_
        refine ev_iload_n (n := 1) dX6_askedOf_31 rfl rfl ?_
        refine ev_iload (n := 4) dX6_askedOf_32 rfl ?_
        obtain ⟨v6, e7, hf⟩ := bn1_of hf
        refine ev_callVi (As := [.int l1, .int l4]) cal_X6_has kl0 rfl (ev_X6_has kl0 e7) (Nat.le_of_ble_eq_true rfl) rfl lk_715 (by decide) (by decide) (Nat.le_of_ble_eq_true rfl) dX6_askedOf_34 rfl ?_
        refine ev_if_ne (tgt := 55) dX6_askedOf_37 (by decide) (fun c1 => ?_) (fun c1 => ?_)
        · replace hf := if_f c1 hf
          exact jn_X6_askedOf_55 kl0 hx0 hk hf
        · replace hf := if_t c1 hf
          refine ev_aload_n (n := 0) dX6_askedOf_40 rfl rfl ?_
          refine ev_iload_n (n := 1) dX6_askedOf_41 rfl rfl ?_
          refine ev_iload (n := 4) dX6_askedOf_42 rfl ?_
          obtain ⟨v8, e9, hf⟩ := bn1_of hf
          refine ev_callVi (As := [.int l1, .int l4]) cal_X6_freeBlock kl0 rfl (ev_X6_freeBlock kl0 e9) (Nat.le_of_ble_eq_true rfl) rfl lk_809 (by decide) (by decide) (Nat.le_of_ble_eq_true rfl) dX6_askedOf_44 rfl ?_
          refine ev_iconst (v := -1) dX6_askedOf_47 (by decide) ?_
          refine ev_icmp_eq (tgt := 55) dX6_askedOf_48 (by decide) (fun c1 => ?_) (fun c1 => ?_)
          · replace hf := if_t c1 hf
            exact jn_X6_askedOf_55 kl0 hx0 hk hf
          · replace hf := if_f c1 hf
            refine ev_iconst (v := 1) dX6_askedOf_51 (by decide) ?_
            refine ev_goto (tgt := 56) dX6_askedOf_52 (by decide) ?_
            exact jn_X6_askedOf_56 kl0 hx0 hk hf
def f_X6_askedOf (h : Hp) (l0 : Nat) (l1 : Int32) (l2 : Int32) : Option (Int32) := (bn1 (f_X6_askedOf_l5 h l0 l1 l2 fu (-1 : Int32) (0 : Int32)) (fun w3_10 => (if w3_10 = (-1 : Int32) then (bn1 (f_X6_left h l0 l1) (fun v11 => (if (hI h (l0 + 2) (10 : Int32).toNatClampNeg) < v11 then (some (-1 : Int32)) else (bn1 (f_X6_lastBlock h l0 l1 l2) (fun v14 => (some v14)))))) else (bn1 (f_X6_freeBlock h l0 l1 w3_10) (fun v16 => (some (((4 : Int32) * w3_10) + v16)))))))
set_option maxRecDepth 100000 in
set_option maxHeartbeats 4000000 in
theorem ev_X6_askedOf {g : Gl} {h : Hp} {l0 : Nat} {l1 : Int32} {l2 : Int32} {rv : Int32} (kl0 : KD g.1 l0 5 0) (hf : f_X6_askedOf h l0 l1 l2 = some rv) : Ev yX6_askedOf cX6_askedOf 6 (some .int) 5 111 g 0 [] [(0, .ref l0), (1, .int l1), (2, .int l2)] h (some (.int rv)) h := by
  unfold f_X6_askedOf at hf
  refine ev_iconst (v := -1) dX6_askedOf_0 (by decide) ?_
  refine ev_istore_n (lv2 := [(3, .int (-1 : Int32)), (0, .ref l0), (1, .int l1), (2, .int l2)]) dX6_askedOf_1 rfl (by decide) rfl ?_
  refine ev_iconst (v := 0) dX6_askedOf_2 (by decide) ?_
  refine ev_istore (lv2 := [(4, .int (0 : Int32)), (3, .int (-1 : Int32)), (0, .ref l0), (1, .int l1), (2, .int l2)]) dX6_askedOf_3 (by decide) rfl ?_
  obtain ⟨w3_10, e18, hf⟩ := bn1_of hf
  refine ev_sub [2, 3, 4, 1, 0] rfl (lv2 := [(0, .ref l0), (1, .int l1), (2, .int l2), (3, .int (-1 : Int32)), (4, .int (0 : Int32))]) ?_
  refine lp_X6_askedOf_5 kl0 ?_ fu _ _ e18
  refine ev_iload_n (n := 3) dX6_askedOf_88 rfl rfl ?_
  refine ev_iconst (v := -1) dX6_askedOf_89 (by decide) ?_
  refine ev_icmp_eq (tgt := 104) dX6_askedOf_90 (by decide) (fun c1 => ?_) (fun c1 => ?_)
  · replace hf := if_t c1 hf
    refine ev_aload_n (n := 0) dX6_askedOf_104 rfl rfl ?_
    refine ev_iload_n (n := 1) dX6_askedOf_105 rfl rfl ?_
    obtain ⟨v11, e12, hf⟩ := bn1_of hf
    refine ev_callVi (As := [.int l1]) cal_X6_left kl0 rfl (ev_X6_left kl0 e12) (Nat.le_of_ble_eq_true rfl) rfl lk_833 (by decide) (by decide) (Nat.le_of_ble_eq_true rfl) dX6_askedOf_106 rfl ?_
    refine ev_aload_n (n := 0) dX6_askedOf_109 rfl rfl ?_
    refine ev_get (v := .ref (l0 + 2)) 1 kl0 rfl (by decide) rfl lk_607 dX6_askedOf_110 ?_
    refine ev_bipush (v := 10) dX6_askedOf_113 (by decide) ?_
    refine ev_iald (kd_5_1 kl0) (by unfold vp_in; decide) dX6_askedOf_115 ?_
    refine ev_icmp_gt (tgt := 128) dX6_askedOf_116 (by decide) (fun c1 => ?_) (fun c1 => ?_)
    · replace hf := if_t c1 hf
      refine ev_iconst (v := -1) dX6_askedOf_128 (by decide) ?_
      obtain rfl := Option.some.inj hf
      exact ev_ireturn dX6_askedOf_129 ⟨.int, rfl, rfl⟩
    · replace hf := if_f c1 hf
      refine ev_aload_n (n := 0) dX6_askedOf_119 rfl rfl ?_
      refine ev_iload_n (n := 1) dX6_askedOf_120 rfl rfl ?_
      refine ev_iload_n (n := 2) dX6_askedOf_121 rfl rfl ?_
      obtain ⟨v14, e15, hf⟩ := bn1_of hf
      refine ev_callVi (As := [.int l1, .int l2]) cal_X6_lastBlock kl0 rfl (ev_X6_lastBlock kl0 e15) (Nat.le_of_ble_eq_true rfl) rfl lk_837 (by decide) (by decide) (Nat.le_of_ble_eq_true rfl) dX6_askedOf_122 rfl ?_
      refine ev_goto (tgt := 129) dX6_askedOf_125 (by decide) ?_
      obtain rfl := Option.some.inj hf
      exact ev_ireturn dX6_askedOf_129 ⟨.int, rfl, rfl⟩
  · replace hf := if_f c1 hf
    refine ev_iconst (v := 4) dX6_askedOf_93 (by decide) ?_
    refine ev_iload_n (n := 3) dX6_askedOf_94 rfl rfl ?_
    refine ev_imul dX6_askedOf_95 ?_
    refine ev_aload_n (n := 0) dX6_askedOf_96 rfl rfl ?_
    refine ev_iload_n (n := 1) dX6_askedOf_97 rfl rfl ?_
    refine ev_iload_n (n := 3) dX6_askedOf_98 rfl rfl ?_
    obtain ⟨v16, e17, hf⟩ := bn1_of hf
    refine ev_callVi (As := [.int l1, .int w3_10]) cal_X6_freeBlock kl0 rfl (ev_X6_freeBlock kl0 e17) (Nat.le_of_ble_eq_true rfl) rfl lk_809 (by decide) (by decide) (Nat.le_of_ble_eq_true rfl) dX6_askedOf_99 rfl ?_
    refine ev_iadd dX6_askedOf_102 ?_
    obtain rfl := Option.some.inj hf
    exact ev_ireturn dX6_askedOf_103 ⟨.int, rfl, rfl⟩
def f_X6_asks_l2 (l0 : Nat) (l1 : Int32) : Nat → Int32 → Hp → Option (Hp)
  | 0, _, _ => none
  | fu1 + 1, l2, h => (if (32 : Int32) ≤ l2 then (some h) else (if inb l2 32 = true then (if isBb (0 : Int32) = true then (f_X6_asks_l2 l0 l1 fu1 (l2 + 1) (sI h (l0 + 8) l2.toNatClampNeg (0 : Int32))) else none) else none))
theorem f_X6_asks_l2_s (l0 : Nat) (l1 : Int32) (fu1 : Nat) (l2 : Int32) (h : Hp) : f_X6_asks_l2 l0 l1 (fu1 + 1) l2 h = (if (32 : Int32) ≤ l2 then (some h) else (if inb l2 32 = true then (if isBb (0 : Int32) = true then (f_X6_asks_l2 l0 l1 fu1 (l2 + 1) (sI h (l0 + 8) l2.toNatClampNeg (0 : Int32))) else none) else none)) := rfl
theorem f_X6_asks_l2_0 (l0 : Nat) (l1 : Int32) (l2 : Int32) (h : Hp) : f_X6_asks_l2 l0 l1 0 l2 h = none := rfl
set_option maxRecDepth 100000 in
set_option maxHeartbeats 4000000 in
theorem lp_X6_asks_2 {g : Gl} {l0 : Nat} {l1 : Int32} {r : Option Value} {h2 : Hp} {h3 : Hp} (kl0 : KD g.1 l0 5 0) (hx0 : Ev yX6_asks cX6_asks 4 none 6 136 g 21 [] [(0, .ref l0), (1, .int l1)] h3 r h2) : ∀ (fu1 : Nat) (l2 : Int32) (h : Hp), f_X6_asks_l2 l0 l1 fu1 l2 h = some h3 → Ev yX6_asks cX6_asks 4 none 6 136 g 2 [] [(0, .ref l0), (1, .int l1), (2, .int l2)] h r h2 := by
  intro fu1
  induction fu1 with
  | zero =>
    intro l2 h hf
    cases hf
  | succ fu1 ih =>
    intro l2 h hf
    rw [f_X6_asks_l2_s] at hf
    have hk := ih
    refine ev_iload_n (n := 2) dX6_asks_2 rfl rfl ?_
    refine ev_bipush (v := 32) dX6_asks_3 (by decide) ?_
    refine ev_icmp_ge (tgt := 21) dX6_asks_5 (by decide) (fun c1 => ?_) (fun c1 => ?_)
    · replace hf := if_t c1 hf
      refine ev_sub [0, 1] rfl (lv2 := [(0, .ref l0), (1, .int l1)]) ?_
      obtain rfl := Option.some.inj hf
      exact hx0
    · replace hf := if_f c1 hf
      refine ev_aload_n (n := 0) dX6_asks_8 rfl rfl ?_
      refine ev_get (v := .ref (l0 + 8)) 9 kl0 rfl (by decide) rfl lk_615 dX6_asks_9 ?_
      refine ev_iload_n (n := 2) dX6_asks_12 rfl rfl ?_
      refine ev_iconst (v := 0) dX6_asks_13 (by decide) ?_
      obtain ⟨gd1, hf⟩ := gd_of hf
      obtain ⟨gd2, hf⟩ := gd_of hf
      refine ev_zast (kd_5_9 kl0) (inb_of gd1) (isBb_of gd2) dX6_asks_14 ?_
      refine ev_iinc (z := 2) (v := (l2 + 1)) (lv2 := [(2, .int (l2 + 1)), (0, .ref l0), (1, .int l1)]) dX6_asks_15 rfl rfl (by decide) rfl ?_
      refine ev_goto (tgt := 2) dX6_asks_18 (by decide) ?_
      refine ev_sub [1, 2, 0] rfl (lv2 := [(0, .ref l0), (1, .int l1), (2, .int (l2 + 1))]) ?_
      exact hk _ _ hf
def f_X6_asks_j80 (kk : Int32 → Hp → Option (Hp)) (h : Hp) (l0 : Nat) (l1 : Int32) (l2 : Int32) : Option (Hp) := (kk (l2 + 1) h)
set_option maxRecDepth 100000 in
set_option maxHeartbeats 4000000 in
theorem jn_X6_asks_80 {g : Gl} {h : Hp} {kk : Int32 → Hp → Option (Hp)} {l0 : Nat} {l1 : Int32} {l2 : Int32}  {r : Option Value} {h2 : Hp} {h3 : Hp} (kl0 : KD g.1 l0 5 0) (hx0 : Ev yX6_asks cX6_asks 4 none 6 136 g 86 [] [] h3 r h2) (hk : ∀ (x2 : Int32) (hq : Hp), kk x2 hq = some h3 → Ev yX6_asks cX6_asks 4 none 6 136 g 23 [] [(0, .ref l0), (1, .int l1), (2, .int x2)] hq r h2) (hf : f_X6_asks_j80 kk h l0 l1 l2 = some h3) : Ev yX6_asks cX6_asks 4 none 6 136 g 80 [] [(0, .ref l0), (1, .int l1), (2, .int l2)] h r h2 := by
  unfold f_X6_asks_j80 at hf
  refine ev_iinc (z := 2) (v := (l2 + 1)) (lv2 := [(2, .int (l2 + 1)), (0, .ref l0), (1, .int l1)]) dX6_asks_80 rfl rfl (by decide) rfl ?_
  refine ev_goto (tgt := 23) dX6_asks_83 (by decide) ?_
  refine ev_sub [1, 2, 0] rfl (lv2 := [(0, .ref l0), (1, .int l1), (2, .int (l2 + 1))]) ?_
  exact hk _ _ hf
def f_X6_asks_j56 (kk : Int32 → Hp → Option (Hp)) (h : Hp) (l0 : Nat) (l1 : Int32) (l2 : Int32) (l3 : Int32) : Option (Hp) := (if inb (((6 : Int32) * l1) + l2) 36 = true then (if l3 = (-1 : Int32) then (f_X6_asks_j80 kk (sI h (l0 + 7) (((6 : Int32) * l1) + l2).toNatClampNeg l3) l0 l1 l2) else (if inb l3 32 = true then (if isBb (1 : Int32) = true then (f_X6_asks_j80 kk (sI (sI h (l0 + 7) (((6 : Int32) * l1) + l2).toNatClampNeg l3) (l0 + 8) l3.toNatClampNeg (1 : Int32)) l0 l1 l2) else none) else none)) else none)
set_option maxRecDepth 100000 in
set_option maxHeartbeats 4000000 in
theorem jn_X6_asks_56 {g : Gl} {h : Hp} {kk : Int32 → Hp → Option (Hp)} {l0 : Nat} {l1 : Int32} {l2 : Int32} {l3 : Int32}  {r : Option Value} {h2 : Hp} {h3 : Hp} (kl0 : KD g.1 l0 5 0) (hx0 : Ev yX6_asks cX6_asks 4 none 6 136 g 86 [] [] h3 r h2) (hk : ∀ (x2 : Int32) (hq : Hp), kk x2 hq = some h3 → Ev yX6_asks cX6_asks 4 none 6 136 g 23 [] [(0, .ref l0), (1, .int l1), (2, .int x2)] hq r h2) (hf : f_X6_asks_j56 kk h l0 l1 l2 l3 = some h3) : Ev yX6_asks cX6_asks 4 none 6 136 g 56 [] [(0, .ref l0), (1, .int l1), (2, .int l2), (3, .int l3)] h r h2 := by
  unfold f_X6_asks_j56 at hf
  refine ev_aload_n (n := 0) dX6_asks_56 rfl rfl ?_
  refine ev_get (v := .ref (l0 + 7)) 8 kl0 rfl (by decide) rfl lk_614 dX6_asks_57 ?_
  refine ev_bipush (v := 6) dX6_asks_60 (by decide) ?_
  refine ev_iload_n (n := 1) dX6_asks_62 rfl rfl ?_
  refine ev_imul dX6_asks_63 ?_
  refine ev_iload_n (n := 2) dX6_asks_64 rfl rfl ?_
  refine ev_iadd dX6_asks_65 ?_
  refine ev_iload_n (n := 3) dX6_asks_66 rfl rfl ?_
  obtain ⟨gd7, hf⟩ := gd_of hf
  refine ev_iast (kd_5_8 kl0) (inb_of gd7) dX6_asks_67 ?_
  refine ev_iload_n (n := 3) dX6_asks_68 rfl rfl ?_
  refine ev_iconst (v := -1) dX6_asks_69 (by decide) ?_
  refine ev_icmp_eq (tgt := 80) dX6_asks_70 (by decide) (fun c1 => ?_) (fun c1 => ?_)
  · replace hf := if_t c1 hf
    refine ev_sub [0, 1, 2] rfl (lv2 := [(0, .ref l0), (1, .int l1), (2, .int l2)]) ?_
    exact jn_X6_asks_80 kl0 hx0 hk hf
  · replace hf := if_f c1 hf
    refine ev_aload_n (n := 0) dX6_asks_73 rfl rfl ?_
    refine ev_get (v := .ref (l0 + 8)) 9 kl0 rfl (by decide) rfl lk_615 dX6_asks_74 ?_
    refine ev_iload_n (n := 3) dX6_asks_77 rfl rfl ?_
    refine ev_iconst (v := 1) dX6_asks_78 (by decide) ?_
    obtain ⟨gd8, hf⟩ := gd_of hf
    obtain ⟨gd9, hf⟩ := gd_of hf
    refine ev_zast (kd_5_9 kl0) (inb_of gd8) (isBb_of gd9) dX6_asks_79 ?_
    refine ev_sub [0, 1, 2] rfl (lv2 := [(0, .ref l0), (1, .int l1), (2, .int l2)]) ?_
    exact jn_X6_asks_80 kl0 hx0 hk hf
def f_X6_asks_l23 (l0 : Nat) (l1 : Int32) : Nat → Int32 → Hp → Option (Hp)
  | 0, _, _ => none
  | fu1 + 1, l2, h => (if (hI h (l0 + 2) (0 : Int32).toNatClampNeg) ≤ l2 then (some h) else (bn1 (f_X6_cellOf h l0 l2 (3 : Int32)) (fun v5 => (if ((v5 >>> (l1 &&& 31)) &&& (1 : Int32)) = (1 : Int32) then (bn1 (f_X6_askedOf h l0 l1 l2) (fun v10 => (f_X6_asks_j56 (f_X6_asks_l23 l0 l1 fu1) h l0 l1 l2 v10))) else (f_X6_asks_j56 (f_X6_asks_l23 l0 l1 fu1) h l0 l1 l2 (-1 : Int32))))))
theorem f_X6_asks_l23_s (l0 : Nat) (l1 : Int32) (fu1 : Nat) (l2 : Int32) (h : Hp) : f_X6_asks_l23 l0 l1 (fu1 + 1) l2 h = (if (hI h (l0 + 2) (0 : Int32).toNatClampNeg) ≤ l2 then (some h) else (bn1 (f_X6_cellOf h l0 l2 (3 : Int32)) (fun v5 => (if ((v5 >>> (l1 &&& 31)) &&& (1 : Int32)) = (1 : Int32) then (bn1 (f_X6_askedOf h l0 l1 l2) (fun v10 => (f_X6_asks_j56 (f_X6_asks_l23 l0 l1 fu1) h l0 l1 l2 v10))) else (f_X6_asks_j56 (f_X6_asks_l23 l0 l1 fu1) h l0 l1 l2 (-1 : Int32)))))) := rfl
theorem f_X6_asks_l23_0 (l0 : Nat) (l1 : Int32) (l2 : Int32) (h : Hp) : f_X6_asks_l23 l0 l1 0 l2 h = none := rfl
set_option maxRecDepth 100000 in
set_option maxHeartbeats 4000000 in
theorem lp_X6_asks_23 {g : Gl} {l0 : Nat} {l1 : Int32} {r : Option Value} {h2 : Hp} {h3 : Hp} (kl0 : KD g.1 l0 5 0) (hx0 : Ev yX6_asks cX6_asks 4 none 6 136 g 86 [] [] h3 r h2) : ∀ (fu1 : Nat) (l2 : Int32) (h : Hp), f_X6_asks_l23 l0 l1 fu1 l2 h = some h3 → Ev yX6_asks cX6_asks 4 none 6 136 g 23 [] [(0, .ref l0), (1, .int l1), (2, .int l2)] h r h2 := by
  intro fu1
  induction fu1 with
  | zero =>
    intro l2 h hf
    cases hf
  | succ fu1 ih =>
    intro l2 h hf
    rw [f_X6_asks_l23_s] at hf
    have hk := ih
    refine ev_iload_n (n := 2) dX6_asks_23 rfl rfl ?_
    refine ev_aload_n (n := 0) dX6_asks_24 rfl rfl ?_
    refine ev_get (v := .ref (l0 + 2)) 1 kl0 rfl (by decide) rfl lk_607 dX6_asks_25 ?_
    refine ev_iconst (v := 0) dX6_asks_28 (by decide) ?_
    refine ev_iald (kd_5_1 kl0) (by unfold vp_in; decide) dX6_asks_29 ?_
    refine ev_icmp_ge (tgt := 86) dX6_asks_30 (by decide) (fun c1 => ?_) (fun c1 => ?_)
    · replace hf := if_t c1 hf
      refine ev_sub [] rfl (lv2 := []) ?_
      obtain rfl := Option.some.inj hf
      exact hx0
    · replace hf := if_f c1 hf
      refine ev_iconst (v := -1) dX6_asks_33 (by decide) ?_
      refine ev_istore_n (lv2 := [(3, .int (-1 : Int32)), (0, .ref l0), (1, .int l1), (2, .int l2)]) dX6_asks_34 rfl (by decide) rfl ?_
      refine ev_aload_n (n := 1) dX6_asks_35 rfl rfl ?_
      refine ev_iload_n (n := 3) dX6_asks_36 rfl rfl ?_
      refine ev_iconst (v := 3) dX6_asks_37 (by decide) ?_
      obtain ⟨v5, e6, hf⟩ := bn1_of hf
      refine ev_callVi (As := [.int l2, .int (3 : Int32)]) cal_X6_cellOf kl0 rfl (ev_X6_cellOf kl0 e6) (Nat.le_of_ble_eq_true rfl) rfl lk_719 (by decide) (by decide) (Nat.le_of_ble_eq_true rfl) dX6_asks_38 rfl ?_
      refine ev_iload_n (n := 2) dX6_asks_41 rfl rfl ?_
      refine ev_ishr dX6_asks_42 ?_
      refine ev_iconst (v := 1) dX6_asks_43 (by decide) ?_
      refine ev_iand dX6_asks_44 ?_
      refine ev_iconst (v := 1) dX6_asks_45 (by decide) ?_
      refine ev_icmp_ne (tgt := 56) dX6_asks_46 (by decide) (fun c1 => ?_) (fun c1 => ?_)
      · replace hf := if_f c1 hf
        refine ev_sub [1, 2, 3, 0] rfl (lv2 := [(0, .ref l0), (1, .int l1), (2, .int l2), (3, .int (-1 : Int32))]) ?_
        exact jn_X6_asks_56 kl0 hx0 hk hf
      · replace hf := if_t c1 hf
        refine ev_aload_n (n := 1) dX6_asks_49 rfl rfl ?_
        refine ev_iload_n (n := 2) dX6_asks_50 rfl rfl ?_
        refine ev_iload_n (n := 3) dX6_asks_51 rfl rfl ?_
        obtain ⟨v10, e11, hf⟩ := bn1_of hf
        refine ev_callVi (As := [.int l1, .int l2]) cal_X6_askedOf kl0 rfl (ev_X6_askedOf kl0 e11) (Nat.le_of_ble_eq_true rfl) rfl lk_805 (by decide) (by decide) (Nat.le_of_ble_eq_true rfl) dX6_asks_52 rfl ?_
        refine ev_istore_n (lv2 := [(3, .int v10), (0, .ref l0), (1, .int l1), (2, .int l2)]) dX6_asks_55 rfl (by decide) rfl ?_
        refine ev_sub [1, 2, 3, 0] rfl (lv2 := [(0, .ref l0), (1, .int l1), (2, .int l2), (3, .int v10)]) ?_
        exact jn_X6_asks_56 kl0 hx0 hk hf
def f_X6_asks (h : Hp) (l0 : Nat) (l1 : Int32) : Option (Hp) := (bn1 (f_X6_asks_l2 l0 l1 fu (0 : Int32) h) (fun h3 => (bn1 (f_X6_asks_l23 l0 l1 fu (0 : Int32) h3) (fun h12 => (some h12)))))
set_option maxRecDepth 100000 in
set_option maxHeartbeats 4000000 in
theorem ev_X6_asks {g : Gl} {h : Hp} {l0 : Nat} {l1 : Int32} {h2 : Hp} (kl0 : KD g.1 l0 5 0) (hf : f_X6_asks h l0 l1 = some h2) : Ev yX6_asks cX6_asks 4 none 6 136 g 0 [] [(0, .ref l0), (1, .int l1)] h none h2 := by
  unfold f_X6_asks at hf
  refine ev_iconst (v := 0) dX6_asks_0 (by decide) ?_
  refine ev_istore_n (lv2 := [(2, .int (0 : Int32)), (0, .ref l0), (1, .int l1)]) dX6_asks_1 rfl (by decide) rfl ?_
  obtain ⟨h3, e14, hf⟩ := bn1_of hf
  refine ev_sub [1, 2, 0] rfl (lv2 := [(0, .ref l0), (1, .int l1), (2, .int (0 : Int32))]) ?_
  refine lp_X6_asks_2 kl0 ?_ fu _ _ e14
  refine ev_iconst (v := 0) dX6_asks_21 (by decide) ?_
  refine ev_istore_n (lv2 := [(2, .int (0 : Int32)), (0, .ref l0), (1, .int l1)]) dX6_asks_22 rfl (by decide) rfl ?_
  obtain ⟨h12, e13, hf⟩ := bn1_of hf
  refine ev_sub [1, 2, 0] rfl (lv2 := [(0, .ref l0), (1, .int l1), (2, .int (0 : Int32))]) ?_
  refine lp_X6_asks_23 kl0 ?_ fu _ _ e13
  obtain rfl := Option.some.inj hf
  exact ev_return_ dX6_asks_86 rfl
def f_X6_drops_l5 (h : Hp) (l0 : Nat) (l1 : Int32) (l2 : Int32) : Nat → Int32 → Int32 → Option (Int32)
  | 0, _, _ => none
  | fu1 + 1, l3, l4 => (if (hI h (l0 + 2) (2 : Int32).toNatClampNeg) ≤ l4 then (some l3) else (bn1 (f_X6_source h l0 l1 l2 l4) (fun v2 => (f_X6_drops_l5 h l0 l1 l2 fu1 (l3 ||| ((1 : Int32) <<< (v2 &&& 31))) (l4 + 1)))))
theorem f_X6_drops_l5_s (h : Hp) (l0 : Nat) (l1 : Int32) (l2 : Int32) (fu1 : Nat) (l3 : Int32) (l4 : Int32) : f_X6_drops_l5 h l0 l1 l2 (fu1 + 1) l3 l4 = (if (hI h (l0 + 2) (2 : Int32).toNatClampNeg) ≤ l4 then (some l3) else (bn1 (f_X6_source h l0 l1 l2 l4) (fun v2 => (f_X6_drops_l5 h l0 l1 l2 fu1 (l3 ||| ((1 : Int32) <<< (v2 &&& 31))) (l4 + 1))))) := rfl
theorem f_X6_drops_l5_0 (h : Hp) (l0 : Nat) (l1 : Int32) (l2 : Int32) (l3 : Int32) (l4 : Int32) : f_X6_drops_l5 h l0 l1 l2 0 l3 l4 = none := rfl
set_option maxRecDepth 100000 in
set_option maxHeartbeats 4000000 in
theorem lp_X6_drops_5 {g : Gl} {h : Hp} {l0 : Nat} {l1 : Int32} {l2 : Int32} {r : Option Value} {h2 : Hp} {o3 : Int32} (kl0 : KD g.1 l0 5 0) (hx0 : Ev yX6_drops cX6_drops 6 none 2 43 g 35 [] [(0, .ref l0), (1, .int l1), (3, .int o3)] h r h2) : ∀ (fu1 : Nat) (l3 : Int32) (l4 : Int32), f_X6_drops_l5 h l0 l1 l2 fu1 l3 l4 = some o3 → Ev yX6_drops cX6_drops 6 none 2 43 g 5 [] [(0, .ref l0), (1, .int l1), (2, .int l2), (3, .int l3), (4, .int l4)] h r h2 := by
  intro fu1
  induction fu1 with
  | zero =>
    intro l3 l4 hf
    cases hf
  | succ fu1 ih =>
    intro l3 l4 hf
    rw [f_X6_drops_l5_s] at hf
    have hk := ih
    refine ev_iload (n := 4) dX6_drops_5 rfl ?_
    refine ev_aload_n (n := 0) dX6_drops_7 rfl rfl ?_
    refine ev_get (v := .ref (l0 + 2)) 1 kl0 rfl (by decide) rfl lk_607 dX6_drops_8 ?_
    refine ev_iconst (v := 2) dX6_drops_11 (by decide) ?_
    refine ev_iald (kd_5_1 kl0) (by unfold vp_in; decide) dX6_drops_12 ?_
    refine ev_icmp_ge (tgt := 35) dX6_drops_13 (by decide) (fun c1 => ?_) (fun c1 => ?_)
    · replace hf := if_t c1 hf
      refine ev_sub [0, 1, 3] rfl (lv2 := [(0, .ref l0), (1, .int l1), (3, .int l3)]) ?_
      obtain rfl := Option.some.inj hf
      exact hx0
    · replace hf := if_f c1 hf
      refine ev_iload_n (n := 3) dX6_drops_16 rfl rfl ?_
      refine ev_iconst (v := 1) dX6_drops_17 (by decide) ?_
      refine ev_aload_n (n := 0) dX6_drops_18 rfl rfl ?_
      refine ev_iload_n (n := 1) dX6_drops_19 rfl rfl ?_
      refine ev_iload_n (n := 2) dX6_drops_20 rfl rfl ?_
      refine ev_iload (n := 4) dX6_drops_21 rfl ?_
      obtain ⟨v2, e3, hf⟩ := bn1_of hf
      refine ev_callVi (As := [.int l1, .int l2, .int l4]) cal_X6_source kl0 rfl (ev_X6_source kl0 e3) (Nat.le_of_ble_eq_true rfl) rfl lk_817 (by decide) (by decide) (Nat.le_of_ble_eq_true rfl) dX6_drops_23 rfl ?_
      refine ev_ishl dX6_drops_26 ?_
      refine ev_ior dX6_drops_27 ?_
      refine ev_istore_n (lv2 := [(3, .int (l3 ||| ((1 : Int32) <<< (v2 &&& 31)))), (0, .ref l0), (1, .int l1), (2, .int l2), (4, .int l4)]) dX6_drops_28 rfl (by decide) rfl ?_
      refine ev_iinc (z := 4) (v := (l4 + 1)) (lv2 := [(4, .int (l4 + 1)), (3, .int (l3 ||| ((1 : Int32) <<< (v2 &&& 31)))), (0, .ref l0), (1, .int l1), (2, .int l2)]) dX6_drops_29 rfl rfl (by decide) rfl ?_
      refine ev_goto (tgt := 5) dX6_drops_32 (by decide) ?_
      refine ev_sub [2, 3, 4, 1, 0] rfl (lv2 := [(0, .ref l0), (1, .int l1), (2, .int l2), (3, .int (l3 ||| ((1 : Int32) <<< (v2 &&& 31)))), (4, .int (l4 + 1))]) ?_
      exact hk _ _ hf
def f_X6_drops_j145 (kk : Int32 → Hp → Option (Hp)) (h : Hp) (l0 : Nat) (l1 : Int32) (l3 : Int32) (l4 : Int32) : Option (Hp) := (kk (l4 + 1) h)
set_option maxRecDepth 100000 in
set_option maxHeartbeats 4000000 in
theorem jn_X6_drops_145 {g : Gl} {h : Hp} {kk : Int32 → Hp → Option (Hp)} {l0 : Nat} {l1 : Int32} {l3 : Int32} {l4 : Int32}  {r : Option Value} {h2 : Hp} {h3 : Hp} (kl0 : KD g.1 l0 5 0) (hx0 : Ev yX6_drops cX6_drops 6 none 2 43 g 151 [] [] h3 r h2) (hk : ∀ (x4 : Int32) (hq : Hp), kk x4 hq = some h3 → Ev yX6_drops cX6_drops 6 none 2 43 g 49 [] [(0, .ref l0), (1, .int l1), (3, .int l3), (4, .int x4)] hq r h2) (hf : f_X6_drops_j145 kk h l0 l1 l3 l4 = some h3) : Ev yX6_drops cX6_drops 6 none 2 43 g 145 [] [(0, .ref l0), (1, .int l1), (3, .int l3), (4, .int l4)] h r h2 := by
  unfold f_X6_drops_j145 at hf
  refine ev_iinc (z := 3) (v := (l4 + 1)) (lv2 := [(4, .int (l4 + 1)), (0, .ref l0), (1, .int l1), (3, .int l3)]) dX6_drops_145 rfl rfl (by decide) rfl ?_
  refine ev_goto (tgt := 49) dX6_drops_148 (by decide) ?_
  refine ev_sub [1, 2, 3, 0] rfl (lv2 := [(0, .ref l0), (1, .int l1), (3, .int l3), (4, .int (l4 + 1))]) ?_
  exact hk _ _ hf
def f_X6_drops_j143 (kk : Int32 → Hp → Option (Hp)) (h : Hp) (s0 : Nat) (s1 : Int32) (s2 : Int32) (s3 : Int32) (l0 : Nat) (l1 : Int32) (l3 : Int32) (l4 : Int32) : Option (Hp) := (if inb s1 320 = true then (f_X6_drops_j145 kk (sI h s0 s1.toNatClampNeg (s2 ||| s3)) l0 l1 l3 l4) else none)
set_option maxRecDepth 100000 in
set_option maxHeartbeats 4000000 in
theorem jn_X6_drops_143 {g : Gl} {h : Hp} {kk : Int32 → Hp → Option (Hp)} {s0 : Nat} {s1 : Int32} {s2 : Int32} {s3 : Int32} {l0 : Nat} {l1 : Int32} {l3 : Int32} {l4 : Int32}  {r : Option Value} {h2 : Hp} {h3 : Hp} (ks0 : KD g.1 s0 6 320) (kl0 : KD g.1 l0 5 0) (hx0 : Ev yX6_drops cX6_drops 6 none 2 43 g 151 [] [] h3 r h2) (hk : ∀ (x4 : Int32) (hq : Hp), kk x4 hq = some h3 → Ev yX6_drops cX6_drops 6 none 2 43 g 49 [] [(0, .ref l0), (1, .int l1), (3, .int l3), (4, .int x4)] hq r h2) (hf : f_X6_drops_j143 kk h s0 s1 s2 s3 l0 l1 l3 l4 = some h3) : Ev yX6_drops cX6_drops 6 none 2 43 g 143 [.int s3, .int s2, .int s1, .ref s0] [(0, .ref l0), (1, .int l1), (3, .int l3), (4, .int l4)] h r h2 := by
  unfold f_X6_drops_j143 at hf
  refine ev_ior dX6_drops_143 ?_
  obtain ⟨gd15, hf⟩ := gd_of hf
  refine ev_iast ks0 (inb_of gd15) dX6_drops_144 ?_
  exact jn_X6_drops_145 kl0 hx0 hk hf
def f_X6_drops_j116 (kk : Int32 → Hp → Option (Hp)) (h : Hp) (s0 : Int32) (l0 : Nat) (l1 : Int32) (l3 : Int32) (l4 : Int32) : Option (Hp) := (bn1 (f_X6_at h l1) (fun v12 => (if inb (v12 + (5 : Int32)) 320 = true then (if s0 = 0 then (f_X6_drops_j143 kk h (l0 + 2) (v12 + (5 : Int32)) (hI h (l0 + 2) (v12 + (5 : Int32)).toNatClampNeg) (0 : Int32) l0 l1 l3 l4) else (f_X6_drops_j143 kk h (l0 + 2) (v12 + (5 : Int32)) (hI h (l0 + 2) (v12 + (5 : Int32)).toNatClampNeg) ((1 : Int32) <<< (l4 &&& 31)) l0 l1 l3 l4)) else none)))
set_option maxRecDepth 100000 in
set_option maxHeartbeats 4000000 in
theorem jn_X6_drops_116 {g : Gl} {h : Hp} {kk : Int32 → Hp → Option (Hp)} {s0 : Int32} {l0 : Nat} {l1 : Int32} {l3 : Int32} {l4 : Int32}  {r : Option Value} {h2 : Hp} {h3 : Hp} (kl0 : KD g.1 l0 5 0) (hx0 : Ev yX6_drops cX6_drops 6 none 2 43 g 151 [] [] h3 r h2) (hk : ∀ (x4 : Int32) (hq : Hp), kk x4 hq = some h3 → Ev yX6_drops cX6_drops 6 none 2 43 g 49 [] [(0, .ref l0), (1, .int l1), (3, .int l3), (4, .int x4)] hq r h2) (hf : f_X6_drops_j116 kk h s0 l0 l1 l3 l4 = some h3) : Ev yX6_drops cX6_drops 6 none 2 43 g 116 [.int s0] [(0, .ref l0), (1, .int l1), (3, .int l3), (4, .int l4)] h r h2 := by
  unfold f_X6_drops_j116 at hf
  refine ev_istore (lv2 := [(5, .int s0), (0, .ref l0), (1, .int l1), (3, .int l3), (4, .int l4)]) dX6_drops_116 (by decide) rfl ?_
  refine ev_aload_n (n := 1) dX6_drops_118 rfl rfl ?_
  refine ev_get (v := .ref (l0 + 2)) 1 kl0 rfl (by decide) rfl lk_607 dX6_drops_119 ?_
  refine ev_iload_n (n := 2) dX6_drops_122 rfl rfl ?_
  obtain ⟨v12, e13, hf⟩ := bn1_of hf
  refine ev_callSi (As := [.int l1]) cal_X6_at (ev_X6_at e13) (Nat.le_of_ble_eq_true rfl) rfl lk_700 (by decide) (by decide) (Nat.le_of_ble_eq_true rfl) dX6_drops_123 rfl ?_
  refine ev_iconst (v := 5) dX6_drops_126 (by decide) ?_
  refine ev_iadd dX6_drops_127 ?_
  refine ev_dup2 dX6_drops_128 rfl rfl ?_
  obtain ⟨gd14, hf⟩ := gd_of hf
  refine ev_iald (kd_5_1 kl0) (inb_of gd14) dX6_drops_129 ?_
  refine ev_iload (n := 0) dX6_drops_130 rfl ?_
  refine ev_if_eq (tgt := 142) dX6_drops_132 (by decide) (fun c1 => ?_) (fun c1 => ?_)
  · replace hf := if_t c1 hf
    refine ev_iconst (v := 0) dX6_drops_142 (by decide) ?_
    refine ev_sub [1, 2, 3, 4] rfl (lv2 := [(0, .ref l0), (1, .int l1), (3, .int l3), (4, .int l4)]) ?_
    exact jn_X6_drops_143 (kd_5_1 kl0) kl0 hx0 hk hf
  · replace hf := if_f c1 hf
    refine ev_iconst (v := 1) dX6_drops_135 (by decide) ?_
    refine ev_iload (n := 4) dX6_drops_136 rfl ?_
    refine ev_ishl dX6_drops_138 ?_
    refine ev_goto (tgt := 143) dX6_drops_139 (by decide) ?_
    refine ev_sub [1, 2, 3, 4] rfl (lv2 := [(0, .ref l0), (1, .int l1), (3, .int l3), (4, .int l4)]) ?_
    exact jn_X6_drops_143 (kd_5_1 kl0) kl0 hx0 hk hf
def f_X6_drops_j111 (kk : Int32 → Hp → Option (Hp)) (h : Hp) (l0 : Nat) (l1 : Int32) (l3 : Int32) (l4 : Int32) : Option (Hp) := (f_X6_drops_j116 kk h (1 : Int32) l0 l1 l3 l4)
set_option maxRecDepth 100000 in
set_option maxHeartbeats 4000000 in
theorem jn_X6_drops_111 {g : Gl} {h : Hp} {kk : Int32 → Hp → Option (Hp)} {l0 : Nat} {l1 : Int32} {l3 : Int32} {l4 : Int32}  {r : Option Value} {h2 : Hp} {h3 : Hp} (kl0 : KD g.1 l0 5 0) (hx0 : Ev yX6_drops cX6_drops 6 none 2 43 g 151 [] [] h3 r h2) (hk : ∀ (x4 : Int32) (hq : Hp), kk x4 hq = some h3 → Ev yX6_drops cX6_drops 6 none 2 43 g 49 [] [(0, .ref l0), (1, .int l1), (3, .int l3), (4, .int x4)] hq r h2) (hf : f_X6_drops_j111 kk h l0 l1 l3 l4 = some h3) : Ev yX6_drops cX6_drops 6 none 2 43 g 111 [] [(0, .ref l0), (1, .int l1), (3, .int l3), (4, .int l4)] h r h2 := by
  unfold f_X6_drops_j111 at hf
  refine ev_iconst (v := 1) dX6_drops_111 (by decide) ?_
  refine ev_goto (tgt := 116) dX6_drops_112 (by decide) ?_
  exact jn_X6_drops_116 kl0 hx0 hk hf
def f_X6_drops_l49 (l0 : Nat) (l1 : Int32) (l3 : Int32) : Nat → Int32 → Hp → Option (Hp)
  | 0, _, _ => none
  | fu1 + 1, l4, h => (if (hI h (l0 + 2) (0 : Int32).toNatClampNeg) ≤ l4 then (some h) else (if ((l3 >>> (l4 &&& 31)) &&& (1 : Int32)) = (1 : Int32) then (bn1 (f_X6_at h l1) (fun v8 => (if inb ((v8 + (8 : Int32)) + l4) 320 = true then (if inb ((v8 + (8 : Int32)) + l4) 320 = true then (if l3 = ((1 : Int32) <<< (l4 &&& 31)) then (f_X6_drops_j111 (f_X6_drops_l49 l0 l1 l3 fu1) (sI h (l0 + 2) ((v8 + (8 : Int32)) + l4).toNatClampNeg ((hI h (l0 + 2) ((v8 + (8 : Int32)) + l4).toNatClampNeg) + (1 : Int32))) l0 l1 l3 l4) else (bn1 (f_X6_cellOf (sI h (l0 + 2) ((v8 + (8 : Int32)) + l4).toNatClampNeg ((hI h (l0 + 2) ((v8 + (8 : Int32)) + l4).toNatClampNeg) + (1 : Int32))) l0 l1 ((8 : Int32) + l4)) (fun v16 => (if v16 ≤ (1 : Int32) then (f_X6_drops_j116 (f_X6_drops_l49 l0 l1 l3 fu1) (sI h (l0 + 2) ((v8 + (8 : Int32)) + l4).toNatClampNeg ((hI h (l0 + 2) ((v8 + (8 : Int32)) + l4).toNatClampNeg) + (1 : Int32))) (0 : Int32) l0 l1 l3 l4) else (f_X6_drops_j111 (f_X6_drops_l49 l0 l1 l3 fu1) (sI h (l0 + 2) ((v8 + (8 : Int32)) + l4).toNatClampNeg ((hI h (l0 + 2) ((v8 + (8 : Int32)) + l4).toNatClampNeg) + (1 : Int32))) l0 l1 l3 l4))))) else none) else none))) else (f_X6_drops_j145 (f_X6_drops_l49 l0 l1 l3 fu1) h l0 l1 l3 l4)))
theorem f_X6_drops_l49_s (l0 : Nat) (l1 : Int32) (l3 : Int32) (fu1 : Nat) (l4 : Int32) (h : Hp) : f_X6_drops_l49 l0 l1 l3 (fu1 + 1) l4 h = (if (hI h (l0 + 2) (0 : Int32).toNatClampNeg) ≤ l4 then (some h) else (if ((l3 >>> (l4 &&& 31)) &&& (1 : Int32)) = (1 : Int32) then (bn1 (f_X6_at h l1) (fun v8 => (if inb ((v8 + (8 : Int32)) + l4) 320 = true then (if inb ((v8 + (8 : Int32)) + l4) 320 = true then (if l3 = ((1 : Int32) <<< (l4 &&& 31)) then (f_X6_drops_j111 (f_X6_drops_l49 l0 l1 l3 fu1) (sI h (l0 + 2) ((v8 + (8 : Int32)) + l4).toNatClampNeg ((hI h (l0 + 2) ((v8 + (8 : Int32)) + l4).toNatClampNeg) + (1 : Int32))) l0 l1 l3 l4) else (bn1 (f_X6_cellOf (sI h (l0 + 2) ((v8 + (8 : Int32)) + l4).toNatClampNeg ((hI h (l0 + 2) ((v8 + (8 : Int32)) + l4).toNatClampNeg) + (1 : Int32))) l0 l1 ((8 : Int32) + l4)) (fun v16 => (if v16 ≤ (1 : Int32) then (f_X6_drops_j116 (f_X6_drops_l49 l0 l1 l3 fu1) (sI h (l0 + 2) ((v8 + (8 : Int32)) + l4).toNatClampNeg ((hI h (l0 + 2) ((v8 + (8 : Int32)) + l4).toNatClampNeg) + (1 : Int32))) (0 : Int32) l0 l1 l3 l4) else (f_X6_drops_j111 (f_X6_drops_l49 l0 l1 l3 fu1) (sI h (l0 + 2) ((v8 + (8 : Int32)) + l4).toNatClampNeg ((hI h (l0 + 2) ((v8 + (8 : Int32)) + l4).toNatClampNeg) + (1 : Int32))) l0 l1 l3 l4))))) else none) else none))) else (f_X6_drops_j145 (f_X6_drops_l49 l0 l1 l3 fu1) h l0 l1 l3 l4))) := rfl
theorem f_X6_drops_l49_0 (l0 : Nat) (l1 : Int32) (l3 : Int32) (l4 : Int32) (h : Hp) : f_X6_drops_l49 l0 l1 l3 0 l4 h = none := rfl
set_option maxRecDepth 100000 in
set_option maxHeartbeats 4000000 in
theorem lp_X6_drops_49 {g : Gl} {l0 : Nat} {l1 : Int32} {l3 : Int32} {r : Option Value} {h2 : Hp} {h3 : Hp} (kl0 : KD g.1 l0 5 0) (hx0 : Ev yX6_drops cX6_drops 6 none 2 43 g 151 [] [] h3 r h2) : ∀ (fu1 : Nat) (l4 : Int32) (h : Hp), f_X6_drops_l49 l0 l1 l3 fu1 l4 h = some h3 → Ev yX6_drops cX6_drops 6 none 2 43 g 49 [] [(0, .ref l0), (1, .int l1), (3, .int l3), (4, .int l4)] h r h2 := by
  intro fu1
  induction fu1 with
  | zero =>
    intro l4 h hf
    cases hf
  | succ fu1 ih =>
    intro l4 h hf
    rw [f_X6_drops_l49_s] at hf
    have hk := ih
    refine ev_iload (n := 3) dX6_drops_49 rfl ?_
    refine ev_aload_n (n := 0) dX6_drops_51 rfl rfl ?_
    refine ev_get (v := .ref (l0 + 2)) 1 kl0 rfl (by decide) rfl lk_607 dX6_drops_52 ?_
    refine ev_iconst (v := 0) dX6_drops_55 (by decide) ?_
    refine ev_iald (kd_5_1 kl0) (by unfold vp_in; decide) dX6_drops_56 ?_
    refine ev_icmp_ge (tgt := 151) dX6_drops_57 (by decide) (fun c1 => ?_) (fun c1 => ?_)
    · replace hf := if_t c1 hf
      refine ev_sub [] rfl (lv2 := []) ?_
      obtain rfl := Option.some.inj hf
      exact hx0
    · replace hf := if_f c1 hf
      refine ev_iload_n (n := 2) dX6_drops_60 rfl rfl ?_
      refine ev_iload (n := 3) dX6_drops_61 rfl ?_
      refine ev_ishr dX6_drops_63 ?_
      refine ev_iconst (v := 1) dX6_drops_64 (by decide) ?_
      refine ev_iand dX6_drops_65 ?_
      refine ev_iconst (v := 1) dX6_drops_66 (by decide) ?_
      refine ev_icmp_ne (tgt := 145) dX6_drops_67 (by decide) (fun c1 => ?_) (fun c1 => ?_)
      · replace hf := if_f c1 hf
        exact jn_X6_drops_145 kl0 hx0 hk hf
      · replace hf := if_t c1 hf
        refine ev_aload_n (n := 0) dX6_drops_70 rfl rfl ?_
        refine ev_get (v := .ref (l0 + 2)) 1 kl0 rfl (by decide) rfl lk_607 dX6_drops_71 ?_
        refine ev_iload_n (n := 1) dX6_drops_74 rfl rfl ?_
        obtain ⟨v8, e9, hf⟩ := bn1_of hf
        refine ev_callSi (As := [.int l1]) cal_X6_at (ev_X6_at e9) (Nat.le_of_ble_eq_true rfl) rfl lk_700 (by decide) (by decide) (Nat.le_of_ble_eq_true rfl) dX6_drops_75 rfl ?_
        refine ev_bipush (v := 8) dX6_drops_78 (by decide) ?_
        refine ev_iadd dX6_drops_80 ?_
        refine ev_iload (n := 3) dX6_drops_81 rfl ?_
        refine ev_iadd dX6_drops_83 ?_
        refine ev_dup2 dX6_drops_84 rfl rfl ?_
        obtain ⟨gd10, hf⟩ := gd_of hf
        refine ev_iald (kd_5_1 kl0) (inb_of gd10) dX6_drops_85 ?_
        refine ev_iconst (v := 1) dX6_drops_86 (by decide) ?_
        refine ev_iadd dX6_drops_87 ?_
        obtain ⟨gd11, hf⟩ := gd_of hf
        refine ev_iast (kd_5_1 kl0) (inb_of gd11) dX6_drops_88 ?_
        refine ev_iload_n (n := 2) dX6_drops_89 rfl rfl ?_
        refine ev_iconst (v := 1) dX6_drops_90 (by decide) ?_
        refine ev_iload (n := 3) dX6_drops_91 rfl ?_
        refine ev_ishl dX6_drops_93 ?_
        refine ev_icmp_eq (tgt := 111) dX6_drops_94 (by decide) (fun c1 => ?_) (fun c1 => ?_)
        · replace hf := if_t c1 hf
          exact jn_X6_drops_111 kl0 hx0 hk hf
        · replace hf := if_f c1 hf
          refine ev_aload_n (n := 0) dX6_drops_97 rfl rfl ?_
          refine ev_iload_n (n := 1) dX6_drops_98 rfl rfl ?_
          refine ev_bipush (v := 8) dX6_drops_99 (by decide) ?_
          refine ev_iload (n := 3) dX6_drops_101 rfl ?_
          refine ev_iadd dX6_drops_103 ?_
          obtain ⟨v16, e17, hf⟩ := bn1_of hf
          refine ev_callVi (As := [.int l1, .int ((8 : Int32) + l4)]) cal_X6_cellOf kl0 rfl (ev_X6_cellOf kl0 e17) (Nat.le_of_ble_eq_true rfl) rfl lk_719 (by decide) (by decide) (Nat.le_of_ble_eq_true rfl) dX6_drops_104 rfl ?_
          refine ev_iconst (v := 1) dX6_drops_107 (by decide) ?_
          refine ev_icmp_le (tgt := 115) dX6_drops_108 (by decide) (fun c1 => ?_) (fun c1 => ?_)
          · replace hf := if_t c1 hf
            refine ev_iconst (v := 0) dX6_drops_115 (by decide) ?_
            exact jn_X6_drops_116 kl0 hx0 hk hf
          · replace hf := if_f c1 hf
            exact jn_X6_drops_111 kl0 hx0 hk hf
def f_X6_drops (h : Hp) (l0 : Nat) (l1 : Int32) (l2 : Int32) : Option (Hp) := (bn1 (f_X6_drops_l5 h l0 l1 l2 fu (0 : Int32) (0 : Int32)) (fun w3_4 => (bn1 (f_X6_drops_l49 l0 l1 w3_4 fu (0 : Int32) (sI h (l0 + 2) (7 : Int32).toNatClampNeg ((hI h (l0 + 2) (7 : Int32).toNatClampNeg) + (1 : Int32)))) (fun h18 => (some h18)))))
set_option maxRecDepth 100000 in
set_option maxHeartbeats 4000000 in
theorem ev_X6_drops {g : Gl} {h : Hp} {l0 : Nat} {l1 : Int32} {l2 : Int32} {h2 : Hp} (kl0 : KD g.1 l0 5 0) (hf : f_X6_drops h l0 l1 l2 = some h2) : Ev yX6_drops cX6_drops 6 none 2 43 g 0 [] [(0, .ref l0), (1, .int l1), (2, .int l2)] h none h2 := by
  unfold f_X6_drops at hf
  refine ev_iconst (v := 0) dX6_drops_0 (by decide) ?_
  refine ev_istore_n (lv2 := [(3, .int (0 : Int32)), (0, .ref l0), (1, .int l1), (2, .int l2)]) dX6_drops_1 rfl (by decide) rfl ?_
  refine ev_iconst (v := 0) dX6_drops_2 (by decide) ?_
  refine ev_istore (lv2 := [(4, .int (0 : Int32)), (3, .int (0 : Int32)), (0, .ref l0), (1, .int l1), (2, .int l2)]) dX6_drops_3 (by decide) rfl ?_
  obtain ⟨w3_4, e20, hf⟩ := bn1_of hf
  refine ev_sub [2, 3, 4, 1, 0] rfl (lv2 := [(0, .ref l0), (1, .int l1), (2, .int l2), (3, .int (0 : Int32)), (4, .int (0 : Int32))]) ?_
  refine lp_X6_drops_5 kl0 ?_ fu _ _ e20
  refine ev_aload_n (n := 0) dX6_drops_35 rfl rfl ?_
  refine ev_get (v := .ref (l0 + 2)) 1 kl0 rfl (by decide) rfl lk_607 dX6_drops_36 ?_
  refine ev_bipush (v := 7) dX6_drops_39 (by decide) ?_
  refine ev_dup2 dX6_drops_41 rfl rfl ?_
  refine ev_iald (kd_5_1 kl0) (by unfold vp_in; decide) dX6_drops_42 ?_
  refine ev_iconst (v := 1) dX6_drops_43 (by decide) ?_
  refine ev_iadd dX6_drops_44 ?_
  refine ev_iast (kd_5_1 kl0) (by unfold vp_in; decide) dX6_drops_45 ?_
  refine ev_iconst (v := 0) dX6_drops_46 (by decide) ?_
  refine ev_istore (lv2 := [(4, .int (0 : Int32)), (0, .ref l0), (1, .int l1), (3, .int w3_4)]) dX6_drops_47 (by decide) rfl ?_
  obtain ⟨h18, e19, hf⟩ := bn1_of hf
  refine ev_sub [1, 2, 3, 0] rfl (lv2 := [(0, .ref l0), (1, .int l1), (3, .int w3_4), (4, .int (0 : Int32))]) ?_
  refine lp_X6_drops_49 kl0 ?_ fu _ _ e19
  obtain rfl := Option.some.inj hf
  exact ev_return_ dX6_drops_151 rfl
def f_X6_looksAt_j42 (kk : Int32 → Int32 → Option (Int32)) (h : Hp) (s0 : Int32) (l0 : Nat) (l1 : Int32) (l2 : Int32) (l4 : Int32) : Option (Int32) := (kk s0 (l4 + 1))
set_option maxRecDepth 100000 in
set_option maxHeartbeats 4000000 in
theorem jn_X6_looksAt_42 {g : Gl} {h : Hp} {kk : Int32 → Int32 → Option (Int32)} {s0 : Int32} {l0 : Nat} {l1 : Int32} {l2 : Int32} {l4 : Int32}  {r : Option Value} {h2 : Hp} {o3 : Int32} (kl0 : KD g.1 l0 5 0) (hx0 : Ev yX6_looksAt cX6_looksAt 5 none 3 68 g 49 [] [(0, .ref l0), (1, .int l1), (2, .int l2), (3, .int o3)] h r h2) (hk : ∀ (x3 : Int32) (x4 : Int32), kk x3 x4 = some o3 → Ev yX6_looksAt cX6_looksAt 5 none 3 68 g 5 [] [(0, .ref l0), (1, .int l1), (2, .int l2), (3, .int x3), (4, .int x4)] h r h2) (hf : f_X6_looksAt_j42 kk h s0 l0 l1 l2 l4 = some o3) : Ev yX6_looksAt cX6_looksAt 5 none 3 68 g 42 [.int s0] [(0, .ref l0), (1, .int l1), (2, .int l2), (4, .int l4)] h r h2 := by
  unfold f_X6_looksAt_j42 at hf
  refine ev_istore_n (lv2 := [(3, .int s0), (0, .ref l0), (1, .int l1), (2, .int l2), (4, .int l4)]) dX6_looksAt_42 rfl (by decide) rfl ?_
  refine ev_iinc (z := 4) (v := (l4 + 1)) (lv2 := [(4, .int (l4 + 1)), (3, .int s0), (0, .ref l0), (1, .int l1), (2, .int l2)]) dX6_looksAt_43 rfl rfl (by decide) rfl ?_
  refine ev_goto (tgt := 5) dX6_looksAt_46 (by decide) ?_
  refine ev_sub [2, 3, 4, 1, 0] rfl (lv2 := [(0, .ref l0), (1, .int l1), (2, .int l2), (3, .int s0), (4, .int (l4 + 1))]) ?_
  exact hk _ _ hf
def f_X6_looksAt_j41 (kk : Int32 → Int32 → Option (Int32)) (h : Hp) (l0 : Nat) (l1 : Int32) (l2 : Int32) (l4 : Int32) : Option (Int32) := (f_X6_looksAt_j42 kk h (0 : Int32) l0 l1 l2 l4)
set_option maxRecDepth 100000 in
set_option maxHeartbeats 4000000 in
theorem jn_X6_looksAt_41 {g : Gl} {h : Hp} {kk : Int32 → Int32 → Option (Int32)} {l0 : Nat} {l1 : Int32} {l2 : Int32} {l4 : Int32}  {r : Option Value} {h2 : Hp} {o3 : Int32} (kl0 : KD g.1 l0 5 0) (hx0 : Ev yX6_looksAt cX6_looksAt 5 none 3 68 g 49 [] [(0, .ref l0), (1, .int l1), (2, .int l2), (3, .int o3)] h r h2) (hk : ∀ (x3 : Int32) (x4 : Int32), kk x3 x4 = some o3 → Ev yX6_looksAt cX6_looksAt 5 none 3 68 g 5 [] [(0, .ref l0), (1, .int l1), (2, .int l2), (3, .int x3), (4, .int x4)] h r h2) (hf : f_X6_looksAt_j41 kk h l0 l1 l2 l4 = some o3) : Ev yX6_looksAt cX6_looksAt 5 none 3 68 g 41 [] [(0, .ref l0), (1, .int l1), (2, .int l2), (4, .int l4)] h r h2 := by
  unfold f_X6_looksAt_j41 at hf
  refine ev_iconst (v := 0) dX6_looksAt_41 (by decide) ?_
  exact jn_X6_looksAt_42 kl0 hx0 hk hf
def f_X6_looksAt_l5 (h : Hp) (l0 : Nat) (l1 : Int32) (l2 : Int32) : Nat → Int32 → Int32 → Option (Int32)
  | 0, _, _ => none
  | fu1 + 1, l3, l4 => (if (hI h (l0 + 2) (2 : Int32).toNatClampNeg) ≤ l4 then (some l3) else (if l3 = 0 then (f_X6_looksAt_j41 (f_X6_looksAt_l5 h l0 l1 l2 fu1) h l0 l1 l2 l4) else (bn1 (f_X6_source h l0 l1 l2 l4) (fun v2 => (bn1 (f_X6_cellOf h l0 v2 (0 : Int32)) (fun v4 => (if v4 = (2 : Int32) then (f_X6_looksAt_j41 (f_X6_looksAt_l5 h l0 l1 l2 fu1) h l0 l1 l2 l4) else (f_X6_looksAt_j42 (f_X6_looksAt_l5 h l0 l1 l2 fu1) h (1 : Int32) l0 l1 l2 l4))))))))
theorem f_X6_looksAt_l5_s (h : Hp) (l0 : Nat) (l1 : Int32) (l2 : Int32) (fu1 : Nat) (l3 : Int32) (l4 : Int32) : f_X6_looksAt_l5 h l0 l1 l2 (fu1 + 1) l3 l4 = (if (hI h (l0 + 2) (2 : Int32).toNatClampNeg) ≤ l4 then (some l3) else (if l3 = 0 then (f_X6_looksAt_j41 (f_X6_looksAt_l5 h l0 l1 l2 fu1) h l0 l1 l2 l4) else (bn1 (f_X6_source h l0 l1 l2 l4) (fun v2 => (bn1 (f_X6_cellOf h l0 v2 (0 : Int32)) (fun v4 => (if v4 = (2 : Int32) then (f_X6_looksAt_j41 (f_X6_looksAt_l5 h l0 l1 l2 fu1) h l0 l1 l2 l4) else (f_X6_looksAt_j42 (f_X6_looksAt_l5 h l0 l1 l2 fu1) h (1 : Int32) l0 l1 l2 l4)))))))) := rfl
theorem f_X6_looksAt_l5_0 (h : Hp) (l0 : Nat) (l1 : Int32) (l2 : Int32) (l3 : Int32) (l4 : Int32) : f_X6_looksAt_l5 h l0 l1 l2 0 l3 l4 = none := rfl
set_option maxRecDepth 100000 in
set_option maxHeartbeats 4000000 in
theorem lp_X6_looksAt_5 {g : Gl} {h : Hp} {l0 : Nat} {l1 : Int32} {l2 : Int32} {r : Option Value} {h2 : Hp} {o3 : Int32} (kl0 : KD g.1 l0 5 0) (hx0 : Ev yX6_looksAt cX6_looksAt 5 none 3 68 g 49 [] [(0, .ref l0), (1, .int l1), (2, .int l2), (3, .int o3)] h r h2) : ∀ (fu1 : Nat) (l3 : Int32) (l4 : Int32), f_X6_looksAt_l5 h l0 l1 l2 fu1 l3 l4 = some o3 → Ev yX6_looksAt cX6_looksAt 5 none 3 68 g 5 [] [(0, .ref l0), (1, .int l1), (2, .int l2), (3, .int l3), (4, .int l4)] h r h2 := by
  intro fu1
  induction fu1 with
  | zero =>
    intro l3 l4 hf
    cases hf
  | succ fu1 ih =>
    intro l3 l4 hf
    rw [f_X6_looksAt_l5_s] at hf
    have hk := ih
    refine ev_iload (n := 4) dX6_looksAt_5 rfl ?_
    refine ev_aload_n (n := 0) dX6_looksAt_7 rfl rfl ?_
    refine ev_get (v := .ref (l0 + 2)) 1 kl0 rfl (by decide) rfl lk_607 dX6_looksAt_8 ?_
    refine ev_iconst (v := 2) dX6_looksAt_11 (by decide) ?_
    refine ev_iald (kd_5_1 kl0) (by unfold vp_in; decide) dX6_looksAt_12 ?_
    refine ev_icmp_ge (tgt := 49) dX6_looksAt_13 (by decide) (fun c1 => ?_) (fun c1 => ?_)
    · replace hf := if_t c1 hf
      refine ev_sub [0, 1, 2, 3] rfl (lv2 := [(0, .ref l0), (1, .int l1), (2, .int l2), (3, .int l3)]) ?_
      obtain rfl := Option.some.inj hf
      exact hx0
    · replace hf := if_f c1 hf
      refine ev_iload_n (n := 3) dX6_looksAt_16 rfl rfl ?_
      refine ev_if_eq (tgt := 41) dX6_looksAt_17 (by decide) (fun c1 => ?_) (fun c1 => ?_)
      · replace hf := if_t c1 hf
        refine ev_sub [0, 1, 2, 4] rfl (lv2 := [(0, .ref l0), (1, .int l1), (2, .int l2), (4, .int l4)]) ?_
        exact jn_X6_looksAt_41 kl0 hx0 hk hf
      · replace hf := if_f c1 hf
        refine ev_aload_n (n := 0) dX6_looksAt_20 rfl rfl ?_
        refine ev_aload_n (n := 0) dX6_looksAt_21 rfl rfl ?_
        refine ev_iload_n (n := 1) dX6_looksAt_22 rfl rfl ?_
        refine ev_iload_n (n := 2) dX6_looksAt_23 rfl rfl ?_
        refine ev_iload (n := 4) dX6_looksAt_24 rfl ?_
        obtain ⟨v2, e3, hf⟩ := bn1_of hf
        refine ev_callVi (As := [.int l1, .int l2, .int l4]) cal_X6_source kl0 rfl (ev_X6_source kl0 e3) (Nat.le_of_ble_eq_true rfl) rfl lk_817 (by decide) (by decide) (Nat.le_of_ble_eq_true rfl) dX6_looksAt_26 rfl ?_
        refine ev_iconst (v := 0) dX6_looksAt_29 (by decide) ?_
        obtain ⟨v4, e5, hf⟩ := bn1_of hf
        refine ev_callVi (As := [.int v2, .int (0 : Int32)]) cal_X6_cellOf kl0 rfl (ev_X6_cellOf kl0 e5) (Nat.le_of_ble_eq_true rfl) rfl lk_719 (by decide) (by decide) (Nat.le_of_ble_eq_true rfl) dX6_looksAt_30 rfl ?_
        refine ev_iconst (v := 2) dX6_looksAt_33 (by decide) ?_
        refine ev_icmp_eq (tgt := 41) dX6_looksAt_34 (by decide) (fun c1 => ?_) (fun c1 => ?_)
        · replace hf := if_t c1 hf
          refine ev_sub [0, 1, 2, 4] rfl (lv2 := [(0, .ref l0), (1, .int l1), (2, .int l2), (4, .int l4)]) ?_
          exact jn_X6_looksAt_41 kl0 hx0 hk hf
        · replace hf := if_f c1 hf
          refine ev_iconst (v := 1) dX6_looksAt_37 (by decide) ?_
          refine ev_goto (tgt := 42) dX6_looksAt_38 (by decide) ?_
          refine ev_sub [0, 1, 2, 4] rfl (lv2 := [(0, .ref l0), (1, .int l1), (2, .int l2), (4, .int l4)]) ?_
          exact jn_X6_looksAt_42 kl0 hx0 hk hf
def f_X6_looksAt_l82 (l0 : Nat) (l1 : Int32) (l2 : Int32) : Nat → Int32 → Hp → Option (Hp)
  | 0, _, _ => none
  | fu1 + 1, l4, h => (if (4 : Int32) ≤ l4 then (some h) else (bn1 (f_X6_at h l1) (fun v9 => (if inb (((v9 + (15 : Int32)) + ((4 : Int32) * l2)) + l4) 320 = true then (f_X6_looksAt_l82 l0 l1 l2 fu1 (l4 + 1) (sI h (l0 + 2) (((v9 + (15 : Int32)) + ((4 : Int32) * l2)) + l4).toNatClampNeg (-1 : Int32))) else none))))
theorem f_X6_looksAt_l82_s (l0 : Nat) (l1 : Int32) (l2 : Int32) (fu1 : Nat) (l4 : Int32) (h : Hp) : f_X6_looksAt_l82 l0 l1 l2 (fu1 + 1) l4 h = (if (4 : Int32) ≤ l4 then (some h) else (bn1 (f_X6_at h l1) (fun v9 => (if inb (((v9 + (15 : Int32)) + ((4 : Int32) * l2)) + l4) 320 = true then (f_X6_looksAt_l82 l0 l1 l2 fu1 (l4 + 1) (sI h (l0 + 2) (((v9 + (15 : Int32)) + ((4 : Int32) * l2)) + l4).toNatClampNeg (-1 : Int32))) else none)))) := rfl
theorem f_X6_looksAt_l82_0 (l0 : Nat) (l1 : Int32) (l2 : Int32) (l4 : Int32) (h : Hp) : f_X6_looksAt_l82 l0 l1 l2 0 l4 h = none := rfl
set_option maxRecDepth 100000 in
set_option maxHeartbeats 4000000 in
theorem lp_X6_looksAt_82 {g : Gl} {l0 : Nat} {l1 : Int32} {l2 : Int32} {r : Option Value} {h2 : Hp} {h3 : Hp} (kl0 : KD g.1 l0 5 0) (hx0 : Ev yX6_looksAt cX6_looksAt 5 none 3 68 g 114 [] [] h3 r h2) : ∀ (fu1 : Nat) (l4 : Int32) (h : Hp), f_X6_looksAt_l82 l0 l1 l2 fu1 l4 h = some h3 → Ev yX6_looksAt cX6_looksAt 5 none 3 68 g 82 [] [(0, .ref l0), (1, .int l1), (2, .int l2), (4, .int l4)] h r h2 := by
  intro fu1
  induction fu1 with
  | zero =>
    intro l4 h hf
    cases hf
  | succ fu1 ih =>
    intro l4 h hf
    rw [f_X6_looksAt_l82_s] at hf
    have hk := ih
    refine ev_iload (n := 3) dX6_looksAt_82 rfl ?_
    refine ev_iconst (v := 4) dX6_looksAt_84 (by decide) ?_
    refine ev_icmp_ge (tgt := 114) dX6_looksAt_85 (by decide) (fun c1 => ?_) (fun c1 => ?_)
    · replace hf := if_t c1 hf
      refine ev_sub [] rfl (lv2 := []) ?_
      obtain rfl := Option.some.inj hf
      exact hx0
    · replace hf := if_f c1 hf
      refine ev_aload_n (n := 0) dX6_looksAt_88 rfl rfl ?_
      refine ev_get (v := .ref (l0 + 2)) 1 kl0 rfl (by decide) rfl lk_607 dX6_looksAt_89 ?_
      refine ev_iload_n (n := 1) dX6_looksAt_92 rfl rfl ?_
      obtain ⟨v9, e10, hf⟩ := bn1_of hf
      refine ev_callSi (As := [.int l1]) cal_X6_at (ev_X6_at e10) (Nat.le_of_ble_eq_true rfl) rfl lk_700 (by decide) (by decide) (Nat.le_of_ble_eq_true rfl) dX6_looksAt_93 rfl ?_
      refine ev_bipush (v := 15) dX6_looksAt_96 (by decide) ?_
      refine ev_iadd dX6_looksAt_98 ?_
      refine ev_iconst (v := 4) dX6_looksAt_99 (by decide) ?_
      refine ev_iload_n (n := 2) dX6_looksAt_100 rfl rfl ?_
      refine ev_imul dX6_looksAt_101 ?_
      refine ev_iadd dX6_looksAt_102 ?_
      refine ev_iload (n := 3) dX6_looksAt_103 rfl ?_
      refine ev_iadd dX6_looksAt_105 ?_
      refine ev_iconst (v := -1) dX6_looksAt_106 (by decide) ?_
      obtain ⟨gd11, hf⟩ := gd_of hf
      refine ev_iast (kd_5_1 kl0) (inb_of gd11) dX6_looksAt_107 ?_
      refine ev_iinc (z := 3) (v := (l4 + 1)) (lv2 := [(4, .int (l4 + 1)), (0, .ref l0), (1, .int l1), (2, .int l2)]) dX6_looksAt_108 rfl rfl (by decide) rfl ?_
      refine ev_goto (tgt := 82) dX6_looksAt_111 (by decide) ?_
      refine ev_sub [1, 2, 3, 0] rfl (lv2 := [(0, .ref l0), (1, .int l1), (2, .int l2), (4, .int (l4 + 1))]) ?_
      exact hk _ _ hf
def f_X6_looksAt_j79 (h : Hp) (l0 : Nat) (l1 : Int32) (l2 : Int32) : Option (Hp) := (bn1 (f_X6_looksAt_l82 l0 l1 l2 fu (0 : Int32) h) (fun h12 => (some h12)))
set_option maxRecDepth 100000 in
set_option maxHeartbeats 4000000 in
theorem jn_X6_looksAt_79 {g : Gl} {h : Hp} {l0 : Nat} {l1 : Int32} {l2 : Int32}  {h2 : Hp} (kl0 : KD g.1 l0 5 0)   (hf : f_X6_looksAt_j79 h l0 l1 l2 = some h2) : Ev yX6_looksAt cX6_looksAt 5 none 3 68 g 79 [] [(0, .ref l0), (1, .int l1), (2, .int l2)] h none h2 := by
  unfold f_X6_looksAt_j79 at hf
  refine ev_iconst (v := 0) dX6_looksAt_79 (by decide) ?_
  refine ev_istore (lv2 := [(4, .int (0 : Int32)), (0, .ref l0), (1, .int l1), (2, .int l2)]) dX6_looksAt_80 (by decide) rfl ?_
  obtain ⟨h12, e13, hf⟩ := bn1_of hf
  refine ev_sub [1, 2, 3, 0] rfl (lv2 := [(0, .ref l0), (1, .int l1), (2, .int l2), (4, .int (0 : Int32))]) ?_
  refine lp_X6_looksAt_82 kl0 ?_ fu _ _ e13
  obtain rfl := Option.some.inj hf
  exact ev_return_ dX6_looksAt_114 rfl
def f_X6_looksAt (h : Hp) (l0 : Nat) (l1 : Int32) (l2 : Int32) : Option (Hp) := (bn1 (f_X6_looksAt_l5 h l0 l1 l2 fu (1 : Int32) (0 : Int32)) (fun w3_6 => (if w3_6 = 0 then (bn1 (f_X6_drops h l0 l1 l2) (fun h7 => (f_X6_looksAt_j79 h7 l0 l1 l2))) else (bn1 (f_X6_at h l1) (fun v14 => (if inb (v14 + (2 : Int32)) 320 = true then (if inb (v14 + (2 : Int32)) 320 = true then (f_X6_looksAt_j79 (sI h (l0 + 2) (v14 + (2 : Int32)).toNatClampNeg ((hI h (l0 + 2) (v14 + (2 : Int32)).toNatClampNeg) ||| ((1 : Int32) <<< (l2 &&& 31)))) l0 l1 l2) else none) else none))))))
set_option maxRecDepth 100000 in
set_option maxHeartbeats 4000000 in
theorem ev_X6_looksAt {g : Gl} {h : Hp} {l0 : Nat} {l1 : Int32} {l2 : Int32} {h2 : Hp} (kl0 : KD g.1 l0 5 0) (hf : f_X6_looksAt h l0 l1 l2 = some h2) : Ev yX6_looksAt cX6_looksAt 5 none 3 68 g 0 [] [(0, .ref l0), (1, .int l1), (2, .int l2)] h none h2 := by
  unfold f_X6_looksAt at hf
  refine ev_iconst (v := 1) dX6_looksAt_0 (by decide) ?_
  refine ev_istore_n (lv2 := [(3, .int (1 : Int32)), (0, .ref l0), (1, .int l1), (2, .int l2)]) dX6_looksAt_1 rfl (by decide) rfl ?_
  refine ev_iconst (v := 0) dX6_looksAt_2 (by decide) ?_
  refine ev_istore (lv2 := [(4, .int (0 : Int32)), (3, .int (1 : Int32)), (0, .ref l0), (1, .int l1), (2, .int l2)]) dX6_looksAt_3 (by decide) rfl ?_
  obtain ⟨w3_6, e18, hf⟩ := bn1_of hf
  refine ev_sub [2, 3, 4, 1, 0] rfl (lv2 := [(0, .ref l0), (1, .int l1), (2, .int l2), (3, .int (1 : Int32)), (4, .int (0 : Int32))]) ?_
  refine lp_X6_looksAt_5 kl0 ?_ fu _ _ e18
  refine ev_iload_n (n := 3) dX6_looksAt_49 rfl rfl ?_
  refine ev_if_eq (tgt := 73) dX6_looksAt_50 (by decide) (fun c1 => ?_) (fun c1 => ?_)
  · replace hf := if_t c1 hf
    refine ev_aload_n (n := 0) dX6_looksAt_73 rfl rfl ?_
    refine ev_iload_n (n := 1) dX6_looksAt_74 rfl rfl ?_
    refine ev_iload_n (n := 2) dX6_looksAt_75 rfl rfl ?_
    obtain ⟨h7, e8, hf⟩ := bn1_of hf
    refine ev_callVv (As := [.int l1, .int l2]) cal_X6_drops kl0 rfl (ev_X6_drops kl0 e8) (Nat.le_of_ble_eq_true rfl) rfl lk_853 (by decide) (by decide) (Nat.le_of_ble_eq_true rfl) dX6_looksAt_76 rfl ?_
    refine ev_sub [0, 1, 2] rfl (lv2 := [(0, .ref l0), (1, .int l1), (2, .int l2)]) ?_
    exact jn_X6_looksAt_79 kl0 hf
  · replace hf := if_f c1 hf
    refine ev_aload_n (n := 0) dX6_looksAt_53 rfl rfl ?_
    refine ev_get (v := .ref (l0 + 2)) 1 kl0 rfl (by decide) rfl lk_607 dX6_looksAt_54 ?_
    refine ev_iload_n (n := 1) dX6_looksAt_57 rfl rfl ?_
    obtain ⟨v14, e15, hf⟩ := bn1_of hf
    refine ev_callSi (As := [.int l1]) cal_X6_at (ev_X6_at e15) (Nat.le_of_ble_eq_true rfl) rfl lk_700 (by decide) (by decide) (Nat.le_of_ble_eq_true rfl) dX6_looksAt_58 rfl ?_
    refine ev_iconst (v := 2) dX6_looksAt_61 (by decide) ?_
    refine ev_iadd dX6_looksAt_62 ?_
    refine ev_dup2 dX6_looksAt_63 rfl rfl ?_
    obtain ⟨gd16, hf⟩ := gd_of hf
    refine ev_iald (kd_5_1 kl0) (inb_of gd16) dX6_looksAt_64 ?_
    refine ev_iconst (v := 1) dX6_looksAt_65 (by decide) ?_
    refine ev_iload_n (n := 2) dX6_looksAt_66 rfl rfl ?_
    refine ev_ishl dX6_looksAt_67 ?_
    refine ev_ior dX6_looksAt_68 ?_
    obtain ⟨gd17, hf⟩ := gd_of hf
    refine ev_iast (kd_5_1 kl0) (inb_of gd17) dX6_looksAt_69 ?_
    refine ev_goto (tgt := 79) dX6_looksAt_70 (by decide) ?_
    refine ev_sub [0, 1, 2] rfl (lv2 := [(0, .ref l0), (1, .int l1), (2, .int l2)]) ?_
    exact jn_X6_looksAt_79 kl0 hf
def f_X6_sends_j141 (kk : Int32 → Int32 → Option (Int32)) (h : Hp) (s0 : Int32) (l0 : Nat) (l2 : Int32) (l4 : Int32) (l6 : Int32) : Option (Int32) := (kk s0 (l6 + 1))
set_option maxRecDepth 100000 in
set_option maxHeartbeats 4000000 in
theorem jn_X6_sends_141 {g : Gl} {h : Hp} {kk : Int32 → Int32 → Option (Int32)} {s0 : Int32} {l0 : Nat} {l2 : Int32} {l4 : Int32} {l6 : Int32}  {r : Option Value} {h2 : Hp} {o5 : Int32} (kl0 : KD g.1 l0 5 0) (hx0 : Ev yX6_sends cX6_sends 7 none 4 92 g 149 [] [(0, .ref l0), (2, .int l2), (4, .int l4), (5, .int o5)] h r h2) (hk : ∀ (x5 : Int32) (x6 : Int32), kk x5 x6 = some o5 → Ev yX6_sends cX6_sends 7 none 4 92 g 107 [] [(0, .ref l0), (2, .int l2), (4, .int l4), (5, .int x5), (6, .int x6)] h r h2) (hf : f_X6_sends_j141 kk h s0 l0 l2 l4 l6 = some o5) : Ev yX6_sends cX6_sends 7 none 4 92 g 141 [.int s0] [(0, .ref l0), (2, .int l2), (4, .int l4), (6, .int l6)] h r h2 := by
  unfold f_X6_sends_j141 at hf
  refine ev_istore (lv2 := [(5, .int s0), (0, .ref l0), (2, .int l2), (4, .int l4), (6, .int l6)]) dX6_sends_141 (by decide) rfl ?_
  refine ev_iinc (z := 4) (v := (l6 + 1)) (lv2 := [(6, .int (l6 + 1)), (5, .int s0), (0, .ref l0), (2, .int l2), (4, .int l4)]) dX6_sends_143 rfl rfl (by decide) rfl ?_
  refine ev_goto (tgt := 107) dX6_sends_146 (by decide) ?_
  refine ev_sub [2, 3, 4, 1, 0] rfl (lv2 := [(0, .ref l0), (2, .int l2), (4, .int l4), (5, .int s0), (6, .int (l6 + 1))]) ?_
  exact hk _ _ hf
def f_X6_sends_j140 (kk : Int32 → Int32 → Option (Int32)) (h : Hp) (l0 : Nat) (l2 : Int32) (l4 : Int32) (l6 : Int32) : Option (Int32) := (f_X6_sends_j141 kk h (0 : Int32) l0 l2 l4 l6)
set_option maxRecDepth 100000 in
set_option maxHeartbeats 4000000 in
theorem jn_X6_sends_140 {g : Gl} {h : Hp} {kk : Int32 → Int32 → Option (Int32)} {l0 : Nat} {l2 : Int32} {l4 : Int32} {l6 : Int32}  {r : Option Value} {h2 : Hp} {o5 : Int32} (kl0 : KD g.1 l0 5 0) (hx0 : Ev yX6_sends cX6_sends 7 none 4 92 g 149 [] [(0, .ref l0), (2, .int l2), (4, .int l4), (5, .int o5)] h r h2) (hk : ∀ (x5 : Int32) (x6 : Int32), kk x5 x6 = some o5 → Ev yX6_sends cX6_sends 7 none 4 92 g 107 [] [(0, .ref l0), (2, .int l2), (4, .int l4), (5, .int x5), (6, .int x6)] h r h2) (hf : f_X6_sends_j140 kk h l0 l2 l4 l6 = some o5) : Ev yX6_sends cX6_sends 7 none 4 92 g 140 [] [(0, .ref l0), (2, .int l2), (4, .int l4), (6, .int l6)] h r h2 := by
  unfold f_X6_sends_j140 at hf
  refine ev_iconst (v := 0) dX6_sends_140 (by decide) ?_
  exact jn_X6_sends_141 kl0 hx0 hk hf
def f_X6_sends_l107 (h : Hp) (l0 : Nat) (l2 : Int32) (l4 : Int32) : Nat → Int32 → Int32 → Option (Int32)
  | 0, _, _ => none
  | fu1 + 1, l5, l6 => (if (hI h (l0 + 2) (2 : Int32).toNatClampNeg) ≤ l6 then (some l5) else (if l5 = 0 then (f_X6_sends_j140 (f_X6_sends_l107 h l0 l2 l4 fu1) h l0 l2 l4 l6) else (bn1 (f_X6_source h l0 l2 l4 l6) (fun v21 => (if v21 = (-1 : Int32) then (f_X6_sends_j140 (f_X6_sends_l107 h l0 l2 l4 fu1) h l0 l2 l4 l6) else (f_X6_sends_j141 (f_X6_sends_l107 h l0 l2 l4 fu1) h (1 : Int32) l0 l2 l4 l6))))))
theorem f_X6_sends_l107_s (h : Hp) (l0 : Nat) (l2 : Int32) (l4 : Int32) (fu1 : Nat) (l5 : Int32) (l6 : Int32) : f_X6_sends_l107 h l0 l2 l4 (fu1 + 1) l5 l6 = (if (hI h (l0 + 2) (2 : Int32).toNatClampNeg) ≤ l6 then (some l5) else (if l5 = 0 then (f_X6_sends_j140 (f_X6_sends_l107 h l0 l2 l4 fu1) h l0 l2 l4 l6) else (bn1 (f_X6_source h l0 l2 l4 l6) (fun v21 => (if v21 = (-1 : Int32) then (f_X6_sends_j140 (f_X6_sends_l107 h l0 l2 l4 fu1) h l0 l2 l4 l6) else (f_X6_sends_j141 (f_X6_sends_l107 h l0 l2 l4 fu1) h (1 : Int32) l0 l2 l4 l6)))))) := rfl
theorem f_X6_sends_l107_0 (h : Hp) (l0 : Nat) (l2 : Int32) (l4 : Int32) (l5 : Int32) (l6 : Int32) : f_X6_sends_l107 h l0 l2 l4 0 l5 l6 = none := rfl
set_option maxRecDepth 100000 in
set_option maxHeartbeats 4000000 in
theorem lp_X6_sends_107 {g : Gl} {h : Hp} {l0 : Nat} {l2 : Int32} {l4 : Int32} {r : Option Value} {h2 : Hp} {o5 : Int32} (kl0 : KD g.1 l0 5 0) (hx0 : Ev yX6_sends cX6_sends 7 none 4 92 g 149 [] [(0, .ref l0), (2, .int l2), (4, .int l4), (5, .int o5)] h r h2) : ∀ (fu1 : Nat) (l5 : Int32) (l6 : Int32), f_X6_sends_l107 h l0 l2 l4 fu1 l5 l6 = some o5 → Ev yX6_sends cX6_sends 7 none 4 92 g 107 [] [(0, .ref l0), (2, .int l2), (4, .int l4), (5, .int l5), (6, .int l6)] h r h2 := by
  intro fu1
  induction fu1 with
  | zero =>
    intro l5 l6 hf
    cases hf
  | succ fu1 ih =>
    intro l5 l6 hf
    rw [f_X6_sends_l107_s] at hf
    have hk := ih
    refine ev_iload (n := 4) dX6_sends_107 rfl ?_
    refine ev_aload_n (n := 0) dX6_sends_109 rfl rfl ?_
    refine ev_get (v := .ref (l0 + 2)) 1 kl0 rfl (by decide) rfl lk_607 dX6_sends_110 ?_
    refine ev_iconst (v := 2) dX6_sends_113 (by decide) ?_
    refine ev_iald (kd_5_1 kl0) (by unfold vp_in; decide) dX6_sends_114 ?_
    refine ev_icmp_ge (tgt := 149) dX6_sends_115 (by decide) (fun c1 => ?_) (fun c1 => ?_)
    · replace hf := if_t c1 hf
      refine ev_sub [0, 1, 2, 3] rfl (lv2 := [(0, .ref l0), (2, .int l2), (4, .int l4), (5, .int l5)]) ?_
      obtain rfl := Option.some.inj hf
      exact hx0
    · replace hf := if_f c1 hf
      refine ev_iload (n := 3) dX6_sends_118 rfl ?_
      refine ev_if_eq (tgt := 140) dX6_sends_120 (by decide) (fun c1 => ?_) (fun c1 => ?_)
      · replace hf := if_t c1 hf
        refine ev_sub [0, 1, 2, 4] rfl (lv2 := [(0, .ref l0), (2, .int l2), (4, .int l4), (6, .int l6)]) ?_
        exact jn_X6_sends_140 kl0 hx0 hk hf
      · replace hf := if_f c1 hf
        refine ev_aload_n (n := 0) dX6_sends_123 rfl rfl ?_
        refine ev_iload_n (n := 1) dX6_sends_124 rfl rfl ?_
        refine ev_iload (n := 2) dX6_sends_125 rfl ?_
        refine ev_iload (n := 4) dX6_sends_127 rfl ?_
        obtain ⟨v21, e22, hf⟩ := bn1_of hf
        refine ev_callVi (As := [.int l2, .int l4, .int l6]) cal_X6_source kl0 rfl (ev_X6_source kl0 e22) (Nat.le_of_ble_eq_true rfl) rfl lk_817 (by decide) (by decide) (Nat.le_of_ble_eq_true rfl) dX6_sends_129 rfl ?_
        refine ev_iconst (v := -1) dX6_sends_132 (by decide) ?_
        refine ev_icmp_eq (tgt := 140) dX6_sends_133 (by decide) (fun c1 => ?_) (fun c1 => ?_)
        · replace hf := if_t c1 hf
          refine ev_sub [0, 1, 2, 4] rfl (lv2 := [(0, .ref l0), (2, .int l2), (4, .int l4), (6, .int l6)]) ?_
          exact jn_X6_sends_140 kl0 hx0 hk hf
        · replace hf := if_f c1 hf
          refine ev_iconst (v := 1) dX6_sends_136 (by decide) ?_
          refine ev_goto (tgt := 141) dX6_sends_137 (by decide) ?_
          refine ev_sub [0, 1, 2, 4] rfl (lv2 := [(0, .ref l0), (2, .int l2), (4, .int l4), (6, .int l6)]) ?_
          exact jn_X6_sends_141 kl0 hx0 hk hf
def f_X6_sends_j161 (h : Hp)  : Option (Hp) := (some h)
set_option maxRecDepth 100000 in
set_option maxHeartbeats 4000000 in
theorem jn_X6_sends_161 {g : Gl} {h : Hp}   {h2 : Hp}    (hf : f_X6_sends_j161 h = some h2) : Ev yX6_sends cX6_sends 7 none 4 92 g 161 [] [] h none h2 := by
  unfold f_X6_sends_j161 at hf
  obtain rfl := Option.some.inj hf
  exact ev_return_ dX6_sends_161 rfl
def f_X6_sends_j84 (h : Hp) (s0 : Nat) (s1 : Int32) (s2 : Int32) (s3 : Int32) (l0 : Nat) (l1 : Int32) (l2 : Int32) (l4 : Int32) : Option (Hp) := (if inb s1 320 = true then (if inb (((6 : Int32) * l2) + l1) 36 = true then (if inb (((6 : Int32) * l2) + l1) 36 = true then (bn1 (f_X6_sends_l107 (sI (sI h s0 s1.toNatClampNeg (s2 + s3)) (l0 + 9) (((6 : Int32) * l2) + l1).toNatClampNeg ((hI (sI h s0 s1.toNatClampNeg (s2 + s3)) (l0 + 9) (((6 : Int32) * l2) + l1).toNatClampNeg) + (1 : Int32))) l0 l2 l4 fu (1 : Int32) (0 : Int32)) (fun w5_23 => (if w5_23 = 0 then (f_X6_sends_j161 (sI (sI h s0 s1.toNatClampNeg (s2 + s3)) (l0 + 9) (((6 : Int32) * l2) + l1).toNatClampNeg ((hI (sI h s0 s1.toNatClampNeg (s2 + s3)) (l0 + 9) (((6 : Int32) * l2) + l1).toNatClampNeg) + (1 : Int32)))) else (bn1 (f_X6_looksAt (sI (sI h s0 s1.toNatClampNeg (s2 + s3)) (l0 + 9) (((6 : Int32) * l2) + l1).toNatClampNeg ((hI (sI h s0 s1.toNatClampNeg (s2 + s3)) (l0 + 9) (((6 : Int32) * l2) + l1).toNatClampNeg) + (1 : Int32))) l0 l2 l4) (fun h24 => (f_X6_sends_j161 h24)))))) else none) else none) else none)
set_option maxRecDepth 100000 in
set_option maxHeartbeats 4000000 in
theorem jn_X6_sends_84 {g : Gl} {h : Hp} {s0 : Nat} {s1 : Int32} {s2 : Int32} {s3 : Int32} {l0 : Nat} {l1 : Int32} {l2 : Int32} {l4 : Int32}  {h2 : Hp} (ks0 : KD g.1 s0 6 320) (kl0 : KD g.1 l0 5 0)   (hf : f_X6_sends_j84 h s0 s1 s2 s3 l0 l1 l2 l4 = some h2) : Ev yX6_sends cX6_sends 7 none 4 92 g 84 [.int s3, .int s2, .int s1, .ref s0] [(0, .ref l0), (1, .int l1), (2, .int l2), (4, .int l4)] h none h2 := by
  unfold f_X6_sends_j84 at hf
  refine ev_iadd dX6_sends_84 ?_
  obtain ⟨gd17, hf⟩ := gd_of hf
  refine ev_iast ks0 (inb_of gd17) dX6_sends_85 ?_
  refine ev_aload_n (n := 0) dX6_sends_86 rfl rfl ?_
  refine ev_get (v := .ref (l0 + 9)) 10 kl0 rfl (by decide) rfl lk_616 dX6_sends_87 ?_
  refine ev_bipush (v := 6) dX6_sends_90 (by decide) ?_
  refine ev_iload_n (n := 2) dX6_sends_92 rfl rfl ?_
  refine ev_imul dX6_sends_93 ?_
  refine ev_iload_n (n := 1) dX6_sends_94 rfl rfl ?_
  refine ev_iadd dX6_sends_95 ?_
  refine ev_dup2 dX6_sends_96 rfl rfl ?_
  obtain ⟨gd18, hf⟩ := gd_of hf
  refine ev_iald (kd_5_10 kl0) (inb_of gd18) dX6_sends_97 ?_
  refine ev_iconst (v := 1) dX6_sends_98 (by decide) ?_
  refine ev_iadd dX6_sends_99 ?_
  obtain ⟨gd19, hf⟩ := gd_of hf
  refine ev_iast (kd_5_10 kl0) (inb_of gd19) dX6_sends_100 ?_
  refine ev_iconst (v := 1) dX6_sends_101 (by decide) ?_
  refine ev_istore (lv2 := [(5, .int (1 : Int32)), (0, .ref l0), (1, .int l1), (2, .int l2), (4, .int l4)]) dX6_sends_102 (by decide) rfl ?_
  refine ev_iconst (v := 0) dX6_sends_104 (by decide) ?_
  refine ev_istore (lv2 := [(6, .int (0 : Int32)), (5, .int (1 : Int32)), (0, .ref l0), (1, .int l1), (2, .int l2), (4, .int l4)]) dX6_sends_105 (by decide) rfl ?_
  obtain ⟨w5_23, e26, hf⟩ := bn1_of hf
  refine ev_sub [2, 4, 5, 1, 0] rfl (lv2 := [(0, .ref l0), (2, .int l2), (4, .int l4), (5, .int (1 : Int32)), (6, .int (0 : Int32))]) ?_
  refine lp_X6_sends_107 kl0 ?_ fu _ _ e26
  refine ev_iload (n := 3) dX6_sends_149 rfl ?_
  refine ev_if_eq (tgt := 161) dX6_sends_151 (by decide) (fun c1 => ?_) (fun c1 => ?_)
  · replace hf := if_t c1 hf
    refine ev_sub [] rfl (lv2 := []) ?_
    exact jn_X6_sends_161 hf
  · replace hf := if_f c1 hf
    refine ev_aload_n (n := 0) dX6_sends_154 rfl rfl ?_
    refine ev_iload_n (n := 1) dX6_sends_155 rfl rfl ?_
    refine ev_iload (n := 2) dX6_sends_156 rfl ?_
    obtain ⟨h24, e25, hf⟩ := bn1_of hf
    refine ev_callVv (As := [.int l2, .int l4]) cal_X6_looksAt kl0 rfl (ev_X6_looksAt kl0 e25) (Nat.le_of_ble_eq_true rfl) rfl lk_849 (by decide) (by decide) (Nat.le_of_ble_eq_true rfl) dX6_sends_158 rfl ?_
    refine ev_sub [] rfl (lv2 := []) ?_
    exact jn_X6_sends_161 hf
def f_X6_sends (h : Hp) (l0 : Nat) (l1 : Int32) (l2 : Int32) (l3 : Int32) : Option (Hp) := (bn1 (f_X6_at h l2) (fun v1 => (if inb ((v1 + (15 : Int32)) + l3) 320 = true then (bn1 (f_X6_at (sI h (l0 + 2) ((v1 + (15 : Int32)) + l3).toNatClampNeg l1) l2) (fun v4 => (if inb (v4 + (7 : Int32)) 320 = true then (if inb (v4 + (7 : Int32)) 320 = true then (bn1 (f_X6_at (sI (sI h (l0 + 2) ((v1 + (15 : Int32)) + l3).toNatClampNeg l1) (l0 + 2) (v4 + (7 : Int32)).toNatClampNeg ((hI (sI h (l0 + 2) ((v1 + (15 : Int32)) + l3).toNatClampNeg l1) (l0 + 2) (v4 + (7 : Int32)).toNatClampNeg) + (1 : Int32))) l1) (fun v8 => (if inb (v8 + (6 : Int32)) 320 = true then (if inb (v8 + (6 : Int32)) 320 = true then (bn1 (f_X6_cellOf (sI (sI (sI (sI h (l0 + 2) ((v1 + (15 : Int32)) + l3).toNatClampNeg l1) (l0 + 2) (v4 + (7 : Int32)).toNatClampNeg ((hI (sI h (l0 + 2) ((v1 + (15 : Int32)) + l3).toNatClampNeg l1) (l0 + 2) (v4 + (7 : Int32)).toNatClampNeg) + (1 : Int32))) (l0 + 2) (v8 + (6 : Int32)).toNatClampNeg ((hI (sI (sI h (l0 + 2) ((v1 + (15 : Int32)) + l3).toNatClampNeg l1) (l0 + 2) (v4 + (7 : Int32)).toNatClampNeg ((hI (sI h (l0 + 2) ((v1 + (15 : Int32)) + l3).toNatClampNeg l1) (l0 + 2) (v4 + (7 : Int32)).toNatClampNeg) + (1 : Int32))) (l0 + 2) (v8 + (6 : Int32)).toNatClampNeg) + (1 : Int32))) (l0 + 2) (4 : Int32).toNatClampNeg ((hI (sI (sI (sI h (l0 + 2) ((v1 + (15 : Int32)) + l3).toNatClampNeg l1) (l0 + 2) (v4 + (7 : Int32)).toNatClampNeg ((hI (sI h (l0 + 2) ((v1 + (15 : Int32)) + l3).toNatClampNeg l1) (l0 + 2) (v4 + (7 : Int32)).toNatClampNeg) + (1 : Int32))) (l0 + 2) (v8 + (6 : Int32)).toNatClampNeg ((hI (sI (sI h (l0 + 2) ((v1 + (15 : Int32)) + l3).toNatClampNeg l1) (l0 + 2) (v4 + (7 : Int32)).toNatClampNeg ((hI (sI h (l0 + 2) ((v1 + (15 : Int32)) + l3).toNatClampNeg l1) (l0 + 2) (v4 + (7 : Int32)).toNatClampNeg) + (1 : Int32))) (l0 + 2) (v8 + (6 : Int32)).toNatClampNeg) + (1 : Int32))) (l0 + 2) (4 : Int32).toNatClampNeg) + (1 : Int32))) l0 l1 (0 : Int32)) (fun v15 => (if v15 = (2 : Int32) then (f_X6_sends_j84 (sI (sI (sI (sI h (l0 + 2) ((v1 + (15 : Int32)) + l3).toNatClampNeg l1) (l0 + 2) (v4 + (7 : Int32)).toNatClampNeg ((hI (sI h (l0 + 2) ((v1 + (15 : Int32)) + l3).toNatClampNeg l1) (l0 + 2) (v4 + (7 : Int32)).toNatClampNeg) + (1 : Int32))) (l0 + 2) (v8 + (6 : Int32)).toNatClampNeg ((hI (sI (sI h (l0 + 2) ((v1 + (15 : Int32)) + l3).toNatClampNeg l1) (l0 + 2) (v4 + (7 : Int32)).toNatClampNeg ((hI (sI h (l0 + 2) ((v1 + (15 : Int32)) + l3).toNatClampNeg l1) (l0 + 2) (v4 + (7 : Int32)).toNatClampNeg) + (1 : Int32))) (l0 + 2) (v8 + (6 : Int32)).toNatClampNeg) + (1 : Int32))) (l0 + 2) (4 : Int32).toNatClampNeg ((hI (sI (sI (sI h (l0 + 2) ((v1 + (15 : Int32)) + l3).toNatClampNeg l1) (l0 + 2) (v4 + (7 : Int32)).toNatClampNeg ((hI (sI h (l0 + 2) ((v1 + (15 : Int32)) + l3).toNatClampNeg l1) (l0 + 2) (v4 + (7 : Int32)).toNatClampNeg) + (1 : Int32))) (l0 + 2) (v8 + (6 : Int32)).toNatClampNeg ((hI (sI (sI h (l0 + 2) ((v1 + (15 : Int32)) + l3).toNatClampNeg l1) (l0 + 2) (v4 + (7 : Int32)).toNatClampNeg ((hI (sI h (l0 + 2) ((v1 + (15 : Int32)) + l3).toNatClampNeg l1) (l0 + 2) (v4 + (7 : Int32)).toNatClampNeg) + (1 : Int32))) (l0 + 2) (v8 + (6 : Int32)).toNatClampNeg) + (1 : Int32))) (l0 + 2) (4 : Int32).toNatClampNeg) + (1 : Int32))) (l0 + 2) (5 : Int32) (hI (sI (sI (sI (sI h (l0 + 2) ((v1 + (15 : Int32)) + l3).toNatClampNeg l1) (l0 + 2) (v4 + (7 : Int32)).toNatClampNeg ((hI (sI h (l0 + 2) ((v1 + (15 : Int32)) + l3).toNatClampNeg l1) (l0 + 2) (v4 + (7 : Int32)).toNatClampNeg) + (1 : Int32))) (l0 + 2) (v8 + (6 : Int32)).toNatClampNeg ((hI (sI (sI h (l0 + 2) ((v1 + (15 : Int32)) + l3).toNatClampNeg l1) (l0 + 2) (v4 + (7 : Int32)).toNatClampNeg ((hI (sI h (l0 + 2) ((v1 + (15 : Int32)) + l3).toNatClampNeg l1) (l0 + 2) (v4 + (7 : Int32)).toNatClampNeg) + (1 : Int32))) (l0 + 2) (v8 + (6 : Int32)).toNatClampNeg) + (1 : Int32))) (l0 + 2) (4 : Int32).toNatClampNeg ((hI (sI (sI (sI h (l0 + 2) ((v1 + (15 : Int32)) + l3).toNatClampNeg l1) (l0 + 2) (v4 + (7 : Int32)).toNatClampNeg ((hI (sI h (l0 + 2) ((v1 + (15 : Int32)) + l3).toNatClampNeg l1) (l0 + 2) (v4 + (7 : Int32)).toNatClampNeg) + (1 : Int32))) (l0 + 2) (v8 + (6 : Int32)).toNatClampNeg ((hI (sI (sI h (l0 + 2) ((v1 + (15 : Int32)) + l3).toNatClampNeg l1) (l0 + 2) (v4 + (7 : Int32)).toNatClampNeg ((hI (sI h (l0 + 2) ((v1 + (15 : Int32)) + l3).toNatClampNeg l1) (l0 + 2) (v4 + (7 : Int32)).toNatClampNeg) + (1 : Int32))) (l0 + 2) (v8 + (6 : Int32)).toNatClampNeg) + (1 : Int32))) (l0 + 2) (4 : Int32).toNatClampNeg) + (1 : Int32))) (l0 + 2) (5 : Int32).toNatClampNeg) (1 : Int32) l0 l1 l2 (l3 / (4 : Int32))) else (f_X6_sends_j84 (sI (sI (sI (sI h (l0 + 2) ((v1 + (15 : Int32)) + l3).toNatClampNeg l1) (l0 + 2) (v4 + (7 : Int32)).toNatClampNeg ((hI (sI h (l0 + 2) ((v1 + (15 : Int32)) + l3).toNatClampNeg l1) (l0 + 2) (v4 + (7 : Int32)).toNatClampNeg) + (1 : Int32))) (l0 + 2) (v8 + (6 : Int32)).toNatClampNeg ((hI (sI (sI h (l0 + 2) ((v1 + (15 : Int32)) + l3).toNatClampNeg l1) (l0 + 2) (v4 + (7 : Int32)).toNatClampNeg ((hI (sI h (l0 + 2) ((v1 + (15 : Int32)) + l3).toNatClampNeg l1) (l0 + 2) (v4 + (7 : Int32)).toNatClampNeg) + (1 : Int32))) (l0 + 2) (v8 + (6 : Int32)).toNatClampNeg) + (1 : Int32))) (l0 + 2) (4 : Int32).toNatClampNeg ((hI (sI (sI (sI h (l0 + 2) ((v1 + (15 : Int32)) + l3).toNatClampNeg l1) (l0 + 2) (v4 + (7 : Int32)).toNatClampNeg ((hI (sI h (l0 + 2) ((v1 + (15 : Int32)) + l3).toNatClampNeg l1) (l0 + 2) (v4 + (7 : Int32)).toNatClampNeg) + (1 : Int32))) (l0 + 2) (v8 + (6 : Int32)).toNatClampNeg ((hI (sI (sI h (l0 + 2) ((v1 + (15 : Int32)) + l3).toNatClampNeg l1) (l0 + 2) (v4 + (7 : Int32)).toNatClampNeg ((hI (sI h (l0 + 2) ((v1 + (15 : Int32)) + l3).toNatClampNeg l1) (l0 + 2) (v4 + (7 : Int32)).toNatClampNeg) + (1 : Int32))) (l0 + 2) (v8 + (6 : Int32)).toNatClampNeg) + (1 : Int32))) (l0 + 2) (4 : Int32).toNatClampNeg) + (1 : Int32))) (l0 + 2) (5 : Int32) (hI (sI (sI (sI (sI h (l0 + 2) ((v1 + (15 : Int32)) + l3).toNatClampNeg l1) (l0 + 2) (v4 + (7 : Int32)).toNatClampNeg ((hI (sI h (l0 + 2) ((v1 + (15 : Int32)) + l3).toNatClampNeg l1) (l0 + 2) (v4 + (7 : Int32)).toNatClampNeg) + (1 : Int32))) (l0 + 2) (v8 + (6 : Int32)).toNatClampNeg ((hI (sI (sI h (l0 + 2) ((v1 + (15 : Int32)) + l3).toNatClampNeg l1) (l0 + 2) (v4 + (7 : Int32)).toNatClampNeg ((hI (sI h (l0 + 2) ((v1 + (15 : Int32)) + l3).toNatClampNeg l1) (l0 + 2) (v4 + (7 : Int32)).toNatClampNeg) + (1 : Int32))) (l0 + 2) (v8 + (6 : Int32)).toNatClampNeg) + (1 : Int32))) (l0 + 2) (4 : Int32).toNatClampNeg ((hI (sI (sI (sI h (l0 + 2) ((v1 + (15 : Int32)) + l3).toNatClampNeg l1) (l0 + 2) (v4 + (7 : Int32)).toNatClampNeg ((hI (sI h (l0 + 2) ((v1 + (15 : Int32)) + l3).toNatClampNeg l1) (l0 + 2) (v4 + (7 : Int32)).toNatClampNeg) + (1 : Int32))) (l0 + 2) (v8 + (6 : Int32)).toNatClampNeg ((hI (sI (sI h (l0 + 2) ((v1 + (15 : Int32)) + l3).toNatClampNeg l1) (l0 + 2) (v4 + (7 : Int32)).toNatClampNeg ((hI (sI h (l0 + 2) ((v1 + (15 : Int32)) + l3).toNatClampNeg l1) (l0 + 2) (v4 + (7 : Int32)).toNatClampNeg) + (1 : Int32))) (l0 + 2) (v8 + (6 : Int32)).toNatClampNeg) + (1 : Int32))) (l0 + 2) (4 : Int32).toNatClampNeg) + (1 : Int32))) (l0 + 2) (5 : Int32).toNatClampNeg) (0 : Int32) l0 l1 l2 (l3 / (4 : Int32)))))) else none) else none))) else none) else none))) else none)))
set_option maxRecDepth 100000 in
set_option maxHeartbeats 4000000 in
theorem ev_X6_sends {g : Gl} {h : Hp} {l0 : Nat} {l1 : Int32} {l2 : Int32} {l3 : Int32} {h2 : Hp} (kl0 : KD g.1 l0 5 0) (hf : f_X6_sends h l0 l1 l2 l3 = some h2) : Ev yX6_sends cX6_sends 7 none 4 92 g 0 [] [(0, .ref l0), (1, .int l1), (2, .int l2), (3, .int l3)] h none h2 := by
  unfold f_X6_sends at hf
  refine ev_iload_n (n := 3) dX6_sends_0 rfl rfl ?_
  refine ev_iconst (v := 4) dX6_sends_1 (by decide) ?_
  refine ev_idiv dX6_sends_2 (by decide) ?_
  refine ev_istore (lv2 := [(4, .int (l3 / (4 : Int32))), (0, .ref l0), (1, .int l1), (2, .int l2), (3, .int l3)]) dX6_sends_3 (by decide) rfl ?_
  refine ev_aload_n (n := 1) dX6_sends_5 rfl rfl ?_
  refine ev_get (v := .ref (l0 + 2)) 1 kl0 rfl (by decide) rfl lk_607 dX6_sends_6 ?_
  refine ev_iload_n (n := 3) dX6_sends_9 rfl rfl ?_
  obtain ⟨v1, e2, hf⟩ := bn1_of hf
  refine ev_callSi (As := [.int l2]) cal_X6_at (ev_X6_at e2) (Nat.le_of_ble_eq_true rfl) rfl lk_700 (by decide) (by decide) (Nat.le_of_ble_eq_true rfl) dX6_sends_10 rfl ?_
  refine ev_bipush (v := 15) dX6_sends_13 (by decide) ?_
  refine ev_iadd dX6_sends_15 ?_
  refine ev_iload_n (n := 4) dX6_sends_16 rfl rfl ?_
  refine ev_iadd dX6_sends_17 ?_
  refine ev_iload_n (n := 2) dX6_sends_18 rfl rfl ?_
  obtain ⟨gd3, hf⟩ := gd_of hf
  refine ev_iast (kd_5_1 kl0) (inb_of gd3) dX6_sends_19 ?_
  refine ev_aload_n (n := 1) dX6_sends_20 rfl rfl ?_
  refine ev_get (v := .ref (l0 + 2)) 1 kl0 rfl (by decide) rfl lk_607 dX6_sends_21 ?_
  refine ev_iload_n (n := 3) dX6_sends_24 rfl rfl ?_
  obtain ⟨v4, e5, hf⟩ := bn1_of hf
  refine ev_callSi (As := [.int l2]) cal_X6_at (ev_X6_at e5) (Nat.le_of_ble_eq_true rfl) rfl lk_700 (by decide) (by decide) (Nat.le_of_ble_eq_true rfl) dX6_sends_25 rfl ?_
  refine ev_bipush (v := 7) dX6_sends_28 (by decide) ?_
  refine ev_iadd dX6_sends_30 ?_
  refine ev_dup2 dX6_sends_31 rfl rfl ?_
  obtain ⟨gd6, hf⟩ := gd_of hf
  refine ev_iald (kd_5_1 kl0) (inb_of gd6) dX6_sends_32 ?_
  refine ev_iconst (v := 1) dX6_sends_33 (by decide) ?_
  refine ev_iadd dX6_sends_34 ?_
  obtain ⟨gd7, hf⟩ := gd_of hf
  refine ev_iast (kd_5_1 kl0) (inb_of gd7) dX6_sends_35 ?_
  refine ev_aload_n (n := 1) dX6_sends_36 rfl rfl ?_
  refine ev_get (v := .ref (l0 + 2)) 1 kl0 rfl (by decide) rfl lk_607 dX6_sends_37 ?_
  refine ev_iload_n (n := 2) dX6_sends_40 rfl rfl ?_
  obtain ⟨v8, e9, hf⟩ := bn1_of hf
  refine ev_callSi (As := [.int l1]) cal_X6_at (ev_X6_at e9) (Nat.le_of_ble_eq_true rfl) rfl lk_700 (by decide) (by decide) (Nat.le_of_ble_eq_true rfl) dX6_sends_41 rfl ?_
  refine ev_bipush (v := 6) dX6_sends_44 (by decide) ?_
  refine ev_iadd dX6_sends_46 ?_
  refine ev_dup2 dX6_sends_47 rfl rfl ?_
  obtain ⟨gd10, hf⟩ := gd_of hf
  refine ev_iald (kd_5_1 kl0) (inb_of gd10) dX6_sends_48 ?_
  refine ev_iconst (v := 1) dX6_sends_49 (by decide) ?_
  refine ev_iadd dX6_sends_50 ?_
  obtain ⟨gd11, hf⟩ := gd_of hf
  refine ev_iast (kd_5_1 kl0) (inb_of gd11) dX6_sends_51 ?_
  refine ev_aload_n (n := 1) dX6_sends_52 rfl rfl ?_
  refine ev_get (v := .ref (l0 + 2)) 1 kl0 rfl (by decide) rfl lk_607 dX6_sends_53 ?_
  refine ev_iconst (v := 4) dX6_sends_56 (by decide) ?_
  refine ev_dup2 dX6_sends_57 rfl rfl ?_
  refine ev_iald (kd_5_1 kl0) (by unfold vp_in; decide) dX6_sends_58 ?_
  refine ev_iconst (v := 1) dX6_sends_59 (by decide) ?_
  refine ev_iadd dX6_sends_60 ?_
  refine ev_iast (kd_5_1 kl0) (by unfold vp_in; decide) dX6_sends_61 ?_
  refine ev_aload_n (n := 1) dX6_sends_62 rfl rfl ?_
  refine ev_get (v := .ref (l0 + 2)) 1 kl0 rfl (by decide) rfl lk_607 dX6_sends_63 ?_
  refine ev_iconst (v := 5) dX6_sends_66 (by decide) ?_
  refine ev_dup2 dX6_sends_67 rfl rfl ?_
  refine ev_iald (kd_5_1 kl0) (by unfold vp_in; decide) dX6_sends_68 ?_
  refine ev_aload_n (n := 1) dX6_sends_69 rfl rfl ?_
  refine ev_iload_n (n := 2) dX6_sends_70 rfl rfl ?_
  refine ev_iconst (v := 0) dX6_sends_71 (by decide) ?_
  obtain ⟨v15, e16, hf⟩ := bn1_of hf
  refine ev_callVi (As := [.int l1, .int (0 : Int32)]) cal_X6_cellOf kl0 rfl (ev_X6_cellOf kl0 e16) (Nat.le_of_ble_eq_true rfl) rfl lk_719 (by decide) (by decide) (Nat.le_of_ble_eq_true rfl) dX6_sends_72 rfl ?_
  refine ev_iconst (v := 2) dX6_sends_75 (by decide) ?_
  refine ev_icmp_ne (tgt := 83) dX6_sends_76 (by decide) (fun c1 => ?_) (fun c1 => ?_)
  · replace hf := if_f c1 hf
    refine ev_iconst (v := 0) dX6_sends_83 (by decide) ?_
    refine ev_sub [1, 2, 3, 0] rfl (lv2 := [(0, .ref l0), (1, .int l1), (2, .int l2), (4, .int (l3 / (4 : Int32)))]) ?_
    exact jn_X6_sends_84 (kd_5_1 kl0) kl0 hf
  · replace hf := if_t c1 hf
    refine ev_iconst (v := 1) dX6_sends_79 (by decide) ?_
    refine ev_goto (tgt := 84) dX6_sends_80 (by decide) ?_
    refine ev_sub [1, 2, 3, 0] rfl (lv2 := [(0, .ref l0), (1, .int l1), (2, .int l2), (4, .int (l3 / (4 : Int32)))]) ?_
    exact jn_X6_sends_84 (kd_5_1 kl0) kl0 hf
def f_X6_answers_j102 (kk : Int32 → Int32 → Hp → Option (Hp)) (h : Hp) (l0 : Nat) (l1 : Int32) (l2 : Int32) (l3 : Int32) : Option (Hp) := (kk l2 (l3 + 1) h)
set_option maxRecDepth 100000 in
set_option maxHeartbeats 4000000 in
theorem jn_X6_answers_102 {g : Gl} {h : Hp} {kk : Int32 → Int32 → Hp → Option (Hp)} {l0 : Nat} {l1 : Int32} {l2 : Int32} {l3 : Int32}  {r : Option Value} {h2 : Hp} {h3 : Hp} (kl0 : KD g.1 l0 5 0) (hx0 : Ev yX6_answers cX6_answers 5 none 5 118 g 108 [] [] h3 r h2) (hk : ∀ (x2 : Int32) (x3 : Int32) (hq : Hp), kk x2 x3 hq = some h3 → Ev yX6_answers cX6_answers 5 none 5 118 g 4 [] [(0, .ref l0), (1, .int l1), (2, .int x2), (3, .int x3)] hq r h2) (hf : f_X6_answers_j102 kk h l0 l1 l2 l3 = some h3) : Ev yX6_answers cX6_answers 5 none 5 118 g 102 [] [(0, .ref l0), (1, .int l1), (2, .int l2), (3, .int l3)] h r h2 := by
  unfold f_X6_answers_j102 at hf
  refine ev_iinc (z := 3) (v := (l3 + 1)) (lv2 := [(3, .int (l3 + 1)), (0, .ref l0), (1, .int l1), (2, .int l2)]) dX6_answers_102 rfl rfl (by decide) rfl ?_
  refine ev_goto (tgt := 4) dX6_answers_105 (by decide) ?_
  refine ev_sub [1, 2, 3, 0] rfl (lv2 := [(0, .ref l0), (1, .int l1), (2, .int l2), (3, .int (l3 + 1))]) ?_
  exact hk _ _ _ hf
def f_X6_answers_j67 (kk : Int32 → Int32 → Hp → Option (Hp)) (h : Hp) (l0 : Nat) (l1 : Int32) (l2 : Int32) (l3 : Int32) : Option (Hp) := (f_X6_answers_j102 kk (sI h (l0 + 2) (6 : Int32).toNatClampNeg ((hI h (l0 + 2) (6 : Int32).toNatClampNeg) + (1 : Int32))) l0 l1 l2 l3)
set_option maxRecDepth 100000 in
set_option maxHeartbeats 4000000 in
theorem jn_X6_answers_67 {g : Gl} {h : Hp} {kk : Int32 → Int32 → Hp → Option (Hp)} {l0 : Nat} {l1 : Int32} {l2 : Int32} {l3 : Int32}  {r : Option Value} {h2 : Hp} {h3 : Hp} (kl0 : KD g.1 l0 5 0) (hx0 : Ev yX6_answers cX6_answers 5 none 5 118 g 108 [] [] h3 r h2) (hk : ∀ (x2 : Int32) (x3 : Int32) (hq : Hp), kk x2 x3 hq = some h3 → Ev yX6_answers cX6_answers 5 none 5 118 g 4 [] [(0, .ref l0), (1, .int l1), (2, .int x2), (3, .int x3)] hq r h2) (hf : f_X6_answers_j67 kk h l0 l1 l2 l3 = some h3) : Ev yX6_answers cX6_answers 5 none 5 118 g 67 [] [(0, .ref l0), (1, .int l1), (2, .int l2), (3, .int l3)] h r h2 := by
  unfold f_X6_answers_j67 at hf
  refine ev_aload_n (n := 0) dX6_answers_67 rfl rfl ?_
  refine ev_get (v := .ref (l0 + 2)) 1 kl0 rfl (by decide) rfl lk_607 dX6_answers_68 ?_
  refine ev_bipush (v := 6) dX6_answers_71 (by decide) ?_
  refine ev_dup2 dX6_answers_73 rfl rfl ?_
  refine ev_iald (kd_5_1 kl0) (by unfold vp_in; decide) dX6_answers_74 ?_
  refine ev_iconst (v := 1) dX6_answers_75 (by decide) ?_
  refine ev_iadd dX6_answers_76 ?_
  refine ev_iast (kd_5_1 kl0) (by unfold vp_in; decide) dX6_answers_77 ?_
  refine ev_goto (tgt := 102) dX6_answers_78 (by decide) ?_
  exact jn_X6_answers_102 kl0 hx0 hk hf
def f_X6_answers_l4 (l0 : Nat) (l1 : Int32) : Nat → Int32 → Int32 → Hp → Option (Hp)
  | 0, _, _, _ => none
  | fu1 + 1, l2, l3, h => (if (hI h (l0 + 2) (0 : Int32).toNatClampNeg) ≤ l3 then (some h) else (if inb (((6 : Int32) * l3) + l1) 36 = true then (if (hI h (l0 + 7) (((6 : Int32) * l3) + l1).toNatClampNeg) = (-1 : Int32) then (f_X6_answers_j102 (f_X6_answers_l4 l0 l1 fu1) h l0 l1 l2 l3) else (bn1 (f_X6_has h l0 l3 ((hI h (l0 + 7) (((6 : Int32) * l3) + l1).toNatClampNeg) / (4 : Int32))) (fun v3 => (if v3 = 0 then (bn1 (f_X6_at h l3) (fun v7 => (if inb ((v7 + (15 : Int32)) + (hI h (l0 + 7) (((6 : Int32) * l3) + l1).toNatClampNeg)) 320 = true then (if (hI h (l0 + 2) ((v7 + (15 : Int32)) + (hI h (l0 + 7) (((6 : Int32) * l3) + l1).toNatClampNeg)).toNatClampNeg) = (-1 : Int32) then (bn1 (f_X6_cellOf h l0 l1 (1 : Int32)) (fun v10 => (if v10 ≤ l2 then (f_X6_answers_j102 (f_X6_answers_l4 l0 l1 fu1) h l0 l1 l2 l3) else (bn1 (f_X6_sends h l0 l1 l3 (hI h (l0 + 7) (((6 : Int32) * l3) + l1).toNatClampNeg)) (fun h12 => (f_X6_answers_j102 (f_X6_answers_l4 l0 l1 fu1) h12 l0 l1 (l2 + 1) l3)))))) else (f_X6_answers_j67 (f_X6_answers_l4 l0 l1 fu1) h l0 l1 l2 l3)) else none))) else (f_X6_answers_j67 (f_X6_answers_l4 l0 l1 fu1) h l0 l1 l2 l3))))) else none))
theorem f_X6_answers_l4_s (l0 : Nat) (l1 : Int32) (fu1 : Nat) (l2 : Int32) (l3 : Int32) (h : Hp) : f_X6_answers_l4 l0 l1 (fu1 + 1) l2 l3 h = (if (hI h (l0 + 2) (0 : Int32).toNatClampNeg) ≤ l3 then (some h) else (if inb (((6 : Int32) * l3) + l1) 36 = true then (if (hI h (l0 + 7) (((6 : Int32) * l3) + l1).toNatClampNeg) = (-1 : Int32) then (f_X6_answers_j102 (f_X6_answers_l4 l0 l1 fu1) h l0 l1 l2 l3) else (bn1 (f_X6_has h l0 l3 ((hI h (l0 + 7) (((6 : Int32) * l3) + l1).toNatClampNeg) / (4 : Int32))) (fun v3 => (if v3 = 0 then (bn1 (f_X6_at h l3) (fun v7 => (if inb ((v7 + (15 : Int32)) + (hI h (l0 + 7) (((6 : Int32) * l3) + l1).toNatClampNeg)) 320 = true then (if (hI h (l0 + 2) ((v7 + (15 : Int32)) + (hI h (l0 + 7) (((6 : Int32) * l3) + l1).toNatClampNeg)).toNatClampNeg) = (-1 : Int32) then (bn1 (f_X6_cellOf h l0 l1 (1 : Int32)) (fun v10 => (if v10 ≤ l2 then (f_X6_answers_j102 (f_X6_answers_l4 l0 l1 fu1) h l0 l1 l2 l3) else (bn1 (f_X6_sends h l0 l1 l3 (hI h (l0 + 7) (((6 : Int32) * l3) + l1).toNatClampNeg)) (fun h12 => (f_X6_answers_j102 (f_X6_answers_l4 l0 l1 fu1) h12 l0 l1 (l2 + 1) l3)))))) else (f_X6_answers_j67 (f_X6_answers_l4 l0 l1 fu1) h l0 l1 l2 l3)) else none))) else (f_X6_answers_j67 (f_X6_answers_l4 l0 l1 fu1) h l0 l1 l2 l3))))) else none)) := rfl
theorem f_X6_answers_l4_0 (l0 : Nat) (l1 : Int32) (l2 : Int32) (l3 : Int32) (h : Hp) : f_X6_answers_l4 l0 l1 0 l2 l3 h = none := rfl
set_option maxRecDepth 100000 in
set_option maxHeartbeats 4000000 in
theorem lp_X6_answers_4 {g : Gl} {l0 : Nat} {l1 : Int32} {r : Option Value} {h2 : Hp} {h3 : Hp} (kl0 : KD g.1 l0 5 0) (hx0 : Ev yX6_answers cX6_answers 5 none 5 118 g 108 [] [] h3 r h2) : ∀ (fu1 : Nat) (l2 : Int32) (l3 : Int32) (h : Hp), f_X6_answers_l4 l0 l1 fu1 l2 l3 h = some h3 → Ev yX6_answers cX6_answers 5 none 5 118 g 4 [] [(0, .ref l0), (1, .int l1), (2, .int l2), (3, .int l3)] h r h2 := by
  intro fu1
  induction fu1 with
  | zero =>
    intro l2 l3 h hf
    cases hf
  | succ fu1 ih =>
    intro l2 l3 h hf
    rw [f_X6_answers_l4_s] at hf
    have hk := ih
    refine ev_iload_n (n := 3) dX6_answers_4 rfl rfl ?_
    refine ev_aload_n (n := 0) dX6_answers_5 rfl rfl ?_
    refine ev_get (v := .ref (l0 + 2)) 1 kl0 rfl (by decide) rfl lk_607 dX6_answers_6 ?_
    refine ev_iconst (v := 0) dX6_answers_9 (by decide) ?_
    refine ev_iald (kd_5_1 kl0) (by unfold vp_in; decide) dX6_answers_10 ?_
    refine ev_icmp_ge (tgt := 108) dX6_answers_11 (by decide) (fun c1 => ?_) (fun c1 => ?_)
    · replace hf := if_t c1 hf
      refine ev_sub [] rfl (lv2 := []) ?_
      obtain rfl := Option.some.inj hf
      exact hx0
    · replace hf := if_f c1 hf
      refine ev_aload_n (n := 0) dX6_answers_14 rfl rfl ?_
      refine ev_get (v := .ref (l0 + 7)) 8 kl0 rfl (by decide) rfl lk_614 dX6_answers_15 ?_
      refine ev_bipush (v := 6) dX6_answers_18 (by decide) ?_
      refine ev_iload_n (n := 3) dX6_answers_20 rfl rfl ?_
      refine ev_imul dX6_answers_21 ?_
      refine ev_iload_n (n := 1) dX6_answers_22 rfl rfl ?_
      refine ev_iadd dX6_answers_23 ?_
      obtain ⟨gd2, hf⟩ := gd_of hf
      refine ev_iald (kd_5_8 kl0) (inb_of gd2) dX6_answers_24 ?_
      refine ev_istore (lv2 := [(4, .int (hI h (l0 + 7) (((6 : Int32) * l3) + l1).toNatClampNeg)), (0, .ref l0), (1, .int l1), (2, .int l2), (3, .int l3)]) dX6_answers_25 (by decide) rfl ?_
      refine ev_iload (n := 0) dX6_answers_27 rfl ?_
      refine ev_iconst (v := -1) dX6_answers_29 (by decide) ?_
      refine ev_icmp_ne (tgt := 36) dX6_answers_30 (by decide) (fun c1 => ?_) (fun c1 => ?_)
      · replace hf := if_f c1 hf
        refine ev_aload_n (n := 1) dX6_answers_36 rfl rfl ?_
        refine ev_iload_n (n := 4) dX6_answers_37 rfl rfl ?_
        refine ev_iload (n := 0) dX6_answers_38 rfl ?_
        refine ev_iconst (v := 4) dX6_answers_40 (by decide) ?_
        refine ev_idiv dX6_answers_41 (by decide) ?_
        obtain ⟨v3, e4, hf⟩ := bn1_of hf
        refine ev_callVi (As := [.int l3, .int ((hI h (l0 + 7) (((6 : Int32) * l3) + l1).toNatClampNeg) / (4 : Int32))]) cal_X6_has kl0 rfl (ev_X6_has kl0 e4) (Nat.le_of_ble_eq_true rfl) rfl lk_715 (by decide) (by decide) (Nat.le_of_ble_eq_true rfl) dX6_answers_42 rfl ?_
        refine ev_if_ne (tgt := 67) dX6_answers_45 (by decide) (fun c1 => ?_) (fun c1 => ?_)
        · replace hf := if_f c1 hf
          refine ev_sub [1, 2, 3, 4] rfl (lv2 := [(0, .ref l0), (1, .int l1), (2, .int l2), (3, .int l3)]) ?_
          exact jn_X6_answers_67 kl0 hx0 hk hf
        · replace hf := if_t c1 hf
          refine ev_aload_n (n := 1) dX6_answers_48 rfl rfl ?_
          refine ev_get (v := .ref (l0 + 2)) 1 kl0 rfl (by decide) rfl lk_607 dX6_answers_49 ?_
          refine ev_iload_n (n := 4) dX6_answers_52 rfl rfl ?_
          obtain ⟨v7, e8, hf⟩ := bn1_of hf
          refine ev_callSi (As := [.int l3]) cal_X6_at (ev_X6_at e8) (Nat.le_of_ble_eq_true rfl) rfl lk_700 (by decide) (by decide) (Nat.le_of_ble_eq_true rfl) dX6_answers_53 rfl ?_
          refine ev_bipush (v := 15) dX6_answers_56 (by decide) ?_
          refine ev_iadd dX6_answers_58 ?_
          refine ev_iload (n := 0) dX6_answers_59 rfl ?_
          refine ev_iadd dX6_answers_61 ?_
          obtain ⟨gd9, hf⟩ := gd_of hf
          refine ev_iald (kd_5_1 kl0) (inb_of gd9) dX6_answers_62 ?_
          refine ev_iconst (v := -1) dX6_answers_63 (by decide) ?_
          refine ev_icmp_eq (tgt := 81) dX6_answers_64 (by decide) (fun c1 => ?_) (fun c1 => ?_)
          · replace hf := if_t c1 hf
            refine ev_iload_n (n := 3) dX6_answers_81 rfl rfl ?_
            refine ev_aload_n (n := 1) dX6_answers_82 rfl rfl ?_
            refine ev_iload_n (n := 2) dX6_answers_83 rfl rfl ?_
            refine ev_iconst (v := 1) dX6_answers_84 (by decide) ?_
            obtain ⟨v10, e11, hf⟩ := bn1_of hf
            refine ev_callVi (As := [.int l1, .int (1 : Int32)]) cal_X6_cellOf kl0 rfl (ev_X6_cellOf kl0 e11) (Nat.le_of_ble_eq_true rfl) rfl lk_719 (by decide) (by decide) (Nat.le_of_ble_eq_true rfl) dX6_answers_85 rfl ?_
            refine ev_icmp_ge (tgt := 102) dX6_answers_88 (by decide) (fun c1 => ?_) (fun c1 => ?_)
            · replace hf := if_t c1 hf
              refine ev_sub [1, 2, 3, 4] rfl (lv2 := [(0, .ref l0), (1, .int l1), (2, .int l2), (3, .int l3)]) ?_
              exact jn_X6_answers_102 kl0 hx0 hk hf
            · replace hf := if_f c1 hf
              refine ev_aload_n (n := 1) dX6_answers_91 rfl rfl ?_
              refine ev_iload_n (n := 2) dX6_answers_92 rfl rfl ?_
              refine ev_iload_n (n := 4) dX6_answers_93 rfl rfl ?_
              refine ev_iload (n := 0) dX6_answers_94 rfl ?_
              obtain ⟨h12, e13, hf⟩ := bn1_of hf
              refine ev_callVv (As := [.int l1, .int l3, .int (hI h (l0 + 7) (((6 : Int32) * l3) + l1).toNatClampNeg)]) cal_X6_sends kl0 rfl (ev_X6_sends kl0 e13) (Nat.le_of_ble_eq_true rfl) rfl lk_845 (by decide) (by decide) (Nat.le_of_ble_eq_true rfl) dX6_answers_96 rfl ?_
              refine ev_iinc (z := 3) (v := (l2 + 1)) (lv2 := [(2, .int (l2 + 1)), (4, .int (hI h (l0 + 7) (((6 : Int32) * l3) + l1).toNatClampNeg)), (0, .ref l0), (1, .int l1), (3, .int l3)]) dX6_answers_99 rfl rfl (by decide) rfl ?_
              refine ev_sub [2, 3, 0, 4] rfl (lv2 := [(0, .ref l0), (1, .int l1), (2, .int (l2 + 1)), (3, .int l3)]) ?_
              exact jn_X6_answers_102 kl0 hx0 hk hf
          · replace hf := if_f c1 hf
            refine ev_sub [1, 2, 3, 4] rfl (lv2 := [(0, .ref l0), (1, .int l1), (2, .int l2), (3, .int l3)]) ?_
            exact jn_X6_answers_67 kl0 hx0 hk hf
      · replace hf := if_t c1 hf
        refine ev_goto (tgt := 102) dX6_answers_33 (by decide) ?_
        refine ev_sub [1, 2, 3, 4] rfl (lv2 := [(0, .ref l0), (1, .int l1), (2, .int l2), (3, .int l3)]) ?_
        exact jn_X6_answers_102 kl0 hx0 hk hf
def f_X6_answers (h : Hp) (l0 : Nat) (l1 : Int32) : Option (Hp) := (bn1 (f_X6_answers_l4 l0 l1 fu (0 : Int32) (0 : Int32) h) (fun h14 => (some h14)))
set_option maxRecDepth 100000 in
set_option maxHeartbeats 4000000 in
theorem ev_X6_answers {g : Gl} {h : Hp} {l0 : Nat} {l1 : Int32} {h2 : Hp} (kl0 : KD g.1 l0 5 0) (hf : f_X6_answers h l0 l1 = some h2) : Ev yX6_answers cX6_answers 5 none 5 118 g 0 [] [(0, .ref l0), (1, .int l1)] h none h2 := by
  unfold f_X6_answers at hf
  refine ev_iconst (v := 0) dX6_answers_0 (by decide) ?_
  refine ev_istore_n (lv2 := [(2, .int (0 : Int32)), (0, .ref l0), (1, .int l1)]) dX6_answers_1 rfl (by decide) rfl ?_
  refine ev_iconst (v := 0) dX6_answers_2 (by decide) ?_
  refine ev_istore_n (lv2 := [(3, .int (0 : Int32)), (2, .int (0 : Int32)), (0, .ref l0), (1, .int l1)]) dX6_answers_3 rfl (by decide) rfl ?_
  obtain ⟨h14, e15, hf⟩ := bn1_of hf
  refine ev_sub [2, 3, 1, 0] rfl (lv2 := [(0, .ref l0), (1, .int l1), (2, .int (0 : Int32)), (3, .int (0 : Int32))]) ?_
  refine lp_X6_answers_4 kl0 ?_ fu _ _ _ e15
  obtain rfl := Option.some.inj hf
  exact ev_return_ dX6_answers_108 rfl
def f_X6_round_j39 (kk : Int32 → Hp → Option (Hp)) (h : Hp) (l0 : Nat) (l1 : Int32) : Option (Hp) := (kk (l1 + 1) h)
set_option maxRecDepth 100000 in
set_option maxHeartbeats 4000000 in
theorem jn_X6_round_39 {g : Gl} {h : Hp} {kk : Int32 → Hp → Option (Hp)} {l0 : Nat} {l1 : Int32}  {r : Option Value} {h2 : Hp} {h3 : Hp} (kl0 : KD g.1 l0 5 0) (hx0 : Ev yX6_round cX6_round 3 none 7 159 g 45 [] [(0, .ref l0)] h3 r h2) (hk : ∀ (x1 : Int32) (hq : Hp), kk x1 hq = some h3 → Ev yX6_round cX6_round 3 none 7 159 g 2 [] [(0, .ref l0), (1, .int x1)] hq r h2) (hf : f_X6_round_j39 kk h l0 l1 = some h3) : Ev yX6_round cX6_round 3 none 7 159 g 39 [] [(0, .ref l0), (1, .int l1)] h r h2 := by
  unfold f_X6_round_j39 at hf
  refine ev_iinc (z := 1) (v := (l1 + 1)) (lv2 := [(1, .int (l1 + 1)), (0, .ref l0)]) dX6_round_39 rfl rfl (by decide) rfl ?_
  refine ev_goto (tgt := 2) dX6_round_42 (by decide) ?_
  refine ev_sub [1, 0] rfl (lv2 := [(0, .ref l0), (1, .int (l1 + 1))]) ?_
  exact hk _ _ hf
def f_X6_round_l2 (l0 : Nat) : Nat → Int32 → Hp → Option (Hp)
  | 0, _, _ => none
  | fu1 + 1, l1, h => (if (hI h (l0 + 2) (0 : Int32).toNatClampNeg) ≤ l1 then (some h) else (bn1 (f_X6_at h l1) (fun v2 => (if inb (v2 + (3 : Int32)) 320 = true then (bn1 (f_X6_cellOf (sI h (l0 + 2) (v2 + (3 : Int32)).toNatClampNeg (0 : Int32)) l0 l1 (0 : Int32)) (fun v5 => (if v5 = (1 : Int32) then (f_X6_round_j39 (f_X6_round_l2 l0 fu1) (sI h (l0 + 2) (v2 + (3 : Int32)).toNatClampNeg (0 : Int32)) l0 l1) else (bn1 (f_X6_opens (sI h (l0 + 2) (v2 + (3 : Int32)).toNatClampNeg (0 : Int32)) l0 l1) (fun h7 => (f_X6_round_j39 (f_X6_round_l2 l0 fu1) h7 l0 l1)))))) else none))))
theorem f_X6_round_l2_s (l0 : Nat) (fu1 : Nat) (l1 : Int32) (h : Hp) : f_X6_round_l2 l0 (fu1 + 1) l1 h = (if (hI h (l0 + 2) (0 : Int32).toNatClampNeg) ≤ l1 then (some h) else (bn1 (f_X6_at h l1) (fun v2 => (if inb (v2 + (3 : Int32)) 320 = true then (bn1 (f_X6_cellOf (sI h (l0 + 2) (v2 + (3 : Int32)).toNatClampNeg (0 : Int32)) l0 l1 (0 : Int32)) (fun v5 => (if v5 = (1 : Int32) then (f_X6_round_j39 (f_X6_round_l2 l0 fu1) (sI h (l0 + 2) (v2 + (3 : Int32)).toNatClampNeg (0 : Int32)) l0 l1) else (bn1 (f_X6_opens (sI h (l0 + 2) (v2 + (3 : Int32)).toNatClampNeg (0 : Int32)) l0 l1) (fun h7 => (f_X6_round_j39 (f_X6_round_l2 l0 fu1) h7 l0 l1)))))) else none)))) := rfl
theorem f_X6_round_l2_0 (l0 : Nat) (l1 : Int32) (h : Hp) : f_X6_round_l2 l0 0 l1 h = none := rfl
set_option maxRecDepth 100000 in
set_option maxHeartbeats 4000000 in
theorem lp_X6_round_2 {g : Gl} {l0 : Nat} {r : Option Value} {h2 : Hp} {h3 : Hp} (kl0 : KD g.1 l0 5 0) (hx0 : Ev yX6_round cX6_round 3 none 7 159 g 45 [] [(0, .ref l0)] h3 r h2) : ∀ (fu1 : Nat) (l1 : Int32) (h : Hp), f_X6_round_l2 l0 fu1 l1 h = some h3 → Ev yX6_round cX6_round 3 none 7 159 g 2 [] [(0, .ref l0), (1, .int l1)] h r h2 := by
  intro fu1
  induction fu1 with
  | zero =>
    intro l1 h hf
    cases hf
  | succ fu1 ih =>
    intro l1 h hf
    rw [f_X6_round_l2_s] at hf
    have hk := ih
    refine ev_iload_n (n := 1) dX6_round_2 rfl rfl ?_
    refine ev_aload_n (n := 0) dX6_round_3 rfl rfl ?_
    refine ev_get (v := .ref (l0 + 2)) 1 kl0 rfl (by decide) rfl lk_607 dX6_round_4 ?_
    refine ev_iconst (v := 0) dX6_round_7 (by decide) ?_
    refine ev_iald (kd_5_1 kl0) (by unfold vp_in; decide) dX6_round_8 ?_
    refine ev_icmp_ge (tgt := 45) dX6_round_9 (by decide) (fun c1 => ?_) (fun c1 => ?_)
    · replace hf := if_t c1 hf
      refine ev_sub [0] rfl (lv2 := [(0, .ref l0)]) ?_
      obtain rfl := Option.some.inj hf
      exact hx0
    · replace hf := if_f c1 hf
      refine ev_aload_n (n := 0) dX6_round_12 rfl rfl ?_
      refine ev_get (v := .ref (l0 + 2)) 1 kl0 rfl (by decide) rfl lk_607 dX6_round_13 ?_
      refine ev_iload_n (n := 1) dX6_round_16 rfl rfl ?_
      obtain ⟨v2, e3, hf⟩ := bn1_of hf
      refine ev_callSi (As := [.int l1]) cal_X6_at (ev_X6_at e3) (Nat.le_of_ble_eq_true rfl) rfl lk_700 (by decide) (by decide) (Nat.le_of_ble_eq_true rfl) dX6_round_17 rfl ?_
      refine ev_iconst (v := 3) dX6_round_20 (by decide) ?_
      refine ev_iadd dX6_round_21 ?_
      refine ev_iconst (v := 0) dX6_round_22 (by decide) ?_
      obtain ⟨gd4, hf⟩ := gd_of hf
      refine ev_iast (kd_5_1 kl0) (inb_of gd4) dX6_round_23 ?_
      refine ev_aload_n (n := 0) dX6_round_24 rfl rfl ?_
      refine ev_iload_n (n := 1) dX6_round_25 rfl rfl ?_
      refine ev_iconst (v := 0) dX6_round_26 (by decide) ?_
      obtain ⟨v5, e6, hf⟩ := bn1_of hf
      refine ev_callVi (As := [.int l1, .int (0 : Int32)]) cal_X6_cellOf kl0 rfl (ev_X6_cellOf kl0 e6) (Nat.le_of_ble_eq_true rfl) rfl lk_719 (by decide) (by decide) (Nat.le_of_ble_eq_true rfl) dX6_round_27 rfl ?_
      refine ev_iconst (v := 1) dX6_round_30 (by decide) ?_
      refine ev_icmp_eq (tgt := 39) dX6_round_31 (by decide) (fun c1 => ?_) (fun c1 => ?_)
      · replace hf := if_t c1 hf
        exact jn_X6_round_39 kl0 hx0 hk hf
      · replace hf := if_f c1 hf
        refine ev_aload_n (n := 0) dX6_round_34 rfl rfl ?_
        refine ev_iload_n (n := 1) dX6_round_35 rfl rfl ?_
        obtain ⟨h7, e8, hf⟩ := bn1_of hf
        refine ev_callVv (As := [.int l1]) cal_X6_opens kl0 rfl (ev_X6_opens kl0 e8) (Nat.le_of_ble_eq_true rfl) rfl lk_759 (by decide) (by decide) (Nat.le_of_ble_eq_true rfl) dX6_round_36 rfl ?_
        exact jn_X6_round_39 kl0 hx0 hk hf
def f_X6_round_l47 (l0 : Nat) : Nat → Int32 → Hp → Option (Hp)
  | 0, _, _ => none
  | fu1 + 1, l1, h => (if (hI h (l0 + 2) (0 : Int32).toNatClampNeg) ≤ l1 then (some h) else (bn1 (f_X6_asks h l0 l1) (fun h11 => (f_X6_round_l47 l0 fu1 (l1 + 1) h11))))
theorem f_X6_round_l47_s (l0 : Nat) (fu1 : Nat) (l1 : Int32) (h : Hp) : f_X6_round_l47 l0 (fu1 + 1) l1 h = (if (hI h (l0 + 2) (0 : Int32).toNatClampNeg) ≤ l1 then (some h) else (bn1 (f_X6_asks h l0 l1) (fun h11 => (f_X6_round_l47 l0 fu1 (l1 + 1) h11)))) := rfl
theorem f_X6_round_l47_0 (l0 : Nat) (l1 : Int32) (h : Hp) : f_X6_round_l47 l0 0 l1 h = none := rfl
set_option maxRecDepth 100000 in
set_option maxHeartbeats 4000000 in
theorem lp_X6_round_47 {g : Gl} {l0 : Nat} {r : Option Value} {h2 : Hp} {h3 : Hp} (kl0 : KD g.1 l0 5 0) (hx0 : Ev yX6_round cX6_round 3 none 7 159 g 68 [] [(0, .ref l0)] h3 r h2) : ∀ (fu1 : Nat) (l1 : Int32) (h : Hp), f_X6_round_l47 l0 fu1 l1 h = some h3 → Ev yX6_round cX6_round 3 none 7 159 g 47 [] [(0, .ref l0), (1, .int l1)] h r h2 := by
  intro fu1
  induction fu1 with
  | zero =>
    intro l1 h hf
    cases hf
  | succ fu1 ih =>
    intro l1 h hf
    rw [f_X6_round_l47_s] at hf
    have hk := ih
    refine ev_iload_n (n := 1) dX6_round_47 rfl rfl ?_
    refine ev_aload_n (n := 0) dX6_round_48 rfl rfl ?_
    refine ev_get (v := .ref (l0 + 2)) 1 kl0 rfl (by decide) rfl lk_607 dX6_round_49 ?_
    refine ev_iconst (v := 0) dX6_round_52 (by decide) ?_
    refine ev_iald (kd_5_1 kl0) (by unfold vp_in; decide) dX6_round_53 ?_
    refine ev_icmp_ge (tgt := 68) dX6_round_54 (by decide) (fun c1 => ?_) (fun c1 => ?_)
    · replace hf := if_t c1 hf
      refine ev_sub [0] rfl (lv2 := [(0, .ref l0)]) ?_
      obtain rfl := Option.some.inj hf
      exact hx0
    · replace hf := if_f c1 hf
      refine ev_aload_n (n := 0) dX6_round_57 rfl rfl ?_
      refine ev_iload_n (n := 1) dX6_round_58 rfl rfl ?_
      obtain ⟨h11, e12, hf⟩ := bn1_of hf
      refine ev_callVv (As := [.int l1]) cal_X6_asks kl0 rfl (ev_X6_asks kl0 e12) (Nat.le_of_ble_eq_true rfl) rfl lk_801 (by decide) (by decide) (Nat.le_of_ble_eq_true rfl) dX6_round_59 rfl ?_
      refine ev_iinc (z := 1) (v := (l1 + 1)) (lv2 := [(1, .int (l1 + 1)), (0, .ref l0)]) dX6_round_62 rfl rfl (by decide) rfl ?_
      refine ev_goto (tgt := 47) dX6_round_65 (by decide) ?_
      refine ev_sub [1, 0] rfl (lv2 := [(0, .ref l0), (1, .int (l1 + 1))]) ?_
      exact hk _ _ hf
def f_X6_round_l70 (l0 : Nat) : Nat → Int32 → Hp → Option (Hp)
  | 0, _, _ => none
  | fu1 + 1, l1, h => (if (36 : Int32) ≤ l1 then (some h) else (if inb l1 36 = true then (f_X6_round_l70 l0 fu1 (l1 + 1) (sI h (l0 + 9) l1.toNatClampNeg (0 : Int32))) else none))
theorem f_X6_round_l70_s (l0 : Nat) (fu1 : Nat) (l1 : Int32) (h : Hp) : f_X6_round_l70 l0 (fu1 + 1) l1 h = (if (36 : Int32) ≤ l1 then (some h) else (if inb l1 36 = true then (f_X6_round_l70 l0 fu1 (l1 + 1) (sI h (l0 + 9) l1.toNatClampNeg (0 : Int32))) else none)) := rfl
theorem f_X6_round_l70_0 (l0 : Nat) (l1 : Int32) (h : Hp) : f_X6_round_l70 l0 0 l1 h = none := rfl
set_option maxRecDepth 100000 in
set_option maxHeartbeats 4000000 in
theorem lp_X6_round_70 {g : Gl} {l0 : Nat} {r : Option Value} {h2 : Hp} {h3 : Hp} (kl0 : KD g.1 l0 5 0) (hx0 : Ev yX6_round cX6_round 3 none 7 159 g 89 [] [(0, .ref l0)] h3 r h2) : ∀ (fu1 : Nat) (l1 : Int32) (h : Hp), f_X6_round_l70 l0 fu1 l1 h = some h3 → Ev yX6_round cX6_round 3 none 7 159 g 70 [] [(0, .ref l0), (1, .int l1)] h r h2 := by
  intro fu1
  induction fu1 with
  | zero =>
    intro l1 h hf
    cases hf
  | succ fu1 ih =>
    intro l1 h hf
    rw [f_X6_round_l70_s] at hf
    have hk := ih
    refine ev_iload_n (n := 1) dX6_round_70 rfl rfl ?_
    refine ev_bipush (v := 36) dX6_round_71 (by decide) ?_
    refine ev_icmp_ge (tgt := 89) dX6_round_73 (by decide) (fun c1 => ?_) (fun c1 => ?_)
    · replace hf := if_t c1 hf
      refine ev_sub [0] rfl (lv2 := [(0, .ref l0)]) ?_
      obtain rfl := Option.some.inj hf
      exact hx0
    · replace hf := if_f c1 hf
      refine ev_aload_n (n := 0) dX6_round_76 rfl rfl ?_
      refine ev_get (v := .ref (l0 + 9)) 10 kl0 rfl (by decide) rfl lk_616 dX6_round_77 ?_
      refine ev_iload_n (n := 1) dX6_round_80 rfl rfl ?_
      refine ev_iconst (v := 0) dX6_round_81 (by decide) ?_
      obtain ⟨gd14, hf⟩ := gd_of hf
      refine ev_iast (kd_5_10 kl0) (inb_of gd14) dX6_round_82 ?_
      refine ev_iinc (z := 1) (v := (l1 + 1)) (lv2 := [(1, .int (l1 + 1)), (0, .ref l0)]) dX6_round_83 rfl rfl (by decide) rfl ?_
      refine ev_goto (tgt := 70) dX6_round_86 (by decide) ?_
      refine ev_sub [1, 0] rfl (lv2 := [(0, .ref l0), (1, .int (l1 + 1))]) ?_
      exact hk _ _ hf
def f_X6_round_l91 (l0 : Nat) : Nat → Int32 → Hp → Option (Hp)
  | 0, _, _ => none
  | fu1 + 1, l1, h => (if (hI h (l0 + 2) (0 : Int32).toNatClampNeg) ≤ l1 then (some h) else (bn1 (f_X6_answers h l0 l1) (fun h17 => (f_X6_round_l91 l0 fu1 (l1 + 1) h17))))
theorem f_X6_round_l91_s (l0 : Nat) (fu1 : Nat) (l1 : Int32) (h : Hp) : f_X6_round_l91 l0 (fu1 + 1) l1 h = (if (hI h (l0 + 2) (0 : Int32).toNatClampNeg) ≤ l1 then (some h) else (bn1 (f_X6_answers h l0 l1) (fun h17 => (f_X6_round_l91 l0 fu1 (l1 + 1) h17)))) := rfl
theorem f_X6_round_l91_0 (l0 : Nat) (l1 : Int32) (h : Hp) : f_X6_round_l91 l0 0 l1 h = none := rfl
set_option maxRecDepth 100000 in
set_option maxHeartbeats 4000000 in
theorem lp_X6_round_91 {g : Gl} {l0 : Nat} {r : Option Value} {h2 : Hp} {h3 : Hp} (kl0 : KD g.1 l0 5 0) (hx0 : Ev yX6_round cX6_round 3 none 7 159 g 112 [] [(0, .ref l0)] h3 r h2) : ∀ (fu1 : Nat) (l1 : Int32) (h : Hp), f_X6_round_l91 l0 fu1 l1 h = some h3 → Ev yX6_round cX6_round 3 none 7 159 g 91 [] [(0, .ref l0), (1, .int l1)] h r h2 := by
  intro fu1
  induction fu1 with
  | zero =>
    intro l1 h hf
    cases hf
  | succ fu1 ih =>
    intro l1 h hf
    rw [f_X6_round_l91_s] at hf
    have hk := ih
    refine ev_iload_n (n := 1) dX6_round_91 rfl rfl ?_
    refine ev_aload_n (n := 0) dX6_round_92 rfl rfl ?_
    refine ev_get (v := .ref (l0 + 2)) 1 kl0 rfl (by decide) rfl lk_607 dX6_round_93 ?_
    refine ev_iconst (v := 0) dX6_round_96 (by decide) ?_
    refine ev_iald (kd_5_1 kl0) (by unfold vp_in; decide) dX6_round_97 ?_
    refine ev_icmp_ge (tgt := 112) dX6_round_98 (by decide) (fun c1 => ?_) (fun c1 => ?_)
    · replace hf := if_t c1 hf
      refine ev_sub [0] rfl (lv2 := [(0, .ref l0)]) ?_
      obtain rfl := Option.some.inj hf
      exact hx0
    · replace hf := if_f c1 hf
      refine ev_aload_n (n := 0) dX6_round_101 rfl rfl ?_
      refine ev_iload_n (n := 1) dX6_round_102 rfl rfl ?_
      obtain ⟨h17, e18, hf⟩ := bn1_of hf
      refine ev_callVv (As := [.int l1]) cal_X6_answers kl0 rfl (ev_X6_answers kl0 e18) (Nat.le_of_ble_eq_true rfl) rfl lk_841 (by decide) (by decide) (Nat.le_of_ble_eq_true rfl) dX6_round_103 rfl ?_
      refine ev_iinc (z := 1) (v := (l1 + 1)) (lv2 := [(1, .int (l1 + 1)), (0, .ref l0)]) dX6_round_106 rfl rfl (by decide) rfl ?_
      refine ev_goto (tgt := 91) dX6_round_109 (by decide) ?_
      refine ev_sub [1, 0] rfl (lv2 := [(0, .ref l0), (1, .int (l1 + 1))]) ?_
      exact hk _ _ hf
def f_X6_round_l126 (l0 : Nat) (l1 : UInt32) : Nat → Int32 → Hp → Option (Hp)
  | 0, _, _ => none
  | fu1 + 1, l2, h => (if (36 : Int32) ≤ l2 then (some h) else (if inb l2 36 = true then (if nn32 (FP.fmul (hF h (l0 + 3) l2.toNatClampNeg) l1) = true then (if inb l2 36 = true then (if nn32 (FP.fadd (FP.fmul (hF h (l0 + 3) l2.toNatClampNeg) l1) (FP.i2f (hI h (l0 + 9) l2.toNatClampNeg))) = true then (if inb l2 36 = true then (f_X6_round_l126 l0 l1 fu1 (l2 + 1) (sF h (l0 + 3) l2.toNatClampNeg (FP.fadd (FP.fmul (hF h (l0 + 3) l2.toNatClampNeg) l1) (FP.i2f (hI h (l0 + 9) l2.toNatClampNeg))))) else none) else none) else none) else none) else none))
theorem f_X6_round_l126_s (l0 : Nat) (l1 : UInt32) (fu1 : Nat) (l2 : Int32) (h : Hp) : f_X6_round_l126 l0 l1 (fu1 + 1) l2 h = (if (36 : Int32) ≤ l2 then (some h) else (if inb l2 36 = true then (if nn32 (FP.fmul (hF h (l0 + 3) l2.toNatClampNeg) l1) = true then (if inb l2 36 = true then (if nn32 (FP.fadd (FP.fmul (hF h (l0 + 3) l2.toNatClampNeg) l1) (FP.i2f (hI h (l0 + 9) l2.toNatClampNeg))) = true then (if inb l2 36 = true then (f_X6_round_l126 l0 l1 fu1 (l2 + 1) (sF h (l0 + 3) l2.toNatClampNeg (FP.fadd (FP.fmul (hF h (l0 + 3) l2.toNatClampNeg) l1) (FP.i2f (hI h (l0 + 9) l2.toNatClampNeg))))) else none) else none) else none) else none) else none)) := rfl
theorem f_X6_round_l126_0 (l0 : Nat) (l1 : UInt32) (l2 : Int32) (h : Hp) : f_X6_round_l126 l0 l1 0 l2 h = none := rfl
set_option maxRecDepth 100000 in
set_option maxHeartbeats 4000000 in
theorem lp_X6_round_126 {g : Gl} {l0 : Nat} {l1 : UInt32} {r : Option Value} {h2 : Hp} {h3 : Hp} (kl0 : KD g.1 l0 5 0) (hx0 : Ev yX6_round cX6_round 3 none 7 159 g 160 [] [(0, .ref l0)] h3 r h2) : ∀ (fu1 : Nat) (l2 : Int32) (h : Hp), f_X6_round_l126 l0 l1 fu1 l2 h = some h3 → Ev yX6_round cX6_round 3 none 7 159 g 126 [] [(0, .ref l0), (1, .float l1), (2, .int l2)] h r h2 := by
  intro fu1
  induction fu1 with
  | zero =>
    intro l2 h hf
    cases hf
  | succ fu1 ih =>
    intro l2 h hf
    rw [f_X6_round_l126_s] at hf
    have hk := ih
    refine ev_iload_n (n := 2) dX6_round_126 rfl rfl ?_
    refine ev_bipush (v := 36) dX6_round_127 (by decide) ?_
    refine ev_icmp_ge (tgt := 160) dX6_round_129 (by decide) (fun c1 => ?_) (fun c1 => ?_)
    · replace hf := if_t c1 hf
      refine ev_sub [0] rfl (lv2 := [(0, .ref l0)]) ?_
      obtain rfl := Option.some.inj hf
      exact hx0
    · replace hf := if_f c1 hf
      refine ev_aload_n (n := 0) dX6_round_132 rfl rfl ?_
      refine ev_get (v := .ref (l0 + 3)) 2 kl0 rfl (by decide) rfl lk_608 dX6_round_133 ?_
      refine ev_iload_n (n := 2) dX6_round_136 rfl rfl ?_
      refine ev_aload_n (n := 0) dX6_round_137 rfl rfl ?_
      refine ev_get (v := .ref (l0 + 3)) 2 kl0 rfl (by decide) rfl lk_608 dX6_round_138 ?_
      refine ev_iload_n (n := 2) dX6_round_141 rfl rfl ?_
      obtain ⟨gd22, hf⟩ := gd_of hf
      refine ev_fald (kd_5_2 kl0) (inb_of gd22) dX6_round_142 ?_
      refine ev_fload_n (n := 1) dX6_round_143 rfl rfl ?_
      obtain ⟨gd23, hf⟩ := gd_of hf
      refine ev_fmul dX6_round_144 (nn32_of gd23) ?_
      refine ev_aload_n (n := 0) dX6_round_145 rfl rfl ?_
      refine ev_get (v := .ref (l0 + 9)) 10 kl0 rfl (by decide) rfl lk_616 dX6_round_146 ?_
      refine ev_iload_n (n := 2) dX6_round_149 rfl rfl ?_
      obtain ⟨gd24, hf⟩ := gd_of hf
      refine ev_iald (kd_5_10 kl0) (inb_of gd24) dX6_round_150 ?_
      refine ev_i2f dX6_round_151 ?_
      obtain ⟨gd25, hf⟩ := gd_of hf
      refine ev_fadd dX6_round_152 (nn32_of gd25) ?_
      obtain ⟨gd26, hf⟩ := gd_of hf
      refine ev_fast (kd_5_2 kl0) (inb_of gd26) dX6_round_153 ?_
      refine ev_iinc (z := 2) (v := (l2 + 1)) (lv2 := [(2, .int (l2 + 1)), (0, .ref l0), (1, .float l1)]) dX6_round_154 rfl rfl (by decide) rfl ?_
      refine ev_goto (tgt := 126) dX6_round_157 (by decide) ?_
      refine ev_sub [1, 2, 0] rfl (lv2 := [(0, .ref l0), (1, .float l1), (2, .int (l2 + 1))]) ?_
      exact hk _ _ hf
def f_X6_round (h : Hp) (l0 : Nat) : Option (Hp) := (bn1 (f_X6_round_l2 l0 fu (0 : Int32) h) (fun h9 => (bn1 (f_X6_round_l47 l0 fu (0 : Int32) h9) (fun h13 => (bn1 (f_X6_round_l70 l0 fu (0 : Int32) h13) (fun h15 => (bn1 (f_X6_round_l91 l0 fu (0 : Int32) h15) (fun h19 => (if nn32 (FP.fdiv (FP.i2f (hI h19 (l0 + 2) (9 : Int32).toNatClampNeg)) (1092616192 : UInt32)) = true then (bn1 (f_X6_round_l126 l0 (FP.fdiv (FP.i2f (hI h19 (l0 + 2) (9 : Int32).toNatClampNeg)) (1092616192 : UInt32)) fu (0 : Int32) h19) (fun h27 => (some (sI h27 (l0 + 2) (3 : Int32).toNatClampNeg ((hI h27 (l0 + 2) (3 : Int32).toNatClampNeg) + (1 : Int32)))))) else none)))))))))
set_option maxRecDepth 100000 in
set_option maxHeartbeats 4000000 in
theorem ev_X6_round {g : Gl} {h : Hp} {l0 : Nat} {h2 : Hp} (kl0 : KD g.1 l0 5 0) (hf : f_X6_round h l0 = some h2) : Ev yX6_round cX6_round 3 none 7 159 g 0 [] [(0, .ref l0)] h none h2 := by
  unfold f_X6_round at hf
  refine ev_iconst (v := 0) dX6_round_0 (by decide) ?_
  refine ev_istore_n (lv2 := [(1, .int (0 : Int32)), (0, .ref l0)]) dX6_round_1 rfl (by decide) rfl ?_
  obtain ⟨h9, e34, hf⟩ := bn1_of hf
  refine ev_sub [1, 0] rfl (lv2 := [(0, .ref l0), (1, .int (0 : Int32))]) ?_
  refine lp_X6_round_2 kl0 ?_ fu _ _ e34
  refine ev_iconst (v := 0) dX6_round_45 (by decide) ?_
  refine ev_istore_n (lv2 := [(1, .int (0 : Int32)), (0, .ref l0)]) dX6_round_46 rfl (by decide) rfl ?_
  obtain ⟨h13, e33, hf⟩ := bn1_of hf
  refine ev_sub [1, 0] rfl (lv2 := [(0, .ref l0), (1, .int (0 : Int32))]) ?_
  refine lp_X6_round_47 kl0 ?_ fu _ _ e33
  refine ev_iconst (v := 0) dX6_round_68 (by decide) ?_
  refine ev_istore_n (lv2 := [(1, .int (0 : Int32)), (0, .ref l0)]) dX6_round_69 rfl (by decide) rfl ?_
  obtain ⟨h15, e32, hf⟩ := bn1_of hf
  refine ev_sub [1, 0] rfl (lv2 := [(0, .ref l0), (1, .int (0 : Int32))]) ?_
  refine lp_X6_round_70 kl0 ?_ fu _ _ e32
  refine ev_iconst (v := 0) dX6_round_89 (by decide) ?_
  refine ev_istore_n (lv2 := [(1, .int (0 : Int32)), (0, .ref l0)]) dX6_round_90 rfl (by decide) rfl ?_
  obtain ⟨h19, e31, hf⟩ := bn1_of hf
  refine ev_sub [1, 0] rfl (lv2 := [(0, .ref l0), (1, .int (0 : Int32))]) ?_
  refine lp_X6_round_91 kl0 ?_ fu _ _ e31
  refine ev_aload_n (n := 0) dX6_round_112 rfl rfl ?_
  refine ev_get (v := .ref (l0 + 2)) 1 kl0 rfl (by decide) rfl lk_607 dX6_round_113 ?_
  refine ev_bipush (v := 9) dX6_round_116 (by decide) ?_
  refine ev_iald (kd_5_1 kl0) (by unfold vp_in; decide) dX6_round_118 ?_
  refine ev_i2f dX6_round_119 ?_
  refine ev_ldcf dX6_round_120 lk_857 ?_
  obtain ⟨gd21, hf⟩ := gd_of hf
  refine ev_fdiv dX6_round_122 (nn32_of gd21) ?_
  refine ev_fstore_n (lv2 := [(1, .float (FP.fdiv (FP.i2f (hI h19 (l0 + 2) (9 : Int32).toNatClampNeg)) (1092616192 : UInt32))), (0, .ref l0)]) dX6_round_123 rfl (by decide) rfl ?_
  refine ev_iconst (v := 0) dX6_round_124 (by decide) ?_
  refine ev_istore_n (lv2 := [(2, .int (0 : Int32)), (1, .float (FP.fdiv (FP.i2f (hI h19 (l0 + 2) (9 : Int32).toNatClampNeg)) (1092616192 : UInt32))), (0, .ref l0)]) dX6_round_125 rfl (by decide) rfl ?_
  obtain ⟨h27, e30, hf⟩ := bn1_of hf
  refine ev_sub [2, 1, 0] rfl (lv2 := [(0, .ref l0), (1, .float (FP.fdiv (FP.i2f (hI h19 (l0 + 2) (9 : Int32).toNatClampNeg)) (1092616192 : UInt32))), (2, .int (0 : Int32))]) ?_
  refine lp_X6_round_126 kl0 ?_ fu _ _ e30
  refine ev_aload_n (n := 0) dX6_round_160 rfl rfl ?_
  refine ev_get (v := .ref (l0 + 2)) 1 kl0 rfl (by decide) rfl lk_607 dX6_round_161 ?_
  refine ev_iconst (v := 3) dX6_round_164 (by decide) ?_
  refine ev_dup2 dX6_round_165 rfl rfl ?_
  refine ev_iald (kd_5_1 kl0) (by unfold vp_in; decide) dX6_round_166 ?_
  refine ev_iconst (v := 1) dX6_round_167 (by decide) ?_
  refine ev_iadd dX6_round_168 ?_
  refine ev_iast (kd_5_1 kl0) (by unfold vp_in; decide) dX6_round_169 ?_
  obtain rfl := Option.some.inj hf
  exact ev_return_ dX6_round_170 rfl
