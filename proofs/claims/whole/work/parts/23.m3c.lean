def f_X6_areDone_j45 (kk : Int32 → Int32 → Option (Int32)) (h : Hp) (s0 : Int32) (l0 : Nat) (l2 : Int32) : Option (Int32) := (kk s0 (l2 + 1))
set_option maxRecDepth 100000 in
set_option maxHeartbeats 4000000 in
theorem jn_X6_areDone_45 {g : Gl} {h : Hp} {kk : Int32 → Int32 → Option (Int32)} {s0 : Int32} {l0 : Nat} {l2 : Int32}  {r : Option Value} {h2 : Hp} {o1 : Int32} (kl0 : KD g.1 l0 5 0) (hx0 : Ev yX6_areDone cX6_areDone 3 (some .boolean) 2 42 g 52 [] [(1, .int o1)] h r h2) (hk : ∀ (x1 : Int32) (x2 : Int32), kk x1 x2 = some o1 → Ev yX6_areDone cX6_areDone 3 (some .boolean) 2 42 g 4 [] [(0, .ref l0), (1, .int x1), (2, .int x2)] h r h2) (hf : f_X6_areDone_j45 kk h s0 l0 l2 = some o1) : Ev yX6_areDone cX6_areDone 3 (some .boolean) 2 42 g 45 [.int s0] [(0, .ref l0), (2, .int l2)] h r h2 := by
  unfold f_X6_areDone_j45 at hf
  refine ev_istore_n (lv2 := [(1, .int s0), (0, .ref l0), (2, .int l2)]) dX6_areDone_45 rfl (by decide) rfl ?_
  refine ev_iinc (z := 2) (v := (l2 + 1)) (lv2 := [(2, .int (l2 + 1)), (1, .int s0), (0, .ref l0)]) dX6_areDone_46 rfl rfl (by decide) rfl ?_
  refine ev_goto (tgt := 4) dX6_areDone_49 (by decide) ?_
  refine ev_sub [2, 1, 0] rfl (lv2 := [(0, .ref l0), (1, .int s0), (2, .int (l2 + 1))]) ?_
  exact hk _ _ hf
def f_X6_areDone_j44 (kk : Int32 → Int32 → Option (Int32)) (h : Hp) (l0 : Nat) (l2 : Int32) : Option (Int32) := (f_X6_areDone_j45 kk h (0 : Int32) l0 l2)
set_option maxRecDepth 100000 in
set_option maxHeartbeats 4000000 in
theorem jn_X6_areDone_44 {g : Gl} {h : Hp} {kk : Int32 → Int32 → Option (Int32)} {l0 : Nat} {l2 : Int32}  {r : Option Value} {h2 : Hp} {o1 : Int32} (kl0 : KD g.1 l0 5 0) (hx0 : Ev yX6_areDone cX6_areDone 3 (some .boolean) 2 42 g 52 [] [(1, .int o1)] h r h2) (hk : ∀ (x1 : Int32) (x2 : Int32), kk x1 x2 = some o1 → Ev yX6_areDone cX6_areDone 3 (some .boolean) 2 42 g 4 [] [(0, .ref l0), (1, .int x1), (2, .int x2)] h r h2) (hf : f_X6_areDone_j44 kk h l0 l2 = some o1) : Ev yX6_areDone cX6_areDone 3 (some .boolean) 2 42 g 44 [] [(0, .ref l0), (2, .int l2)] h r h2 := by
  unfold f_X6_areDone_j44 at hf
  refine ev_iconst (v := 0) dX6_areDone_44 (by decide) ?_
  exact jn_X6_areDone_45 kl0 hx0 hk hf
def f_X6_areDone_j40 (kk : Int32 → Int32 → Option (Int32)) (h : Hp) (l0 : Nat) (l2 : Int32) : Option (Int32) := (f_X6_areDone_j45 kk h (1 : Int32) l0 l2)
set_option maxRecDepth 100000 in
set_option maxHeartbeats 4000000 in
theorem jn_X6_areDone_40 {g : Gl} {h : Hp} {kk : Int32 → Int32 → Option (Int32)} {l0 : Nat} {l2 : Int32}  {r : Option Value} {h2 : Hp} {o1 : Int32} (kl0 : KD g.1 l0 5 0) (hx0 : Ev yX6_areDone cX6_areDone 3 (some .boolean) 2 42 g 52 [] [(1, .int o1)] h r h2) (hk : ∀ (x1 : Int32) (x2 : Int32), kk x1 x2 = some o1 → Ev yX6_areDone cX6_areDone 3 (some .boolean) 2 42 g 4 [] [(0, .ref l0), (1, .int x1), (2, .int x2)] h r h2) (hf : f_X6_areDone_j40 kk h l0 l2 = some o1) : Ev yX6_areDone cX6_areDone 3 (some .boolean) 2 42 g 40 [] [(0, .ref l0), (2, .int l2)] h r h2 := by
  unfold f_X6_areDone_j40 at hf
  refine ev_iconst (v := 1) dX6_areDone_40 (by decide) ?_
  refine ev_goto (tgt := 45) dX6_areDone_41 (by decide) ?_
  exact jn_X6_areDone_45 kl0 hx0 hk hf
def f_X6_areDone_l4 (h : Hp) (l0 : Nat) : Nat → Int32 → Int32 → Option (Int32)
  | 0, _, _ => none
  | fu1 + 1, l1, l2 => (if (hI h (l0 + 2) (0 : Int32).toNatClampNeg) ≤ l2 then (some l1) else (if l1 = 0 then (f_X6_areDone_j44 (f_X6_areDone_l4 h l0 fu1) h l0 l2) else (bn1 (f_X6_cellOf h l0 l2 (0 : Int32)) (fun v2 => (if v2 = 0 then (bn1 (f_X6_cellOf h l0 l2 (2 : Int32)) (fun v4 => (bn1 (f_X6_allPieces h l0) (fun v6 => (if v4 = v6 then (f_X6_areDone_j40 (f_X6_areDone_l4 h l0 fu1) h l0 l2) else (f_X6_areDone_j44 (f_X6_areDone_l4 h l0 fu1) h l0 l2)))))) else (f_X6_areDone_j40 (f_X6_areDone_l4 h l0 fu1) h l0 l2))))))
theorem f_X6_areDone_l4_s (h : Hp) (l0 : Nat) (fu1 : Nat) (l1 : Int32) (l2 : Int32) : f_X6_areDone_l4 h l0 (fu1 + 1) l1 l2 = (if (hI h (l0 + 2) (0 : Int32).toNatClampNeg) ≤ l2 then (some l1) else (if l1 = 0 then (f_X6_areDone_j44 (f_X6_areDone_l4 h l0 fu1) h l0 l2) else (bn1 (f_X6_cellOf h l0 l2 (0 : Int32)) (fun v2 => (if v2 = 0 then (bn1 (f_X6_cellOf h l0 l2 (2 : Int32)) (fun v4 => (bn1 (f_X6_allPieces h l0) (fun v6 => (if v4 = v6 then (f_X6_areDone_j40 (f_X6_areDone_l4 h l0 fu1) h l0 l2) else (f_X6_areDone_j44 (f_X6_areDone_l4 h l0 fu1) h l0 l2)))))) else (f_X6_areDone_j40 (f_X6_areDone_l4 h l0 fu1) h l0 l2)))))) := rfl
theorem f_X6_areDone_l4_0 (h : Hp) (l0 : Nat) (l1 : Int32) (l2 : Int32) : f_X6_areDone_l4 h l0 0 l1 l2 = none := rfl
set_option maxRecDepth 100000 in
set_option maxHeartbeats 4000000 in
theorem lp_X6_areDone_4 {g : Gl} {h : Hp} {l0 : Nat} {r : Option Value} {h2 : Hp} {o1 : Int32} (kl0 : KD g.1 l0 5 0) (hx0 : Ev yX6_areDone cX6_areDone 3 (some .boolean) 2 42 g 52 [] [(1, .int o1)] h r h2) : ∀ (fu1 : Nat) (l1 : Int32) (l2 : Int32), f_X6_areDone_l4 h l0 fu1 l1 l2 = some o1 → Ev yX6_areDone cX6_areDone 3 (some .boolean) 2 42 g 4 [] [(0, .ref l0), (1, .int l1), (2, .int l2)] h r h2 := by
  intro fu1
  induction fu1 with
  | zero =>
    intro l1 l2 hf
    cases hf
  | succ fu1 ih =>
    intro l1 l2 hf
    rw [f_X6_areDone_l4_s] at hf
    have hk := ih
    refine ev_iload_n (n := 2) dX6_areDone_4 rfl rfl ?_
    refine ev_aload_n (n := 0) dX6_areDone_5 rfl rfl ?_
    refine ev_get (v := .ref (l0 + 2)) 1 kl0 rfl (by decide) rfl lk_607 dX6_areDone_6 ?_
    refine ev_iconst (v := 0) dX6_areDone_9 (by decide) ?_
    refine ev_iald (kd_5_1 kl0) (by unfold vp_in; decide) dX6_areDone_10 ?_
    refine ev_icmp_ge (tgt := 52) dX6_areDone_11 (by decide) (fun c1 => ?_) (fun c1 => ?_)
    · replace hf := if_t c1 hf
      refine ev_sub [1] rfl (lv2 := [(1, .int l1)]) ?_
      obtain rfl := Option.some.inj hf
      exact hx0
    · replace hf := if_f c1 hf
      refine ev_iload_n (n := 1) dX6_areDone_14 rfl rfl ?_
      refine ev_if_eq (tgt := 44) dX6_areDone_15 (by decide) (fun c1 => ?_) (fun c1 => ?_)
      · replace hf := if_t c1 hf
        refine ev_sub [0, 2] rfl (lv2 := [(0, .ref l0), (2, .int l2)]) ?_
        exact jn_X6_areDone_44 kl0 hx0 hk hf
      · replace hf := if_f c1 hf
        refine ev_aload_n (n := 0) dX6_areDone_18 rfl rfl ?_
        refine ev_iload_n (n := 2) dX6_areDone_19 rfl rfl ?_
        refine ev_iconst (v := 0) dX6_areDone_20 (by decide) ?_
        obtain ⟨v2, e3, hf⟩ := bn1_of hf
        refine ev_callVi (As := [.int l2, .int (0 : Int32)]) cal_X6_cellOf kl0 rfl (ev_X6_cellOf kl0 e3) (Nat.le_of_ble_eq_true rfl) rfl lk_719 (by decide) (by decide) (Nat.le_of_ble_eq_true rfl) dX6_areDone_21 rfl ?_
        refine ev_if_ne (tgt := 40) dX6_areDone_24 (by decide) (fun c1 => ?_) (fun c1 => ?_)
        · replace hf := if_f c1 hf
          refine ev_sub [0, 2] rfl (lv2 := [(0, .ref l0), (2, .int l2)]) ?_
          exact jn_X6_areDone_40 kl0 hx0 hk hf
        · replace hf := if_t c1 hf
          refine ev_aload_n (n := 0) dX6_areDone_27 rfl rfl ?_
          refine ev_iload_n (n := 2) dX6_areDone_28 rfl rfl ?_
          refine ev_iconst (v := 2) dX6_areDone_29 (by decide) ?_
          obtain ⟨v4, e5, hf⟩ := bn1_of hf
          refine ev_callVi (As := [.int l2, .int (2 : Int32)]) cal_X6_cellOf kl0 rfl (ev_X6_cellOf kl0 e5) (Nat.le_of_ble_eq_true rfl) rfl lk_719 (by decide) (by decide) (Nat.le_of_ble_eq_true rfl) dX6_areDone_30 rfl ?_
          refine ev_aload_n (n := 0) dX6_areDone_33 rfl rfl ?_
          obtain ⟨v6, e7, hf⟩ := bn1_of hf
          refine ev_callVi (As := []) cal_X6_allPieces kl0 rfl (ev_X6_allPieces kl0 e7) (Nat.le_of_ble_eq_true rfl) rfl lk_775 (by decide) (by decide) (Nat.le_of_ble_eq_true rfl) dX6_areDone_34 rfl ?_
          refine ev_icmp_ne (tgt := 44) dX6_areDone_37 (by decide) (fun c1 => ?_) (fun c1 => ?_)
          · replace hf := if_f c1 hf
            refine ev_sub [0, 2] rfl (lv2 := [(0, .ref l0), (2, .int l2)]) ?_
            exact jn_X6_areDone_44 kl0 hx0 hk hf
          · replace hf := if_t c1 hf
            refine ev_sub [0, 2] rfl (lv2 := [(0, .ref l0), (2, .int l2)]) ?_
            exact jn_X6_areDone_40 kl0 hx0 hk hf
def f_X6_areDone (h : Hp) (l0 : Nat) : Option (Int32) := (bn1 (f_X6_areDone_l4 h l0 fu (1 : Int32) (0 : Int32)) (fun w1_8 => (if isBb w1_8 = true then (some w1_8) else none)))
set_option maxRecDepth 100000 in
set_option maxHeartbeats 4000000 in
theorem ev_X6_areDone {g : Gl} {h : Hp} {l0 : Nat} {rv : Int32} (kl0 : KD g.1 l0 5 0) (hf : f_X6_areDone h l0 = some rv) : Ev yX6_areDone cX6_areDone 3 (some .boolean) 2 42 g 0 [] [(0, .ref l0)] h (some (.int rv)) h := by
  unfold f_X6_areDone at hf
  refine ev_iconst (v := 1) dX6_areDone_0 (by decide) ?_
  refine ev_istore_n (lv2 := [(1, .int (1 : Int32)), (0, .ref l0)]) dX6_areDone_1 rfl (by decide) rfl ?_
  refine ev_iconst (v := 0) dX6_areDone_2 (by decide) ?_
  refine ev_istore_n (lv2 := [(2, .int (0 : Int32)), (1, .int (1 : Int32)), (0, .ref l0)]) dX6_areDone_3 rfl (by decide) rfl ?_
  obtain ⟨w1_8, e10, hf⟩ := bn1_of hf
  refine ev_sub [2, 1, 0] rfl (lv2 := [(0, .ref l0), (1, .int (1 : Int32)), (2, .int (0 : Int32))]) ?_
  refine lp_X6_areDone_4 kl0 ?_ fu _ _ e10
  refine ev_iload_n (n := 0) dX6_areDone_52 rfl rfl ?_
  obtain ⟨gd9, hf⟩ := gd_of hf
  obtain rfl := Option.some.inj hf
  exact ev_ireturn dX6_areDone_53 ⟨.boolean, rfl, isB_nar (isBb_of gd9)⟩
def f_X6_honest_j29 (kk : Int32 → Int32 → Option (Int32)) (h : Hp) (s0 : Int32) (s1 : Int32) (l0 : Nat) (l2 : Int32) : Option (Int32) := (kk (s0 + s1) (l2 + 1))
set_option maxRecDepth 100000 in
set_option maxHeartbeats 4000000 in
theorem jn_X6_honest_29 {g : Gl} {h : Hp} {kk : Int32 → Int32 → Option (Int32)} {s0 : Int32} {s1 : Int32} {l0 : Nat} {l2 : Int32}  {r : Option Value} {h2 : Hp} {o1 : Int32} (kl0 : KD g.1 l0 5 0) (hx0 : Ev yX6_honest cX6_honest 3 (some .int) 2 42 g 37 [] [(1, .int o1)] h r h2) (hk : ∀ (x1 : Int32) (x2 : Int32), kk x1 x2 = some o1 → Ev yX6_honest cX6_honest 3 (some .int) 2 42 g 4 [] [(0, .ref l0), (1, .int x1), (2, .int x2)] h r h2) (hf : f_X6_honest_j29 kk h s0 s1 l0 l2 = some o1) : Ev yX6_honest cX6_honest 3 (some .int) 2 42 g 29 [.int s1, .int s0] [(0, .ref l0), (2, .int l2)] h r h2 := by
  unfold f_X6_honest_j29 at hf
  refine ev_iadd dX6_honest_29 ?_
  refine ev_istore_n (lv2 := [(1, .int (s0 + s1)), (0, .ref l0), (2, .int l2)]) dX6_honest_30 rfl (by decide) rfl ?_
  refine ev_iinc (z := 2) (v := (l2 + 1)) (lv2 := [(2, .int (l2 + 1)), (1, .int (s0 + s1)), (0, .ref l0)]) dX6_honest_31 rfl rfl (by decide) rfl ?_
  refine ev_goto (tgt := 4) dX6_honest_34 (by decide) ?_
  refine ev_sub [2, 1, 0] rfl (lv2 := [(0, .ref l0), (1, .int (s0 + s1)), (2, .int (l2 + 1))]) ?_
  exact hk _ _ hf
def f_X6_honest_l4 (h : Hp) (l0 : Nat) : Nat → Int32 → Int32 → Option (Int32)
  | 0, _, _ => none
  | fu1 + 1, l1, l2 => (if (hI h (l0 + 2) (0 : Int32).toNatClampNeg) ≤ l2 then (some l1) else (bn1 (f_X6_cellOf h l0 l2 (0 : Int32)) (fun v2 => (if v2 = 0 then (f_X6_honest_j29 (f_X6_honest_l4 h l0 fu1) h l1 (1 : Int32) l0 l2) else (f_X6_honest_j29 (f_X6_honest_l4 h l0 fu1) h l1 (0 : Int32) l0 l2)))))
theorem f_X6_honest_l4_s (h : Hp) (l0 : Nat) (fu1 : Nat) (l1 : Int32) (l2 : Int32) : f_X6_honest_l4 h l0 (fu1 + 1) l1 l2 = (if (hI h (l0 + 2) (0 : Int32).toNatClampNeg) ≤ l2 then (some l1) else (bn1 (f_X6_cellOf h l0 l2 (0 : Int32)) (fun v2 => (if v2 = 0 then (f_X6_honest_j29 (f_X6_honest_l4 h l0 fu1) h l1 (1 : Int32) l0 l2) else (f_X6_honest_j29 (f_X6_honest_l4 h l0 fu1) h l1 (0 : Int32) l0 l2))))) := rfl
theorem f_X6_honest_l4_0 (h : Hp) (l0 : Nat) (l1 : Int32) (l2 : Int32) : f_X6_honest_l4 h l0 0 l1 l2 = none := rfl
set_option maxRecDepth 100000 in
set_option maxHeartbeats 4000000 in
theorem lp_X6_honest_4 {g : Gl} {h : Hp} {l0 : Nat} {r : Option Value} {h2 : Hp} {o1 : Int32} (kl0 : KD g.1 l0 5 0) (hx0 : Ev yX6_honest cX6_honest 3 (some .int) 2 42 g 37 [] [(1, .int o1)] h r h2) : ∀ (fu1 : Nat) (l1 : Int32) (l2 : Int32), f_X6_honest_l4 h l0 fu1 l1 l2 = some o1 → Ev yX6_honest cX6_honest 3 (some .int) 2 42 g 4 [] [(0, .ref l0), (1, .int l1), (2, .int l2)] h r h2 := by
  intro fu1
  induction fu1 with
  | zero =>
    intro l1 l2 hf
    cases hf
  | succ fu1 ih =>
    intro l1 l2 hf
    rw [f_X6_honest_l4_s] at hf
    have hk := ih
    refine ev_iload_n (n := 2) dX6_honest_4 rfl rfl ?_
    refine ev_aload_n (n := 0) dX6_honest_5 rfl rfl ?_
    refine ev_get (v := .ref (l0 + 2)) 1 kl0 rfl (by decide) rfl lk_607 dX6_honest_6 ?_
    refine ev_iconst (v := 0) dX6_honest_9 (by decide) ?_
    refine ev_iald (kd_5_1 kl0) (by unfold vp_in; decide) dX6_honest_10 ?_
    refine ev_icmp_ge (tgt := 37) dX6_honest_11 (by decide) (fun c1 => ?_) (fun c1 => ?_)
    · replace hf := if_t c1 hf
      refine ev_sub [1] rfl (lv2 := [(1, .int l1)]) ?_
      obtain rfl := Option.some.inj hf
      exact hx0
    · replace hf := if_f c1 hf
      refine ev_iload_n (n := 1) dX6_honest_14 rfl rfl ?_
      refine ev_aload_n (n := 0) dX6_honest_15 rfl rfl ?_
      refine ev_iload_n (n := 2) dX6_honest_16 rfl rfl ?_
      refine ev_iconst (v := 0) dX6_honest_17 (by decide) ?_
      obtain ⟨v2, e3, hf⟩ := bn1_of hf
      refine ev_callVi (As := [.int l2, .int (0 : Int32)]) cal_X6_cellOf kl0 rfl (ev_X6_cellOf kl0 e3) (Nat.le_of_ble_eq_true rfl) rfl lk_719 (by decide) (by decide) (Nat.le_of_ble_eq_true rfl) dX6_honest_18 rfl ?_
      refine ev_if_ne (tgt := 28) dX6_honest_21 (by decide) (fun c1 => ?_) (fun c1 => ?_)
      · replace hf := if_f c1 hf
        refine ev_iconst (v := 0) dX6_honest_28 (by decide) ?_
        refine ev_sub [0, 2] rfl (lv2 := [(0, .ref l0), (2, .int l2)]) ?_
        exact jn_X6_honest_29 kl0 hx0 hk hf
      · replace hf := if_t c1 hf
        refine ev_iconst (v := 1) dX6_honest_24 (by decide) ?_
        refine ev_goto (tgt := 29) dX6_honest_25 (by decide) ?_
        refine ev_sub [0, 2] rfl (lv2 := [(0, .ref l0), (2, .int l2)]) ?_
        exact jn_X6_honest_29 kl0 hx0 hk hf
def f_X6_honest (h : Hp) (l0 : Nat) : Option (Int32) := (bn1 (f_X6_honest_l4 h l0 fu (0 : Int32) (0 : Int32)) (fun w1_4 => (some w1_4)))
set_option maxRecDepth 100000 in
set_option maxHeartbeats 4000000 in
theorem ev_X6_honest {g : Gl} {h : Hp} {l0 : Nat} {rv : Int32} (kl0 : KD g.1 l0 5 0) (hf : f_X6_honest h l0 = some rv) : Ev yX6_honest cX6_honest 3 (some .int) 2 42 g 0 [] [(0, .ref l0)] h (some (.int rv)) h := by
  unfold f_X6_honest at hf
  refine ev_iconst (v := 0) dX6_honest_0 (by decide) ?_
  refine ev_istore_n (lv2 := [(1, .int (0 : Int32)), (0, .ref l0)]) dX6_honest_1 rfl (by decide) rfl ?_
  refine ev_iconst (v := 0) dX6_honest_2 (by decide) ?_
  refine ev_istore_n (lv2 := [(2, .int (0 : Int32)), (1, .int (0 : Int32)), (0, .ref l0)]) dX6_honest_3 rfl (by decide) rfl ?_
  obtain ⟨w1_4, e5, hf⟩ := bn1_of hf
  refine ev_sub [2, 1, 0] rfl (lv2 := [(0, .ref l0), (1, .int (0 : Int32)), (2, .int (0 : Int32))]) ?_
  refine lp_X6_honest_4 kl0 ?_ fu _ _ e5
  refine ev_iload_n (n := 0) dX6_honest_37 rfl rfl ?_
  obtain rfl := Option.some.inj hf
  exact ev_ireturn dX6_honest_38 ⟨.int, rfl, rfl⟩
def f_X6_canPeer_j18 (h : Hp)  : Option (Int32) := (some (-2 : Int32))
set_option maxRecDepth 100000 in
set_option maxHeartbeats 4000000 in
theorem jn_X6_canPeer_18 {g : Gl} {h : Hp}   {rv : Int32}    (hf : f_X6_canPeer_j18 h = some rv) : Ev yX6_canPeer cX6_canPeer 3 (some .int) 1 22 g 18 [] [] h (some (.int rv)) h := by
  unfold f_X6_canPeer_j18 at hf
  refine ev_bipush (v := -2) dX6_canPeer_18 (by decide) ?_
  refine ev_goto (tgt := 40) dX6_canPeer_20 (by decide) ?_
  obtain rfl := Option.some.inj hf
  exact ev_ireturn dX6_canPeer_40 ⟨.int, rfl, rfl⟩
def f_X6_canPeer (h : Hp) (l0 : Nat) (l1 : Int32) (l2 : Int32) : Option (Int32) := (bn1 (f_X6_in h l1 (0 : Int32) (2 : Int32)) (fun v1 => (if v1 = 0 then (f_X6_canPeer_j18 h) else (bn1 (f_X6_in h l2 (1 : Int32) (4 : Int32)) (fun v3 => (if v3 = 0 then (f_X6_canPeer_j18 h) else (if (hI h (l0 + 2) (0 : Int32).toNatClampNeg) = (6 : Int32) then (some (-4 : Int32)) else (some (0 : Int32)))))))))
set_option maxRecDepth 100000 in
set_option maxHeartbeats 4000000 in
theorem ev_X6_canPeer {g : Gl} {h : Hp} {l0 : Nat} {l1 : Int32} {l2 : Int32} {rv : Int32} (kl0 : KD g.1 l0 5 0) (hf : f_X6_canPeer h l0 l1 l2 = some rv) : Ev yX6_canPeer cX6_canPeer 3 (some .int) 1 22 g 0 [] [(0, .ref l0), (1, .int l1), (2, .int l2)] h (some (.int rv)) h := by
  unfold f_X6_canPeer at hf
  refine ev_iload_n (n := 1) dX6_canPeer_0 rfl rfl ?_
  refine ev_iconst (v := 0) dX6_canPeer_1 (by decide) ?_
  refine ev_iconst (v := 2) dX6_canPeer_2 (by decide) ?_
  obtain ⟨v1, e2, hf⟩ := bn1_of hf
  refine ev_callSi (As := [.int l1, .int (0 : Int32), .int (2 : Int32)]) cal_X6_in (ev_X6_in e2) (Nat.le_of_ble_eq_true rfl) rfl lk_669 (by decide) (by decide) (Nat.le_of_ble_eq_true rfl) dX6_canPeer_3 rfl ?_
  refine ev_if_eq (tgt := 18) dX6_canPeer_6 (by decide) (fun c1 => ?_) (fun c1 => ?_)
  · replace hf := if_t c1 hf
    refine ev_sub [] rfl (lv2 := []) ?_
    exact jn_X6_canPeer_18 hf
  · replace hf := if_f c1 hf
    refine ev_iload_n (n := 2) dX6_canPeer_9 rfl rfl ?_
    refine ev_iconst (v := 1) dX6_canPeer_10 (by decide) ?_
    refine ev_iconst (v := 4) dX6_canPeer_11 (by decide) ?_
    obtain ⟨v3, e4, hf⟩ := bn1_of hf
    refine ev_callSi (As := [.int l2, .int (1 : Int32), .int (4 : Int32)]) cal_X6_in (ev_X6_in e4) (Nat.le_of_ble_eq_true rfl) rfl lk_669 (by decide) (by decide) (Nat.le_of_ble_eq_true rfl) dX6_canPeer_12 rfl ?_
    refine ev_if_ne (tgt := 23) dX6_canPeer_15 (by decide) (fun c1 => ?_) (fun c1 => ?_)
    · replace hf := if_f c1 hf
      refine ev_aload_n (n := 0) dX6_canPeer_23 rfl rfl ?_
      refine ev_get (v := .ref (l0 + 2)) 1 kl0 rfl (by decide) rfl lk_607 dX6_canPeer_24 ?_
      refine ev_iconst (v := 0) dX6_canPeer_27 (by decide) ?_
      refine ev_iald (kd_5_1 kl0) (by unfold vp_in; decide) dX6_canPeer_28 ?_
      refine ev_bipush (v := 6) dX6_canPeer_29 (by decide) ?_
      refine ev_icmp_ne (tgt := 39) dX6_canPeer_31 (by decide) (fun c1 => ?_) (fun c1 => ?_)
      · replace hf := if_f c1 hf
        refine ev_iconst (v := 0) dX6_canPeer_39 (by decide) ?_
        obtain rfl := Option.some.inj hf
        exact ev_ireturn dX6_canPeer_40 ⟨.int, rfl, rfl⟩
      · replace hf := if_t c1 hf
        refine ev_bipush (v := -4) dX6_canPeer_34 (by decide) ?_
        refine ev_goto (tgt := 40) dX6_canPeer_36 (by decide) ?_
        obtain rfl := Option.some.inj hf
        exact ev_ireturn dX6_canPeer_40 ⟨.int, rfl, rfl⟩
    · replace hf := if_t c1 hf
      refine ev_sub [] rfl (lv2 := []) ?_
      exact jn_X6_canPeer_18 hf
def f_X6_peerComes_j40 (kk : Int32 → Hp → Option (Hp)) (h : Hp) (s0 : Nat) (s1 : Int32) (s2 : Int32) (l0 : Nat) (l1 : Int32) (l2 : Int32) (l3 : Int32) (l4 : Int32) : Option (Hp) := (if inb s1 320 = true then (kk (l4 + 1) (sI h s0 s1.toNatClampNeg s2)) else none)
set_option maxRecDepth 100000 in
set_option maxHeartbeats 4000000 in
theorem jn_X6_peerComes_40 {g : Gl} {h : Hp} {kk : Int32 → Hp → Option (Hp)} {s0 : Nat} {s1 : Int32} {s2 : Int32} {l0 : Nat} {l1 : Int32} {l2 : Int32} {l3 : Int32} {l4 : Int32}  {r : Option Value} {h2 : Hp} {h3 : Hp} (ks0 : KD g.1 s0 6 320) (kl0 : KD g.1 l0 5 0) (hx0 : Ev yX6_peerComes cX6_peerComes 5 (some .int) 1 20 g 47 [] [(0, .ref l0), (1, .int l1), (2, .int l2), (3, .int l3)] h3 r h2) (hk : ∀ (x4 : Int32) (hq : Hp), kk x4 hq = some h3 → Ev yX6_peerComes cX6_peerComes 5 (some .int) 1 20 g 10 [] [(0, .ref l0), (1, .int l1), (2, .int l2), (3, .int l3), (4, .int x4)] hq r h2) (hf : f_X6_peerComes_j40 kk h s0 s1 s2 l0 l1 l2 l3 l4 = some h3) : Ev yX6_peerComes cX6_peerComes 5 (some .int) 1 20 g 40 [.int s2, .int s1, .ref s0] [(0, .ref l0), (1, .int l1), (2, .int l2), (3, .int l3), (4, .int l4)] h r h2 := by
  unfold f_X6_peerComes_j40 at hf
  obtain ⟨gd4, hf⟩ := gd_of hf
  refine ev_iast ks0 (inb_of gd4) dX6_peerComes_40 ?_
  refine ev_iinc (z := 4) (v := (l4 + 1)) (lv2 := [(4, .int (l4 + 1)), (0, .ref l0), (1, .int l1), (2, .int l2), (3, .int l3)]) dX6_peerComes_41 rfl rfl (by decide) rfl ?_
  refine ev_goto (tgt := 10) dX6_peerComes_44 (by decide) ?_
  refine ev_sub [1, 2, 3, 4, 0] rfl (lv2 := [(0, .ref l0), (1, .int l1), (2, .int l2), (3, .int l3), (4, .int (l4 + 1))]) ?_
  exact hk _ _ hf
def f_X6_peerComes_l10 (l0 : Nat) (l1 : Int32) (l2 : Int32) (l3 : Int32) : Nat → Int32 → Hp → Option (Hp)
  | 0, _, _ => none
  | fu1 + 1, l4, h => (if (48 : Int32) ≤ l4 then (some h) else (bn1 (f_X6_at h l3) (fun v2 => (if (15 : Int32) ≤ l4 then (f_X6_peerComes_j40 (f_X6_peerComes_l10 l0 l1 l2 l3 fu1) h (l0 + 2) (v2 + l4) (-1 : Int32) l0 l1 l2 l3 l4) else (f_X6_peerComes_j40 (f_X6_peerComes_l10 l0 l1 l2 l3 fu1) h (l0 + 2) (v2 + l4) (0 : Int32) l0 l1 l2 l3 l4)))))
theorem f_X6_peerComes_l10_s (l0 : Nat) (l1 : Int32) (l2 : Int32) (l3 : Int32) (fu1 : Nat) (l4 : Int32) (h : Hp) : f_X6_peerComes_l10 l0 l1 l2 l3 (fu1 + 1) l4 h = (if (48 : Int32) ≤ l4 then (some h) else (bn1 (f_X6_at h l3) (fun v2 => (if (15 : Int32) ≤ l4 then (f_X6_peerComes_j40 (f_X6_peerComes_l10 l0 l1 l2 l3 fu1) h (l0 + 2) (v2 + l4) (-1 : Int32) l0 l1 l2 l3 l4) else (f_X6_peerComes_j40 (f_X6_peerComes_l10 l0 l1 l2 l3 fu1) h (l0 + 2) (v2 + l4) (0 : Int32) l0 l1 l2 l3 l4))))) := rfl
theorem f_X6_peerComes_l10_0 (l0 : Nat) (l1 : Int32) (l2 : Int32) (l3 : Int32) (l4 : Int32) (h : Hp) : f_X6_peerComes_l10 l0 l1 l2 l3 0 l4 h = none := rfl
set_option maxRecDepth 100000 in
set_option maxHeartbeats 4000000 in
theorem lp_X6_peerComes_10 {g : Gl} {l0 : Nat} {l1 : Int32} {l2 : Int32} {l3 : Int32} {r : Option Value} {h2 : Hp} {h3 : Hp} (kl0 : KD g.1 l0 5 0) (hx0 : Ev yX6_peerComes cX6_peerComes 5 (some .int) 1 20 g 47 [] [(0, .ref l0), (1, .int l1), (2, .int l2), (3, .int l3)] h3 r h2) : ∀ (fu1 : Nat) (l4 : Int32) (h : Hp), f_X6_peerComes_l10 l0 l1 l2 l3 fu1 l4 h = some h3 → Ev yX6_peerComes cX6_peerComes 5 (some .int) 1 20 g 10 [] [(0, .ref l0), (1, .int l1), (2, .int l2), (3, .int l3), (4, .int l4)] h r h2 := by
  intro fu1
  induction fu1 with
  | zero =>
    intro l4 h hf
    cases hf
  | succ fu1 ih =>
    intro l4 h hf
    rw [f_X6_peerComes_l10_s] at hf
    have hk := ih
    refine ev_iload (n := 4) dX6_peerComes_10 rfl ?_
    refine ev_bipush (v := 48) dX6_peerComes_12 (by decide) ?_
    refine ev_icmp_ge (tgt := 47) dX6_peerComes_14 (by decide) (fun c1 => ?_) (fun c1 => ?_)
    · replace hf := if_t c1 hf
      refine ev_sub [0, 1, 2, 3] rfl (lv2 := [(0, .ref l0), (1, .int l1), (2, .int l2), (3, .int l3)]) ?_
      obtain rfl := Option.some.inj hf
      exact hx0
    · replace hf := if_f c1 hf
      refine ev_aload_n (n := 0) dX6_peerComes_17 rfl rfl ?_
      refine ev_get (v := .ref (l0 + 2)) 1 kl0 rfl (by decide) rfl lk_607 dX6_peerComes_18 ?_
      refine ev_iload_n (n := 3) dX6_peerComes_21 rfl rfl ?_
      obtain ⟨v2, e3, hf⟩ := bn1_of hf
      refine ev_callSi (As := [.int l3]) cal_X6_at (ev_X6_at e3) (Nat.le_of_ble_eq_true rfl) rfl lk_700 (by decide) (by decide) (Nat.le_of_ble_eq_true rfl) dX6_peerComes_22 rfl ?_
      refine ev_iload (n := 4) dX6_peerComes_25 rfl ?_
      refine ev_iadd dX6_peerComes_27 ?_
      refine ev_iload (n := 4) dX6_peerComes_28 rfl ?_
      refine ev_bipush (v := 15) dX6_peerComes_30 (by decide) ?_
      refine ev_icmp_ge (tgt := 39) dX6_peerComes_32 (by decide) (fun c1 => ?_) (fun c1 => ?_)
      · replace hf := if_t c1 hf
        refine ev_iconst (v := -1) dX6_peerComes_39 (by decide) ?_
        exact jn_X6_peerComes_40 (kd_5_1 kl0) kl0 hx0 hk hf
      · replace hf := if_f c1 hf
        refine ev_iconst (v := 0) dX6_peerComes_35 (by decide) ?_
        refine ev_goto (tgt := 40) dX6_peerComes_36 (by decide) ?_
        exact jn_X6_peerComes_40 (kd_5_1 kl0) kl0 hx0 hk hf
def f_X6_peerComes (h : Hp) (l0 : Nat) (l1 : Int32) (l2 : Int32) : Option (Int32 × Hp) := (bn1 (f_X6_peerComes_l10 l0 l1 l2 (hI h (l0 + 2) (0 : Int32).toNatClampNeg) fu (0 : Int32) h) (fun h5 => (bn1 (f_X6_at h5 (hI h (l0 + 2) (0 : Int32).toNatClampNeg)) (fun v6 => (if inb (v6 + (0 : Int32)) 320 = true then (bn1 (f_X6_at (sI h5 (l0 + 2) (v6 + (0 : Int32)).toNatClampNeg l1) (hI h (l0 + 2) (0 : Int32).toNatClampNeg)) (fun v9 => (if inb (v9 + (1 : Int32)) 320 = true then (bn1 (f_X6_at (sI (sI h5 (l0 + 2) (v6 + (0 : Int32)).toNatClampNeg l1) (l0 + 2) (v9 + (1 : Int32)).toNatClampNeg l2) (hI h (l0 + 2) (0 : Int32).toNatClampNeg)) (fun v12 => (if inb (v12 + (4 : Int32)) 320 = true then (some ((hI h (l0 + 2) (0 : Int32).toNatClampNeg), (sI (sI (sI (sI h5 (l0 + 2) (v6 + (0 : Int32)).toNatClampNeg l1) (l0 + 2) (v9 + (1 : Int32)).toNatClampNeg l2) (l0 + 2) (v12 + (4 : Int32)).toNatClampNeg (-1 : Int32)) (l0 + 2) (0 : Int32).toNatClampNeg ((hI (sI (sI (sI h5 (l0 + 2) (v6 + (0 : Int32)).toNatClampNeg l1) (l0 + 2) (v9 + (1 : Int32)).toNatClampNeg l2) (l0 + 2) (v12 + (4 : Int32)).toNatClampNeg (-1 : Int32)) (l0 + 2) (0 : Int32).toNatClampNeg) + (1 : Int32))))) else none))) else none))) else none)))))
set_option maxRecDepth 100000 in
set_option maxHeartbeats 4000000 in
theorem ev_X6_peerComes {g : Gl} {h : Hp} {l0 : Nat} {l1 : Int32} {l2 : Int32} {rv : Int32} {h2 : Hp} (kl0 : KD g.1 l0 5 0) (hf : f_X6_peerComes h l0 l1 l2 = some (rv, h2)) : Ev yX6_peerComes cX6_peerComes 5 (some .int) 1 20 g 0 [] [(0, .ref l0), (1, .int l1), (2, .int l2)] h (some (.int rv)) h2 := by
  unfold f_X6_peerComes at hf
  refine ev_aload_n (n := 0) dX6_peerComes_0 rfl rfl ?_
  refine ev_get (v := .ref (l0 + 2)) 1 kl0 rfl (by decide) rfl lk_607 dX6_peerComes_1 ?_
  refine ev_iconst (v := 0) dX6_peerComes_4 (by decide) ?_
  refine ev_iald (kd_5_1 kl0) (by unfold vp_in; decide) dX6_peerComes_5 ?_
  refine ev_istore_n (lv2 := [(3, .int (hI h (l0 + 2) (0 : Int32).toNatClampNeg)), (0, .ref l0), (1, .int l1), (2, .int l2)]) dX6_peerComes_6 rfl (by decide) rfl ?_
  refine ev_iconst (v := 0) dX6_peerComes_7 (by decide) ?_
  refine ev_istore (lv2 := [(4, .int (0 : Int32)), (3, .int (hI h (l0 + 2) (0 : Int32).toNatClampNeg)), (0, .ref l0), (1, .int l1), (2, .int l2)]) dX6_peerComes_8 (by decide) rfl ?_
  obtain ⟨h5, e17, hf⟩ := bn1_of hf
  refine ev_sub [2, 3, 4, 1, 0] rfl (lv2 := [(0, .ref l0), (1, .int l1), (2, .int l2), (3, .int (hI h (l0 + 2) (0 : Int32).toNatClampNeg)), (4, .int (0 : Int32))]) ?_
  refine lp_X6_peerComes_10 kl0 ?_ fu _ _ e17
  refine ev_aload_n (n := 0) dX6_peerComes_47 rfl rfl ?_
  refine ev_get (v := .ref (l0 + 2)) 1 kl0 rfl (by decide) rfl lk_607 dX6_peerComes_48 ?_
  refine ev_iload_n (n := 3) dX6_peerComes_51 rfl rfl ?_
  obtain ⟨v6, e7, hf⟩ := bn1_of hf
  refine ev_callSi (As := [.int (hI h (l0 + 2) (0 : Int32).toNatClampNeg)]) cal_X6_at (ev_X6_at e7) (Nat.le_of_ble_eq_true rfl) rfl lk_700 (by decide) (by decide) (Nat.le_of_ble_eq_true rfl) dX6_peerComes_52 rfl ?_
  refine ev_iconst (v := 0) dX6_peerComes_55 (by decide) ?_
  refine ev_iadd dX6_peerComes_56 ?_
  refine ev_iload_n (n := 1) dX6_peerComes_57 rfl rfl ?_
  obtain ⟨gd8, hf⟩ := gd_of hf
  refine ev_iast (kd_5_1 kl0) (inb_of gd8) dX6_peerComes_58 ?_
  refine ev_aload_n (n := 0) dX6_peerComes_59 rfl rfl ?_
  refine ev_get (v := .ref (l0 + 2)) 1 kl0 rfl (by decide) rfl lk_607 dX6_peerComes_60 ?_
  refine ev_iload_n (n := 3) dX6_peerComes_63 rfl rfl ?_
  obtain ⟨v9, e10, hf⟩ := bn1_of hf
  refine ev_callSi (As := [.int (hI h (l0 + 2) (0 : Int32).toNatClampNeg)]) cal_X6_at (ev_X6_at e10) (Nat.le_of_ble_eq_true rfl) rfl lk_700 (by decide) (by decide) (Nat.le_of_ble_eq_true rfl) dX6_peerComes_64 rfl ?_
  refine ev_iconst (v := 1) dX6_peerComes_67 (by decide) ?_
  refine ev_iadd dX6_peerComes_68 ?_
  refine ev_iload_n (n := 2) dX6_peerComes_69 rfl rfl ?_
  obtain ⟨gd11, hf⟩ := gd_of hf
  refine ev_iast (kd_5_1 kl0) (inb_of gd11) dX6_peerComes_70 ?_
  refine ev_aload_n (n := 0) dX6_peerComes_71 rfl rfl ?_
  refine ev_get (v := .ref (l0 + 2)) 1 kl0 rfl (by decide) rfl lk_607 dX6_peerComes_72 ?_
  refine ev_iload_n (n := 3) dX6_peerComes_75 rfl rfl ?_
  obtain ⟨v12, e13, hf⟩ := bn1_of hf
  refine ev_callSi (As := [.int (hI h (l0 + 2) (0 : Int32).toNatClampNeg)]) cal_X6_at (ev_X6_at e13) (Nat.le_of_ble_eq_true rfl) rfl lk_700 (by decide) (by decide) (Nat.le_of_ble_eq_true rfl) dX6_peerComes_76 rfl ?_
  refine ev_iconst (v := 4) dX6_peerComes_79 (by decide) ?_
  refine ev_iadd dX6_peerComes_80 ?_
  refine ev_iconst (v := -1) dX6_peerComes_81 (by decide) ?_
  obtain ⟨gd14, hf⟩ := gd_of hf
  refine ev_iast (kd_5_1 kl0) (inb_of gd14) dX6_peerComes_82 ?_
  refine ev_aload_n (n := 0) dX6_peerComes_83 rfl rfl ?_
  refine ev_get (v := .ref (l0 + 2)) 1 kl0 rfl (by decide) rfl lk_607 dX6_peerComes_84 ?_
  refine ev_iconst (v := 0) dX6_peerComes_87 (by decide) ?_
  refine ev_dup2 dX6_peerComes_88 rfl rfl ?_
  refine ev_iald (kd_5_1 kl0) (by unfold vp_in; decide) dX6_peerComes_89 ?_
  refine ev_iconst (v := 1) dX6_peerComes_90 (by decide) ?_
  refine ev_iadd dX6_peerComes_91 ?_
  refine ev_iast (kd_5_1 kl0) (by unfold vp_in; decide) dX6_peerComes_92 ?_
  refine ev_iload_n (n := 3) dX6_peerComes_93 rfl rfl ?_
  obtain ⟨rfl, rfl⟩ := Prod.mk.inj (Option.some.inj hf)
  exact ev_ireturn dX6_peerComes_94 ⟨.int, rfl, rfl⟩
def f_X6_canGive_j24 (h : Hp)  : Option (Int32) := (some (-2 : Int32))
set_option maxRecDepth 100000 in
set_option maxHeartbeats 4000000 in
theorem jn_X6_canGive_24 {g : Gl} {h : Hp}   {rv : Int32}    (hf : f_X6_canGive_j24 h = some rv) : Ev yX6_canGive cX6_canGive 3 (some .int) 3 64 g 24 [] [] h (some (.int rv)) h := by
  unfold f_X6_canGive_j24 at hf
  refine ev_bipush (v := -2) dX6_canGive_24 (by decide) ?_
  obtain rfl := Option.some.inj hf
  exact ev_ireturn dX6_canGive_26 ⟨.int, rfl, rfl⟩
def f_X6_canGive_j46 (h : Hp)  : Option (Int32) := (some (-3 : Int32))
set_option maxRecDepth 100000 in
set_option maxHeartbeats 4000000 in
theorem jn_X6_canGive_46 {g : Gl} {h : Hp}   {rv : Int32}    (hf : f_X6_canGive_j46 h = some rv) : Ev yX6_canGive cX6_canGive 3 (some .int) 3 64 g 46 [] [] h (some (.int rv)) h := by
  unfold f_X6_canGive_j46 at hf
  refine ev_bipush (v := -3) dX6_canGive_46 (by decide) ?_
  refine ev_goto (tgt := 52) dX6_canGive_48 (by decide) ?_
  obtain rfl := Option.some.inj hf
  exact ev_ireturn dX6_canGive_52 ⟨.int, rfl, rfl⟩
def f_X6_canGive (h : Hp) (l0 : Nat) (l1 : Int32) (l2 : Int32) : Option (Int32) := (bn1 (f_X6_isPeer h l0 l1) (fun v1 => (if v1 = 0 then (f_X6_canGive_j24 h) else (bn1 (f_X6_in h l2 (0 : Int32) ((hI h (l0 + 2) (1 : Int32).toNatClampNeg) - (1 : Int32))) (fun v4 => (if v4 = 0 then (f_X6_canGive_j24 h) else (bn1 (f_X6_has h l0 l1 l2) (fun v6 => (if v6 = 0 then (bn1 (f_X6_cellOf h l0 l1 (0 : Int32)) (fun v8 => (if v8 = (2 : Int32) then (f_X6_canGive_j46 h) else (some (0 : Int32))))) else (f_X6_canGive_j46 h))))))))))
set_option maxRecDepth 100000 in
set_option maxHeartbeats 4000000 in
theorem ev_X6_canGive {g : Gl} {h : Hp} {l0 : Nat} {l1 : Int32} {l2 : Int32} {rv : Int32} (kl0 : KD g.1 l0 5 0) (hf : f_X6_canGive h l0 l1 l2 = some rv) : Ev yX6_canGive cX6_canGive 3 (some .int) 3 64 g 0 [] [(0, .ref l0), (1, .int l1), (2, .int l2)] h (some (.int rv)) h := by
  unfold f_X6_canGive at hf
  refine ev_aload_n (n := 0) dX6_canGive_0 rfl rfl ?_
  refine ev_iload_n (n := 1) dX6_canGive_1 rfl rfl ?_
  obtain ⟨v1, e2, hf⟩ := bn1_of hf
  refine ev_callVi (As := [.int l1]) cal_X6_isPeer kl0 rfl (ev_X6_isPeer kl0 e2) (Nat.le_of_ble_eq_true rfl) rfl lk_711 (by decide) (by decide) (Nat.le_of_ble_eq_true rfl) dX6_canGive_2 rfl ?_
  refine ev_if_eq (tgt := 24) dX6_canGive_5 (by decide) (fun c1 => ?_) (fun c1 => ?_)
  · replace hf := if_t c1 hf
    refine ev_sub [] rfl (lv2 := []) ?_
    exact jn_X6_canGive_24 hf
  · replace hf := if_f c1 hf
    refine ev_iload_n (n := 2) dX6_canGive_8 rfl rfl ?_
    refine ev_iconst (v := 0) dX6_canGive_9 (by decide) ?_
    refine ev_aload_n (n := 0) dX6_canGive_10 rfl rfl ?_
    refine ev_get (v := .ref (l0 + 2)) 1 kl0 rfl (by decide) rfl lk_607 dX6_canGive_11 ?_
    refine ev_iconst (v := 1) dX6_canGive_14 (by decide) ?_
    refine ev_iald (kd_5_1 kl0) (by unfold vp_in; decide) dX6_canGive_15 ?_
    refine ev_iconst (v := 1) dX6_canGive_16 (by decide) ?_
    refine ev_isub dX6_canGive_17 ?_
    obtain ⟨v4, e5, hf⟩ := bn1_of hf
    refine ev_callSi (As := [.int l2, .int (0 : Int32), .int ((hI h (l0 + 2) (1 : Int32).toNatClampNeg) - (1 : Int32))]) cal_X6_in (ev_X6_in e5) (Nat.le_of_ble_eq_true rfl) rfl lk_669 (by decide) (by decide) (Nat.le_of_ble_eq_true rfl) dX6_canGive_18 rfl ?_
    refine ev_if_ne (tgt := 27) dX6_canGive_21 (by decide) (fun c1 => ?_) (fun c1 => ?_)
    · replace hf := if_f c1 hf
      refine ev_aload_n (n := 0) dX6_canGive_27 rfl rfl ?_
      refine ev_iload_n (n := 1) dX6_canGive_28 rfl rfl ?_
      refine ev_iload_n (n := 2) dX6_canGive_29 rfl rfl ?_
      obtain ⟨v6, e7, hf⟩ := bn1_of hf
      refine ev_callVi (As := [.int l1, .int l2]) cal_X6_has kl0 rfl (ev_X6_has kl0 e7) (Nat.le_of_ble_eq_true rfl) rfl lk_715 (by decide) (by decide) (Nat.le_of_ble_eq_true rfl) dX6_canGive_30 rfl ?_
      refine ev_if_ne (tgt := 46) dX6_canGive_33 (by decide) (fun c1 => ?_) (fun c1 => ?_)
      · replace hf := if_f c1 hf
        refine ev_sub [] rfl (lv2 := []) ?_
        exact jn_X6_canGive_46 hf
      · replace hf := if_t c1 hf
        refine ev_aload_n (n := 0) dX6_canGive_36 rfl rfl ?_
        refine ev_iload_n (n := 1) dX6_canGive_37 rfl rfl ?_
        refine ev_iconst (v := 0) dX6_canGive_38 (by decide) ?_
        obtain ⟨v8, e9, hf⟩ := bn1_of hf
        refine ev_callVi (As := [.int l1, .int (0 : Int32)]) cal_X6_cellOf kl0 rfl (ev_X6_cellOf kl0 e9) (Nat.le_of_ble_eq_true rfl) rfl lk_719 (by decide) (by decide) (Nat.le_of_ble_eq_true rfl) dX6_canGive_39 rfl ?_
        refine ev_iconst (v := 2) dX6_canGive_42 (by decide) ?_
        refine ev_icmp_ne (tgt := 51) dX6_canGive_43 (by decide) (fun c1 => ?_) (fun c1 => ?_)
        · replace hf := if_f c1 hf
          refine ev_iconst (v := 0) dX6_canGive_51 (by decide) ?_
          obtain rfl := Option.some.inj hf
          exact ev_ireturn dX6_canGive_52 ⟨.int, rfl, rfl⟩
        · replace hf := if_t c1 hf
          refine ev_sub [] rfl (lv2 := []) ?_
          exact jn_X6_canGive_46 hf
    · replace hf := if_t c1 hf
      refine ev_sub [] rfl (lv2 := []) ?_
      exact jn_X6_canGive_24 hf
def f_X6_pieces_l4 (h : Hp) (l0 : Int32) : Nat → Int32 → Int32 → Option (Int32)
  | 0, _, _ => none
  | fu1 + 1, l1, l2 => (if (8 : Int32) ≤ l2 then (some l1) else (f_X6_pieces_l4 h l0 fu1 (l1 + ((l0 >>> (l2 &&& 31)) &&& (1 : Int32))) (l2 + 1)))
theorem f_X6_pieces_l4_s (h : Hp) (l0 : Int32) (fu1 : Nat) (l1 : Int32) (l2 : Int32) : f_X6_pieces_l4 h l0 (fu1 + 1) l1 l2 = (if (8 : Int32) ≤ l2 then (some l1) else (f_X6_pieces_l4 h l0 fu1 (l1 + ((l0 >>> (l2 &&& 31)) &&& (1 : Int32))) (l2 + 1))) := rfl
theorem f_X6_pieces_l4_0 (h : Hp) (l0 : Int32) (l1 : Int32) (l2 : Int32) : f_X6_pieces_l4 h l0 0 l1 l2 = none := rfl
set_option maxRecDepth 100000 in
set_option maxHeartbeats 4000000 in
theorem lp_X6_pieces_4 {g : Gl} {h : Hp} {l0 : Int32} {r : Option Value} {h2 : Hp} {o1 : Int32}  (hx0 : Ev yX6_pieces cX6_pieces 3 (some .int) 0 0 g 24 [] [(1, .int o1)] h r h2) : ∀ (fu1 : Nat) (l1 : Int32) (l2 : Int32), f_X6_pieces_l4 h l0 fu1 l1 l2 = some o1 → Ev yX6_pieces cX6_pieces 3 (some .int) 0 0 g 4 [] [(0, .int l0), (1, .int l1), (2, .int l2)] h r h2 := by
  intro fu1
  induction fu1 with
  | zero =>
    intro l1 l2 hf
    cases hf
  | succ fu1 ih =>
    intro l1 l2 hf
    rw [f_X6_pieces_l4_s] at hf
    have hk := ih
    refine ev_iload_n (n := 2) dX6_pieces_4 rfl rfl ?_
    refine ev_bipush (v := 8) dX6_pieces_5 (by decide) ?_
    refine ev_icmp_ge (tgt := 24) dX6_pieces_7 (by decide) (fun c1 => ?_) (fun c1 => ?_)
    · replace hf := if_t c1 hf
      refine ev_sub [1] rfl (lv2 := [(1, .int l1)]) ?_
      obtain rfl := Option.some.inj hf
      exact hx0
    · replace hf := if_f c1 hf
      refine ev_iload_n (n := 1) dX6_pieces_10 rfl rfl ?_
      refine ev_iload_n (n := 0) dX6_pieces_11 rfl rfl ?_
      refine ev_iload_n (n := 2) dX6_pieces_12 rfl rfl ?_
      refine ev_ishr dX6_pieces_13 ?_
      refine ev_iconst (v := 1) dX6_pieces_14 (by decide) ?_
      refine ev_iand dX6_pieces_15 ?_
      refine ev_iadd dX6_pieces_16 ?_
      refine ev_istore_n (lv2 := [(1, .int (l1 + ((l0 >>> (l2 &&& 31)) &&& (1 : Int32)))), (0, .int l0), (2, .int l2)]) dX6_pieces_17 rfl (by decide) rfl ?_
      refine ev_iinc (z := 2) (v := (l2 + 1)) (lv2 := [(2, .int (l2 + 1)), (1, .int (l1 + ((l0 >>> (l2 &&& 31)) &&& (1 : Int32)))), (0, .int l0)]) dX6_pieces_18 rfl rfl (by decide) rfl ?_
      refine ev_goto (tgt := 4) dX6_pieces_21 (by decide) ?_
      refine ev_sub [2, 1, 0] rfl (lv2 := [(0, .int l0), (1, .int (l1 + ((l0 >>> (l2 &&& 31)) &&& (1 : Int32)))), (2, .int (l2 + 1))]) ?_
      exact hk _ _ hf
def f_X6_pieces (h : Hp) (l0 : Int32) : Option (Int32) := (bn1 (f_X6_pieces_l4 h l0 fu (0 : Int32) (0 : Int32)) (fun w1_1 => (some w1_1)))
set_option maxRecDepth 100000 in
set_option maxHeartbeats 4000000 in
theorem ev_X6_pieces {g : Gl} {h : Hp} {l0 : Int32} {rv : Int32}  (hf : f_X6_pieces h l0 = some rv) : Ev yX6_pieces cX6_pieces 3 (some .int) 0 0 g 0 [] [(0, .int l0)] h (some (.int rv)) h := by
  unfold f_X6_pieces at hf
  refine ev_iconst (v := 0) dX6_pieces_0 (by decide) ?_
  refine ev_istore_n (lv2 := [(1, .int (0 : Int32)), (0, .int l0)]) dX6_pieces_1 rfl (by decide) rfl ?_
  refine ev_iconst (v := 0) dX6_pieces_2 (by decide) ?_
  refine ev_istore_n (lv2 := [(2, .int (0 : Int32)), (1, .int (0 : Int32)), (0, .int l0)]) dX6_pieces_3 rfl (by decide) rfl ?_
  obtain ⟨w1_1, e2, hf⟩ := bn1_of hf
  refine ev_sub [2, 1, 0] rfl (lv2 := [(0, .int l0), (1, .int (0 : Int32)), (2, .int (0 : Int32))]) ?_
  refine lp_X6_pieces_4  ?_ fu _ _ e2
  refine ev_iload_n (n := 0) dX6_pieces_24 rfl rfl ?_
  obtain rfl := Option.some.inj hf
  exact ev_ireturn dX6_pieces_25 ⟨.int, rfl, rfl⟩
def f_X6_give_l19 (l0 : Nat) (l1 : Int32) (l2 : Int32) : Nat → Int32 → Hp → Option (Hp)
  | 0, _, _ => none
  | fu1 + 1, l3, h => (if (4 : Int32) ≤ l3 then (some h) else (bn1 (f_X6_at h l1) (fun v5 => (if inb (((v5 + (15 : Int32)) + ((4 : Int32) * l2)) + l3) 320 = true then (f_X6_give_l19 l0 l1 l2 fu1 (l3 + 1) (sI h (l0 + 2) (((v5 + (15 : Int32)) + ((4 : Int32) * l2)) + l3).toNatClampNeg (-1 : Int32))) else none))))
theorem f_X6_give_l19_s (l0 : Nat) (l1 : Int32) (l2 : Int32) (fu1 : Nat) (l3 : Int32) (h : Hp) : f_X6_give_l19 l0 l1 l2 (fu1 + 1) l3 h = (if (4 : Int32) ≤ l3 then (some h) else (bn1 (f_X6_at h l1) (fun v5 => (if inb (((v5 + (15 : Int32)) + ((4 : Int32) * l2)) + l3) 320 = true then (f_X6_give_l19 l0 l1 l2 fu1 (l3 + 1) (sI h (l0 + 2) (((v5 + (15 : Int32)) + ((4 : Int32) * l2)) + l3).toNatClampNeg (-1 : Int32))) else none)))) := rfl
theorem f_X6_give_l19_0 (l0 : Nat) (l1 : Int32) (l2 : Int32) (l3 : Int32) (h : Hp) : f_X6_give_l19 l0 l1 l2 0 l3 h = none := rfl
set_option maxRecDepth 100000 in
set_option maxHeartbeats 4000000 in
theorem lp_X6_give_19 {g : Gl} {l0 : Nat} {l1 : Int32} {l2 : Int32} {r : Option Value} {h2 : Hp} {h3 : Hp} (kl0 : KD g.1 l0 5 0) (hx0 : Ev yX6_give cX6_give 4 (some .int) 2 42 g 49 [] [(0, .ref l0), (1, .int l1)] h3 r h2) : ∀ (fu1 : Nat) (l3 : Int32) (h : Hp), f_X6_give_l19 l0 l1 l2 fu1 l3 h = some h3 → Ev yX6_give cX6_give 4 (some .int) 2 42 g 19 [] [(0, .ref l0), (1, .int l1), (2, .int l2), (3, .int l3)] h r h2 := by
  intro fu1
  induction fu1 with
  | zero =>
    intro l3 h hf
    cases hf
  | succ fu1 ih =>
    intro l3 h hf
    rw [f_X6_give_l19_s] at hf
    have hk := ih
    refine ev_iload_n (n := 3) dX6_give_19 rfl rfl ?_
    refine ev_iconst (v := 4) dX6_give_20 (by decide) ?_
    refine ev_icmp_ge (tgt := 49) dX6_give_21 (by decide) (fun c1 => ?_) (fun c1 => ?_)
    · replace hf := if_t c1 hf
      refine ev_sub [0, 1] rfl (lv2 := [(0, .ref l0), (1, .int l1)]) ?_
      obtain rfl := Option.some.inj hf
      exact hx0
    · replace hf := if_f c1 hf
      refine ev_aload_n (n := 0) dX6_give_24 rfl rfl ?_
      refine ev_get (v := .ref (l0 + 2)) 1 kl0 rfl (by decide) rfl lk_607 dX6_give_25 ?_
      refine ev_iload_n (n := 1) dX6_give_28 rfl rfl ?_
      obtain ⟨v5, e6, hf⟩ := bn1_of hf
      refine ev_callSi (As := [.int l1]) cal_X6_at (ev_X6_at e6) (Nat.le_of_ble_eq_true rfl) rfl lk_700 (by decide) (by decide) (Nat.le_of_ble_eq_true rfl) dX6_give_29 rfl ?_
      refine ev_bipush (v := 15) dX6_give_32 (by decide) ?_
      refine ev_iadd dX6_give_34 ?_
      refine ev_iconst (v := 4) dX6_give_35 (by decide) ?_
      refine ev_iload_n (n := 2) dX6_give_36 rfl rfl ?_
      refine ev_imul dX6_give_37 ?_
      refine ev_iadd dX6_give_38 ?_
      refine ev_iload_n (n := 3) dX6_give_39 rfl rfl ?_
      refine ev_iadd dX6_give_40 ?_
      refine ev_iconst (v := -1) dX6_give_41 (by decide) ?_
      obtain ⟨gd7, hf⟩ := gd_of hf
      refine ev_iast (kd_5_1 kl0) (inb_of gd7) dX6_give_42 ?_
      refine ev_iinc (z := 3) (v := (l3 + 1)) (lv2 := [(3, .int (l3 + 1)), (0, .ref l0), (1, .int l1), (2, .int l2)]) dX6_give_43 rfl rfl (by decide) rfl ?_
      refine ev_goto (tgt := 19) dX6_give_46 (by decide) ?_
      refine ev_sub [1, 2, 3, 0] rfl (lv2 := [(0, .ref l0), (1, .int l1), (2, .int l2), (3, .int (l3 + 1))]) ?_
      exact hk _ _ hf
def f_X6_give (h : Hp) (l0 : Nat) (l1 : Int32) (l2 : Int32) : Option (Int32 × Hp) := (bn1 (f_X6_at h l1) (fun v1 => (if inb (v1 + (2 : Int32)) 320 = true then (if inb (v1 + (2 : Int32)) 320 = true then (bn1 (f_X6_give_l19 l0 l1 l2 fu (0 : Int32) (sI h (l0 + 2) (v1 + (2 : Int32)).toNatClampNeg ((hI h (l0 + 2) (v1 + (2 : Int32)).toNatClampNeg) ||| ((1 : Int32) <<< (l2 &&& 31))))) (fun h8 => (bn1 (f_X6_cellOf h8 l0 l1 (2 : Int32)) (fun v9 => (bn1 (f_X6_pieces h8 v9) (fun v11 => (some (v11, h8)))))))) else none) else none)))
set_option maxRecDepth 100000 in
set_option maxHeartbeats 4000000 in
theorem ev_X6_give {g : Gl} {h : Hp} {l0 : Nat} {l1 : Int32} {l2 : Int32} {rv : Int32} {h2 : Hp} (kl0 : KD g.1 l0 5 0) (hf : f_X6_give h l0 l1 l2 = some (rv, h2)) : Ev yX6_give cX6_give 4 (some .int) 2 42 g 0 [] [(0, .ref l0), (1, .int l1), (2, .int l2)] h (some (.int rv)) h2 := by
  unfold f_X6_give at hf
  refine ev_aload_n (n := 0) dX6_give_0 rfl rfl ?_
  refine ev_get (v := .ref (l0 + 2)) 1 kl0 rfl (by decide) rfl lk_607 dX6_give_1 ?_
  refine ev_iload_n (n := 1) dX6_give_4 rfl rfl ?_
  obtain ⟨v1, e2, hf⟩ := bn1_of hf
  refine ev_callSi (As := [.int l1]) cal_X6_at (ev_X6_at e2) (Nat.le_of_ble_eq_true rfl) rfl lk_700 (by decide) (by decide) (Nat.le_of_ble_eq_true rfl) dX6_give_5 rfl ?_
  refine ev_iconst (v := 2) dX6_give_8 (by decide) ?_
  refine ev_iadd dX6_give_9 ?_
  refine ev_dup2 dX6_give_10 rfl rfl ?_
  obtain ⟨gd3, hf⟩ := gd_of hf
  refine ev_iald (kd_5_1 kl0) (inb_of gd3) dX6_give_11 ?_
  refine ev_iconst (v := 1) dX6_give_12 (by decide) ?_
  refine ev_iload_n (n := 2) dX6_give_13 rfl rfl ?_
  refine ev_ishl dX6_give_14 ?_
  refine ev_ior dX6_give_15 ?_
  obtain ⟨gd4, hf⟩ := gd_of hf
  refine ev_iast (kd_5_1 kl0) (inb_of gd4) dX6_give_16 ?_
  refine ev_iconst (v := 0) dX6_give_17 (by decide) ?_
  refine ev_istore_n (lv2 := [(3, .int (0 : Int32)), (0, .ref l0), (1, .int l1), (2, .int l2)]) dX6_give_18 rfl (by decide) rfl ?_
  obtain ⟨h8, e13, hf⟩ := bn1_of hf
  refine ev_sub [1, 2, 3, 0] rfl (lv2 := [(0, .ref l0), (1, .int l1), (2, .int l2), (3, .int (0 : Int32))]) ?_
  refine lp_X6_give_19 kl0 ?_ fu _ _ e13
  refine ev_aload_n (n := 0) dX6_give_49 rfl rfl ?_
  refine ev_iload_n (n := 1) dX6_give_50 rfl rfl ?_
  refine ev_iconst (v := 2) dX6_give_51 (by decide) ?_
  obtain ⟨v9, e10, hf⟩ := bn1_of hf
  refine ev_callVi (As := [.int l1, .int (2 : Int32)]) cal_X6_cellOf kl0 rfl (ev_X6_cellOf kl0 e10) (Nat.le_of_ble_eq_true rfl) rfl lk_719 (by decide) (by decide) (Nat.le_of_ble_eq_true rfl) dX6_give_52 rfl ?_
  obtain ⟨v11, e12, hf⟩ := bn1_of hf
  refine ev_callSi (As := [.int v9]) cal_X6_pieces (ev_X6_pieces e12) (Nat.le_of_ble_eq_true rfl) rfl lk_727 (by decide) (by decide) (Nat.le_of_ble_eq_true rfl) dX6_give_55 rfl ?_
  obtain ⟨rfl, rfl⟩ := Prod.mk.inj (Option.some.inj hf)
  exact ev_ireturn dX6_give_58 ⟨.int, rfl, rfl⟩
def f_X6_lowest_j9 (h : Hp)  : Option (Int32) := (some (1 : Int32))
set_option maxRecDepth 100000 in
set_option maxHeartbeats 4000000 in
theorem jn_X6_lowest_9 {g : Gl} {h : Hp}   {rv : Int32}    (hf : f_X6_lowest_j9 h = some rv) : Ev yX6_lowest cX6_lowest 1 (some .int) 0 0 g 9 [] [] h (some (.int rv)) h := by
  unfold f_X6_lowest_j9 at hf
  refine ev_iconst (v := 1) dX6_lowest_9 (by decide) ?_
  refine ev_goto (tgt := 14) dX6_lowest_10 (by decide) ?_
  obtain rfl := Option.some.inj hf
  exact ev_ireturn dX6_lowest_14 ⟨.int, rfl, rfl⟩
def f_X6_lowest (h : Hp) (l0 : Int32) : Option (Int32) := (if l0 = 0 then (f_X6_lowest_j9 h) else (if l0 = (3 : Int32) then (f_X6_lowest_j9 h) else (some (0 : Int32))))
set_option maxRecDepth 100000 in
set_option maxHeartbeats 4000000 in
theorem ev_X6_lowest {g : Gl} {h : Hp} {l0 : Int32} {rv : Int32}  (hf : f_X6_lowest h l0 = some rv) : Ev yX6_lowest cX6_lowest 1 (some .int) 0 0 g 0 [] [(0, .int l0)] h (some (.int rv)) h := by
  unfold f_X6_lowest at hf
  refine ev_iload_n (n := 0) dX6_lowest_0 rfl rfl ?_
  refine ev_if_eq (tgt := 9) dX6_lowest_1 (by decide) (fun c1 => ?_) (fun c1 => ?_)
  · replace hf := if_t c1 hf
    refine ev_sub [] rfl (lv2 := []) ?_
    exact jn_X6_lowest_9 hf
  · replace hf := if_f c1 hf
    refine ev_iload_n (n := 0) dX6_lowest_4 rfl rfl ?_
    refine ev_iconst (v := 3) dX6_lowest_5 (by decide) ?_
    refine ev_icmp_ne (tgt := 13) dX6_lowest_6 (by decide) (fun c1 => ?_) (fun c1 => ?_)
    · replace hf := if_f c1 hf
      refine ev_iconst (v := 0) dX6_lowest_13 (by decide) ?_
      obtain rfl := Option.some.inj hf
      exact ev_ireturn dX6_lowest_14 ⟨.int, rfl, rfl⟩
    · replace hf := if_t c1 hf
      refine ev_sub [] rfl (lv2 := []) ?_
      exact jn_X6_lowest_9 hf
def f_X6_highest (h : Hp) (l0 : Int32) : Option (Int32) := (if l0 = 0 then (some (4 : Int32)) else (if l0 = (2 : Int32) then (some (8 : Int32)) else (some (9 : Int32))))
set_option maxRecDepth 100000 in
set_option maxHeartbeats 4000000 in
theorem ev_X6_highest {g : Gl} {h : Hp} {l0 : Int32} {rv : Int32}  (hf : f_X6_highest h l0 = some rv) : Ev yX6_highest cX6_highest 1 (some .int) 0 0 g 0 [] [(0, .int l0)] h (some (.int rv)) h := by
  unfold f_X6_highest at hf
  refine ev_iload_n (n := 0) dX6_highest_0 rfl rfl ?_
  refine ev_if_ne (tgt := 8) dX6_highest_1 (by decide) (fun c1 => ?_) (fun c1 => ?_)
  · replace hf := if_f c1 hf
    refine ev_iload_n (n := 0) dX6_highest_8 rfl rfl ?_
    refine ev_iconst (v := 2) dX6_highest_9 (by decide) ?_
    refine ev_icmp_ne (tgt := 18) dX6_highest_10 (by decide) (fun c1 => ?_) (fun c1 => ?_)
    · replace hf := if_f c1 hf
      refine ev_bipush (v := 9) dX6_highest_18 (by decide) ?_
      obtain rfl := Option.some.inj hf
      exact ev_ireturn dX6_highest_20 ⟨.int, rfl, rfl⟩
    · replace hf := if_t c1 hf
      refine ev_bipush (v := 8) dX6_highest_13 (by decide) ?_
      refine ev_goto (tgt := 20) dX6_highest_15 (by decide) ?_
      obtain rfl := Option.some.inj hf
      exact ev_ireturn dX6_highest_20 ⟨.int, rfl, rfl⟩
  · replace hf := if_t c1 hf
    refine ev_iconst (v := 4) dX6_highest_4 (by decide) ?_
    refine ev_goto (tgt := 20) dX6_highest_5 (by decide) ?_
    obtain rfl := Option.some.inj hf
    exact ev_ireturn dX6_highest_20 ⟨.int, rfl, rfl⟩
def f_X6_canSet_j28 (h : Hp)  : Option (Int32) := (some (-2 : Int32))
set_option maxRecDepth 100000 in
set_option maxHeartbeats 4000000 in
theorem jn_X6_canSet_28 {g : Gl} {h : Hp}   {rv : Int32}    (hf : f_X6_canSet_j28 h = some rv) : Ev yX6_canSet cX6_canSet 2 (some .int) 1 22 g 28 [] [] h (some (.int rv)) h := by
  unfold f_X6_canSet_j28 at hf
  refine ev_bipush (v := -2) dX6_canSet_28 (by decide) ?_
  obtain rfl := Option.some.inj hf
  exact ev_ireturn dX6_canSet_30 ⟨.int, rfl, rfl⟩
def f_X6_canSet (h : Hp) (l0 : Int32) (l1 : Int32) : Option (Int32) := (bn1 (f_X6_in h l0 (0 : Int32) (3 : Int32)) (fun v1 => (if v1 = 0 then (f_X6_canSet_j28 h) else (bn1 (f_X6_lowest h l0) (fun v3 => (bn1 (f_X6_highest h l0) (fun v5 => (bn1 (f_X6_in h l1 v3 v5) (fun v7 => (if v7 = 0 then (f_X6_canSet_j28 h) else (some (0 : Int32))))))))))))
set_option maxRecDepth 100000 in
set_option maxHeartbeats 4000000 in
theorem ev_X6_canSet {g : Gl} {h : Hp} {l0 : Int32} {l1 : Int32} {rv : Int32}  (hf : f_X6_canSet h l0 l1 = some rv) : Ev yX6_canSet cX6_canSet 2 (some .int) 1 22 g 0 [] [(0, .int l0), (1, .int l1)] h (some (.int rv)) h := by
  unfold f_X6_canSet at hf
  refine ev_iload_n (n := 0) dX6_canSet_0 rfl rfl ?_
  refine ev_iconst (v := 0) dX6_canSet_1 (by decide) ?_
  refine ev_iconst (v := 3) dX6_canSet_2 (by decide) ?_
  obtain ⟨v1, e2, hf⟩ := bn1_of hf
  refine ev_callSi (As := [.int l0, .int (0 : Int32), .int (3 : Int32)]) cal_X6_in (ev_X6_in e2) (Nat.le_of_ble_eq_true rfl) rfl lk_669 (by decide) (by decide) (Nat.le_of_ble_eq_true rfl) dX6_canSet_3 rfl ?_
  refine ev_if_eq (tgt := 28) dX6_canSet_6 (by decide) (fun c1 => ?_) (fun c1 => ?_)
  · replace hf := if_t c1 hf
    refine ev_sub [] rfl (lv2 := []) ?_
    exact jn_X6_canSet_28 hf
  · replace hf := if_f c1 hf
    refine ev_iload_n (n := 1) dX6_canSet_9 rfl rfl ?_
    refine ev_iload_n (n := 0) dX6_canSet_10 rfl rfl ?_
    obtain ⟨v3, e4, hf⟩ := bn1_of hf
    refine ev_callSi (As := [.int l0]) cal_X6_lowest (ev_X6_lowest e4) (Nat.le_of_ble_eq_true rfl) rfl lk_737 (by decide) (by decide) (Nat.le_of_ble_eq_true rfl) dX6_canSet_11 rfl ?_
    refine ev_iload_n (n := 0) dX6_canSet_14 rfl rfl ?_
    obtain ⟨v5, e6, hf⟩ := bn1_of hf
    refine ev_callSi (As := [.int l0]) cal_X6_highest (ev_X6_highest e6) (Nat.le_of_ble_eq_true rfl) rfl lk_740 (by decide) (by decide) (Nat.le_of_ble_eq_true rfl) dX6_canSet_15 rfl ?_
    obtain ⟨v7, e8, hf⟩ := bn1_of hf
    refine ev_callSi (As := [.int l1, .int v3, .int v5]) cal_X6_in (ev_X6_in e8) (Nat.le_of_ble_eq_true rfl) rfl lk_669 (by decide) (by decide) (Nat.le_of_ble_eq_true rfl) dX6_canSet_18 rfl ?_
    refine ev_if_eq (tgt := 28) dX6_canSet_21 (by decide) (fun c1 => ?_) (fun c1 => ?_)
    · replace hf := if_t c1 hf
      refine ev_sub [] rfl (lv2 := []) ?_
      exact jn_X6_canSet_28 hf
    · replace hf := if_f c1 hf
      refine ev_iconst (v := 0) dX6_canSet_24 (by decide) ?_
      refine ev_goto (tgt := 30) dX6_canSet_25 (by decide) ?_
      obtain rfl := Option.some.inj hf
      exact ev_ireturn dX6_canSet_30 ⟨.int, rfl, rfl⟩
def f_X6_set (h : Hp) (l0 : Nat) (l1 : Int32) (l2 : Int32) : Option (Int32 × Hp) := (if inb ((8 : Int32) + l1) 320 = true then (if inb ((8 : Int32) + l1) 320 = true then (some ((hI h (l0 + 2) ((8 : Int32) + l1).toNatClampNeg), (sI h (l0 + 2) ((8 : Int32) + l1).toNatClampNeg l2))) else none) else none)
set_option maxRecDepth 100000 in
set_option maxHeartbeats 4000000 in
theorem ev_X6_set {g : Gl} {h : Hp} {l0 : Nat} {l1 : Int32} {l2 : Int32} {rv : Int32} {h2 : Hp} (kl0 : KD g.1 l0 5 0) (hf : f_X6_set h l0 l1 l2 = some (rv, h2)) : Ev yX6_set cX6_set 4 (some .int) 0 0 g 0 [] [(0, .ref l0), (1, .int l1), (2, .int l2)] h (some (.int rv)) h2 := by
  unfold f_X6_set at hf
  refine ev_aload_n (n := 0) dX6_set_0 rfl rfl ?_
  refine ev_get (v := .ref (l0 + 2)) 1 kl0 rfl (by decide) rfl lk_607 dX6_set_1 ?_
  refine ev_bipush (v := 8) dX6_set_4 (by decide) ?_
  refine ev_iload_n (n := 1) dX6_set_6 rfl rfl ?_
  refine ev_iadd dX6_set_7 ?_
  obtain ⟨gd1, hf⟩ := gd_of hf
  refine ev_iald (kd_5_1 kl0) (inb_of gd1) dX6_set_8 ?_
  refine ev_istore_n (lv2 := [(3, .int (hI h (l0 + 2) ((8 : Int32) + l1).toNatClampNeg)), (0, .ref l0), (1, .int l1), (2, .int l2)]) dX6_set_9 rfl (by decide) rfl ?_
  refine ev_aload_n (n := 1) dX6_set_10 rfl rfl ?_
  refine ev_get (v := .ref (l0 + 2)) 1 kl0 rfl (by decide) rfl lk_607 dX6_set_11 ?_
  refine ev_bipush (v := 8) dX6_set_14 (by decide) ?_
  refine ev_iload_n (n := 2) dX6_set_16 rfl rfl ?_
  refine ev_iadd dX6_set_17 ?_
  refine ev_iload_n (n := 3) dX6_set_18 rfl rfl ?_
  obtain ⟨gd2, hf⟩ := gd_of hf
  refine ev_iast (kd_5_1 kl0) (inb_of gd2) dX6_set_19 ?_
  refine ev_iload_n (n := 0) dX6_set_20 rfl rfl ?_
  obtain ⟨rfl, rfl⟩ := Prod.mk.inj (Option.some.inj hf)
  exact ev_ireturn dX6_set_21 ⟨.int, rfl, rfl⟩
def f_X6_goRounds_l2 (l0 : Nat) (l1 : Int32) : Nat → Int32 → Hp → Option (Hp)
  | 0, _, _ => none
  | fu1 + 1, l2, h => (if l1 ≤ l2 then (some h) else (bn1 (f_X6_round h l0) (fun h1 => (f_X6_goRounds_l2 l0 l1 fu1 (l2 + 1) h1))))
theorem f_X6_goRounds_l2_s (l0 : Nat) (l1 : Int32) (fu1 : Nat) (l2 : Int32) (h : Hp) : f_X6_goRounds_l2 l0 l1 (fu1 + 1) l2 h = (if l1 ≤ l2 then (some h) else (bn1 (f_X6_round h l0) (fun h1 => (f_X6_goRounds_l2 l0 l1 fu1 (l2 + 1) h1)))) := rfl
theorem f_X6_goRounds_l2_0 (l0 : Nat) (l1 : Int32) (l2 : Int32) (h : Hp) : f_X6_goRounds_l2 l0 l1 0 l2 h = none := rfl
set_option maxRecDepth 100000 in
set_option maxHeartbeats 4000000 in
theorem lp_X6_goRounds_2 {g : Gl} {l0 : Nat} {l1 : Int32} {r : Option Value} {h2 : Hp} {h3 : Hp} (kl0 : KD g.1 l0 5 0) (hx0 : Ev yX6_goRounds cX6_goRounds 3 (some .int) 8 181 g 17 [] [(0, .ref l0)] h3 r h2) : ∀ (fu1 : Nat) (l2 : Int32) (h : Hp), f_X6_goRounds_l2 l0 l1 fu1 l2 h = some h3 → Ev yX6_goRounds cX6_goRounds 3 (some .int) 8 181 g 2 [] [(0, .ref l0), (1, .int l1), (2, .int l2)] h r h2 := by
  intro fu1
  induction fu1 with
  | zero =>
    intro l2 h hf
    cases hf
  | succ fu1 ih =>
    intro l2 h hf
    rw [f_X6_goRounds_l2_s] at hf
    have hk := ih
    refine ev_iload_n (n := 2) dX6_goRounds_2 rfl rfl ?_
    refine ev_iload_n (n := 1) dX6_goRounds_3 rfl rfl ?_
    refine ev_icmp_ge (tgt := 17) dX6_goRounds_4 (by decide) (fun c1 => ?_) (fun c1 => ?_)
    · replace hf := if_t c1 hf
      refine ev_sub [0] rfl (lv2 := [(0, .ref l0)]) ?_
      obtain rfl := Option.some.inj hf
      exact hx0
    · replace hf := if_f c1 hf
      refine ev_aload_n (n := 0) dX6_goRounds_7 rfl rfl ?_
      obtain ⟨h1, e2, hf⟩ := bn1_of hf
      refine ev_callVv (As := []) cal_X6_round kl0 rfl (ev_X6_round kl0 e2) (Nat.le_of_ble_eq_true rfl) rfl lk_755 (by decide) (by decide) (Nat.le_of_ble_eq_true rfl) dX6_goRounds_8 rfl ?_
      refine ev_iinc (z := 2) (v := (l2 + 1)) (lv2 := [(2, .int (l2 + 1)), (0, .ref l0), (1, .int l1)]) dX6_goRounds_11 rfl rfl (by decide) rfl ?_
      refine ev_goto (tgt := 2) dX6_goRounds_14 (by decide) ?_
      refine ev_sub [1, 2, 0] rfl (lv2 := [(0, .ref l0), (1, .int l1), (2, .int (l2 + 1))]) ?_
      exact hk _ _ hf
def f_X6_goRounds (h : Hp) (l0 : Nat) (l1 : Int32) : Option (Int32 × Hp) := (bn1 (f_X6_goRounds_l2 l0 l1 fu (0 : Int32) h) (fun h3 => (some ((hI h3 (l0 + 2) (3 : Int32).toNatClampNeg), h3))))
set_option maxRecDepth 100000 in
set_option maxHeartbeats 4000000 in
theorem ev_X6_goRounds {g : Gl} {h : Hp} {l0 : Nat} {l1 : Int32} {rv : Int32} {h2 : Hp} (kl0 : KD g.1 l0 5 0) (hf : f_X6_goRounds h l0 l1 = some (rv, h2)) : Ev yX6_goRounds cX6_goRounds 3 (some .int) 8 181 g 0 [] [(0, .ref l0), (1, .int l1)] h (some (.int rv)) h2 := by
  unfold f_X6_goRounds at hf
  refine ev_iconst (v := 0) dX6_goRounds_0 (by decide) ?_
  refine ev_istore_n (lv2 := [(2, .int (0 : Int32)), (0, .ref l0), (1, .int l1)]) dX6_goRounds_1 rfl (by decide) rfl ?_
  obtain ⟨h3, e5, hf⟩ := bn1_of hf
  refine ev_sub [1, 2, 0] rfl (lv2 := [(0, .ref l0), (1, .int l1), (2, .int (0 : Int32))]) ?_
  refine lp_X6_goRounds_2 kl0 ?_ fu _ _ e5
  refine ev_aload_n (n := 0) dX6_goRounds_17 rfl rfl ?_
  refine ev_get (v := .ref (l0 + 2)) 1 kl0 rfl (by decide) rfl lk_607 dX6_goRounds_18 ?_
  refine ev_iconst (v := 3) dX6_goRounds_21 (by decide) ?_
  refine ev_iald (kd_5_1 kl0) (by unfold vp_in; decide) dX6_goRounds_22 ?_
  obtain ⟨rfl, rfl⟩ := Prod.mk.inj (Option.some.inj hf)
  exact ev_ireturn dX6_goRounds_23 ⟨.int, rfl, rfl⟩
def f_X6_begins_j19 (h : Hp) (l0 : Nat) : Option (Int32 × Hp) := (bn2 (f_X6_bad h l0) (fun v3 h4 => (some (v3, h4))))
set_option maxRecDepth 100000 in
set_option maxHeartbeats 4000000 in
theorem jn_X6_begins_19 {g : Gl} {h : Hp} {l0 : Nat}  {rv : Int32} {h2 : Hp} (kl0 : KD g.1 l0 5 0)   (hf : f_X6_begins_j19 h l0 = some (rv, h2)) : Ev yX6_begins cX6_begins 4 (some .int) 1 23 g 19 [] [(0, .ref l0)] h (some (.int rv)) h2 := by
  unfold f_X6_begins_j19 at hf
  refine ev_aload_n (n := 0) dX6_begins_19 rfl rfl ?_
  obtain ⟨v3, h4, e5, hf⟩ := bn2_of hf
  refine ev_callVi (As := []) cal_X6_bad kl0 rfl (ev_X6_bad kl0 e5) (Nat.le_of_ble_eq_true rfl) rfl lk_672 (by decide) (by decide) (Nat.le_of_ble_eq_true rfl) dX6_begins_20 rfl ?_
  obtain ⟨rfl, rfl⟩ := Prod.mk.inj (Option.some.inj hf)
  exact ev_ireturn dX6_begins_23 ⟨.int, rfl, rfl⟩
def f_X6_begins (h : Hp) (l0 : Nat) (l1 : Int32) (l2 : Int32) : Option (Int32 × Hp) := (bn1 (f_X6_in h l1 (1 : Int32) (8 : Int32)) (fun v1 => (if v1 = 0 then (f_X6_begins_j19 h l0) else (bn1 (f_X6_in h l2 (1 : Int32) (4 : Int32)) (fun v6 => (if v6 = 0 then (f_X6_begins_j19 h l0) else (bn1 (f_X6_leavesState h l0) (fun h8 => (bn1 (f_X6_lays h8 l0 l1 l2) (fun h11 => (some ((hI h8 (l0 + 2) (0 : Int32).toNatClampNeg), h11))))))))))))
set_option maxRecDepth 100000 in
set_option maxHeartbeats 4000000 in
theorem ev_X6_begins {g : Gl} {h : Hp} {l0 : Nat} {l1 : Int32} {l2 : Int32} {rv : Int32} {h2 : Hp} (kl0 : KD g.1 l0 5 0) (hf : f_X6_begins h l0 l1 l2 = some (rv, h2)) : Ev yX6_begins cX6_begins 4 (some .int) 1 23 g 0 [] [(0, .ref l0), (1, .int l1), (2, .int l2)] h (some (.int rv)) h2 := by
  unfold f_X6_begins at hf
  refine ev_iload_n (n := 1) dX6_begins_0 rfl rfl ?_
  refine ev_iconst (v := 1) dX6_begins_1 (by decide) ?_
  refine ev_bipush (v := 8) dX6_begins_2 (by decide) ?_
  obtain ⟨v1, e2, hf⟩ := bn1_of hf
  refine ev_callSi (As := [.int l1, .int (1 : Int32), .int (8 : Int32)]) cal_X6_in (ev_X6_in e2) (Nat.le_of_ble_eq_true rfl) rfl lk_669 (by decide) (by decide) (Nat.le_of_ble_eq_true rfl) dX6_begins_4 rfl ?_
  refine ev_if_eq (tgt := 19) dX6_begins_7 (by decide) (fun c1 => ?_) (fun c1 => ?_)
  · replace hf := if_t c1 hf
    refine ev_sub [0] rfl (lv2 := [(0, .ref l0)]) ?_
    exact jn_X6_begins_19 kl0 hf
  · replace hf := if_f c1 hf
    refine ev_iload_n (n := 2) dX6_begins_10 rfl rfl ?_
    refine ev_iconst (v := 1) dX6_begins_11 (by decide) ?_
    refine ev_iconst (v := 4) dX6_begins_12 (by decide) ?_
    obtain ⟨v6, e7, hf⟩ := bn1_of hf
    refine ev_callSi (As := [.int l2, .int (1 : Int32), .int (4 : Int32)]) cal_X6_in (ev_X6_in e7) (Nat.le_of_ble_eq_true rfl) rfl lk_669 (by decide) (by decide) (Nat.le_of_ble_eq_true rfl) dX6_begins_13 rfl ?_
    refine ev_if_ne (tgt := 24) dX6_begins_16 (by decide) (fun c1 => ?_) (fun c1 => ?_)
    · replace hf := if_f c1 hf
      refine ev_aload_n (n := 0) dX6_begins_24 rfl rfl ?_
      obtain ⟨h8, e9, hf⟩ := bn1_of hf
      refine ev_callVv (As := []) cal_X6_leavesState kl0 rfl (ev_X6_leavesState kl0 e9) (Nat.le_of_ble_eq_true rfl) rfl lk_676 (by decide) (by decide) (Nat.le_of_ble_eq_true rfl) dX6_begins_25 rfl ?_
      refine ev_aload_n (n := 0) dX6_begins_28 rfl rfl ?_
      refine ev_get (v := .ref (l0 + 2)) 1 kl0 rfl (by decide) rfl lk_607 dX6_begins_29 ?_
      refine ev_iconst (v := 0) dX6_begins_32 (by decide) ?_
      refine ev_iald (kd_5_1 kl0) (by unfold vp_in; decide) dX6_begins_33 ?_
      refine ev_istore_n (lv2 := [(3, .int (hI h8 (l0 + 2) (0 : Int32).toNatClampNeg)), (0, .ref l0), (1, .int l1), (2, .int l2)]) dX6_begins_34 rfl (by decide) rfl ?_
      refine ev_aload_n (n := 1) dX6_begins_35 rfl rfl ?_
      refine ev_iload_n (n := 2) dX6_begins_36 rfl rfl ?_
      refine ev_iload_n (n := 3) dX6_begins_37 rfl rfl ?_
      obtain ⟨h11, e12, hf⟩ := bn1_of hf
      refine ev_callVv (As := [.int l1, .int l2]) cal_X6_lays kl0 rfl (ev_X6_lays kl0 e12) (Nat.le_of_ble_eq_true rfl) rfl lk_602 (by decide) (by decide) (Nat.le_of_ble_eq_true rfl) dX6_begins_38 rfl ?_
      refine ev_iload_n (n := 0) dX6_begins_41 rfl rfl ?_
      obtain ⟨rfl, rfl⟩ := Prod.mk.inj (Option.some.inj hf)
      exact ev_ireturn dX6_begins_42 ⟨.int, rfl, rfl⟩
    · replace hf := if_t c1 hf
      refine ev_sub [0] rfl (lv2 := [(0, .ref l0)]) ?_
      exact jn_X6_begins_19 kl0 hf
def f_X6_peer (h : Hp) (l0 : Nat) (l1 : Int32) (l2 : Int32) : Option (Int32 × Hp) := (bn1 (f_X6_canPeer h l0 l1 l2) (fun v1 => (if 0 ≤ v1 then (bn1 (f_X6_leavesState h l0) (fun h3 => (bn2 (f_X6_peerComes h3 l0 l1 l2) (fun v5 h6 => (some (v5, h6)))))) else (bn2 (f_X6_counted h l0 v1) (fun v8 h9 => (some (v8, h9)))))))
set_option maxRecDepth 100000 in
set_option maxHeartbeats 4000000 in
theorem ev_X6_peer {g : Gl} {h : Hp} {l0 : Nat} {l1 : Int32} {l2 : Int32} {rv : Int32} {h2 : Hp} (kl0 : KD g.1 l0 5 0) (hf : f_X6_peer h l0 l1 l2 = some (rv, h2)) : Ev yX6_peer cX6_peer 4 (some .int) 2 44 g 0 [] [(0, .ref l0), (1, .int l1), (2, .int l2)] h (some (.int rv)) h2 := by
  unfold f_X6_peer at hf
  refine ev_aload_n (n := 0) dX6_peer_0 rfl rfl ?_
  refine ev_iload_n (n := 1) dX6_peer_1 rfl rfl ?_
  refine ev_iload_n (n := 2) dX6_peer_2 rfl rfl ?_
  obtain ⟨v1, e2, hf⟩ := bn1_of hf
  refine ev_callVi (As := [.int l1, .int l2]) cal_X6_canPeer kl0 rfl (ev_X6_canPeer kl0 e2) (Nat.le_of_ble_eq_true rfl) rfl lk_684 (by decide) (by decide) (Nat.le_of_ble_eq_true rfl) dX6_peer_3 rfl ?_
  refine ev_istore_n (lv2 := [(3, .int v1), (0, .ref l0), (1, .int l1), (2, .int l2)]) dX6_peer_6 rfl (by decide) rfl ?_
  refine ev_iload_n (n := 0) dX6_peer_7 rfl rfl ?_
  refine ev_if_ge (tgt := 17) dX6_peer_8 (by decide) (fun c1 => ?_) (fun c1 => ?_)
  · replace hf := if_t c1 hf
    refine ev_aload_n (n := 1) dX6_peer_17 rfl rfl ?_
    obtain ⟨h3, e4, hf⟩ := bn1_of hf
    refine ev_callVv (As := []) cal_X6_leavesState kl0 rfl (ev_X6_leavesState kl0 e4) (Nat.le_of_ble_eq_true rfl) rfl lk_676 (by decide) (by decide) (Nat.le_of_ble_eq_true rfl) dX6_peer_18 rfl ?_
    refine ev_aload_n (n := 1) dX6_peer_21 rfl rfl ?_
    refine ev_iload_n (n := 2) dX6_peer_22 rfl rfl ?_
    refine ev_iload_n (n := 3) dX6_peer_23 rfl rfl ?_
    obtain ⟨v5, h6, e7, hf⟩ := bn2_of hf
    refine ev_callVi (As := [.int l1, .int l2]) cal_X6_peerComes kl0 rfl (ev_X6_peerComes kl0 e7) (Nat.le_of_ble_eq_true rfl) rfl lk_696 (by decide) (by decide) (Nat.le_of_ble_eq_true rfl) dX6_peer_24 rfl ?_
    obtain ⟨rfl, rfl⟩ := Prod.mk.inj (Option.some.inj hf)
    exact ev_ireturn dX6_peer_27 ⟨.int, rfl, rfl⟩
  · replace hf := if_f c1 hf
    refine ev_aload_n (n := 1) dX6_peer_11 rfl rfl ?_
    refine ev_iload_n (n := 0) dX6_peer_12 rfl rfl ?_
    obtain ⟨v8, h9, e10, hf⟩ := bn2_of hf
    refine ev_callVi (As := [.int v1]) cal_X6_counted kl0 rfl (ev_X6_counted kl0 e10) (Nat.le_of_ble_eq_true rfl) rfl lk_688 (by decide) (by decide) (Nat.le_of_ble_eq_true rfl) dX6_peer_13 rfl ?_
    obtain ⟨rfl, rfl⟩ := Prod.mk.inj (Option.some.inj hf)
    exact ev_ireturn dX6_peer_16 ⟨.int, rfl, rfl⟩
def f_X6_gives (h : Hp) (l0 : Nat) (l1 : Int32) (l2 : Int32) : Option (Int32 × Hp) := (bn1 (f_X6_canGive h l0 l1 l2) (fun v1 => (if 0 ≤ v1 then (bn1 (f_X6_leavesState h l0) (fun h3 => (bn2 (f_X6_give h3 l0 l1 l2) (fun v5 h6 => (some (v5, h6)))))) else (bn2 (f_X6_counted h l0 v1) (fun v8 h9 => (some (v8, h9)))))))
set_option maxRecDepth 100000 in
set_option maxHeartbeats 4000000 in
theorem ev_X6_gives {g : Gl} {h : Hp} {l0 : Nat} {l1 : Int32} {l2 : Int32} {rv : Int32} {h2 : Hp} (kl0 : KD g.1 l0 5 0) (hf : f_X6_gives h l0 l1 l2 = some (rv, h2)) : Ev yX6_gives cX6_gives 4 (some .int) 4 86 g 0 [] [(0, .ref l0), (1, .int l1), (2, .int l2)] h (some (.int rv)) h2 := by
  unfold f_X6_gives at hf
  refine ev_aload_n (n := 0) dX6_gives_0 rfl rfl ?_
  refine ev_iload_n (n := 1) dX6_gives_1 rfl rfl ?_
  refine ev_iload_n (n := 2) dX6_gives_2 rfl rfl ?_
  obtain ⟨v1, e2, hf⟩ := bn1_of hf
  refine ev_callVi (As := [.int l1, .int l2]) cal_X6_canGive kl0 rfl (ev_X6_canGive kl0 e2) (Nat.le_of_ble_eq_true rfl) rfl lk_707 (by decide) (by decide) (Nat.le_of_ble_eq_true rfl) dX6_gives_3 rfl ?_
  refine ev_istore_n (lv2 := [(3, .int v1), (0, .ref l0), (1, .int l1), (2, .int l2)]) dX6_gives_6 rfl (by decide) rfl ?_
  refine ev_iload_n (n := 0) dX6_gives_7 rfl rfl ?_
  refine ev_if_ge (tgt := 17) dX6_gives_8 (by decide) (fun c1 => ?_) (fun c1 => ?_)
  · replace hf := if_t c1 hf
    refine ev_aload_n (n := 1) dX6_gives_17 rfl rfl ?_
    obtain ⟨h3, e4, hf⟩ := bn1_of hf
    refine ev_callVv (As := []) cal_X6_leavesState kl0 rfl (ev_X6_leavesState kl0 e4) (Nat.le_of_ble_eq_true rfl) rfl lk_676 (by decide) (by decide) (Nat.le_of_ble_eq_true rfl) dX6_gives_18 rfl ?_
    refine ev_aload_n (n := 1) dX6_gives_21 rfl rfl ?_
    refine ev_iload_n (n := 2) dX6_gives_22 rfl rfl ?_
    refine ev_iload_n (n := 3) dX6_gives_23 rfl rfl ?_
    obtain ⟨v5, h6, e7, hf⟩ := bn2_of hf
    refine ev_callVi (As := [.int l1, .int l2]) cal_X6_give kl0 rfl (ev_X6_give kl0 e7) (Nat.le_of_ble_eq_true rfl) rfl lk_723 (by decide) (by decide) (Nat.le_of_ble_eq_true rfl) dX6_gives_24 rfl ?_
    obtain ⟨rfl, rfl⟩ := Prod.mk.inj (Option.some.inj hf)
    exact ev_ireturn dX6_gives_27 ⟨.int, rfl, rfl⟩
  · replace hf := if_f c1 hf
    refine ev_aload_n (n := 1) dX6_gives_11 rfl rfl ?_
    refine ev_iload_n (n := 0) dX6_gives_12 rfl rfl ?_
    obtain ⟨v8, h9, e10, hf⟩ := bn2_of hf
    refine ev_callVi (As := [.int v1]) cal_X6_counted kl0 rfl (ev_X6_counted kl0 e10) (Nat.le_of_ble_eq_true rfl) rfl lk_688 (by decide) (by decide) (Nat.le_of_ble_eq_true rfl) dX6_gives_13 rfl ?_
    obtain ⟨rfl, rfl⟩ := Prod.mk.inj (Option.some.inj hf)
    exact ev_ireturn dX6_gives_16 ⟨.int, rfl, rfl⟩
def f_X6_sets (h : Hp) (l0 : Nat) (l1 : Int32) (l2 : Int32) : Option (Int32 × Hp) := (bn1 (f_X6_canSet h l1 l2) (fun v1 => (if 0 ≤ v1 then (bn1 (f_X6_leavesState h l0) (fun h3 => (bn2 (f_X6_set h3 l0 l1 l2) (fun v5 h6 => (some (v5, h6)))))) else (bn2 (f_X6_bad h l0) (fun v8 h9 => (some (v8, h9)))))))
set_option maxRecDepth 100000 in
set_option maxHeartbeats 4000000 in
theorem ev_X6_sets {g : Gl} {h : Hp} {l0 : Nat} {l1 : Int32} {l2 : Int32} {rv : Int32} {h2 : Hp} (kl0 : KD g.1 l0 5 0) (hf : f_X6_sets h l0 l1 l2 = some (rv, h2)) : Ev yX6_sets cX6_sets 3 (some .int) 2 43 g 0 [] [(0, .ref l0), (1, .int l1), (2, .int l2)] h (some (.int rv)) h2 := by
  unfold f_X6_sets at hf
  refine ev_iload_n (n := 1) dX6_sets_0 rfl rfl ?_
  refine ev_iload_n (n := 2) dX6_sets_1 rfl rfl ?_
  obtain ⟨v1, e2, hf⟩ := bn1_of hf
  refine ev_callSi (As := [.int l1, .int l2]) cal_X6_canSet (ev_X6_canSet e2) (Nat.le_of_ble_eq_true rfl) rfl lk_734 (by decide) (by decide) (Nat.le_of_ble_eq_true rfl) dX6_sets_2 rfl ?_
  refine ev_if_ge (tgt := 13) dX6_sets_5 (by decide) (fun c1 => ?_) (fun c1 => ?_)
  · replace hf := if_t c1 hf
    refine ev_aload_n (n := 0) dX6_sets_13 rfl rfl ?_
    obtain ⟨h3, e4, hf⟩ := bn1_of hf
    refine ev_callVv (As := []) cal_X6_leavesState kl0 rfl (ev_X6_leavesState kl0 e4) (Nat.le_of_ble_eq_true rfl) rfl lk_676 (by decide) (by decide) (Nat.le_of_ble_eq_true rfl) dX6_sets_14 rfl ?_
    refine ev_aload_n (n := 0) dX6_sets_17 rfl rfl ?_
    refine ev_iload_n (n := 1) dX6_sets_18 rfl rfl ?_
    refine ev_iload_n (n := 2) dX6_sets_19 rfl rfl ?_
    obtain ⟨v5, h6, e7, hf⟩ := bn2_of hf
    refine ev_callVi (As := [.int l1, .int l2]) cal_X6_set kl0 rfl (ev_X6_set kl0 e7) (Nat.le_of_ble_eq_true rfl) rfl lk_743 (by decide) (by decide) (Nat.le_of_ble_eq_true rfl) dX6_sets_20 rfl ?_
    obtain ⟨rfl, rfl⟩ := Prod.mk.inj (Option.some.inj hf)
    exact ev_ireturn dX6_sets_23 ⟨.int, rfl, rfl⟩
  · replace hf := if_f c1 hf
    refine ev_aload_n (n := 0) dX6_sets_8 rfl rfl ?_
    obtain ⟨v8, h9, e10, hf⟩ := bn2_of hf
    refine ev_callVi (As := []) cal_X6_bad kl0 rfl (ev_X6_bad kl0 e10) (Nat.le_of_ble_eq_true rfl) rfl lk_672 (by decide) (by decide) (Nat.le_of_ble_eq_true rfl) dX6_sets_9 rfl ?_
    obtain ⟨rfl, rfl⟩ := Prod.mk.inj (Option.some.inj hf)
    exact ev_ireturn dX6_sets_12 ⟨.int, rfl, rfl⟩
def f_X6_rounds (h : Hp) (l0 : Nat) (l1 : Int32) : Option (Int32 × Hp) := (bn1 (f_X6_in h l1 (1 : Int32) (30 : Int32)) (fun v1 => (if v1 = 0 then (bn2 (f_X6_bad h l0) (fun v8 h9 => (some (v8, h9)))) else (bn1 (f_X6_leavesState h l0) (fun h3 => (bn2 (f_X6_goRounds h3 l0 l1) (fun v5 h6 => (some (v5, h6)))))))))
set_option maxRecDepth 100000 in
set_option maxHeartbeats 4000000 in
theorem ev_X6_rounds {g : Gl} {h : Hp} {l0 : Nat} {l1 : Int32} {rv : Int32} {h2 : Hp} (kl0 : KD g.1 l0 5 0) (hf : f_X6_rounds h l0 l1 = some (rv, h2)) : Ev yX6_rounds cX6_rounds 2 (some .int) 9 203 g 0 [] [(0, .ref l0), (1, .int l1)] h (some (.int rv)) h2 := by
  unfold f_X6_rounds at hf
  refine ev_iload_n (n := 1) dX6_rounds_0 rfl rfl ?_
  refine ev_iconst (v := 1) dX6_rounds_1 (by decide) ?_
  refine ev_bipush (v := 30) dX6_rounds_2 (by decide) ?_
  obtain ⟨v1, e2, hf⟩ := bn1_of hf
  refine ev_callSi (As := [.int l1, .int (1 : Int32), .int (30 : Int32)]) cal_X6_in (ev_X6_in e2) (Nat.le_of_ble_eq_true rfl) rfl lk_669 (by decide) (by decide) (Nat.le_of_ble_eq_true rfl) dX6_rounds_4 rfl ?_
  refine ev_if_ne (tgt := 15) dX6_rounds_7 (by decide) (fun c1 => ?_) (fun c1 => ?_)
  · replace hf := if_f c1 hf
    refine ev_aload_n (n := 0) dX6_rounds_15 rfl rfl ?_
    obtain ⟨h3, e4, hf⟩ := bn1_of hf
    refine ev_callVv (As := []) cal_X6_leavesState kl0 rfl (ev_X6_leavesState kl0 e4) (Nat.le_of_ble_eq_true rfl) rfl lk_676 (by decide) (by decide) (Nat.le_of_ble_eq_true rfl) dX6_rounds_16 rfl ?_
    refine ev_aload_n (n := 0) dX6_rounds_19 rfl rfl ?_
    refine ev_iload_n (n := 1) dX6_rounds_20 rfl rfl ?_
    obtain ⟨v5, h6, e7, hf⟩ := bn2_of hf
    refine ev_callVi (As := [.int l1]) cal_X6_goRounds kl0 rfl (ev_X6_goRounds kl0 e7) (Nat.le_of_ble_eq_true rfl) rfl lk_751 (by decide) (by decide) (Nat.le_of_ble_eq_true rfl) dX6_rounds_21 rfl ?_
    obtain ⟨rfl, rfl⟩ := Prod.mk.inj (Option.some.inj hf)
    exact ev_ireturn dX6_rounds_24 ⟨.int, rfl, rfl⟩
  · replace hf := if_t c1 hf
    refine ev_aload_n (n := 0) dX6_rounds_10 rfl rfl ?_
    obtain ⟨v8, h9, e10, hf⟩ := bn2_of hf
    refine ev_callVi (As := []) cal_X6_bad kl0 rfl (ev_X6_bad kl0 e10) (Nat.le_of_ble_eq_true rfl) rfl lk_672 (by decide) (by decide) (Nat.le_of_ble_eq_true rfl) dX6_rounds_11 rfl ?_
    obtain ⟨rfl, rfl⟩ := Prod.mk.inj (Option.some.inj hf)
    exact ev_ireturn dX6_rounds_14 ⟨.int, rfl, rfl⟩
def f_X6_finishes_l33 (l0 : Nat) (l1 : Int32) : Nat → Int32 → Hp → Option (Int32 × Hp)
  | 0, _, _ => none
  | fu1 + 1, l2, h => (if l1 ≤ l2 then (some (l2, h)) else (bn1 (f_X6_areDone h l0) (fun v7 => (if v7 = 0 then (bn1 (f_X6_round h l0) (fun h9 => (f_X6_finishes_l33 l0 l1 fu1 (l2 + 1) h9))) else (some (l2, h))))))
theorem f_X6_finishes_l33_s (l0 : Nat) (l1 : Int32) (fu1 : Nat) (l2 : Int32) (h : Hp) : f_X6_finishes_l33 l0 l1 (fu1 + 1) l2 h = (if l1 ≤ l2 then (some (l2, h)) else (bn1 (f_X6_areDone h l0) (fun v7 => (if v7 = 0 then (bn1 (f_X6_round h l0) (fun h9 => (f_X6_finishes_l33 l0 l1 fu1 (l2 + 1) h9))) else (some (l2, h)))))) := rfl
theorem f_X6_finishes_l33_0 (l0 : Nat) (l1 : Int32) (l2 : Int32) (h : Hp) : f_X6_finishes_l33 l0 l1 0 l2 h = none := rfl
set_option maxRecDepth 100000 in
set_option maxHeartbeats 4000000 in
theorem lp_X6_finishes_33 {g : Gl} {l0 : Nat} {l1 : Int32} {r : Option Value} {h2 : Hp} {o2 : Int32} {h3 : Hp} (kl0 : KD g.1 l0 5 0) (hx0 : Ev yX6_finishes cX6_finishes 3 (some .int) 8 181 g 55 [] [(0, .ref l0), (2, .int o2)] h3 r h2) : ∀ (fu1 : Nat) (l2 : Int32) (h : Hp), f_X6_finishes_l33 l0 l1 fu1 l2 h = some (o2, h3) → Ev yX6_finishes cX6_finishes 3 (some .int) 8 181 g 33 [] [(0, .ref l0), (1, .int l1), (2, .int l2)] h r h2 := by
  intro fu1
  induction fu1 with
  | zero =>
    intro l2 h hf
    cases hf
  | succ fu1 ih =>
    intro l2 h hf
    rw [f_X6_finishes_l33_s] at hf
    have hk := ih
    refine ev_iload_n (n := 2) dX6_finishes_33 rfl rfl ?_
    refine ev_iload_n (n := 1) dX6_finishes_34 rfl rfl ?_
    refine ev_icmp_ge (tgt := 55) dX6_finishes_35 (by decide) (fun c1 => ?_) (fun c1 => ?_)
    · replace hf := if_t c1 hf
      refine ev_sub [0, 2] rfl (lv2 := [(0, .ref l0), (2, .int l2)]) ?_
      obtain ⟨rfl, rfl⟩ := Prod.mk.inj (Option.some.inj hf)
      exact hx0
    · replace hf := if_f c1 hf
      refine ev_aload_n (n := 0) dX6_finishes_38 rfl rfl ?_
      obtain ⟨v7, e8, hf⟩ := bn1_of hf
      refine ev_callVi (As := []) cal_X6_areDone kl0 rfl (ev_X6_areDone kl0 e8) (Nat.le_of_ble_eq_true rfl) rfl lk_866 (by decide) (by decide) (Nat.le_of_ble_eq_true rfl) dX6_finishes_39 rfl ?_
      refine ev_if_ne (tgt := 55) dX6_finishes_42 (by decide) (fun c1 => ?_) (fun c1 => ?_)
      · replace hf := if_f c1 hf
        refine ev_sub [0, 2] rfl (lv2 := [(0, .ref l0), (2, .int l2)]) ?_
        obtain ⟨rfl, rfl⟩ := Prod.mk.inj (Option.some.inj hf)
        exact hx0
      · replace hf := if_t c1 hf
        refine ev_aload_n (n := 0) dX6_finishes_45 rfl rfl ?_
        obtain ⟨h9, e10, hf⟩ := bn1_of hf
        refine ev_callVv (As := []) cal_X6_round kl0 rfl (ev_X6_round kl0 e10) (Nat.le_of_ble_eq_true rfl) rfl lk_755 (by decide) (by decide) (Nat.le_of_ble_eq_true rfl) dX6_finishes_46 rfl ?_
        refine ev_iinc (z := 2) (v := (l2 + 1)) (lv2 := [(2, .int (l2 + 1)), (0, .ref l0), (1, .int l1)]) dX6_finishes_49 rfl rfl (by decide) rfl ?_
        refine ev_goto (tgt := 33) dX6_finishes_52 (by decide) ?_
        refine ev_sub [1, 2, 0] rfl (lv2 := [(0, .ref l0), (1, .int l1), (2, .int (l2 + 1))]) ?_
        exact hk _ _ hf
def f_X6_finishes_j55 (h : Hp) (l0 : Nat) (l2 : Int32) : Option (Int32 × Hp) := (bn1 (f_X6_areDone h l0) (fun v13 => (if v13 = 0 then (some ((-1 : Int32), h)) else (some (l2, h)))))
set_option maxRecDepth 100000 in
set_option maxHeartbeats 4000000 in
theorem jn_X6_finishes_55 {g : Gl} {h : Hp} {l0 : Nat} {l2 : Int32}  {rv : Int32} {h2 : Hp} (kl0 : KD g.1 l0 5 0)   (hf : f_X6_finishes_j55 h l0 l2 = some (rv, h2)) : Ev yX6_finishes cX6_finishes 3 (some .int) 8 181 g 55 [] [(0, .ref l0), (2, .int l2)] h (some (.int rv)) h2 := by
  unfold f_X6_finishes_j55 at hf
  refine ev_aload_n (n := 0) dX6_finishes_55 rfl rfl ?_
  obtain ⟨v13, e14, hf⟩ := bn1_of hf
  refine ev_callVi (As := []) cal_X6_areDone kl0 rfl (ev_X6_areDone kl0 e14) (Nat.le_of_ble_eq_true rfl) rfl lk_866 (by decide) (by decide) (Nat.le_of_ble_eq_true rfl) dX6_finishes_56 rfl ?_
  refine ev_if_eq (tgt := 66) dX6_finishes_59 (by decide) (fun c1 => ?_) (fun c1 => ?_)
  · replace hf := if_t c1 hf
    refine ev_iconst (v := -1) dX6_finishes_66 (by decide) ?_
    obtain ⟨rfl, rfl⟩ := Prod.mk.inj (Option.some.inj hf)
    exact ev_ireturn dX6_finishes_67 ⟨.int, rfl, rfl⟩
  · replace hf := if_f c1 hf
    refine ev_iload_n (n := 1) dX6_finishes_62 rfl rfl ?_
    refine ev_goto (tgt := 67) dX6_finishes_63 (by decide) ?_
    obtain ⟨rfl, rfl⟩ := Prod.mk.inj (Option.some.inj hf)
    exact ev_ireturn dX6_finishes_67 ⟨.int, rfl, rfl⟩
def f_X6_finishes (h : Hp) (l0 : Nat) (l1 : Int32) : Option (Int32 × Hp) := (bn1 (f_X6_in h l1 (1 : Int32) (90 : Int32)) (fun v1 => (if v1 = 0 then (bn2 (f_X6_bad h l0) (fun v19 h20 => (some (v19, h20)))) else (bn1 (f_X6_honest h l0) (fun v3 => (if v3 = 0 then (bn2 (f_X6_no h l0) (fun v16 h17 => (some (v16, h17)))) else (bn1 (f_X6_leavesState h l0) (fun h5 => (bn2 (f_X6_finishes_l33 l0 l1 fu (0 : Int32) h5) (fun w2_11 h12 => (f_X6_finishes_j55 h12 l0 w2_11)))))))))))
set_option maxRecDepth 100000 in
set_option maxHeartbeats 4000000 in
theorem ev_X6_finishes {g : Gl} {h : Hp} {l0 : Nat} {l1 : Int32} {rv : Int32} {h2 : Hp} (kl0 : KD g.1 l0 5 0) (hf : f_X6_finishes h l0 l1 = some (rv, h2)) : Ev yX6_finishes cX6_finishes 3 (some .int) 8 181 g 0 [] [(0, .ref l0), (1, .int l1)] h (some (.int rv)) h2 := by
  unfold f_X6_finishes at hf
  refine ev_iload_n (n := 1) dX6_finishes_0 rfl rfl ?_
  refine ev_iconst (v := 1) dX6_finishes_1 (by decide) ?_
  refine ev_bipush (v := 90) dX6_finishes_2 (by decide) ?_
  obtain ⟨v1, e2, hf⟩ := bn1_of hf
  refine ev_callSi (As := [.int l1, .int (1 : Int32), .int (90 : Int32)]) cal_X6_in (ev_X6_in e2) (Nat.le_of_ble_eq_true rfl) rfl lk_669 (by decide) (by decide) (Nat.le_of_ble_eq_true rfl) dX6_finishes_4 rfl ?_
  refine ev_if_ne (tgt := 15) dX6_finishes_7 (by decide) (fun c1 => ?_) (fun c1 => ?_)
  · replace hf := if_f c1 hf
    refine ev_aload_n (n := 0) dX6_finishes_15 rfl rfl ?_
    obtain ⟨v3, e4, hf⟩ := bn1_of hf
    refine ev_callVi (As := []) cal_X6_honest kl0 rfl (ev_X6_honest kl0 e4) (Nat.le_of_ble_eq_true rfl) rfl lk_862 (by decide) (by decide) (Nat.le_of_ble_eq_true rfl) dX6_finishes_16 rfl ?_
    refine ev_if_ne (tgt := 27) dX6_finishes_19 (by decide) (fun c1 => ?_) (fun c1 => ?_)
    · replace hf := if_f c1 hf
      refine ev_aload_n (n := 0) dX6_finishes_27 rfl rfl ?_
      obtain ⟨h5, e6, hf⟩ := bn1_of hf
      refine ev_callVv (As := []) cal_X6_leavesState kl0 rfl (ev_X6_leavesState kl0 e6) (Nat.le_of_ble_eq_true rfl) rfl lk_676 (by decide) (by decide) (Nat.le_of_ble_eq_true rfl) dX6_finishes_28 rfl ?_
      refine ev_iconst (v := 0) dX6_finishes_31 (by decide) ?_
      refine ev_istore_n (lv2 := [(2, .int (0 : Int32)), (0, .ref l0), (1, .int l1)]) dX6_finishes_32 rfl (by decide) rfl ?_
      obtain ⟨w2_11, h12, e15, hf⟩ := bn2_of hf
      refine ev_sub [1, 2, 0] rfl (lv2 := [(0, .ref l0), (1, .int l1), (2, .int (0 : Int32))]) ?_
      refine lp_X6_finishes_33 kl0 ?_ fu _ _ e15
      exact jn_X6_finishes_55 kl0 hf
    · replace hf := if_t c1 hf
      refine ev_aload_n (n := 0) dX6_finishes_22 rfl rfl ?_
      obtain ⟨v16, h17, e18, hf⟩ := bn2_of hf
      refine ev_callVi (As := []) cal_X6_no kl0 rfl (ev_X6_no kl0 e18) (Nat.le_of_ble_eq_true rfl) rfl lk_661 (by decide) (by decide) (Nat.le_of_ble_eq_true rfl) dX6_finishes_23 rfl ?_
      obtain ⟨rfl, rfl⟩ := Prod.mk.inj (Option.some.inj hf)
      exact ev_ireturn dX6_finishes_26 ⟨.int, rfl, rfl⟩
  · replace hf := if_t c1 hf
    refine ev_aload_n (n := 0) dX6_finishes_10 rfl rfl ?_
    obtain ⟨v19, h20, e21, hf⟩ := bn2_of hf
    refine ev_callVi (As := []) cal_X6_bad kl0 rfl (ev_X6_bad kl0 e21) (Nat.le_of_ble_eq_true rfl) rfl lk_672 (by decide) (by decide) (Nat.le_of_ble_eq_true rfl) dX6_finishes_11 rfl ?_
    obtain ⟨rfl, rfl⟩ := Prod.mk.inj (Option.some.inj hf)
    exact ev_ireturn dX6_finishes_14 ⟨.int, rfl, rfl⟩
def f_X6_ofPeer (h : Hp) (l0 : Nat) (l1 : Int32) (l2 : Int32) : Option (Int32) := (if l2 = 0 then (bn1 (f_X6_cellOf h l0 l1 (0 : Int32)) (fun v19 => (some v19))) else (if l2 = 1 then (bn1 (f_X6_cellOf h l0 l1 (1 : Int32)) (fun v17 => (some v17))) else (if l2 = 2 then (bn1 (f_X6_cellOf h l0 l1 (2 : Int32)) (fun v15 => (some v15))) else (if l2 = 3 then (bn1 (f_X6_left h l0 l1) (fun v13 => (some v13))) else (if l2 = 4 then (bn1 (f_X6_cellOf h l0 l1 (3 : Int32)) (fun v11 => (some v11))) else (if l2 = 5 then (bn1 (f_X6_cellOf h l0 l1 (4 : Int32)) (fun v9 => (some v9))) else (if l2 = 6 then (bn1 (f_X6_cellOf h l0 l1 (5 : Int32)) (fun v7 => (some v7))) else (if l2 = 7 then (bn1 (f_X6_cellOf h l0 l1 (6 : Int32)) (fun v5 => (some v5))) else (if l2 = 8 then (bn1 (f_X6_cellOf h l0 l1 (7 : Int32)) (fun v3 => (some v3))) else (bn1 (f_X6_claims h l0 l1) (fun v1 => (some v1))))))))))))
set_option maxRecDepth 100000 in
set_option maxHeartbeats 4000000 in
theorem ev_X6_ofPeer {g : Gl} {h : Hp} {l0 : Nat} {l1 : Int32} {l2 : Int32} {rv : Int32} (kl0 : KD g.1 l0 5 0) (hf : f_X6_ofPeer h l0 l1 l2 = some rv) : Ev yX6_ofPeer cX6_ofPeer 3 (some .int) 4 89 g 0 [] [(0, .ref l0), (1, .int l1), (2, .int l2)] h (some (.int rv)) h := by
  unfold f_X6_ofPeer at hf
  refine ev_iload_n (n := 2) dX6_ofPeer_0 rfl rfl ?_
  by_cases sw0 : l2 = 0
  · replace hf := if_t sw0 hf
    refine ev_tableIn (tgt := 52) dX6_ofPeer_1 (by rw [sw0]; decide) (by rw [sw0]; decide) (by rw [sw0]; rfl) (by decide) ?_
    refine ev_aload_n (n := 0) dX6_ofPeer_52 rfl rfl ?_
    refine ev_iload_n (n := 1) dX6_ofPeer_53 rfl rfl ?_
    refine ev_iconst (v := 0) dX6_ofPeer_54 (by decide) ?_
    obtain ⟨v19, e20, hf⟩ := bn1_of hf
    refine ev_callVi (As := [.int l1, .int (0 : Int32)]) cal_X6_cellOf kl0 rfl (ev_X6_cellOf kl0 e20) (Nat.le_of_ble_eq_true rfl) rfl lk_719 (by decide) (by decide) (Nat.le_of_ble_eq_true rfl) dX6_ofPeer_55 rfl ?_
    obtain rfl := Option.some.inj hf
    exact ev_ireturn dX6_ofPeer_58 ⟨.int, rfl, rfl⟩
  replace hf := if_f sw0 hf
  by_cases sw1 : l2 = 1
  · replace hf := if_t sw1 hf
    refine ev_tableIn (tgt := 59) dX6_ofPeer_1 (by rw [sw1]; decide) (by rw [sw1]; decide) (by rw [sw1]; rfl) (by decide) ?_
    refine ev_aload_n (n := 0) dX6_ofPeer_59 rfl rfl ?_
    refine ev_iload_n (n := 1) dX6_ofPeer_60 rfl rfl ?_
    refine ev_iconst (v := 1) dX6_ofPeer_61 (by decide) ?_
    obtain ⟨v17, e18, hf⟩ := bn1_of hf
    refine ev_callVi (As := [.int l1, .int (1 : Int32)]) cal_X6_cellOf kl0 rfl (ev_X6_cellOf kl0 e18) (Nat.le_of_ble_eq_true rfl) rfl lk_719 (by decide) (by decide) (Nat.le_of_ble_eq_true rfl) dX6_ofPeer_62 rfl ?_
    obtain rfl := Option.some.inj hf
    exact ev_ireturn dX6_ofPeer_65 ⟨.int, rfl, rfl⟩
  replace hf := if_f sw1 hf
  by_cases sw2 : l2 = 2
  · replace hf := if_t sw2 hf
    refine ev_tableIn (tgt := 66) dX6_ofPeer_1 (by rw [sw2]; decide) (by rw [sw2]; decide) (by rw [sw2]; rfl) (by decide) ?_
    refine ev_aload_n (n := 0) dX6_ofPeer_66 rfl rfl ?_
    refine ev_iload_n (n := 1) dX6_ofPeer_67 rfl rfl ?_
    refine ev_iconst (v := 2) dX6_ofPeer_68 (by decide) ?_
    obtain ⟨v15, e16, hf⟩ := bn1_of hf
    refine ev_callVi (As := [.int l1, .int (2 : Int32)]) cal_X6_cellOf kl0 rfl (ev_X6_cellOf kl0 e16) (Nat.le_of_ble_eq_true rfl) rfl lk_719 (by decide) (by decide) (Nat.le_of_ble_eq_true rfl) dX6_ofPeer_69 rfl ?_
    obtain rfl := Option.some.inj hf
    exact ev_ireturn dX6_ofPeer_72 ⟨.int, rfl, rfl⟩
  replace hf := if_f sw2 hf
  by_cases sw3 : l2 = 3
  · replace hf := if_t sw3 hf
    refine ev_tableIn (tgt := 73) dX6_ofPeer_1 (by rw [sw3]; decide) (by rw [sw3]; decide) (by rw [sw3]; rfl) (by decide) ?_
    refine ev_aload_n (n := 0) dX6_ofPeer_73 rfl rfl ?_
    refine ev_iload_n (n := 1) dX6_ofPeer_74 rfl rfl ?_
    obtain ⟨v13, e14, hf⟩ := bn1_of hf
    refine ev_callVi (As := [.int l1]) cal_X6_left kl0 rfl (ev_X6_left kl0 e14) (Nat.le_of_ble_eq_true rfl) rfl lk_833 (by decide) (by decide) (Nat.le_of_ble_eq_true rfl) dX6_ofPeer_75 rfl ?_
    obtain rfl := Option.some.inj hf
    exact ev_ireturn dX6_ofPeer_78 ⟨.int, rfl, rfl⟩
  replace hf := if_f sw3 hf
  by_cases sw4 : l2 = 4
  · replace hf := if_t sw4 hf
    refine ev_tableIn (tgt := 79) dX6_ofPeer_1 (by rw [sw4]; decide) (by rw [sw4]; decide) (by rw [sw4]; rfl) (by decide) ?_
    refine ev_aload_n (n := 0) dX6_ofPeer_79 rfl rfl ?_
    refine ev_iload_n (n := 1) dX6_ofPeer_80 rfl rfl ?_
    refine ev_iconst (v := 3) dX6_ofPeer_81 (by decide) ?_
    obtain ⟨v11, e12, hf⟩ := bn1_of hf
    refine ev_callVi (As := [.int l1, .int (3 : Int32)]) cal_X6_cellOf kl0 rfl (ev_X6_cellOf kl0 e12) (Nat.le_of_ble_eq_true rfl) rfl lk_719 (by decide) (by decide) (Nat.le_of_ble_eq_true rfl) dX6_ofPeer_82 rfl ?_
    obtain rfl := Option.some.inj hf
    exact ev_ireturn dX6_ofPeer_85 ⟨.int, rfl, rfl⟩
  replace hf := if_f sw4 hf
  by_cases sw5 : l2 = 5
  · replace hf := if_t sw5 hf
    refine ev_tableIn (tgt := 86) dX6_ofPeer_1 (by rw [sw5]; decide) (by rw [sw5]; decide) (by rw [sw5]; rfl) (by decide) ?_
    refine ev_aload_n (n := 0) dX6_ofPeer_86 rfl rfl ?_
    refine ev_iload_n (n := 1) dX6_ofPeer_87 rfl rfl ?_
    refine ev_iconst (v := 4) dX6_ofPeer_88 (by decide) ?_
    obtain ⟨v9, e10, hf⟩ := bn1_of hf
    refine ev_callVi (As := [.int l1, .int (4 : Int32)]) cal_X6_cellOf kl0 rfl (ev_X6_cellOf kl0 e10) (Nat.le_of_ble_eq_true rfl) rfl lk_719 (by decide) (by decide) (Nat.le_of_ble_eq_true rfl) dX6_ofPeer_89 rfl ?_
    obtain rfl := Option.some.inj hf
    exact ev_ireturn dX6_ofPeer_92 ⟨.int, rfl, rfl⟩
  replace hf := if_f sw5 hf
  by_cases sw6 : l2 = 6
  · replace hf := if_t sw6 hf
    refine ev_tableIn (tgt := 93) dX6_ofPeer_1 (by rw [sw6]; decide) (by rw [sw6]; decide) (by rw [sw6]; rfl) (by decide) ?_
    refine ev_aload_n (n := 0) dX6_ofPeer_93 rfl rfl ?_
    refine ev_iload_n (n := 1) dX6_ofPeer_94 rfl rfl ?_
    refine ev_iconst (v := 5) dX6_ofPeer_95 (by decide) ?_
    obtain ⟨v7, e8, hf⟩ := bn1_of hf
    refine ev_callVi (As := [.int l1, .int (5 : Int32)]) cal_X6_cellOf kl0 rfl (ev_X6_cellOf kl0 e8) (Nat.le_of_ble_eq_true rfl) rfl lk_719 (by decide) (by decide) (Nat.le_of_ble_eq_true rfl) dX6_ofPeer_96 rfl ?_
    obtain rfl := Option.some.inj hf
    exact ev_ireturn dX6_ofPeer_99 ⟨.int, rfl, rfl⟩
  replace hf := if_f sw6 hf
  by_cases sw7 : l2 = 7
  · replace hf := if_t sw7 hf
    refine ev_tableIn (tgt := 100) dX6_ofPeer_1 (by rw [sw7]; decide) (by rw [sw7]; decide) (by rw [sw7]; rfl) (by decide) ?_
    refine ev_aload_n (n := 0) dX6_ofPeer_100 rfl rfl ?_
    refine ev_iload_n (n := 1) dX6_ofPeer_101 rfl rfl ?_
    refine ev_bipush (v := 6) dX6_ofPeer_102 (by decide) ?_
    obtain ⟨v5, e6, hf⟩ := bn1_of hf
    refine ev_callVi (As := [.int l1, .int (6 : Int32)]) cal_X6_cellOf kl0 rfl (ev_X6_cellOf kl0 e6) (Nat.le_of_ble_eq_true rfl) rfl lk_719 (by decide) (by decide) (Nat.le_of_ble_eq_true rfl) dX6_ofPeer_104 rfl ?_
    obtain rfl := Option.some.inj hf
    exact ev_ireturn dX6_ofPeer_107 ⟨.int, rfl, rfl⟩
  replace hf := if_f sw7 hf
  by_cases sw8 : l2 = 8
  · replace hf := if_t sw8 hf
    refine ev_tableIn (tgt := 108) dX6_ofPeer_1 (by rw [sw8]; decide) (by rw [sw8]; decide) (by rw [sw8]; rfl) (by decide) ?_
    refine ev_aload_n (n := 0) dX6_ofPeer_108 rfl rfl ?_
    refine ev_iload_n (n := 1) dX6_ofPeer_109 rfl rfl ?_
    refine ev_bipush (v := 7) dX6_ofPeer_110 (by decide) ?_
    obtain ⟨v3, e4, hf⟩ := bn1_of hf
    refine ev_callVi (As := [.int l1, .int (7 : Int32)]) cal_X6_cellOf kl0 rfl (ev_X6_cellOf kl0 e4) (Nat.le_of_ble_eq_true rfl) rfl lk_719 (by decide) (by decide) (Nat.le_of_ble_eq_true rfl) dX6_ofPeer_112 rfl ?_
    obtain rfl := Option.some.inj hf
    exact ev_ireturn dX6_ofPeer_115 ⟨.int, rfl, rfl⟩
  replace hf := if_f sw8 hf
  · refine ev_tableOut (tgt := 116) dX6_ofPeer_1 (tsw8 sw0 sw1 sw2 sw3 sw4 sw5 sw6 sw7 sw8) (by decide) ?_
    refine ev_aload_n (n := 0) dX6_ofPeer_116 rfl rfl ?_
    refine ev_iload_n (n := 1) dX6_ofPeer_117 rfl rfl ?_
    obtain ⟨v1, e2, hf⟩ := bn1_of hf
    refine ev_callVi (As := [.int l1]) cal_X6_claims kl0 rfl (ev_X6_claims kl0 e2) (Nat.le_of_ble_eq_true rfl) rfl lk_771 (by decide) (by decide) (Nat.le_of_ble_eq_true rfl) dX6_ofPeer_118 rfl ?_
    obtain rfl := Option.some.inj hf
    exact ev_ireturn dX6_ofPeer_121 ⟨.int, rfl, rfl⟩
def f_X6_of_j27 (h : Hp) (l0 : Nat) : Option (Int32 × Hp) := (bn2 (f_X6_bad h l0) (fun v3 h4 => (some (v3, h4))))
set_option maxRecDepth 100000 in
set_option maxHeartbeats 4000000 in
theorem jn_X6_of_27 {g : Gl} {h : Hp} {l0 : Nat}  {rv : Int32} {h2 : Hp} (kl0 : KD g.1 l0 5 0)   (hf : f_X6_of_j27 h l0 = some (rv, h2)) : Ev yX6_of cX6_of 3 (some .int) 5 111 g 27 [] [(0, .ref l0)] h (some (.int rv)) h2 := by
  unfold f_X6_of_j27 at hf
  refine ev_aload_n (n := 0) dX6_of_27 rfl rfl ?_
  obtain ⟨v3, h4, e5, hf⟩ := bn2_of hf
  refine ev_callVi (As := []) cal_X6_bad kl0 rfl (ev_X6_bad kl0 e5) (Nat.le_of_ble_eq_true rfl) rfl lk_672 (by decide) (by decide) (Nat.le_of_ble_eq_true rfl) dX6_of_28 rfl ?_
  obtain ⟨rfl, rfl⟩ := Prod.mk.inj (Option.some.inj hf)
  exact ev_ireturn dX6_of_31 ⟨.int, rfl, rfl⟩
def f_X6_of (h : Hp) (l0 : Nat) (l1 : Int32) (l2 : Int32) : Option (Int32 × Hp) := (bn1 (f_X6_isPeer h l0 l1) (fun v1 => (if v1 = 0 then (f_X6_of_j27 h l0) else (bn1 (f_X6_in h l2 (0 : Int32) (9 : Int32)) (fun v6 => (if v6 = 0 then (f_X6_of_j27 h l0) else (bn1 (f_X6_ofPeer h l0 l1 l2) (fun v8 => (some (v8, h))))))))))
set_option maxRecDepth 100000 in
set_option maxHeartbeats 4000000 in
theorem ev_X6_of {g : Gl} {h : Hp} {l0 : Nat} {l1 : Int32} {l2 : Int32} {rv : Int32} {h2 : Hp} (kl0 : KD g.1 l0 5 0) (hf : f_X6_of h l0 l1 l2 = some (rv, h2)) : Ev yX6_of cX6_of 3 (some .int) 5 111 g 0 [] [(0, .ref l0), (1, .int l1), (2, .int l2)] h (some (.int rv)) h2 := by
  unfold f_X6_of at hf
  refine ev_aload_n (n := 0) dX6_of_0 rfl rfl ?_
  refine ev_iload_n (n := 1) dX6_of_1 rfl rfl ?_
  obtain ⟨v1, e2, hf⟩ := bn1_of hf
  refine ev_callVi (As := [.int l1]) cal_X6_isPeer kl0 rfl (ev_X6_isPeer kl0 e2) (Nat.le_of_ble_eq_true rfl) rfl lk_711 (by decide) (by decide) (Nat.le_of_ble_eq_true rfl) dX6_of_2 rfl ?_
  refine ev_if_eq (tgt := 27) dX6_of_5 (by decide) (fun c1 => ?_) (fun c1 => ?_)
  · replace hf := if_t c1 hf
    refine ev_sub [0] rfl (lv2 := [(0, .ref l0)]) ?_
    exact jn_X6_of_27 kl0 hf
  · replace hf := if_f c1 hf
    refine ev_iload_n (n := 2) dX6_of_8 rfl rfl ?_
    refine ev_iconst (v := 0) dX6_of_9 (by decide) ?_
    refine ev_bipush (v := 9) dX6_of_10 (by decide) ?_
    obtain ⟨v6, e7, hf⟩ := bn1_of hf
    refine ev_callSi (As := [.int l2, .int (0 : Int32), .int (9 : Int32)]) cal_X6_in (ev_X6_in e7) (Nat.le_of_ble_eq_true rfl) rfl lk_669 (by decide) (by decide) (Nat.le_of_ble_eq_true rfl) dX6_of_12 rfl ?_
    refine ev_if_eq (tgt := 27) dX6_of_15 (by decide) (fun c1 => ?_) (fun c1 => ?_)
    · replace hf := if_t c1 hf
      refine ev_sub [0] rfl (lv2 := [(0, .ref l0)]) ?_
      exact jn_X6_of_27 kl0 hf
    · replace hf := if_f c1 hf
      refine ev_aload_n (n := 0) dX6_of_18 rfl rfl ?_
      refine ev_iload_n (n := 1) dX6_of_19 rfl rfl ?_
      refine ev_iload_n (n := 2) dX6_of_20 rfl rfl ?_
      obtain ⟨v8, e9, hf⟩ := bn1_of hf
      refine ev_callVi (As := [.int l1, .int l2]) cal_X6_ofPeer kl0 rfl (ev_X6_ofPeer kl0 e9) (Nat.le_of_ble_eq_true rfl) rfl lk_874 (by decide) (by decide) (Nat.le_of_ble_eq_true rfl) dX6_of_21 rfl ?_
      refine ev_goto (tgt := 31) dX6_of_24 (by decide) ?_
      obtain ⟨rfl, rfl⟩ := Prod.mk.inj (Option.some.inj hf)
      exact ev_ireturn dX6_of_31 ⟨.int, rfl, rfl⟩
def f_X6_blockOf (h : Hp) (l0 : Nat) (l1 : Int32) (l2 : Int32) (l3 : Int32) : Option (Int32) := (bn1 (f_X6_has h l0 l1 l2) (fun v1 => (if v1 = 0 then (bn1 (f_X6_source h l0 l1 l2 l3) (fun v3 => (some v3))) else (some (100 : Int32)))))
set_option maxRecDepth 100000 in
set_option maxHeartbeats 4000000 in
theorem ev_X6_blockOf {g : Gl} {h : Hp} {l0 : Nat} {l1 : Int32} {l2 : Int32} {l3 : Int32} {rv : Int32} (kl0 : KD g.1 l0 5 0) (hf : f_X6_blockOf h l0 l1 l2 l3 = some rv) : Ev yX6_blockOf cX6_blockOf 4 (some .int) 3 64 g 0 [] [(0, .ref l0), (1, .int l1), (2, .int l2), (3, .int l3)] h (some (.int rv)) h := by
  unfold f_X6_blockOf at hf
  refine ev_aload_n (n := 0) dX6_blockOf_0 rfl rfl ?_
  refine ev_iload_n (n := 1) dX6_blockOf_1 rfl rfl ?_
  refine ev_iload_n (n := 2) dX6_blockOf_2 rfl rfl ?_
  obtain ⟨v1, e2, hf⟩ := bn1_of hf
  refine ev_callVi (As := [.int l1, .int l2]) cal_X6_has kl0 rfl (ev_X6_has kl0 e2) (Nat.le_of_ble_eq_true rfl) rfl lk_715 (by decide) (by decide) (Nat.le_of_ble_eq_true rfl) dX6_blockOf_3 rfl ?_
  refine ev_if_eq (tgt := 14) dX6_blockOf_6 (by decide) (fun c1 => ?_) (fun c1 => ?_)
  · replace hf := if_t c1 hf
    refine ev_aload_n (n := 0) dX6_blockOf_14 rfl rfl ?_
    refine ev_iload_n (n := 1) dX6_blockOf_15 rfl rfl ?_
    refine ev_iload_n (n := 2) dX6_blockOf_16 rfl rfl ?_
    refine ev_iload_n (n := 3) dX6_blockOf_17 rfl rfl ?_
    obtain ⟨v3, e4, hf⟩ := bn1_of hf
    refine ev_callVi (As := [.int l1, .int l2, .int l3]) cal_X6_source kl0 rfl (ev_X6_source kl0 e4) (Nat.le_of_ble_eq_true rfl) rfl lk_817 (by decide) (by decide) (Nat.le_of_ble_eq_true rfl) dX6_blockOf_18 rfl ?_
    obtain rfl := Option.some.inj hf
    exact ev_ireturn dX6_blockOf_21 ⟨.int, rfl, rfl⟩
  · replace hf := if_f c1 hf
    refine ev_bipush (v := 100) dX6_blockOf_9 (by decide) ?_
    refine ev_goto (tgt := 21) dX6_blockOf_11 (by decide) ?_
    obtain rfl := Option.some.inj hf
    exact ev_ireturn dX6_blockOf_21 ⟨.int, rfl, rfl⟩
def f_X6_block_j50 (h : Hp) (l0 : Nat) : Option (Int32 × Hp) := (bn2 (f_X6_bad h l0) (fun v3 h4 => (some (v3, h4))))
set_option maxRecDepth 100000 in
set_option maxHeartbeats 4000000 in
theorem jn_X6_block_50 {g : Gl} {h : Hp} {l0 : Nat}  {rv : Int32} {h2 : Hp} (kl0 : KD g.1 l0 5 0)   (hf : f_X6_block_j50 h l0 = some (rv, h2)) : Ev yX6_block cX6_block 4 (some .int) 4 87 g 50 [] [(0, .ref l0)] h (some (.int rv)) h2 := by
  unfold f_X6_block_j50 at hf
  refine ev_aload_n (n := 0) dX6_block_50 rfl rfl ?_
  obtain ⟨v3, h4, e5, hf⟩ := bn2_of hf
  refine ev_callVi (As := []) cal_X6_bad kl0 rfl (ev_X6_bad kl0 e5) (Nat.le_of_ble_eq_true rfl) rfl lk_672 (by decide) (by decide) (Nat.le_of_ble_eq_true rfl) dX6_block_51 rfl ?_
  obtain ⟨rfl, rfl⟩ := Prod.mk.inj (Option.some.inj hf)
  exact ev_ireturn dX6_block_54 ⟨.int, rfl, rfl⟩
def f_X6_block (h : Hp) (l0 : Nat) (l1 : Int32) (l2 : Int32) (l3 : Int32) : Option (Int32 × Hp) := (bn1 (f_X6_isPeer h l0 l1) (fun v1 => (if v1 = 0 then (f_X6_block_j50 h l0) else (bn1 (f_X6_in h l2 (0 : Int32) ((hI h (l0 + 2) (1 : Int32).toNatClampNeg) - (1 : Int32))) (fun v7 => (if v7 = 0 then (f_X6_block_j50 h l0) else (bn1 (f_X6_in h l3 (0 : Int32) ((hI h (l0 + 2) (2 : Int32).toNatClampNeg) - (1 : Int32))) (fun v10 => (if v10 = 0 then (f_X6_block_j50 h l0) else (bn1 (f_X6_blockOf h l0 l1 l2 l3) (fun v12 => (some (v12, h)))))))))))))
set_option maxRecDepth 100000 in
set_option maxHeartbeats 4000000 in
theorem ev_X6_block {g : Gl} {h : Hp} {l0 : Nat} {l1 : Int32} {l2 : Int32} {l3 : Int32} {rv : Int32} {h2 : Hp} (kl0 : KD g.1 l0 5 0) (hf : f_X6_block h l0 l1 l2 l3 = some (rv, h2)) : Ev yX6_block cX6_block 4 (some .int) 4 87 g 0 [] [(0, .ref l0), (1, .int l1), (2, .int l2), (3, .int l3)] h (some (.int rv)) h2 := by
  unfold f_X6_block at hf
  refine ev_aload_n (n := 0) dX6_block_0 rfl rfl ?_
  refine ev_iload_n (n := 1) dX6_block_1 rfl rfl ?_
  obtain ⟨v1, e2, hf⟩ := bn1_of hf
  refine ev_callVi (As := [.int l1]) cal_X6_isPeer kl0 rfl (ev_X6_isPeer kl0 e2) (Nat.le_of_ble_eq_true rfl) rfl lk_711 (by decide) (by decide) (Nat.le_of_ble_eq_true rfl) dX6_block_2 rfl ?_
  refine ev_if_eq (tgt := 50) dX6_block_5 (by decide) (fun c1 => ?_) (fun c1 => ?_)
  · replace hf := if_t c1 hf
    refine ev_sub [0] rfl (lv2 := [(0, .ref l0)]) ?_
    exact jn_X6_block_50 kl0 hf
  · replace hf := if_f c1 hf
    refine ev_iload_n (n := 2) dX6_block_8 rfl rfl ?_
    refine ev_iconst (v := 0) dX6_block_9 (by decide) ?_
    refine ev_aload_n (n := 0) dX6_block_10 rfl rfl ?_
    refine ev_get (v := .ref (l0 + 2)) 1 kl0 rfl (by decide) rfl lk_607 dX6_block_11 ?_
    refine ev_iconst (v := 1) dX6_block_14 (by decide) ?_
    refine ev_iald (kd_5_1 kl0) (by unfold vp_in; decide) dX6_block_15 ?_
    refine ev_iconst (v := 1) dX6_block_16 (by decide) ?_
    refine ev_isub dX6_block_17 ?_
    obtain ⟨v7, e8, hf⟩ := bn1_of hf
    refine ev_callSi (As := [.int l2, .int (0 : Int32), .int ((hI h (l0 + 2) (1 : Int32).toNatClampNeg) - (1 : Int32))]) cal_X6_in (ev_X6_in e8) (Nat.le_of_ble_eq_true rfl) rfl lk_669 (by decide) (by decide) (Nat.le_of_ble_eq_true rfl) dX6_block_18 rfl ?_
    refine ev_if_eq (tgt := 50) dX6_block_21 (by decide) (fun c1 => ?_) (fun c1 => ?_)
    · replace hf := if_t c1 hf
      refine ev_sub [0] rfl (lv2 := [(0, .ref l0)]) ?_
      exact jn_X6_block_50 kl0 hf
    · replace hf := if_f c1 hf
      refine ev_iload_n (n := 3) dX6_block_24 rfl rfl ?_
      refine ev_iconst (v := 0) dX6_block_25 (by decide) ?_
      refine ev_aload_n (n := 0) dX6_block_26 rfl rfl ?_
      refine ev_get (v := .ref (l0 + 2)) 1 kl0 rfl (by decide) rfl lk_607 dX6_block_27 ?_
      refine ev_iconst (v := 2) dX6_block_30 (by decide) ?_
      refine ev_iald (kd_5_1 kl0) (by unfold vp_in; decide) dX6_block_31 ?_
      refine ev_iconst (v := 1) dX6_block_32 (by decide) ?_
      refine ev_isub dX6_block_33 ?_
      obtain ⟨v10, e11, hf⟩ := bn1_of hf
      refine ev_callSi (As := [.int l3, .int (0 : Int32), .int ((hI h (l0 + 2) (2 : Int32).toNatClampNeg) - (1 : Int32))]) cal_X6_in (ev_X6_in e11) (Nat.le_of_ble_eq_true rfl) rfl lk_669 (by decide) (by decide) (Nat.le_of_ble_eq_true rfl) dX6_block_34 rfl ?_
      refine ev_if_eq (tgt := 50) dX6_block_37 (by decide) (fun c1 => ?_) (fun c1 => ?_)
      · replace hf := if_t c1 hf
        refine ev_sub [0] rfl (lv2 := [(0, .ref l0)]) ?_
        exact jn_X6_block_50 kl0 hf
      · replace hf := if_f c1 hf
        refine ev_aload_n (n := 0) dX6_block_40 rfl rfl ?_
        refine ev_iload_n (n := 1) dX6_block_41 rfl rfl ?_
        refine ev_iload_n (n := 2) dX6_block_42 rfl rfl ?_
        refine ev_iload_n (n := 3) dX6_block_43 rfl rfl ?_
        obtain ⟨v12, e13, hf⟩ := bn1_of hf
        refine ev_callVi (As := [.int l1, .int l2, .int l3]) cal_X6_blockOf kl0 rfl (ev_X6_blockOf kl0 e13) (Nat.le_of_ble_eq_true rfl) rfl lk_882 (by decide) (by decide) (Nat.le_of_ble_eq_true rfl) dX6_block_44 rfl ?_
        refine ev_goto (tgt := 54) dX6_block_47 (by decide) ?_
        obtain ⟨rfl, rfl⟩ := Prod.mk.inj (Option.some.inj hf)
        exact ev_ireturn dX6_block_54 ⟨.int, rfl, rfl⟩
def f_X6_areTwo_j25 (h : Hp)  : Option (Int32) := (some (0 : Int32))
set_option maxRecDepth 100000 in
set_option maxHeartbeats 4000000 in
theorem jn_X6_areTwo_25 {g : Gl} {h : Hp}   {rv : Int32}    (hf : f_X6_areTwo_j25 h = some rv) : Ev yX6_areTwo cX6_areTwo 3 (some .boolean) 2 43 g 25 [] [] h (some (.int rv)) h := by
  unfold f_X6_areTwo_j25 at hf
  refine ev_iconst (v := 0) dX6_areTwo_25 (by decide) ?_
  obtain rfl := Option.some.inj hf
  exact ev_ireturn dX6_areTwo_26 ⟨.boolean, rfl, rfl⟩
def f_X6_areTwo (h : Hp) (l0 : Nat) (l1 : Int32) (l2 : Int32) : Option (Int32) := (bn1 (f_X6_isPeer h l0 l1) (fun v1 => (if v1 = 0 then (f_X6_areTwo_j25 h) else (bn1 (f_X6_isPeer h l0 l2) (fun v3 => (if v3 = 0 then (f_X6_areTwo_j25 h) else (if l1 = l2 then (f_X6_areTwo_j25 h) else (some (1 : Int32)))))))))
set_option maxRecDepth 100000 in
set_option maxHeartbeats 4000000 in
theorem ev_X6_areTwo {g : Gl} {h : Hp} {l0 : Nat} {l1 : Int32} {l2 : Int32} {rv : Int32} (kl0 : KD g.1 l0 5 0) (hf : f_X6_areTwo h l0 l1 l2 = some rv) : Ev yX6_areTwo cX6_areTwo 3 (some .boolean) 2 43 g 0 [] [(0, .ref l0), (1, .int l1), (2, .int l2)] h (some (.int rv)) h := by
  unfold f_X6_areTwo at hf
  refine ev_aload_n (n := 0) dX6_areTwo_0 rfl rfl ?_
  refine ev_iload_n (n := 1) dX6_areTwo_1 rfl rfl ?_
  obtain ⟨v1, e2, hf⟩ := bn1_of hf
  refine ev_callVi (As := [.int l1]) cal_X6_isPeer kl0 rfl (ev_X6_isPeer kl0 e2) (Nat.le_of_ble_eq_true rfl) rfl lk_711 (by decide) (by decide) (Nat.le_of_ble_eq_true rfl) dX6_areTwo_2 rfl ?_
  refine ev_if_eq (tgt := 25) dX6_areTwo_5 (by decide) (fun c1 => ?_) (fun c1 => ?_)
  · replace hf := if_t c1 hf
    refine ev_sub [] rfl (lv2 := []) ?_
    exact jn_X6_areTwo_25 hf
  · replace hf := if_f c1 hf
    refine ev_aload_n (n := 0) dX6_areTwo_8 rfl rfl ?_
    refine ev_iload_n (n := 2) dX6_areTwo_9 rfl rfl ?_
    obtain ⟨v3, e4, hf⟩ := bn1_of hf
    refine ev_callVi (As := [.int l2]) cal_X6_isPeer kl0 rfl (ev_X6_isPeer kl0 e4) (Nat.le_of_ble_eq_true rfl) rfl lk_711 (by decide) (by decide) (Nat.le_of_ble_eq_true rfl) dX6_areTwo_10 rfl ?_
    refine ev_if_eq (tgt := 25) dX6_areTwo_13 (by decide) (fun c1 => ?_) (fun c1 => ?_)
    · replace hf := if_t c1 hf
      refine ev_sub [] rfl (lv2 := []) ?_
      exact jn_X6_areTwo_25 hf
    · replace hf := if_f c1 hf
      refine ev_iload_n (n := 1) dX6_areTwo_16 rfl rfl ?_
      refine ev_iload_n (n := 2) dX6_areTwo_17 rfl rfl ?_
      refine ev_icmp_eq (tgt := 25) dX6_areTwo_18 (by decide) (fun c1 => ?_) (fun c1 => ?_)
      · replace hf := if_t c1 hf
        refine ev_sub [] rfl (lv2 := []) ?_
        exact jn_X6_areTwo_25 hf
      · replace hf := if_f c1 hf
        refine ev_iconst (v := 1) dX6_areTwo_21 (by decide) ?_
        refine ev_goto (tgt := 26) dX6_areTwo_22 (by decide) ?_
        obtain rfl := Option.some.inj hf
        exact ev_ireturn dX6_areTwo_26 ⟨.boolean, rfl, rfl⟩
def f_X6_rateOf (h : Hp) (l0 : Nat) (l1 : Int32) (l2 : Int32) : Option (Int32) := (if inb (((6 : Int32) * l1) + l2) 36 = true then (bn1 (f_Jxf58ca_floatToIntBits_5c35a h (hF h (l0 + 3) (((6 : Int32) * l1) + l2).toNatClampNeg)) (fun v2 => (some v2))) else none)
set_option maxRecDepth 100000 in
set_option maxHeartbeats 4000000 in
theorem ev_X6_rateOf {g : Gl} {h : Hp} {l0 : Nat} {l1 : Int32} {l2 : Int32} {rv : Int32} (kl0 : KD g.1 l0 5 0) (hf : f_X6_rateOf h l0 l1 l2 = some rv) : Ev yX6_rateOf cX6_rateOf 3 (some .int) 2 50 g 0 [] [(0, .ref l0), (1, .int l1), (2, .int l2)] h (some (.int rv)) h := by
  unfold f_X6_rateOf at hf
  refine ev_aload_n (n := 0) dX6_rateOf_0 rfl rfl ?_
  refine ev_get (v := .ref (l0 + 3)) 2 kl0 rfl (by decide) rfl lk_608 dX6_rateOf_1 ?_
  refine ev_bipush (v := 6) dX6_rateOf_4 (by decide) ?_
  refine ev_iload_n (n := 1) dX6_rateOf_6 rfl rfl ?_
  refine ev_imul dX6_rateOf_7 ?_
  refine ev_iload_n (n := 2) dX6_rateOf_8 rfl rfl ?_
  refine ev_iadd dX6_rateOf_9 ?_
  obtain ⟨gd1, hf⟩ := gd_of hf
  refine ev_fald (kd_5_2 kl0) (inb_of gd1) dX6_rateOf_10 ?_
  obtain ⟨v2, e3, hf⟩ := bn1_of hf
  refine ev_callSi (As := [.float (hF h (l0 + 3) (((6 : Int32) * l1) + l2).toNatClampNeg)]) cal_Jxf58ca_floatToIntBits_5c35a (ev_Jxf58ca_floatToIntBits_5c35a e3) (Nat.le_of_ble_eq_true rfl) rfl lk_898 (by decide) (by decide) (Nat.le_of_ble_eq_true rfl) dX6_rateOf_11 rfl ?_
  obtain rfl := Option.some.inj hf
  exact ev_ireturn dX6_rateOf_14 ⟨.int, rfl, rfl⟩
def f_X6_rate (h : Hp) (l0 : Nat) (l1 : Int32) (l2 : Int32) : Option (Int32 × Hp) := (bn1 (f_X6_areTwo h l0 l1 l2) (fun v1 => (if v1 = 0 then (bn2 (f_X6_bad h l0) (fun v3 h4 => (some (v3, h4)))) else (bn1 (f_X6_rateOf h l0 l1 l2) (fun v6 => (some (v6, h)))))))
set_option maxRecDepth 100000 in
set_option maxHeartbeats 4000000 in
theorem ev_X6_rate {g : Gl} {h : Hp} {l0 : Nat} {l1 : Int32} {l2 : Int32} {rv : Int32} {h2 : Hp} (kl0 : KD g.1 l0 5 0) (hf : f_X6_rate h l0 l1 l2 = some (rv, h2)) : Ev yX6_rate cX6_rate 3 (some .int) 3 72 g 0 [] [(0, .ref l0), (1, .int l1), (2, .int l2)] h (some (.int rv)) h2 := by
  unfold f_X6_rate at hf
  refine ev_aload_n (n := 0) dX6_rate_0 rfl rfl ?_
  refine ev_iload_n (n := 1) dX6_rate_1 rfl rfl ?_
  refine ev_iload_n (n := 2) dX6_rate_2 rfl rfl ?_
  obtain ⟨v1, e2, hf⟩ := bn1_of hf
  refine ev_callVi (As := [.int l1, .int l2]) cal_X6_areTwo kl0 rfl (ev_X6_areTwo kl0 e2) (Nat.le_of_ble_eq_true rfl) rfl lk_890 (by decide) (by decide) (Nat.le_of_ble_eq_true rfl) dX6_rate_3 rfl ?_
  refine ev_if_eq (tgt := 18) dX6_rate_6 (by decide) (fun c1 => ?_) (fun c1 => ?_)
  · replace hf := if_t c1 hf
    refine ev_aload_n (n := 0) dX6_rate_18 rfl rfl ?_
    obtain ⟨v3, h4, e5, hf⟩ := bn2_of hf
    refine ev_callVi (As := []) cal_X6_bad kl0 rfl (ev_X6_bad kl0 e5) (Nat.le_of_ble_eq_true rfl) rfl lk_672 (by decide) (by decide) (Nat.le_of_ble_eq_true rfl) dX6_rate_19 rfl ?_
    obtain ⟨rfl, rfl⟩ := Prod.mk.inj (Option.some.inj hf)
    exact ev_ireturn dX6_rate_22 ⟨.int, rfl, rfl⟩
  · replace hf := if_f c1 hf
    refine ev_aload_n (n := 0) dX6_rate_9 rfl rfl ?_
    refine ev_iload_n (n := 1) dX6_rate_10 rfl rfl ?_
    refine ev_iload_n (n := 2) dX6_rate_11 rfl rfl ?_
    obtain ⟨v6, e7, hf⟩ := bn1_of hf
    refine ev_callVi (As := [.int l1, .int l2]) cal_X6_rateOf kl0 rfl (ev_X6_rateOf kl0 e7) (Nat.le_of_ble_eq_true rfl) rfl lk_894 (by decide) (by decide) (Nat.le_of_ble_eq_true rfl) dX6_rate_12 rfl ?_
    refine ev_goto (tgt := 22) dX6_rate_15 (by decide) ?_
    obtain ⟨rfl, rfl⟩ := Prod.mk.inj (Option.some.inj hf)
    exact ev_ireturn dX6_rate_22 ⟨.int, rfl, rfl⟩
def f_X6_suspects (h : Hp) (l0 : Nat) (l1 : Int32) (l2 : Int32) : Option (Int32 × Hp) := (bn1 (f_X6_areTwo h l0 l1 l2) (fun v1 => (if v1 = 0 then (bn2 (f_X6_bad h l0) (fun v3 h4 => (some (v3, h4)))) else (bn1 (f_X6_cellOf h l0 l1 ((8 : Int32) + l2)) (fun v6 => (some (v6, h)))))))
set_option maxRecDepth 100000 in
set_option maxHeartbeats 4000000 in
theorem ev_X6_suspects {g : Gl} {h : Hp} {l0 : Nat} {l1 : Int32} {l2 : Int32} {rv : Int32} {h2 : Hp} (kl0 : KD g.1 l0 5 0) (hf : f_X6_suspects h l0 l1 l2 = some (rv, h2)) : Ev yX6_suspects cX6_suspects 3 (some .int) 3 65 g 0 [] [(0, .ref l0), (1, .int l1), (2, .int l2)] h (some (.int rv)) h2 := by
  unfold f_X6_suspects at hf
  refine ev_aload_n (n := 0) dX6_suspects_0 rfl rfl ?_
  refine ev_iload_n (n := 1) dX6_suspects_1 rfl rfl ?_
  refine ev_iload_n (n := 2) dX6_suspects_2 rfl rfl ?_
  obtain ⟨v1, e2, hf⟩ := bn1_of hf
  refine ev_callVi (As := [.int l1, .int l2]) cal_X6_areTwo kl0 rfl (ev_X6_areTwo kl0 e2) (Nat.le_of_ble_eq_true rfl) rfl lk_890 (by decide) (by decide) (Nat.le_of_ble_eq_true rfl) dX6_suspects_3 rfl ?_
  refine ev_if_eq (tgt := 21) dX6_suspects_6 (by decide) (fun c1 => ?_) (fun c1 => ?_)
  · replace hf := if_t c1 hf
    refine ev_aload_n (n := 0) dX6_suspects_21 rfl rfl ?_
    obtain ⟨v3, h4, e5, hf⟩ := bn2_of hf
    refine ev_callVi (As := []) cal_X6_bad kl0 rfl (ev_X6_bad kl0 e5) (Nat.le_of_ble_eq_true rfl) rfl lk_672 (by decide) (by decide) (Nat.le_of_ble_eq_true rfl) dX6_suspects_22 rfl ?_
    obtain ⟨rfl, rfl⟩ := Prod.mk.inj (Option.some.inj hf)
    exact ev_ireturn dX6_suspects_25 ⟨.int, rfl, rfl⟩
  · replace hf := if_f c1 hf
    refine ev_aload_n (n := 0) dX6_suspects_9 rfl rfl ?_
    refine ev_iload_n (n := 1) dX6_suspects_10 rfl rfl ?_
    refine ev_bipush (v := 8) dX6_suspects_11 (by decide) ?_
    refine ev_iload_n (n := 2) dX6_suspects_13 rfl rfl ?_
    refine ev_iadd dX6_suspects_14 ?_
    obtain ⟨v6, e7, hf⟩ := bn1_of hf
    refine ev_callVi (As := [.int l1, .int ((8 : Int32) + l2)]) cal_X6_cellOf kl0 rfl (ev_X6_cellOf kl0 e7) (Nat.le_of_ble_eq_true rfl) rfl lk_719 (by decide) (by decide) (Nat.le_of_ble_eq_true rfl) dX6_suspects_15 rfl ?_
    refine ev_goto (tgt := 25) dX6_suspects_18 (by decide) ?_
    obtain ⟨rfl, rfl⟩ := Prod.mk.inj (Option.some.inj hf)
    exact ev_ireturn dX6_suspects_25 ⟨.int, rfl, rfl⟩
def f_X6_copies (h : Hp) (l0 : Nat) (l1 : Int32) : Option (Int32 × Hp) := (bn1 (f_X6_in h l1 (0 : Int32) ((hI h (l0 + 2) (1 : Int32).toNatClampNeg) - (1 : Int32))) (fun v2 => (if v2 = 0 then (bn2 (f_X6_bad h l0) (fun v4 h5 => (some (v4, h5)))) else (bn1 (f_X6_copiesOf h l0 l1) (fun v7 => (some (v7, h)))))))
set_option maxRecDepth 100000 in
set_option maxHeartbeats 4000000 in
theorem ev_X6_copies {g : Gl} {h : Hp} {l0 : Nat} {l1 : Int32} {rv : Int32} {h2 : Hp} (kl0 : KD g.1 l0 5 0) (hf : f_X6_copies h l0 l1 = some (rv, h2)) : Ev yX6_copies cX6_copies 2 (some .int) 4 86 g 0 [] [(0, .ref l0), (1, .int l1)] h (some (.int rv)) h2 := by
  unfold f_X6_copies at hf
  refine ev_iload_n (n := 1) dX6_copies_0 rfl rfl ?_
  refine ev_iconst (v := 0) dX6_copies_1 (by decide) ?_
  refine ev_aload_n (n := 0) dX6_copies_2 rfl rfl ?_
  refine ev_get (v := .ref (l0 + 2)) 1 kl0 rfl (by decide) rfl lk_607 dX6_copies_3 ?_
  refine ev_iconst (v := 1) dX6_copies_6 (by decide) ?_
  refine ev_iald (kd_5_1 kl0) (by unfold vp_in; decide) dX6_copies_7 ?_
  refine ev_iconst (v := 1) dX6_copies_8 (by decide) ?_
  refine ev_isub dX6_copies_9 ?_
  obtain ⟨v2, e3, hf⟩ := bn1_of hf
  refine ev_callSi (As := [.int l1, .int (0 : Int32), .int ((hI h (l0 + 2) (1 : Int32).toNatClampNeg) - (1 : Int32))]) cal_X6_in (ev_X6_in e3) (Nat.le_of_ble_eq_true rfl) rfl lk_669 (by decide) (by decide) (Nat.le_of_ble_eq_true rfl) dX6_copies_10 rfl ?_
  refine ev_if_eq (tgt := 24) dX6_copies_13 (by decide) (fun c1 => ?_) (fun c1 => ?_)
  · replace hf := if_t c1 hf
    refine ev_aload_n (n := 0) dX6_copies_24 rfl rfl ?_
    obtain ⟨v4, h5, e6, hf⟩ := bn2_of hf
    refine ev_callVi (As := []) cal_X6_bad kl0 rfl (ev_X6_bad kl0 e6) (Nat.le_of_ble_eq_true rfl) rfl lk_672 (by decide) (by decide) (Nat.le_of_ble_eq_true rfl) dX6_copies_25 rfl ?_
    obtain ⟨rfl, rfl⟩ := Prod.mk.inj (Option.some.inj hf)
    exact ev_ireturn dX6_copies_28 ⟨.int, rfl, rfl⟩
  · replace hf := if_f c1 hf
    refine ev_aload_n (n := 0) dX6_copies_16 rfl rfl ?_
    refine ev_iload_n (n := 1) dX6_copies_17 rfl rfl ?_
    obtain ⟨v7, e8, hf⟩ := bn1_of hf
    refine ev_callVi (As := [.int l1]) cal_X6_copiesOf kl0 rfl (ev_X6_copiesOf kl0 e8) (Nat.le_of_ble_eq_true rfl) rfl lk_829 (by decide) (by decide) (Nat.le_of_ble_eq_true rfl) dX6_copies_18 rfl ?_
    refine ev_goto (tgt := 28) dX6_copies_21 (by decide) ?_
    obtain ⟨rfl, rfl⟩ := Prod.mk.inj (Option.some.inj hf)
    exact ev_ireturn dX6_copies_28 ⟨.int, rfl, rfl⟩
def f_X6_rarest_j42 (kk : Int32 → Int32 → Option (Int32)) (h : Hp) (l0 : Nat) (l1 : Int32) (l2 : Int32) : Option (Int32) := (kk l1 (l2 + 1))
set_option maxRecDepth 100000 in
set_option maxHeartbeats 4000000 in
theorem jn_X6_rarest_42 {g : Gl} {h : Hp} {kk : Int32 → Int32 → Option (Int32)} {l0 : Nat} {l1 : Int32} {l2 : Int32}  {r : Option Value} {h2 : Hp} {o1 : Int32} (kl0 : KD g.1 l0 5 0) (hx0 : Ev yX6_rarest cX6_rarest 3 (some .int) 4 86 g 48 [] [(1, .int o1)] h r h2) (hk : ∀ (x1 : Int32) (x2 : Int32), kk x1 x2 = some o1 → Ev yX6_rarest cX6_rarest 3 (some .int) 4 86 g 4 [] [(0, .ref l0), (1, .int x1), (2, .int x2)] h r h2) (hf : f_X6_rarest_j42 kk h l0 l1 l2 = some o1) : Ev yX6_rarest cX6_rarest 3 (some .int) 4 86 g 42 [] [(0, .ref l0), (1, .int l1), (2, .int l2)] h r h2 := by
  unfold f_X6_rarest_j42 at hf
  refine ev_iinc (z := 2) (v := (l2 + 1)) (lv2 := [(2, .int (l2 + 1)), (0, .ref l0), (1, .int l1)]) dX6_rarest_42 rfl rfl (by decide) rfl ?_
  refine ev_goto (tgt := 4) dX6_rarest_45 (by decide) ?_
  refine ev_sub [1, 2, 0] rfl (lv2 := [(0, .ref l0), (1, .int l1), (2, .int (l2 + 1))]) ?_
  exact hk _ _ hf
def f_X6_rarest_j40 (kk : Int32 → Int32 → Option (Int32)) (h : Hp) (l0 : Nat) (l2 : Int32) : Option (Int32) := (f_X6_rarest_j42 kk h l0 l2 l2)
set_option maxRecDepth 100000 in
set_option maxHeartbeats 4000000 in
theorem jn_X6_rarest_40 {g : Gl} {h : Hp} {kk : Int32 → Int32 → Option (Int32)} {l0 : Nat} {l2 : Int32}  {r : Option Value} {h2 : Hp} {o1 : Int32} (kl0 : KD g.1 l0 5 0) (hx0 : Ev yX6_rarest cX6_rarest 3 (some .int) 4 86 g 48 [] [(1, .int o1)] h r h2) (hk : ∀ (x1 : Int32) (x2 : Int32), kk x1 x2 = some o1 → Ev yX6_rarest cX6_rarest 3 (some .int) 4 86 g 4 [] [(0, .ref l0), (1, .int x1), (2, .int x2)] h r h2) (hf : f_X6_rarest_j40 kk h l0 l2 = some o1) : Ev yX6_rarest cX6_rarest 3 (some .int) 4 86 g 40 [] [(0, .ref l0), (2, .int l2)] h r h2 := by
  unfold f_X6_rarest_j40 at hf
  refine ev_iload_n (n := 1) dX6_rarest_40 rfl rfl ?_
  refine ev_istore_n (lv2 := [(1, .int l2), (0, .ref l0), (2, .int l2)]) dX6_rarest_41 rfl (by decide) rfl ?_
  refine ev_sub [1, 0, 2] rfl (lv2 := [(0, .ref l0), (1, .int l2), (2, .int l2)]) ?_
  exact jn_X6_rarest_42 kl0 hx0 hk hf
def f_X6_rarest_l4 (h : Hp) (l0 : Nat) : Nat → Int32 → Int32 → Option (Int32)
  | 0, _, _ => none
  | fu1 + 1, l1, l2 => (if (hI h (l0 + 2) (1 : Int32).toNatClampNeg) ≤ l2 then (some l1) else (bn1 (f_X6_copiesOf h l0 l2) (fun v2 => (if v2 ≤ 0 then (f_X6_rarest_j42 (f_X6_rarest_l4 h l0 fu1) h l0 l1 l2) else (if l1 = (-1 : Int32) then (f_X6_rarest_j40 (f_X6_rarest_l4 h l0 fu1) h l0 l2) else (bn1 (f_X6_copiesOf h l0 l2) (fun v4 => (bn1 (f_X6_copiesOf h l0 l1) (fun v6 => (if v6 ≤ v4 then (f_X6_rarest_j42 (f_X6_rarest_l4 h l0 fu1) h l0 l1 l2) else (f_X6_rarest_j40 (f_X6_rarest_l4 h l0 fu1) h l0 l2)))))))))))
theorem f_X6_rarest_l4_s (h : Hp) (l0 : Nat) (fu1 : Nat) (l1 : Int32) (l2 : Int32) : f_X6_rarest_l4 h l0 (fu1 + 1) l1 l2 = (if (hI h (l0 + 2) (1 : Int32).toNatClampNeg) ≤ l2 then (some l1) else (bn1 (f_X6_copiesOf h l0 l2) (fun v2 => (if v2 ≤ 0 then (f_X6_rarest_j42 (f_X6_rarest_l4 h l0 fu1) h l0 l1 l2) else (if l1 = (-1 : Int32) then (f_X6_rarest_j40 (f_X6_rarest_l4 h l0 fu1) h l0 l2) else (bn1 (f_X6_copiesOf h l0 l2) (fun v4 => (bn1 (f_X6_copiesOf h l0 l1) (fun v6 => (if v6 ≤ v4 then (f_X6_rarest_j42 (f_X6_rarest_l4 h l0 fu1) h l0 l1 l2) else (f_X6_rarest_j40 (f_X6_rarest_l4 h l0 fu1) h l0 l2))))))))))) := rfl
theorem f_X6_rarest_l4_0 (h : Hp) (l0 : Nat) (l1 : Int32) (l2 : Int32) : f_X6_rarest_l4 h l0 0 l1 l2 = none := rfl
set_option maxRecDepth 100000 in
set_option maxHeartbeats 4000000 in
theorem lp_X6_rarest_4 {g : Gl} {h : Hp} {l0 : Nat} {r : Option Value} {h2 : Hp} {o1 : Int32} (kl0 : KD g.1 l0 5 0) (hx0 : Ev yX6_rarest cX6_rarest 3 (some .int) 4 86 g 48 [] [(1, .int o1)] h r h2) : ∀ (fu1 : Nat) (l1 : Int32) (l2 : Int32), f_X6_rarest_l4 h l0 fu1 l1 l2 = some o1 → Ev yX6_rarest cX6_rarest 3 (some .int) 4 86 g 4 [] [(0, .ref l0), (1, .int l1), (2, .int l2)] h r h2 := by
  intro fu1
  induction fu1 with
  | zero =>
    intro l1 l2 hf
    cases hf
  | succ fu1 ih =>
    intro l1 l2 hf
    rw [f_X6_rarest_l4_s] at hf
    have hk := ih
    refine ev_iload_n (n := 2) dX6_rarest_4 rfl rfl ?_
    refine ev_aload_n (n := 0) dX6_rarest_5 rfl rfl ?_
    refine ev_get (v := .ref (l0 + 2)) 1 kl0 rfl (by decide) rfl lk_607 dX6_rarest_6 ?_
    refine ev_iconst (v := 1) dX6_rarest_9 (by decide) ?_
    refine ev_iald (kd_5_1 kl0) (by unfold vp_in; decide) dX6_rarest_10 ?_
    refine ev_icmp_ge (tgt := 48) dX6_rarest_11 (by decide) (fun c1 => ?_) (fun c1 => ?_)
    · replace hf := if_t c1 hf
      refine ev_sub [1] rfl (lv2 := [(1, .int l1)]) ?_
      obtain rfl := Option.some.inj hf
      exact hx0
    · replace hf := if_f c1 hf
      refine ev_aload_n (n := 0) dX6_rarest_14 rfl rfl ?_
      refine ev_iload_n (n := 2) dX6_rarest_15 rfl rfl ?_
      obtain ⟨v2, e3, hf⟩ := bn1_of hf
      refine ev_callVi (As := [.int l2]) cal_X6_copiesOf kl0 rfl (ev_X6_copiesOf kl0 e3) (Nat.le_of_ble_eq_true rfl) rfl lk_829 (by decide) (by decide) (Nat.le_of_ble_eq_true rfl) dX6_rarest_16 rfl ?_
      refine ev_if_le (tgt := 42) dX6_rarest_19 (by decide) (fun c1 => ?_) (fun c1 => ?_)
      · replace hf := if_t c1 hf
        exact jn_X6_rarest_42 kl0 hx0 hk hf
      · replace hf := if_f c1 hf
        refine ev_iload_n (n := 1) dX6_rarest_22 rfl rfl ?_
        refine ev_iconst (v := -1) dX6_rarest_23 (by decide) ?_
        refine ev_icmp_eq (tgt := 40) dX6_rarest_24 (by decide) (fun c1 => ?_) (fun c1 => ?_)
        · replace hf := if_t c1 hf
          refine ev_sub [0, 2] rfl (lv2 := [(0, .ref l0), (2, .int l2)]) ?_
          exact jn_X6_rarest_40 kl0 hx0 hk hf
        · replace hf := if_f c1 hf
          refine ev_aload_n (n := 0) dX6_rarest_27 rfl rfl ?_
          refine ev_iload_n (n := 2) dX6_rarest_28 rfl rfl ?_
          obtain ⟨v4, e5, hf⟩ := bn1_of hf
          refine ev_callVi (As := [.int l2]) cal_X6_copiesOf kl0 rfl (ev_X6_copiesOf kl0 e5) (Nat.le_of_ble_eq_true rfl) rfl lk_829 (by decide) (by decide) (Nat.le_of_ble_eq_true rfl) dX6_rarest_29 rfl ?_
          refine ev_aload_n (n := 0) dX6_rarest_32 rfl rfl ?_
          refine ev_iload_n (n := 1) dX6_rarest_33 rfl rfl ?_
          obtain ⟨v6, e7, hf⟩ := bn1_of hf
          refine ev_callVi (As := [.int l1]) cal_X6_copiesOf kl0 rfl (ev_X6_copiesOf kl0 e7) (Nat.le_of_ble_eq_true rfl) rfl lk_829 (by decide) (by decide) (Nat.le_of_ble_eq_true rfl) dX6_rarest_34 rfl ?_
          refine ev_icmp_ge (tgt := 42) dX6_rarest_37 (by decide) (fun c1 => ?_) (fun c1 => ?_)
          · replace hf := if_t c1 hf
            exact jn_X6_rarest_42 kl0 hx0 hk hf
          · replace hf := if_f c1 hf
            refine ev_sub [0, 2] rfl (lv2 := [(0, .ref l0), (2, .int l2)]) ?_
            exact jn_X6_rarest_40 kl0 hx0 hk hf
def f_X6_rarest (h : Hp) (l0 : Nat) : Option (Int32) := (bn1 (f_X6_rarest_l4 h l0 fu (-1 : Int32) (0 : Int32)) (fun w1_8 => (some w1_8)))
set_option maxRecDepth 100000 in
set_option maxHeartbeats 4000000 in
theorem ev_X6_rarest {g : Gl} {h : Hp} {l0 : Nat} {rv : Int32} (kl0 : KD g.1 l0 5 0) (hf : f_X6_rarest h l0 = some rv) : Ev yX6_rarest cX6_rarest 3 (some .int) 4 86 g 0 [] [(0, .ref l0)] h (some (.int rv)) h := by
  unfold f_X6_rarest at hf
  refine ev_iconst (v := -1) dX6_rarest_0 (by decide) ?_
  refine ev_istore_n (lv2 := [(1, .int (-1 : Int32)), (0, .ref l0)]) dX6_rarest_1 rfl (by decide) rfl ?_
  refine ev_iconst (v := 0) dX6_rarest_2 (by decide) ?_
  refine ev_istore_n (lv2 := [(2, .int (0 : Int32)), (1, .int (-1 : Int32)), (0, .ref l0)]) dX6_rarest_3 rfl (by decide) rfl ?_
  obtain ⟨w1_8, e9, hf⟩ := bn1_of hf
  refine ev_sub [2, 1, 0] rfl (lv2 := [(0, .ref l0), (1, .int (-1 : Int32)), (2, .int (0 : Int32))]) ?_
  refine lp_X6_rarest_4 kl0 ?_ fu _ _ e9
  refine ev_iload_n (n := 0) dX6_rarest_48 rfl rfl ?_
  obtain rfl := Option.some.inj hf
  exact ev_ireturn dX6_rarest_49 ⟨.int, rfl, rfl⟩
def f_X6_ratio_j48 (h : Hp) (s0 : UInt32) : Option (Int32 × Hp) := (bn1 (f_Jxf58ca_floatToIntBits_5c35a h s0) (fun v10 => (some (v10, h))))
set_option maxRecDepth 100000 in
set_option maxHeartbeats 4000000 in
theorem jn_X6_ratio_48 {g : Gl} {h : Hp} {s0 : UInt32}  {rv : Int32} {h2 : Hp}    (hf : f_X6_ratio_j48 h s0 = some (rv, h2)) : Ev yX6_ratio cX6_ratio 4 (some .int) 2 50 g 48 [.float s0] [] h (some (.int rv)) h2 := by
  unfold f_X6_ratio_j48 at hf
  obtain ⟨v10, e11, hf⟩ := bn1_of hf
  refine ev_callSi (As := [.float s0]) cal_Jxf58ca_floatToIntBits_5c35a (ev_Jxf58ca_floatToIntBits_5c35a e11) (Nat.le_of_ble_eq_true rfl) rfl lk_898 (by decide) (by decide) (Nat.le_of_ble_eq_true rfl) dX6_ratio_48 rfl ?_
  obtain ⟨rfl, rfl⟩ := Prod.mk.inj (Option.some.inj hf)
  exact ev_ireturn dX6_ratio_51 ⟨.int, rfl, rfl⟩
def f_X6_ratio (h : Hp) (l0 : Nat) (l1 : Int32) : Option (Int32 × Hp) := (bn1 (f_X6_isPeer h l0 l1) (fun v1 => (if v1 = 0 then (bn2 (f_X6_bad h l0) (fun v12 h13 => (some (v12, h13)))) else (bn1 (f_X6_cellOf h l0 l1 (7 : Int32)) (fun v3 => (bn1 (f_X6_cellOf h l0 l1 (6 : Int32)) (fun v5 => (bn1 (f_X6_cellOf h l0 l1 (7 : Int32)) (fun v7 => (if v7 = 0 then (f_X6_ratio_j48 h FP.fconst0) else (if nn32 (FP.fdiv (FP.i2f v5) (FP.i2f v3)) = true then (f_X6_ratio_j48 h (FP.fdiv (FP.i2f v5) (FP.i2f v3))) else none)))))))))))
set_option maxRecDepth 100000 in
set_option maxHeartbeats 4000000 in
theorem ev_X6_ratio {g : Gl} {h : Hp} {l0 : Nat} {l1 : Int32} {rv : Int32} {h2 : Hp} (kl0 : KD g.1 l0 5 0) (hf : f_X6_ratio h l0 l1 = some (rv, h2)) : Ev yX6_ratio cX6_ratio 4 (some .int) 2 50 g 0 [] [(0, .ref l0), (1, .int l1)] h (some (.int rv)) h2 := by
  unfold f_X6_ratio at hf
  refine ev_aload_n (n := 0) dX6_ratio_0 rfl rfl ?_
  refine ev_iload_n (n := 1) dX6_ratio_1 rfl rfl ?_
  obtain ⟨v1, e2, hf⟩ := bn1_of hf
  refine ev_callVi (As := [.int l1]) cal_X6_isPeer kl0 rfl (ev_X6_isPeer kl0 e2) (Nat.le_of_ble_eq_true rfl) rfl lk_711 (by decide) (by decide) (Nat.le_of_ble_eq_true rfl) dX6_ratio_2 rfl ?_
  refine ev_if_ne (tgt := 13) dX6_ratio_5 (by decide) (fun c1 => ?_) (fun c1 => ?_)
  · replace hf := if_f c1 hf
    refine ev_aload_n (n := 0) dX6_ratio_13 rfl rfl ?_
    refine ev_iload_n (n := 1) dX6_ratio_14 rfl rfl ?_
    refine ev_bipush (v := 7) dX6_ratio_15 (by decide) ?_
    obtain ⟨v3, e4, hf⟩ := bn1_of hf
    refine ev_callVi (As := [.int l1, .int (7 : Int32)]) cal_X6_cellOf kl0 rfl (ev_X6_cellOf kl0 e4) (Nat.le_of_ble_eq_true rfl) rfl lk_719 (by decide) (by decide) (Nat.le_of_ble_eq_true rfl) dX6_ratio_17 rfl ?_
    refine ev_i2f dX6_ratio_20 ?_
    refine ev_fstore_n (lv2 := [(2, .float (FP.i2f v3)), (0, .ref l0), (1, .int l1)]) dX6_ratio_21 rfl (by decide) rfl ?_
    refine ev_aload_n (n := 1) dX6_ratio_22 rfl rfl ?_
    refine ev_iload_n (n := 2) dX6_ratio_23 rfl rfl ?_
    refine ev_bipush (v := 6) dX6_ratio_24 (by decide) ?_
    obtain ⟨v5, e6, hf⟩ := bn1_of hf
    refine ev_callVi (As := [.int l1, .int (6 : Int32)]) cal_X6_cellOf kl0 rfl (ev_X6_cellOf kl0 e6) (Nat.le_of_ble_eq_true rfl) rfl lk_719 (by decide) (by decide) (Nat.le_of_ble_eq_true rfl) dX6_ratio_26 rfl ?_
    refine ev_i2f dX6_ratio_29 ?_
    refine ev_fstore_n (lv2 := [(3, .float (FP.i2f v5)), (2, .float (FP.i2f v3)), (0, .ref l0), (1, .int l1)]) dX6_ratio_30 rfl (by decide) rfl ?_
    refine ev_aload_n (n := 2) dX6_ratio_31 rfl rfl ?_
    refine ev_iload_n (n := 3) dX6_ratio_32 rfl rfl ?_
    refine ev_bipush (v := 7) dX6_ratio_33 (by decide) ?_
    obtain ⟨v7, e8, hf⟩ := bn1_of hf
    refine ev_callVi (As := [.int l1, .int (7 : Int32)]) cal_X6_cellOf kl0 rfl (ev_X6_cellOf kl0 e8) (Nat.le_of_ble_eq_true rfl) rfl lk_719 (by decide) (by decide) (Nat.le_of_ble_eq_true rfl) dX6_ratio_35 rfl ?_
    refine ev_if_ne (tgt := 45) dX6_ratio_38 (by decide) (fun c1 => ?_) (fun c1 => ?_)
    · replace hf := if_f c1 hf
      refine ev_fload_n (n := 0) dX6_ratio_45 rfl rfl ?_
      refine ev_fload_n (n := 1) dX6_ratio_46 rfl rfl ?_
      obtain ⟨gd9, hf⟩ := gd_of hf
      refine ev_fdiv dX6_ratio_47 (nn32_of gd9) ?_
      refine ev_sub [] rfl (lv2 := []) ?_
      exact jn_X6_ratio_48 hf
    · replace hf := if_t c1 hf
      refine ev_fconst0 dX6_ratio_41 ?_
      refine ev_goto (tgt := 48) dX6_ratio_42 (by decide) ?_
      refine ev_sub [] rfl (lv2 := []) ?_
      exact jn_X6_ratio_48 hf
  · replace hf := if_t c1 hf
    refine ev_aload_n (n := 0) dX6_ratio_8 rfl rfl ?_
    obtain ⟨v12, h13, e14, hf⟩ := bn2_of hf
    refine ev_callVi (As := []) cal_X6_bad kl0 rfl (ev_X6_bad kl0 e14) (Nat.le_of_ble_eq_true rfl) rfl lk_672 (by decide) (by decide) (Nat.le_of_ble_eq_true rfl) dX6_ratio_9 rfl ?_
    obtain ⟨rfl, rfl⟩ := Prod.mk.inj (Option.some.inj hf)
    exact ev_ireturn dX6_ratio_12 ⟨.int, rfl, rfl⟩
def f_X6_spread_l4 (h : Hp) (l0 : Nat) : Nat → Int32 → Int32 → Option (Int32)
  | 0, _, _ => none
  | fu1 + 1, l1, l2 => (if (hI h (l0 + 2) (1 : Int32).toNatClampNeg) ≤ l2 then (some l1) else (bn1 (f_X6_copiesOf h l0 l2) (fun v2 => (f_X6_spread_l4 h l0 fu1 (l1 + v2) (l2 + 1)))))
theorem f_X6_spread_l4_s (h : Hp) (l0 : Nat) (fu1 : Nat) (l1 : Int32) (l2 : Int32) : f_X6_spread_l4 h l0 (fu1 + 1) l1 l2 = (if (hI h (l0 + 2) (1 : Int32).toNatClampNeg) ≤ l2 then (some l1) else (bn1 (f_X6_copiesOf h l0 l2) (fun v2 => (f_X6_spread_l4 h l0 fu1 (l1 + v2) (l2 + 1))))) := rfl
theorem f_X6_spread_l4_0 (h : Hp) (l0 : Nat) (l1 : Int32) (l2 : Int32) : f_X6_spread_l4 h l0 0 l1 l2 = none := rfl
set_option maxRecDepth 100000 in
set_option maxHeartbeats 4000000 in
theorem lp_X6_spread_4 {g : Gl} {h : Hp} {l0 : Nat} {r : Option Value} {h2 : Hp} {o1 : Int32} (kl0 : KD g.1 l0 5 0) (hx0 : Ev yX6_spread cX6_spread 4 (some .int) 4 86 g 28 [] [(0, .ref l0), (1, .int o1)] h r h2) : ∀ (fu1 : Nat) (l1 : Int32) (l2 : Int32), f_X6_spread_l4 h l0 fu1 l1 l2 = some o1 → Ev yX6_spread cX6_spread 4 (some .int) 4 86 g 4 [] [(0, .ref l0), (1, .int l1), (2, .int l2)] h r h2 := by
  intro fu1
  induction fu1 with
  | zero =>
    intro l1 l2 hf
    cases hf
  | succ fu1 ih =>
    intro l1 l2 hf
    rw [f_X6_spread_l4_s] at hf
    have hk := ih
    refine ev_iload_n (n := 2) dX6_spread_4 rfl rfl ?_
    refine ev_aload_n (n := 0) dX6_spread_5 rfl rfl ?_
    refine ev_get (v := .ref (l0 + 2)) 1 kl0 rfl (by decide) rfl lk_607 dX6_spread_6 ?_
    refine ev_iconst (v := 1) dX6_spread_9 (by decide) ?_
    refine ev_iald (kd_5_1 kl0) (by unfold vp_in; decide) dX6_spread_10 ?_
    refine ev_icmp_ge (tgt := 28) dX6_spread_11 (by decide) (fun c1 => ?_) (fun c1 => ?_)
    · replace hf := if_t c1 hf
      refine ev_sub [0, 1] rfl (lv2 := [(0, .ref l0), (1, .int l1)]) ?_
      obtain rfl := Option.some.inj hf
      exact hx0
    · replace hf := if_f c1 hf
      refine ev_iload_n (n := 1) dX6_spread_14 rfl rfl ?_
      refine ev_aload_n (n := 0) dX6_spread_15 rfl rfl ?_
      refine ev_iload_n (n := 2) dX6_spread_16 rfl rfl ?_
      obtain ⟨v2, e3, hf⟩ := bn1_of hf
      refine ev_callVi (As := [.int l2]) cal_X6_copiesOf kl0 rfl (ev_X6_copiesOf kl0 e3) (Nat.le_of_ble_eq_true rfl) rfl lk_829 (by decide) (by decide) (Nat.le_of_ble_eq_true rfl) dX6_spread_17 rfl ?_
      refine ev_iadd dX6_spread_20 ?_
      refine ev_istore_n (lv2 := [(1, .int (l1 + v2)), (0, .ref l0), (2, .int l2)]) dX6_spread_21 rfl (by decide) rfl ?_
      refine ev_iinc (z := 2) (v := (l2 + 1)) (lv2 := [(2, .int (l2 + 1)), (1, .int (l1 + v2)), (0, .ref l0)]) dX6_spread_22 rfl rfl (by decide) rfl ?_
      refine ev_goto (tgt := 4) dX6_spread_25 (by decide) ?_
      refine ev_sub [2, 1, 0] rfl (lv2 := [(0, .ref l0), (1, .int (l1 + v2)), (2, .int (l2 + 1))]) ?_
      exact hk _ _ hf
def f_X6_spread (h : Hp) (l0 : Nat) : Option (Int32) := (bn1 (f_X6_spread_l4 h l0 fu (0 : Int32) (0 : Int32)) (fun w1_4 => (if nn32 (FP.fdiv (FP.i2f w1_4) (FP.i2f (hI h (l0 + 2) (1 : Int32).toNatClampNeg))) = true then (bn1 (f_Jxf58ca_floatToIntBits_5c35a h (FP.fdiv (FP.i2f w1_4) (FP.i2f (hI h (l0 + 2) (1 : Int32).toNatClampNeg)))) (fun v7 => (some v7))) else none)))
set_option maxRecDepth 100000 in
set_option maxHeartbeats 4000000 in
theorem ev_X6_spread {g : Gl} {h : Hp} {l0 : Nat} {rv : Int32} (kl0 : KD g.1 l0 5 0) (hf : f_X6_spread h l0 = some rv) : Ev yX6_spread cX6_spread 4 (some .int) 4 86 g 0 [] [(0, .ref l0)] h (some (.int rv)) h := by
  unfold f_X6_spread at hf
  refine ev_iconst (v := 0) dX6_spread_0 (by decide) ?_
  refine ev_istore_n (lv2 := [(1, .int (0 : Int32)), (0, .ref l0)]) dX6_spread_1 rfl (by decide) rfl ?_
  refine ev_iconst (v := 0) dX6_spread_2 (by decide) ?_
  refine ev_istore_n (lv2 := [(2, .int (0 : Int32)), (1, .int (0 : Int32)), (0, .ref l0)]) dX6_spread_3 rfl (by decide) rfl ?_
  obtain ⟨w1_4, e9, hf⟩ := bn1_of hf
  refine ev_sub [2, 1, 0] rfl (lv2 := [(0, .ref l0), (1, .int (0 : Int32)), (2, .int (0 : Int32))]) ?_
  refine lp_X6_spread_4 kl0 ?_ fu _ _ e9
  refine ev_iload_n (n := 1) dX6_spread_28 rfl rfl ?_
  refine ev_i2f dX6_spread_29 ?_
  refine ev_fstore_n (lv2 := [(2, .float (FP.i2f w1_4)), (0, .ref l0), (1, .int w1_4)]) dX6_spread_30 rfl (by decide) rfl ?_
  refine ev_aload_n (n := 1) dX6_spread_31 rfl rfl ?_
  refine ev_get (v := .ref (l0 + 2)) 1 kl0 rfl (by decide) rfl lk_607 dX6_spread_32 ?_
  refine ev_iconst (v := 1) dX6_spread_35 (by decide) ?_
  refine ev_iald (kd_5_1 kl0) (by unfold vp_in; decide) dX6_spread_36 ?_
  refine ev_i2f dX6_spread_37 ?_
  refine ev_fstore_n (lv2 := [(3, .float (FP.i2f (hI h (l0 + 2) (1 : Int32).toNatClampNeg))), (2, .float (FP.i2f w1_4)), (0, .ref l0), (1, .int w1_4)]) dX6_spread_38 rfl (by decide) rfl ?_
  refine ev_fload_n (n := 1) dX6_spread_39 rfl rfl ?_
  refine ev_fload_n (n := 0) dX6_spread_40 rfl rfl ?_
  obtain ⟨gd6, hf⟩ := gd_of hf
  refine ev_fdiv dX6_spread_41 (nn32_of gd6) ?_
  obtain ⟨v7, e8, hf⟩ := bn1_of hf
  refine ev_callSi (As := [.float (FP.fdiv (FP.i2f w1_4) (FP.i2f (hI h (l0 + 2) (1 : Int32).toNatClampNeg)))]) cal_Jxf58ca_floatToIntBits_5c35a (ev_Jxf58ca_floatToIntBits_5c35a e8) (Nat.le_of_ble_eq_true rfl) rfl lk_898 (by decide) (by decide) (Nat.le_of_ble_eq_true rfl) dX6_spread_42 rfl ?_
  obtain rfl := Option.some.inj hf
  exact ev_ireturn dX6_spread_45 ⟨.int, rfl, rfl⟩
def f_X6_fairness_l7 (h : Hp) (l0 : Nat) : Nat → UInt64 → UInt64 → Int32 → Option (UInt64 × UInt64)
  | 0, _, _, _ => none
  | fu1 + 1, l1, l3, l5 => (if (hI h (l0 + 2) (0 : Int32).toNatClampNeg) ≤ l5 then (some (l1, l3)) else (bn1 (f_X6_cellOf h l0 l5 (6 : Int32)) (fun v2 => (if nn64 (FP.dadd l1 (FP.i2d v2)) = true then (if nn64 (FP.dmul (FP.i2d v2) (FP.i2d v2)) = true then (if nn64 (FP.dadd l3 (FP.dmul (FP.i2d v2) (FP.i2d v2))) = true then (f_X6_fairness_l7 h l0 fu1 (FP.dadd l1 (FP.i2d v2)) (FP.dadd l3 (FP.dmul (FP.i2d v2) (FP.i2d v2))) (l5 + 1)) else none) else none) else none))))
theorem f_X6_fairness_l7_s (h : Hp) (l0 : Nat) (fu1 : Nat) (l1 : UInt64) (l3 : UInt64) (l5 : Int32) : f_X6_fairness_l7 h l0 (fu1 + 1) l1 l3 l5 = (if (hI h (l0 + 2) (0 : Int32).toNatClampNeg) ≤ l5 then (some (l1, l3)) else (bn1 (f_X6_cellOf h l0 l5 (6 : Int32)) (fun v2 => (if nn64 (FP.dadd l1 (FP.i2d v2)) = true then (if nn64 (FP.dmul (FP.i2d v2) (FP.i2d v2)) = true then (if nn64 (FP.dadd l3 (FP.dmul (FP.i2d v2) (FP.i2d v2))) = true then (f_X6_fairness_l7 h l0 fu1 (FP.dadd l1 (FP.i2d v2)) (FP.dadd l3 (FP.dmul (FP.i2d v2) (FP.i2d v2))) (l5 + 1)) else none) else none) else none)))) := rfl
theorem f_X6_fairness_l7_0 (h : Hp) (l0 : Nat) (l1 : UInt64) (l3 : UInt64) (l5 : Int32) : f_X6_fairness_l7 h l0 0 l1 l3 l5 = none := rfl
set_option maxRecDepth 100000 in
set_option maxHeartbeats 4000000 in
theorem lp_X6_fairness_7 {g : Gl} {h : Hp} {l0 : Nat} {r : Option Value} {h2 : Hp} {o1 : UInt64} {o3 : UInt64} (kl0 : KD g.1 l0 5 0) (hx0 : Ev yX6_fairness cX6_fairness 8 (some .long) 2 51 g 48 [] [(0, .ref l0), (1, .double o1), (3, .double o3)] h r h2) : ∀ (fu1 : Nat) (l1 : UInt64) (l3 : UInt64) (l5 : Int32), f_X6_fairness_l7 h l0 fu1 l1 l3 l5 = some (o1, o3) → Ev yX6_fairness cX6_fairness 8 (some .long) 2 51 g 7 [] [(0, .ref l0), (1, .double l1), (3, .double l3), (5, .int l5)] h r h2 := by
  intro fu1
  induction fu1 with
  | zero =>
    intro l1 l3 l5 hf
    cases hf
  | succ fu1 ih =>
    intro l1 l3 l5 hf
    rw [f_X6_fairness_l7_s] at hf
    have hk := ih
    refine ev_iload (n := 3) dX6_fairness_7 rfl ?_
    refine ev_aload_n (n := 0) dX6_fairness_9 rfl rfl ?_
    refine ev_get (v := .ref (l0 + 2)) 1 kl0 rfl (by decide) rfl lk_607 dX6_fairness_10 ?_
    refine ev_iconst (v := 0) dX6_fairness_13 (by decide) ?_
    refine ev_iald (kd_5_1 kl0) (by unfold vp_in; decide) dX6_fairness_14 ?_
    refine ev_icmp_ge (tgt := 48) dX6_fairness_15 (by decide) (fun c1 => ?_) (fun c1 => ?_)
    · replace hf := if_t c1 hf
      refine ev_sub [0, 1, 2] rfl (lv2 := [(0, .ref l0), (1, .double l1), (3, .double l3)]) ?_
      obtain ⟨rfl, rfl⟩ := Prod.mk.inj (Option.some.inj hf)
      exact hx0
    · replace hf := if_f c1 hf
      refine ev_aload_n (n := 0) dX6_fairness_18 rfl rfl ?_
      refine ev_iload (n := 3) dX6_fairness_19 rfl ?_
      refine ev_bipush (v := 6) dX6_fairness_21 (by decide) ?_
      obtain ⟨v2, e3, hf⟩ := bn1_of hf
      refine ev_callVi (As := [.int l5, .int (6 : Int32)]) cal_X6_cellOf kl0 rfl (ev_X6_cellOf kl0 e3) (Nat.le_of_ble_eq_true rfl) rfl lk_719 (by decide) (by decide) (Nat.le_of_ble_eq_true rfl) dX6_fairness_23 rfl ?_
      refine ev_i2d dX6_fairness_26 ?_
      refine ev_dstore (lv2 := [(6, .double (FP.i2d v2)), (0, .ref l0), (1, .double l1), (3, .double l3), (5, .int l5)]) dX6_fairness_27 (by decide) rfl ?_
      refine ev_dload_n (n := 2) dX6_fairness_29 rfl rfl ?_
      refine ev_dload (n := 0) dX6_fairness_30 rfl ?_
      obtain ⟨gd4, hf⟩ := gd_of hf
      refine ev_dadd dX6_fairness_32 (nn64_of gd4) ?_
      refine ev_dstore_n (lv2 := [(1, .double (FP.dadd l1 (FP.i2d v2))), (6, .double (FP.i2d v2)), (0, .ref l0), (3, .double l3), (5, .int l5)]) dX6_fairness_33 rfl (by decide) rfl ?_
      refine ev_dload_n (n := 3) dX6_fairness_34 rfl rfl ?_
      refine ev_dload (n := 1) dX6_fairness_35 rfl ?_
      refine ev_dload (n := 1) dX6_fairness_37 rfl ?_
      obtain ⟨gd5, hf⟩ := gd_of hf
      refine ev_dmul dX6_fairness_39 (nn64_of gd5) ?_
      obtain ⟨gd6, hf⟩ := gd_of hf
      refine ev_dadd dX6_fairness_40 (nn64_of gd6) ?_
      refine ev_dstore_n (lv2 := [(3, .double (FP.dadd l3 (FP.dmul (FP.i2d v2) (FP.i2d v2)))), (1, .double (FP.dadd l1 (FP.i2d v2))), (6, .double (FP.i2d v2)), (0, .ref l0), (5, .int l5)]) dX6_fairness_41 rfl (by decide) rfl ?_
      refine ev_iinc (z := 4) (v := (l5 + 1)) (lv2 := [(5, .int (l5 + 1)), (3, .double (FP.dadd l3 (FP.dmul (FP.i2d v2) (FP.i2d v2)))), (1, .double (FP.dadd l1 (FP.i2d v2))), (6, .double (FP.i2d v2)), (0, .ref l0)]) dX6_fairness_42 rfl rfl (by decide) rfl ?_
      refine ev_goto (tgt := 7) dX6_fairness_45 (by decide) ?_
      refine ev_sub [4, 2, 1, 0] rfl (lv2 := [(0, .ref l0), (1, .double (FP.dadd l1 (FP.i2d v2))), (3, .double (FP.dadd l3 (FP.dmul (FP.i2d v2) (FP.i2d v2)))), (5, .int (l5 + 1))]) ?_
      exact hk _ _ _ hf
def f_X6_fairness_j75 (h : Hp) (s0 : UInt64) : Option (Int64) := (bn1 (f_Jxe99ae_doubleToLongBits_ccdee h s0) (fun v13 => (some v13)))
set_option maxRecDepth 100000 in
set_option maxHeartbeats 4000000 in
theorem jn_X6_fairness_75 {g : Gl} {h : Hp} {s0 : UInt64}  {rv : Int64}    (hf : f_X6_fairness_j75 h s0 = some rv) : Ev yX6_fairness cX6_fairness 8 (some .long) 2 51 g 75 [.double s0] [] h (some (.long rv)) h := by
  unfold f_X6_fairness_j75 at hf
  obtain ⟨v13, e14, hf⟩ := bn1_of hf
  refine ev_callSl (As := [.double s0]) cal_Jxe99ae_doubleToLongBits_ccdee (ev_Jxe99ae_doubleToLongBits_ccdee e14) (Nat.le_of_ble_eq_true rfl) rfl lk_932 (by decide) (by decide) (Nat.le_of_ble_eq_true rfl) dX6_fairness_75 rfl ?_
  obtain rfl := Option.some.inj hf
  exact ev_lreturn dX6_fairness_78 rfl
def f_X6_fairness (h : Hp) (l0 : Nat) : Option (Int64) := (bn2 (f_X6_fairness_l7 h l0 fu FP.dconst0 FP.dconst0 (0 : Int32)) (fun w1_7 w3_8 => (if (Op.cmpValue (FP.dcmp w3_8 FP.dconst0) .l) = 0 then (f_X6_fairness_j75 h FP.dconst1) else (if nn64 (FP.dmul w1_7 w1_7) = true then (if nn64 (FP.dmul (FP.i2d (hI h (l0 + 2) (0 : Int32).toNatClampNeg)) w3_8) = true then (if nn64 (FP.ddiv (FP.dmul w1_7 w1_7) (FP.dmul (FP.i2d (hI h (l0 + 2) (0 : Int32).toNatClampNeg)) w3_8)) = true then (f_X6_fairness_j75 h (FP.ddiv (FP.dmul w1_7 w1_7) (FP.dmul (FP.i2d (hI h (l0 + 2) (0 : Int32).toNatClampNeg)) w3_8))) else none) else none) else none))))
set_option maxRecDepth 100000 in
set_option maxHeartbeats 4000000 in
theorem ev_X6_fairness {g : Gl} {h : Hp} {l0 : Nat} {rv : Int64} (kl0 : KD g.1 l0 5 0) (hf : f_X6_fairness h l0 = some rv) : Ev yX6_fairness cX6_fairness 8 (some .long) 2 51 g 0 [] [(0, .ref l0)] h (some (.long rv)) h := by
  unfold f_X6_fairness at hf
  refine ev_dconst0 dX6_fairness_0 ?_
  refine ev_dstore_n (lv2 := [(1, .double FP.dconst0), (0, .ref l0)]) dX6_fairness_1 rfl (by decide) rfl ?_
  refine ev_dconst0 dX6_fairness_2 ?_
  refine ev_dstore_n (lv2 := [(3, .double FP.dconst0), (1, .double FP.dconst0), (0, .ref l0)]) dX6_fairness_3 rfl (by decide) rfl ?_
  refine ev_iconst (v := 0) dX6_fairness_4 (by decide) ?_
  refine ev_istore (lv2 := [(5, .int (0 : Int32)), (3, .double FP.dconst0), (1, .double FP.dconst0), (0, .ref l0)]) dX6_fairness_5 (by decide) rfl ?_
  obtain ⟨w1_7, w3_8, e15, hf⟩ := bn2_of hf
  refine ev_sub [3, 2, 1, 0] rfl (lv2 := [(0, .ref l0), (1, .double FP.dconst0), (3, .double FP.dconst0), (5, .int (0 : Int32))]) ?_
  refine lp_X6_fairness_7 kl0 ?_ fu _ _ _ e15
  refine ev_aload_n (n := 0) dX6_fairness_48 rfl rfl ?_
  refine ev_get (v := .ref (l0 + 2)) 1 kl0 rfl (by decide) rfl lk_607 dX6_fairness_49 ?_
  refine ev_iconst (v := 0) dX6_fairness_52 (by decide) ?_
  refine ev_iald (kd_5_1 kl0) (by unfold vp_in; decide) dX6_fairness_53 ?_
  refine ev_i2d dX6_fairness_54 ?_
  refine ev_dstore (lv2 := [(5, .double (FP.i2d (hI h (l0 + 2) (0 : Int32).toNatClampNeg))), (0, .ref l0), (1, .double w1_7), (3, .double w3_8)]) dX6_fairness_55 (by decide) rfl ?_
  refine ev_dload_n (n := 3) dX6_fairness_57 rfl rfl ?_
  refine ev_dconst0 dX6_fairness_58 ?_
  refine ev_dcmp dX6_fairness_59 ?_
  refine ev_if_ne (tgt := 67) dX6_fairness_60 (by decide) (fun c1 => ?_) (fun c1 => ?_)
  · replace hf := if_f c1 hf
    refine ev_dload_n (n := 2) dX6_fairness_67 rfl rfl ?_
    refine ev_dload_n (n := 2) dX6_fairness_68 rfl rfl ?_
    obtain ⟨gd10, hf⟩ := gd_of hf
    refine ev_dmul dX6_fairness_69 (nn64_of gd10) ?_
    refine ev_dload (n := 0) dX6_fairness_70 rfl ?_
    refine ev_dload_n (n := 3) dX6_fairness_72 rfl rfl ?_
    obtain ⟨gd11, hf⟩ := gd_of hf
    refine ev_dmul dX6_fairness_73 (nn64_of gd11) ?_
    obtain ⟨gd12, hf⟩ := gd_of hf
    refine ev_ddiv dX6_fairness_74 (nn64_of gd12) ?_
    refine ev_sub [] rfl (lv2 := []) ?_
    exact jn_X6_fairness_75 hf
  · replace hf := if_t c1 hf
    refine ev_dconst1 dX6_fairness_63 ?_
    refine ev_goto (tgt := 75) dX6_fairness_64 (by decide) ?_
    refine ev_sub [] rfl (lv2 := []) ?_
    exact jn_X6_fairness_75 hf
