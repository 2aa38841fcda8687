def f_X5_refuse_j48 (h : Hp) (l1 : Int32) : Option (Int32 × Hp) := (some (l1, h))
set_option maxRecDepth 100000 in
set_option maxHeartbeats 4000000 in
theorem jn_X5_refuse_48 {g : Gl} {h : Hp} {l1 : Int32}  {rv : Int32} {h2 : Hp}    (hf : f_X5_refuse_j48 h l1 = some (rv, h2)) : Ev yX5_refuse cX5_refuse 2 (some .int) 0 0 g 48 [] [(1, .int l1)] h (some (.int rv)) h2 := by
  unfold f_X5_refuse_j48 at hf
  refine ev_iload_n (n := 0) dX5_refuse_48 rfl rfl ?_
  obtain ⟨rfl, rfl⟩ := Prod.mk.inj (Option.some.inj hf)
  exact ev_ireturn dX5_refuse_49 ⟨.int, rfl, rfl⟩
def f_X5_refuse (h : Hp) (l0 : Nat) (l1 : Int32) : Option (Int32 × Hp) := (if l1 = (-2 : Int32) then (f_X5_refuse_j48 (sI h l0 6 ((hI h l0 6) + (1 : Int32))) l1) else (if l1 = (-3 : Int32) then (f_X5_refuse_j48 (sI h l0 7 ((hI h l0 7) + (1 : Int32))) l1) else (f_X5_refuse_j48 (sI h l0 8 ((hI h l0 8) + (1 : Int32))) l1)))
set_option maxRecDepth 100000 in
set_option maxHeartbeats 4000000 in
theorem ev_X5_refuse {g : Gl} {h : Hp} {l0 : Nat} {l1 : Int32} {rv : Int32} {h2 : Hp} (kl0 : KD g.1 l0 4 0) (hf : f_X5_refuse h l0 l1 = some (rv, h2)) : Ev yX5_refuse cX5_refuse 2 (some .int) 0 0 g 0 [] [(0, .ref l0), (1, .int l1)] h (some (.int rv)) h2 := by
  unfold f_X5_refuse at hf
  refine ev_iload_n (n := 1) dX5_refuse_0 rfl rfl ?_
  refine ev_bipush (v := -2) dX5_refuse_1 (by decide) ?_
  refine ev_icmp_ne (tgt := 19) dX5_refuse_3 (by decide) (fun c1 => ?_) (fun c1 => ?_)
  · replace hf := if_f c1 hf
    refine ev_iload_n (n := 1) dX5_refuse_19 rfl rfl ?_
    refine ev_bipush (v := -3) dX5_refuse_20 (by decide) ?_
    refine ev_icmp_ne (tgt := 38) dX5_refuse_22 (by decide) (fun c1 => ?_) (fun c1 => ?_)
    · replace hf := if_f c1 hf
      refine ev_aload_n (n := 0) dX5_refuse_38 rfl rfl ?_
      refine ev_dup dX5_refuse_39 rfl ?_
      refine ev_get (v := .int (hI h l0 8)) 8 kl0 rfl (by decide) rfl lk_224 dX5_refuse_40 ?_
      refine ev_iconst (v := 1) dX5_refuse_43 (by decide) ?_
      refine ev_iadd dX5_refuse_44 ?_
      refine ev_putI 8 kl0 rfl (by decide) rfl (by decide +kernel) rfl (by exact Nat.le_of_ble_eq_true rfl) lk_224 dX5_refuse_45 ?_
      refine ev_sub [1] rfl (lv2 := [(1, .int l1)]) ?_
      exact jn_X5_refuse_48 hf
    · replace hf := if_t c1 hf
      refine ev_aload_n (n := 0) dX5_refuse_25 rfl rfl ?_
      refine ev_dup dX5_refuse_26 rfl ?_
      refine ev_get (v := .int (hI h l0 7)) 7 kl0 rfl (by decide) rfl lk_223 dX5_refuse_27 ?_
      refine ev_iconst (v := 1) dX5_refuse_30 (by decide) ?_
      refine ev_iadd dX5_refuse_31 ?_
      refine ev_putI 7 kl0 rfl (by decide) rfl (by decide +kernel) rfl (by exact Nat.le_of_ble_eq_true rfl) lk_223 dX5_refuse_32 ?_
      refine ev_goto (tgt := 48) dX5_refuse_35 (by decide) ?_
      refine ev_sub [1] rfl (lv2 := [(1, .int l1)]) ?_
      exact jn_X5_refuse_48 hf
  · replace hf := if_t c1 hf
    refine ev_aload_n (n := 0) dX5_refuse_6 rfl rfl ?_
    refine ev_dup dX5_refuse_7 rfl ?_
    refine ev_get (v := .int (hI h l0 6)) 6 kl0 rfl (by decide) rfl lk_222 dX5_refuse_8 ?_
    refine ev_iconst (v := 1) dX5_refuse_11 (by decide) ?_
    refine ev_iadd dX5_refuse_12 ?_
    refine ev_putI 6 kl0 rfl (by decide) rfl (by decide +kernel) rfl (by exact Nat.le_of_ble_eq_true rfl) lk_222 dX5_refuse_13 ?_
    refine ev_goto (tgt := 48) dX5_refuse_16 (by decide) ?_
    refine ev_sub [1] rfl (lv2 := [(1, .int l1)]) ?_
    exact jn_X5_refuse_48 hf
def f_X5_keepState_j46 (h : Hp)  : Option (Hp) := (some h)
set_option maxRecDepth 100000 in
set_option maxHeartbeats 4000000 in
theorem jn_X5_keepState_46 {g : Gl} {h : Hp}   {h2 : Hp}    (hf : f_X5_keepState_j46 h = some h2) : Ev yX5_keepState cX5_keepState 1 none 3 73 g 46 [] [] h none h2 := by
  unfold f_X5_keepState_j46 at hf
  obtain rfl := Option.some.inj hf
  exact ev_return_ dX5_keepState_46 rfl
def f_X5_keepState (h : Hp) (l0 : Nat) : Option (Hp) := (if inb (hI (sI h l0 4 (((hI h l0 4) + (1 : Int32)) - ((hI h l0 4) + (1 : Int32)) / (5 : Int32) * (5 : Int32))) l0 4) 5 = true then (bn1 (f_X3_copyFrom (sI h l0 4 (((hI h l0 4) + (1 : Int32)) - ((hI h l0 4) + (1 : Int32)) / (5 : Int32) * (5 : Int32))) ((l0 + 28) + 1 + 27 * (hI (sI h l0 4 (((hI h l0 4) + (1 : Int32)) - ((hI h l0 4) + (1 : Int32)) / (5 : Int32) * (5 : Int32))) l0 4).toNatClampNeg) (l0 + 1)) (fun h2 => (if (5 : Int32) ≤ (hI h2 l0 5) then (f_X5_keepState_j46 h2) else (f_X5_keepState_j46 (sI h2 l0 5 ((hI h2 l0 5) + (1 : Int32))))))) else none)
set_option maxRecDepth 100000 in
set_option maxHeartbeats 4000000 in
theorem ev_X5_keepState {g : Gl} {h : Hp} {l0 : Nat} {h2 : Hp} (kl0 : KD g.1 l0 4 0) (hf : f_X5_keepState h l0 = some h2) : Ev yX5_keepState cX5_keepState 1 none 3 73 g 0 [] [(0, .ref l0)] h none h2 := by
  unfold f_X5_keepState at hf
  refine ev_aload_n (n := 0) dX5_keepState_0 rfl rfl ?_
  refine ev_aload_n (n := 0) dX5_keepState_1 rfl rfl ?_
  refine ev_get (v := .int (hI h l0 4)) 4 kl0 rfl (by decide) rfl lk_220 dX5_keepState_2 ?_
  refine ev_iconst (v := 1) dX5_keepState_5 (by decide) ?_
  refine ev_iadd dX5_keepState_6 ?_
  refine ev_iconst (v := 5) dX5_keepState_7 (by decide) ?_
  refine ev_irem dX5_keepState_8 (by decide) ?_
  refine ev_putI 4 kl0 rfl (by decide) rfl (by decide +kernel) rfl (by exact Nat.le_of_ble_eq_true rfl) lk_220 dX5_keepState_9 ?_
  refine ev_aload_n (n := 0) dX5_keepState_12 rfl rfl ?_
  refine ev_get (v := .ref (l0 + 28)) 1 kl0 rfl (by decide) rfl lk_217 dX5_keepState_13 ?_
  refine ev_aload_n (n := 0) dX5_keepState_16 rfl rfl ?_
  refine ev_get (v := .int (hI (sI h l0 4 (((hI h l0 4) + (1 : Int32)) - ((hI h l0 4) + (1 : Int32)) / (5 : Int32) * (5 : Int32))) l0 4)) 4 kl0 rfl (by decide) rfl lk_220 dX5_keepState_17 ?_
  obtain ⟨gd1, hf⟩ := gd_of hf
  refine ev_aaldS (kd_4_1 kl0) (inb_of gd1) dX5_keepState_20 ?_
  refine ev_aload_n (n := 0) dX5_keepState_21 rfl rfl ?_
  refine ev_get (v := .ref (l0 + 1)) 0 kl0 rfl (by decide) rfl lk_216 dX5_keepState_22 ?_
  obtain ⟨h2, e3, hf⟩ := bn1_of hf
  refine ev_callVv (As := [.ref (l0 + 1)]) cal_X3_copyFrom (kdSA (kd_4_1 kl0) (inb_of gd1)) rfl (ev_X3_copyFrom (kdSA (kd_4_1 kl0) (inb_of gd1)) (kd_4_0 kl0) e3) (Nat.le_of_ble_eq_true rfl) rfl lk_256 (by decide) (by decide) (Nat.le_of_ble_eq_true rfl) dX5_keepState_25 rfl ?_
  refine ev_aload_n (n := 0) dX5_keepState_28 rfl rfl ?_
  refine ev_get (v := .int (hI h2 l0 5)) 5 kl0 rfl (by decide) rfl lk_221 dX5_keepState_29 ?_
  refine ev_iconst (v := 5) dX5_keepState_32 (by decide) ?_
  refine ev_icmp_ge (tgt := 46) dX5_keepState_33 (by decide) (fun c1 => ?_) (fun c1 => ?_)
  · replace hf := if_t c1 hf
    refine ev_sub [] rfl (lv2 := []) ?_
    exact jn_X5_keepState_46 hf
  · replace hf := if_f c1 hf
    refine ev_aload_n (n := 0) dX5_keepState_36 rfl rfl ?_
    refine ev_dup dX5_keepState_37 rfl ?_
    refine ev_get (v := .int (hI h2 l0 5)) 5 kl0 rfl (by decide) rfl lk_221 dX5_keepState_38 ?_
    refine ev_iconst (v := 1) dX5_keepState_41 (by decide) ?_
    refine ev_iadd dX5_keepState_42 ?_
    refine ev_putI 5 kl0 rfl (by decide) rfl (by decide +kernel) rfl (by exact Nat.le_of_ble_eq_true rfl) lk_221 dX5_keepState_43 ?_
    refine ev_sub [] rfl (lv2 := []) ?_
    exact jn_X5_keepState_46 hf
def f_X5_begins_j21 (h : Hp) (l0 : Nat) : Option (Int32 × Hp) := (bn2 (f_X5_refuse h l0 (-2 : Int32)) (fun v1 h2 => (some (v1, h2))))
set_option maxRecDepth 100000 in
set_option maxHeartbeats 4000000 in
theorem jn_X5_begins_21 {g : Gl} {h : Hp} {l0 : Nat}  {rv : Int32} {h2 : Hp} (kl0 : KD g.1 l0 4 0)   (hf : f_X5_begins_j21 h l0 = some (rv, h2)) : Ev yX5_begins cX5_begins 4 (some .int) 4 93 g 21 [] [(0, .ref l0)] h (some (.int rv)) h2 := by
  unfold f_X5_begins_j21 at hf
  refine ev_aload_n (n := 0) dX5_begins_21 rfl rfl ?_
  refine ev_bipush (v := -2) dX5_begins_22 (by decide) ?_
  obtain ⟨v1, h2, e3, hf⟩ := bn2_of hf
  refine ev_callVi (As := [.int (-2 : Int32)]) cal_X5_refuse kl0 rfl (ev_X5_refuse kl0 e3) (Nat.le_of_ble_eq_true rfl) rfl lk_248 (by decide) (by decide) (Nat.le_of_ble_eq_true rfl) dX5_begins_24 rfl ?_
  obtain ⟨rfl, rfl⟩ := Prod.mk.inj (Option.some.inj hf)
  exact ev_ireturn dX5_begins_27 ⟨.int, rfl, rfl⟩
def f_X5_begins (h : Hp) (l0 : Nat) (l1 : Int32) (l2 : Int32) : Option (Int32 × Hp) := (if l1 < (1 : Int32) then (f_X5_begins_j21 h l0) else (if (8 : Int32) < l1 then (f_X5_begins_j21 h l0) else (if l2 < (1 : Int32) then (f_X5_begins_j21 h l0) else (if l2 ≤ (4 : Int32) then (bn1 (f_X5_keepState h l0) (fun h4 => (bn1 (f_X3_startAnew h4 (l0 + 1) l1 l2) (fun h6 => (some ((hI h4 (l0 + 1) 4), h6)))))) else (f_X5_begins_j21 h l0)))))
set_option maxRecDepth 100000 in
set_option maxHeartbeats 4000000 in
theorem ev_X5_begins {g : Gl} {h : Hp} {l0 : Nat} {l1 : Int32} {l2 : Int32} {rv : Int32} {h2 : Hp} (kl0 : KD g.1 l0 4 0) (hf : f_X5_begins h l0 l1 l2 = some (rv, h2)) : Ev yX5_begins cX5_begins 4 (some .int) 4 93 g 0 [] [(0, .ref l0), (1, .int l1), (2, .int l2)] h (some (.int rv)) h2 := by
  unfold f_X5_begins at hf
  refine ev_iload_n (n := 1) dX5_begins_0 rfl rfl ?_
  refine ev_iconst (v := 1) dX5_begins_1 (by decide) ?_
  refine ev_icmp_lt (tgt := 21) dX5_begins_2 (by decide) (fun c1 => ?_) (fun c1 => ?_)
  · replace hf := if_t c1 hf
    refine ev_sub [0] rfl (lv2 := [(0, .ref l0)]) ?_
    exact jn_X5_begins_21 kl0 hf
  · replace hf := if_f c1 hf
    refine ev_iload_n (n := 1) dX5_begins_5 rfl rfl ?_
    refine ev_bipush (v := 8) dX5_begins_6 (by decide) ?_
    refine ev_icmp_gt (tgt := 21) dX5_begins_8 (by decide) (fun c1 => ?_) (fun c1 => ?_)
    · replace hf := if_t c1 hf
      refine ev_sub [0] rfl (lv2 := [(0, .ref l0)]) ?_
      exact jn_X5_begins_21 kl0 hf
    · replace hf := if_f c1 hf
      refine ev_iload_n (n := 2) dX5_begins_11 rfl rfl ?_
      refine ev_iconst (v := 1) dX5_begins_12 (by decide) ?_
      refine ev_icmp_lt (tgt := 21) dX5_begins_13 (by decide) (fun c1 => ?_) (fun c1 => ?_)
      · replace hf := if_t c1 hf
        refine ev_sub [0] rfl (lv2 := [(0, .ref l0)]) ?_
        exact jn_X5_begins_21 kl0 hf
      · replace hf := if_f c1 hf
        refine ev_iload_n (n := 2) dX5_begins_16 rfl rfl ?_
        refine ev_iconst (v := 4) dX5_begins_17 (by decide) ?_
        refine ev_icmp_le (tgt := 28) dX5_begins_18 (by decide) (fun c1 => ?_) (fun c1 => ?_)
        · replace hf := if_t c1 hf
          refine ev_aload_n (n := 0) dX5_begins_28 rfl rfl ?_
          obtain ⟨h4, e5, hf⟩ := bn1_of hf
          refine ev_callVv (As := []) cal_X5_keepState kl0 rfl (ev_X5_keepState kl0 e5) (Nat.le_of_ble_eq_true rfl) rfl lk_252 (by decide) (by decide) (Nat.le_of_ble_eq_true rfl) dX5_begins_29 rfl ?_
          refine ev_aload_n (n := 0) dX5_begins_32 rfl rfl ?_
          refine ev_get (v := .ref (l0 + 1)) 0 kl0 rfl (by decide) rfl lk_216 dX5_begins_33 ?_
          refine ev_get (v := .int (hI h4 (l0 + 1) 4)) 4 (kd_4_0 kl0) rfl (by decide) rfl lk_114 dX5_begins_36 ?_
          refine ev_istore_n (lv2 := [(3, .int (hI h4 (l0 + 1) 4)), (0, .ref l0), (1, .int l1), (2, .int l2)]) dX5_begins_39 rfl (by decide) rfl ?_
          refine ev_aload_n (n := 1) dX5_begins_40 rfl rfl ?_
          refine ev_get (v := .ref (l0 + 1)) 0 kl0 rfl (by decide) rfl lk_216 dX5_begins_41 ?_
          refine ev_iload_n (n := 2) dX5_begins_44 rfl rfl ?_
          refine ev_iload_n (n := 3) dX5_begins_45 rfl rfl ?_
          obtain ⟨h6, e7, hf⟩ := bn1_of hf
          refine ev_callVv (As := [.int l1, .int l2]) cal_X3_startAnew (kd_4_0 kl0) rfl (ev_X3_startAnew (kd_4_0 kl0) e7) (Nat.le_of_ble_eq_true rfl) rfl lk_268 (by decide) (by decide) (Nat.le_of_ble_eq_true rfl) dX5_begins_46 rfl ?_
          refine ev_iload_n (n := 0) dX5_begins_49 rfl rfl ?_
          obtain ⟨rfl, rfl⟩ := Prod.mk.inj (Option.some.inj hf)
          exact ev_ireturn dX5_begins_50 ⟨.int, rfl, rfl⟩
        · replace hf := if_f c1 hf
          refine ev_sub [0] rfl (lv2 := [(0, .ref l0)]) ?_
          exact jn_X5_begins_21 kl0 hf
def f_X5_peer (h : Hp) (l0 : Nat) (l1 : Int32) (l2 : Int32) : Option (Int32 × Hp) := (bn1 (f_X3_refusesPeer h (l0 + 1) l1 l2) (fun v1 => (if v1 = 0 then (bn1 (f_X5_keepState h l0) (fun h3 => (bn2 (f_X3_addPeer h3 (l0 + 1) l1 l2) (fun v5 h6 => (some (v5, h6)))))) else (bn2 (f_X5_refuse h l0 v1) (fun v8 h9 => (some (v8, h9)))))))
set_option maxRecDepth 100000 in
set_option maxHeartbeats 4000000 in
theorem ev_X5_peer {g : Gl} {h : Hp} {l0 : Nat} {l1 : Int32} {l2 : Int32} {rv : Int32} {h2 : Hp} (kl0 : KD g.1 l0 4 0) (hf : f_X5_peer h l0 l1 l2 = some (rv, h2)) : Ev yX5_peer cX5_peer 4 (some .int) 4 93 g 0 [] [(0, .ref l0), (1, .int l1), (2, .int l2)] h (some (.int rv)) h2 := by
  unfold f_X5_peer at hf
  refine ev_aload_n (n := 0) dX5_peer_0 rfl rfl ?_
  refine ev_get (v := .ref (l0 + 1)) 0 kl0 rfl (by decide) rfl lk_216 dX5_peer_1 ?_
  refine ev_iload_n (n := 1) dX5_peer_4 rfl rfl ?_
  refine ev_iload_n (n := 2) dX5_peer_5 rfl rfl ?_
  obtain ⟨v1, e2, hf⟩ := bn1_of hf
  refine ev_callVi (As := [.int l1, .int l2]) cal_X3_refusesPeer (kd_4_0 kl0) rfl (ev_X3_refusesPeer (kd_4_0 kl0) e2) (Nat.le_of_ble_eq_true rfl) rfl lk_273 (by decide) (by decide) (Nat.le_of_ble_eq_true rfl) dX5_peer_6 rfl ?_
  refine ev_istore_n (lv2 := [(3, .int v1), (0, .ref l0), (1, .int l1), (2, .int l2)]) dX5_peer_9 rfl (by decide) rfl ?_
  refine ev_iload_n (n := 0) dX5_peer_10 rfl rfl ?_
  refine ev_if_eq (tgt := 20) dX5_peer_11 (by decide) (fun c1 => ?_) (fun c1 => ?_)
  · replace hf := if_t c1 hf
    refine ev_aload_n (n := 1) dX5_peer_20 rfl rfl ?_
    obtain ⟨h3, e4, hf⟩ := bn1_of hf
    refine ev_callVv (As := []) cal_X5_keepState kl0 rfl (ev_X5_keepState kl0 e4) (Nat.le_of_ble_eq_true rfl) rfl lk_252 (by decide) (by decide) (Nat.le_of_ble_eq_true rfl) dX5_peer_21 rfl ?_
    refine ev_aload_n (n := 1) dX5_peer_24 rfl rfl ?_
    refine ev_get (v := .ref (l0 + 1)) 0 kl0 rfl (by decide) rfl lk_216 dX5_peer_25 ?_
    refine ev_iload_n (n := 2) dX5_peer_28 rfl rfl ?_
    refine ev_iload_n (n := 3) dX5_peer_29 rfl rfl ?_
    obtain ⟨v5, h6, e7, hf⟩ := bn2_of hf
    refine ev_callVi (As := [.int l1, .int l2]) cal_X3_addPeer (kd_4_0 kl0) rfl (ev_X3_addPeer (kd_4_0 kl0) e7) (Nat.le_of_ble_eq_true rfl) rfl lk_277 (by decide) (by decide) (Nat.le_of_ble_eq_true rfl) dX5_peer_30 rfl ?_
    obtain ⟨rfl, rfl⟩ := Prod.mk.inj (Option.some.inj hf)
    exact ev_ireturn dX5_peer_33 ⟨.int, rfl, rfl⟩
  · replace hf := if_f c1 hf
    refine ev_aload_n (n := 1) dX5_peer_14 rfl rfl ?_
    refine ev_iload_n (n := 0) dX5_peer_15 rfl rfl ?_
    obtain ⟨v8, h9, e10, hf⟩ := bn2_of hf
    refine ev_callVi (As := [.int v1]) cal_X5_refuse kl0 rfl (ev_X5_refuse kl0 e10) (Nat.le_of_ble_eq_true rfl) rfl lk_248 (by decide) (by decide) (Nat.le_of_ble_eq_true rfl) dX5_peer_16 rfl ?_
    obtain ⟨rfl, rfl⟩ := Prod.mk.inj (Option.some.inj hf)
    exact ev_ireturn dX5_peer_19 ⟨.int, rfl, rfl⟩
def f_X5_gives (h : Hp) (l0 : Nat) (l1 : Int32) (l2 : Int32) : Option (Int32 × Hp) := (bn1 (f_X3_refusesGift h (l0 + 1) l1 l2) (fun v1 => (if v1 = 0 then (bn1 (f_X5_keepState h l0) (fun h3 => (bn2 (f_X3_takeGift h3 (l0 + 1) l1 l2) (fun v5 h6 => (some (v5, h6)))))) else (bn2 (f_X5_refuse h l0 v1) (fun v8 h9 => (some (v8, h9)))))))
set_option maxRecDepth 100000 in
set_option maxHeartbeats 4000000 in
theorem ev_X5_gives {g : Gl} {h : Hp} {l0 : Nat} {l1 : Int32} {l2 : Int32} {rv : Int32} {h2 : Hp} (kl0 : KD g.1 l0 4 0) (hf : f_X5_gives h l0 l1 l2 = some (rv, h2)) : Ev yX5_gives cX5_gives 4 (some .int) 4 93 g 0 [] [(0, .ref l0), (1, .int l1), (2, .int l2)] h (some (.int rv)) h2 := by
  unfold f_X5_gives at hf
  refine ev_aload_n (n := 0) dX5_gives_0 rfl rfl ?_
  refine ev_get (v := .ref (l0 + 1)) 0 kl0 rfl (by decide) rfl lk_216 dX5_gives_1 ?_
  refine ev_iload_n (n := 1) dX5_gives_4 rfl rfl ?_
  refine ev_iload_n (n := 2) dX5_gives_5 rfl rfl ?_
  obtain ⟨v1, e2, hf⟩ := bn1_of hf
  refine ev_callVi (As := [.int l1, .int l2]) cal_X3_refusesGift (kd_4_0 kl0) rfl (ev_X3_refusesGift (kd_4_0 kl0) e2) (Nat.le_of_ble_eq_true rfl) rfl lk_289 (by decide) (by decide) (Nat.le_of_ble_eq_true rfl) dX5_gives_6 rfl ?_
  refine ev_istore_n (lv2 := [(3, .int v1), (0, .ref l0), (1, .int l1), (2, .int l2)]) dX5_gives_9 rfl (by decide) rfl ?_
  refine ev_iload_n (n := 0) dX5_gives_10 rfl rfl ?_
  refine ev_if_eq (tgt := 20) dX5_gives_11 (by decide) (fun c1 => ?_) (fun c1 => ?_)
  · replace hf := if_t c1 hf
    refine ev_aload_n (n := 1) dX5_gives_20 rfl rfl ?_
    obtain ⟨h3, e4, hf⟩ := bn1_of hf
    refine ev_callVv (As := []) cal_X5_keepState kl0 rfl (ev_X5_keepState kl0 e4) (Nat.le_of_ble_eq_true rfl) rfl lk_252 (by decide) (by decide) (Nat.le_of_ble_eq_true rfl) dX5_gives_21 rfl ?_
    refine ev_aload_n (n := 1) dX5_gives_24 rfl rfl ?_
    refine ev_get (v := .ref (l0 + 1)) 0 kl0 rfl (by decide) rfl lk_216 dX5_gives_25 ?_
    refine ev_iload_n (n := 2) dX5_gives_28 rfl rfl ?_
    refine ev_iload_n (n := 3) dX5_gives_29 rfl rfl ?_
    obtain ⟨v5, h6, e7, hf⟩ := bn2_of hf
    refine ev_callVi (As := [.int l1, .int l2]) cal_X3_takeGift (kd_4_0 kl0) rfl (ev_X3_takeGift (kd_4_0 kl0) e7) (Nat.le_of_ble_eq_true rfl) rfl lk_305 (by decide) (by decide) (Nat.le_of_ble_eq_true rfl) dX5_gives_30 rfl ?_
    obtain ⟨rfl, rfl⟩ := Prod.mk.inj (Option.some.inj hf)
    exact ev_ireturn dX5_gives_33 ⟨.int, rfl, rfl⟩
  · replace hf := if_f c1 hf
    refine ev_aload_n (n := 1) dX5_gives_14 rfl rfl ?_
    refine ev_iload_n (n := 0) dX5_gives_15 rfl rfl ?_
    obtain ⟨v8, h9, e10, hf⟩ := bn2_of hf
    refine ev_callVi (As := [.int v1]) cal_X5_refuse kl0 rfl (ev_X5_refuse kl0 e10) (Nat.le_of_ble_eq_true rfl) rfl lk_248 (by decide) (by decide) (Nat.le_of_ble_eq_true rfl) dX5_gives_16 rfl ?_
    obtain ⟨rfl, rfl⟩ := Prod.mk.inj (Option.some.inj hf)
    exact ev_ireturn dX5_gives_19 ⟨.int, rfl, rfl⟩
def f_X5_sets (h : Hp) (l0 : Nat) (l1 : Int32) (l2 : Int32) : Option (Int32 × Hp) := (bn1 (f_X3_refusesSetting h (l0 + 1) l1 l2) (fun v1 => (if v1 = 0 then (bn1 (f_X5_keepState h l0) (fun h3 => (bn2 (f_X3_changeSetting h3 (l0 + 1) l1 l2) (fun v5 h6 => (some (v5, h6)))))) else (bn2 (f_X5_refuse h l0 v1) (fun v8 h9 => (some (v8, h9)))))))
set_option maxRecDepth 100000 in
set_option maxHeartbeats 4000000 in
theorem ev_X5_sets {g : Gl} {h : Hp} {l0 : Nat} {l1 : Int32} {l2 : Int32} {rv : Int32} {h2 : Hp} (kl0 : KD g.1 l0 4 0) (hf : f_X5_sets h l0 l1 l2 = some (rv, h2)) : Ev yX5_sets cX5_sets 4 (some .int) 4 93 g 0 [] [(0, .ref l0), (1, .int l1), (2, .int l2)] h (some (.int rv)) h2 := by
  unfold f_X5_sets at hf
  refine ev_aload_n (n := 0) dX5_sets_0 rfl rfl ?_
  refine ev_get (v := .ref (l0 + 1)) 0 kl0 rfl (by decide) rfl lk_216 dX5_sets_1 ?_
  refine ev_iload_n (n := 1) dX5_sets_4 rfl rfl ?_
  refine ev_iload_n (n := 2) dX5_sets_5 rfl rfl ?_
  obtain ⟨v1, e2, hf⟩ := bn1_of hf
  refine ev_callVi (As := [.int l1, .int l2]) cal_X3_refusesSetting (kd_4_0 kl0) rfl (ev_X3_refusesSetting (kd_4_0 kl0) e2) (Nat.le_of_ble_eq_true rfl) rfl lk_323 (by decide) (by decide) (Nat.le_of_ble_eq_true rfl) dX5_sets_6 rfl ?_
  refine ev_istore_n (lv2 := [(3, .int v1), (0, .ref l0), (1, .int l1), (2, .int l2)]) dX5_sets_9 rfl (by decide) rfl ?_
  refine ev_iload_n (n := 0) dX5_sets_10 rfl rfl ?_
  refine ev_if_eq (tgt := 20) dX5_sets_11 (by decide) (fun c1 => ?_) (fun c1 => ?_)
  · replace hf := if_t c1 hf
    refine ev_aload_n (n := 1) dX5_sets_20 rfl rfl ?_
    obtain ⟨h3, e4, hf⟩ := bn1_of hf
    refine ev_callVv (As := []) cal_X5_keepState kl0 rfl (ev_X5_keepState kl0 e4) (Nat.le_of_ble_eq_true rfl) rfl lk_252 (by decide) (by decide) (Nat.le_of_ble_eq_true rfl) dX5_sets_21 rfl ?_
    refine ev_aload_n (n := 1) dX5_sets_24 rfl rfl ?_
    refine ev_get (v := .ref (l0 + 1)) 0 kl0 rfl (by decide) rfl lk_216 dX5_sets_25 ?_
    refine ev_iload_n (n := 2) dX5_sets_28 rfl rfl ?_
    refine ev_iload_n (n := 3) dX5_sets_29 rfl rfl ?_
    obtain ⟨v5, h6, e7, hf⟩ := bn2_of hf
    refine ev_callVi (As := [.int l1, .int l2]) cal_X3_changeSetting (kd_4_0 kl0) rfl (ev_X3_changeSetting (kd_4_0 kl0) e7) (Nat.le_of_ble_eq_true rfl) rfl lk_331 (by decide) (by decide) (Nat.le_of_ble_eq_true rfl) dX5_sets_30 rfl ?_
    obtain ⟨rfl, rfl⟩ := Prod.mk.inj (Option.some.inj hf)
    exact ev_ireturn dX5_sets_33 ⟨.int, rfl, rfl⟩
  · replace hf := if_f c1 hf
    refine ev_aload_n (n := 1) dX5_sets_14 rfl rfl ?_
    refine ev_iload_n (n := 0) dX5_sets_15 rfl rfl ?_
    obtain ⟨v8, h9, e10, hf⟩ := bn2_of hf
    refine ev_callVi (As := [.int v1]) cal_X5_refuse kl0 rfl (ev_X5_refuse kl0 e10) (Nat.le_of_ble_eq_true rfl) rfl lk_248 (by decide) (by decide) (Nat.le_of_ble_eq_true rfl) dX5_sets_16 rfl ?_
    obtain ⟨rfl, rfl⟩ := Prod.mk.inj (Option.some.inj hf)
    exact ev_ireturn dX5_sets_19 ⟨.int, rfl, rfl⟩
def f_X5_areRounds_j15 (h : Hp)  : Option (Int32) := (some (0 : Int32))
set_option maxRecDepth 100000 in
set_option maxHeartbeats 4000000 in
theorem jn_X5_areRounds_15 {g : Gl} {h : Hp}   {rv : Int32}    (hf : f_X5_areRounds_j15 h = some rv) : Ev yX5_areRounds cX5_areRounds 1 (some .boolean) 0 0 g 15 [] [] h (some (.int rv)) h := by
  unfold f_X5_areRounds_j15 at hf
  refine ev_iconst (v := 0) dX5_areRounds_15 (by decide) ?_
  obtain rfl := Option.some.inj hf
  exact ev_ireturn dX5_areRounds_16 ⟨.boolean, rfl, rfl⟩
def f_X5_areRounds (h : Hp) (l0 : Int32) : Option (Int32) := (if l0 < (1 : Int32) then (f_X5_areRounds_j15 h) else (if (30 : Int32) < l0 then (f_X5_areRounds_j15 h) else (some (1 : Int32))))
set_option maxRecDepth 100000 in
set_option maxHeartbeats 4000000 in
theorem ev_X5_areRounds {g : Gl} {h : Hp} {l0 : Int32} {rv : Int32}  (hf : f_X5_areRounds h l0 = some rv) : Ev yX5_areRounds cX5_areRounds 1 (some .boolean) 0 0 g 0 [] [(0, .int l0)] h (some (.int rv)) h := by
  unfold f_X5_areRounds at hf
  refine ev_iload_n (n := 0) dX5_areRounds_0 rfl rfl ?_
  refine ev_iconst (v := 1) dX5_areRounds_1 (by decide) ?_
  refine ev_icmp_lt (tgt := 15) dX5_areRounds_2 (by decide) (fun c1 => ?_) (fun c1 => ?_)
  · replace hf := if_t c1 hf
    refine ev_sub [] rfl (lv2 := []) ?_
    exact jn_X5_areRounds_15 hf
  · replace hf := if_f c1 hf
    refine ev_iload_n (n := 0) dX5_areRounds_5 rfl rfl ?_
    refine ev_bipush (v := 30) dX5_areRounds_6 (by decide) ?_
    refine ev_icmp_gt (tgt := 15) dX5_areRounds_8 (by decide) (fun c1 => ?_) (fun c1 => ?_)
    · replace hf := if_t c1 hf
      refine ev_sub [] rfl (lv2 := []) ?_
      exact jn_X5_areRounds_15 hf
    · replace hf := if_f c1 hf
      refine ev_iconst (v := 1) dX5_areRounds_11 (by decide) ?_
      refine ev_goto (tgt := 16) dX5_areRounds_12 (by decide) ?_
      obtain rfl := Option.some.inj hf
      exact ev_ireturn dX5_areRounds_16 ⟨.boolean, rfl, rfl⟩
def f_X5_rounds (h : Hp) (l0 : Nat) (l1 : Int32) : Option (Int32 × Hp) := (bn1 (f_X5_areRounds h l1) (fun v1 => (if v1 = 0 then (bn2 (f_X5_refuse h l0 (-2 : Int32)) (fun v7 h8 => (some (v7, h8)))) else (bn1 (f_X5_keepState h l0) (fun h3 => (bn1 (f_X2_runSome h3 (l0 + 164) (l0 + 1) l1) (fun h5 => (some ((hI h5 (l0 + 1) 5), h5)))))))))
set_option maxRecDepth 100000 in
set_option maxHeartbeats 4000000 in
theorem ev_X5_rounds {g : Gl} {h : Hp} {l0 : Nat} {l1 : Int32} {rv : Int32} {h2 : Hp} (kl0 : KD g.1 l0 4 0) (hf : f_X5_rounds h l0 l1 = some (rv, h2)) : Ev yX5_rounds cX5_rounds 2 (some .int) 5 126 g 0 [] [(0, .ref l0), (1, .int l1)] h (some (.int rv)) h2 := by
  unfold f_X5_rounds at hf
  refine ev_iload_n (n := 1) dX5_rounds_0 rfl rfl ?_
  obtain ⟨v1, e2, hf⟩ := bn1_of hf
  refine ev_callSi (As := [.int l1]) cal_X5_areRounds (ev_X5_areRounds e2) (Nat.le_of_ble_eq_true rfl) rfl lk_339 (by decide) (by decide) (Nat.le_of_ble_eq_true rfl) dX5_rounds_1 rfl ?_
  refine ev_if_ne (tgt := 14) dX5_rounds_4 (by decide) (fun c1 => ?_) (fun c1 => ?_)
  · replace hf := if_f c1 hf
    refine ev_aload_n (n := 0) dX5_rounds_14 rfl rfl ?_
    obtain ⟨h3, e4, hf⟩ := bn1_of hf
    refine ev_callVv (As := []) cal_X5_keepState kl0 rfl (ev_X5_keepState kl0 e4) (Nat.le_of_ble_eq_true rfl) rfl lk_252 (by decide) (by decide) (Nat.le_of_ble_eq_true rfl) dX5_rounds_15 rfl ?_
    refine ev_aload_n (n := 0) dX5_rounds_18 rfl rfl ?_
    refine ev_get (v := .ref (l0 + 164)) 2 kl0 rfl (by decide) rfl lk_218 dX5_rounds_19 ?_
    refine ev_aload_n (n := 0) dX5_rounds_22 rfl rfl ?_
    refine ev_get (v := .ref (l0 + 1)) 0 kl0 rfl (by decide) rfl lk_216 dX5_rounds_23 ?_
    refine ev_iload_n (n := 1) dX5_rounds_26 rfl rfl ?_
    obtain ⟨h5, e6, hf⟩ := bn1_of hf
    refine ev_callVv (As := [.ref (l0 + 1), .int l1]) cal_X2_runSome (kd_4_2 kl0) rfl (ev_X2_runSome (kd_4_2 kl0) (kd_4_0 kl0) e6) (Nat.le_of_ble_eq_true rfl) rfl lk_342 (by decide) (by decide) (Nat.le_of_ble_eq_true rfl) dX5_rounds_27 rfl ?_
    refine ev_aload_n (n := 0) dX5_rounds_30 rfl rfl ?_
    refine ev_get (v := .ref (l0 + 1)) 0 kl0 rfl (by decide) rfl lk_216 dX5_rounds_31 ?_
    refine ev_get (v := .int (hI h5 (l0 + 1) 5)) 5 (kd_4_0 kl0) rfl (by decide) rfl lk_118 dX5_rounds_34 ?_
    obtain ⟨rfl, rfl⟩ := Prod.mk.inj (Option.some.inj hf)
    exact ev_ireturn dX5_rounds_37 ⟨.int, rfl, rfl⟩
  · replace hf := if_t c1 hf
    refine ev_aload_n (n := 0) dX5_rounds_7 rfl rfl ?_
    refine ev_bipush (v := -2) dX5_rounds_8 (by decide) ?_
    obtain ⟨v7, h8, e9, hf⟩ := bn2_of hf
    refine ev_callVi (As := [.int (-2 : Int32)]) cal_X5_refuse kl0 rfl (ev_X5_refuse kl0 e9) (Nat.le_of_ble_eq_true rfl) rfl lk_248 (by decide) (by decide) (Nat.le_of_ble_eq_true rfl) dX5_rounds_10 rfl ?_
    obtain ⟨rfl, rfl⟩ := Prod.mk.inj (Option.some.inj hf)
    exact ev_ireturn dX5_rounds_13 ⟨.int, rfl, rfl⟩
def f_X5_finishes_j11 (h : Hp) (l0 : Nat) : Option (Int32 × Hp) := (bn2 (f_X5_refuse h l0 (-2 : Int32)) (fun v1 h2 => (some (v1, h2))))
set_option maxRecDepth 100000 in
set_option maxHeartbeats 4000000 in
theorem jn_X5_finishes_11 {g : Gl} {h : Hp} {l0 : Nat}  {rv : Int32} {h2 : Hp} (kl0 : KD g.1 l0 4 0)   (hf : f_X5_finishes_j11 h l0 = some (rv, h2)) : Ev yX5_finishes cX5_finishes 4 (some .int) 5 126 g 11 [] [(0, .ref l0)] h (some (.int rv)) h2 := by
  unfold f_X5_finishes_j11 at hf
  refine ev_aload_n (n := 0) dX5_finishes_11 rfl rfl ?_
  refine ev_bipush (v := -2) dX5_finishes_12 (by decide) ?_
  obtain ⟨v1, h2, e3, hf⟩ := bn2_of hf
  refine ev_callVi (As := [.int (-2 : Int32)]) cal_X5_refuse kl0 rfl (ev_X5_refuse kl0 e3) (Nat.le_of_ble_eq_true rfl) rfl lk_248 (by decide) (by decide) (Nat.le_of_ble_eq_true rfl) dX5_finishes_14 rfl ?_
  obtain ⟨rfl, rfl⟩ := Prod.mk.inj (Option.some.inj hf)
  exact ev_ireturn dX5_finishes_17 ⟨.int, rfl, rfl⟩
def f_X5_finishes_l43 (l0 : Nat) (l1 : Int32) : Nat → Int32 → Int32 → Hp → Option (Int32 × Hp)
  | 0, _, _, _ => none
  | fu1 + 1, l2, l3, h => (if l1 ≤ l3 then (some (l2, h)) else (bn1 (f_X3_isFinished h (l0 + 1)) (fun v8 => (if v8 = 0 then (bn1 (f_X2_runSome h (l0 + 164) (l0 + 1) (1 : Int32)) (fun h10 => (f_X5_finishes_l43 l0 l1 fu1 (l2 + 1) (l3 + 1) h10))) else (some (l2, h))))))
theorem f_X5_finishes_l43_s (l0 : Nat) (l1 : Int32) (fu1 : Nat) (l2 : Int32) (l3 : Int32) (h : Hp) : f_X5_finishes_l43 l0 l1 (fu1 + 1) l2 l3 h = (if l1 ≤ l3 then (some (l2, h)) else (bn1 (f_X3_isFinished h (l0 + 1)) (fun v8 => (if v8 = 0 then (bn1 (f_X2_runSome h (l0 + 164) (l0 + 1) (1 : Int32)) (fun h10 => (f_X5_finishes_l43 l0 l1 fu1 (l2 + 1) (l3 + 1) h10))) else (some (l2, h)))))) := rfl
theorem f_X5_finishes_l43_0 (l0 : Nat) (l1 : Int32) (l2 : Int32) (l3 : Int32) (h : Hp) : f_X5_finishes_l43 l0 l1 0 l2 l3 h = none := rfl
set_option maxRecDepth 100000 in
set_option maxHeartbeats 4000000 in
theorem lp_X5_finishes_43 {g : Gl} {l0 : Nat} {l1 : Int32} {r : Option Value} {h2 : Hp} {o2 : Int32} {h3 : Hp} (kl0 : KD g.1 l0 4 0) (hx0 : Ev yX5_finishes cX5_finishes 4 (some .int) 5 126 g 79 [] [(0, .ref l0), (2, .int o2)] h3 r h2) : ∀ (fu1 : Nat) (l2 : Int32) (l3 : Int32) (h : Hp), f_X5_finishes_l43 l0 l1 fu1 l2 l3 h = some (o2, h3) → Ev yX5_finishes cX5_finishes 4 (some .int) 5 126 g 43 [] [(0, .ref l0), (1, .int l1), (2, .int l2), (3, .int l3)] h r h2 := by
  intro fu1
  induction fu1 with
  | zero =>
    intro l2 l3 h hf
    cases hf
  | succ fu1 ih =>
    intro l2 l3 h hf
    rw [f_X5_finishes_l43_s] at hf
    have hk := ih
    refine ev_iload_n (n := 3) dX5_finishes_43 rfl rfl ?_
    refine ev_iload_n (n := 1) dX5_finishes_44 rfl rfl ?_
    refine ev_icmp_ge (tgt := 79) dX5_finishes_45 (by decide) (fun c1 => ?_) (fun c1 => ?_)
    · replace hf := if_t c1 hf
      refine ev_sub [0, 2] rfl (lv2 := [(0, .ref l0), (2, .int l2)]) ?_
      obtain ⟨rfl, rfl⟩ := Prod.mk.inj (Option.some.inj hf)
      exact hx0
    · replace hf := if_f c1 hf
      refine ev_aload_n (n := 0) dX5_finishes_48 rfl rfl ?_
      refine ev_get (v := .ref (l0 + 1)) 0 kl0 rfl (by decide) rfl lk_216 dX5_finishes_49 ?_
      obtain ⟨v8, e9, hf⟩ := bn1_of hf
      refine ev_callVi (As := []) cal_X3_isFinished (kd_4_0 kl0) rfl (ev_X3_isFinished (kd_4_0 kl0) e9) (Nat.le_of_ble_eq_true rfl) rfl lk_449 (by decide) (by decide) (Nat.le_of_ble_eq_true rfl) dX5_finishes_52 rfl ?_
      refine ev_if_ne (tgt := 79) dX5_finishes_55 (by decide) (fun c1 => ?_) (fun c1 => ?_)
      · replace hf := if_f c1 hf
        refine ev_sub [0, 2] rfl (lv2 := [(0, .ref l0), (2, .int l2)]) ?_
        obtain ⟨rfl, rfl⟩ := Prod.mk.inj (Option.some.inj hf)
        exact hx0
      · replace hf := if_t c1 hf
        refine ev_aload_n (n := 0) dX5_finishes_58 rfl rfl ?_
        refine ev_get (v := .ref (l0 + 164)) 2 kl0 rfl (by decide) rfl lk_218 dX5_finishes_59 ?_
        refine ev_aload_n (n := 0) dX5_finishes_62 rfl rfl ?_
        refine ev_get (v := .ref (l0 + 1)) 0 kl0 rfl (by decide) rfl lk_216 dX5_finishes_63 ?_
        refine ev_iconst (v := 1) dX5_finishes_66 (by decide) ?_
        obtain ⟨h10, e11, hf⟩ := bn1_of hf
        refine ev_callVv (As := [.ref (l0 + 1), .int (1 : Int32)]) cal_X2_runSome (kd_4_2 kl0) rfl (ev_X2_runSome (kd_4_2 kl0) (kd_4_0 kl0) e11) (Nat.le_of_ble_eq_true rfl) rfl lk_342 (by decide) (by decide) (Nat.le_of_ble_eq_true rfl) dX5_finishes_67 rfl ?_
        refine ev_iinc (z := 2) (v := (l2 + 1)) (lv2 := [(2, .int (l2 + 1)), (0, .ref l0), (1, .int l1), (3, .int l3)]) dX5_finishes_70 rfl rfl (by decide) rfl ?_
        refine ev_iinc (z := 3) (v := (l3 + 1)) (lv2 := [(3, .int (l3 + 1)), (2, .int (l2 + 1)), (0, .ref l0), (1, .int l1)]) dX5_finishes_73 rfl rfl (by decide) rfl ?_
        refine ev_goto (tgt := 43) dX5_finishes_76 (by decide) ?_
        refine ev_sub [2, 3, 1, 0] rfl (lv2 := [(0, .ref l0), (1, .int l1), (2, .int (l2 + 1)), (3, .int (l3 + 1))]) ?_
        exact hk _ _ _ hf
def f_X5_finishes_j79 (h : Hp) (l0 : Nat) (l2 : Int32) : Option (Int32 × Hp) := (bn1 (f_X3_isFinished h (l0 + 1)) (fun v14 => (if v14 = 0 then (some ((-1 : Int32), h)) else (some (l2, h)))))
set_option maxRecDepth 100000 in
set_option maxHeartbeats 4000000 in
theorem jn_X5_finishes_79 {g : Gl} {h : Hp} {l0 : Nat} {l2 : Int32}  {rv : Int32} {h2 : Hp} (kl0 : KD g.1 l0 4 0)   (hf : f_X5_finishes_j79 h l0 l2 = some (rv, h2)) : Ev yX5_finishes cX5_finishes 4 (some .int) 5 126 g 79 [] [(0, .ref l0), (2, .int l2)] h (some (.int rv)) h2 := by
  unfold f_X5_finishes_j79 at hf
  refine ev_aload_n (n := 0) dX5_finishes_79 rfl rfl ?_
  refine ev_get (v := .ref (l0 + 1)) 0 kl0 rfl (by decide) rfl lk_216 dX5_finishes_80 ?_
  obtain ⟨v14, e15, hf⟩ := bn1_of hf
  refine ev_callVi (As := []) cal_X3_isFinished (kd_4_0 kl0) rfl (ev_X3_isFinished (kd_4_0 kl0) e15) (Nat.le_of_ble_eq_true rfl) rfl lk_449 (by decide) (by decide) (Nat.le_of_ble_eq_true rfl) dX5_finishes_83 rfl ?_
  refine ev_if_eq (tgt := 93) dX5_finishes_86 (by decide) (fun c1 => ?_) (fun c1 => ?_)
  · replace hf := if_t c1 hf
    refine ev_iconst (v := -1) dX5_finishes_93 (by decide) ?_
    obtain ⟨rfl, rfl⟩ := Prod.mk.inj (Option.some.inj hf)
    exact ev_ireturn dX5_finishes_94 ⟨.int, rfl, rfl⟩
  · replace hf := if_f c1 hf
    refine ev_iload_n (n := 1) dX5_finishes_89 rfl rfl ?_
    refine ev_goto (tgt := 94) dX5_finishes_90 (by decide) ?_
    obtain ⟨rfl, rfl⟩ := Prod.mk.inj (Option.some.inj hf)
    exact ev_ireturn dX5_finishes_94 ⟨.int, rfl, rfl⟩
def f_X5_finishes (h : Hp) (l0 : Nat) (l1 : Int32) : Option (Int32 × Hp) := (if l1 < (1 : Int32) then (f_X5_finishes_j11 h l0) else (if l1 ≤ (90 : Int32) then (bn1 (f_X3_hasHonest h (l0 + 1)) (fun v4 => (if v4 = 0 then (bn2 (f_X5_refuse h l0 (-3 : Int32)) (fun v17 h18 => (some (v17, h18)))) else (bn1 (f_X5_keepState h l0) (fun h6 => (bn2 (f_X5_finishes_l43 l0 l1 fu (0 : Int32) (0 : Int32) h6) (fun w2_12 h13 => (f_X5_finishes_j79 h13 l0 w2_12)))))))) else (f_X5_finishes_j11 h l0)))
set_option maxRecDepth 100000 in
set_option maxHeartbeats 4000000 in
theorem ev_X5_finishes {g : Gl} {h : Hp} {l0 : Nat} {l1 : Int32} {rv : Int32} {h2 : Hp} (kl0 : KD g.1 l0 4 0) (hf : f_X5_finishes h l0 l1 = some (rv, h2)) : Ev yX5_finishes cX5_finishes 4 (some .int) 5 126 g 0 [] [(0, .ref l0), (1, .int l1)] h (some (.int rv)) h2 := by
  unfold f_X5_finishes at hf
  refine ev_iload_n (n := 1) dX5_finishes_0 rfl rfl ?_
  refine ev_iconst (v := 1) dX5_finishes_1 (by decide) ?_
  refine ev_icmp_lt (tgt := 11) dX5_finishes_2 (by decide) (fun c1 => ?_) (fun c1 => ?_)
  · replace hf := if_t c1 hf
    refine ev_sub [0] rfl (lv2 := [(0, .ref l0)]) ?_
    exact jn_X5_finishes_11 kl0 hf
  · replace hf := if_f c1 hf
    refine ev_iload_n (n := 1) dX5_finishes_5 rfl rfl ?_
    refine ev_bipush (v := 90) dX5_finishes_6 (by decide) ?_
    refine ev_icmp_le (tgt := 18) dX5_finishes_8 (by decide) (fun c1 => ?_) (fun c1 => ?_)
    · replace hf := if_t c1 hf
      refine ev_aload_n (n := 0) dX5_finishes_18 rfl rfl ?_
      refine ev_get (v := .ref (l0 + 1)) 0 kl0 rfl (by decide) rfl lk_216 dX5_finishes_19 ?_
      obtain ⟨v4, e5, hf⟩ := bn1_of hf
      refine ev_callVi (As := []) cal_X3_hasHonest (kd_4_0 kl0) rfl (ev_X3_hasHonest (kd_4_0 kl0) e5) (Nat.le_of_ble_eq_true rfl) rfl lk_445 (by decide) (by decide) (Nat.le_of_ble_eq_true rfl) dX5_finishes_22 rfl ?_
      refine ev_if_ne (tgt := 35) dX5_finishes_25 (by decide) (fun c1 => ?_) (fun c1 => ?_)
      · replace hf := if_f c1 hf
        refine ev_aload_n (n := 0) dX5_finishes_35 rfl rfl ?_
        obtain ⟨h6, e7, hf⟩ := bn1_of hf
        refine ev_callVv (As := []) cal_X5_keepState kl0 rfl (ev_X5_keepState kl0 e7) (Nat.le_of_ble_eq_true rfl) rfl lk_252 (by decide) (by decide) (Nat.le_of_ble_eq_true rfl) dX5_finishes_36 rfl ?_
        refine ev_iconst (v := 0) dX5_finishes_39 (by decide) ?_
        refine ev_istore_n (lv2 := [(2, .int (0 : Int32)), (0, .ref l0), (1, .int l1)]) dX5_finishes_40 rfl (by decide) rfl ?_
        refine ev_iconst (v := 0) dX5_finishes_41 (by decide) ?_
        refine ev_istore_n (lv2 := [(3, .int (0 : Int32)), (2, .int (0 : Int32)), (0, .ref l0), (1, .int l1)]) dX5_finishes_42 rfl (by decide) rfl ?_
        obtain ⟨w2_12, h13, e16, hf⟩ := bn2_of hf
        refine ev_sub [2, 3, 1, 0] rfl (lv2 := [(0, .ref l0), (1, .int l1), (2, .int (0 : Int32)), (3, .int (0 : Int32))]) ?_
        refine lp_X5_finishes_43 kl0 ?_ fu _ _ _ e16
        exact jn_X5_finishes_79 kl0 hf
      · replace hf := if_t c1 hf
        refine ev_aload_n (n := 0) dX5_finishes_28 rfl rfl ?_
        refine ev_bipush (v := -3) dX5_finishes_29 (by decide) ?_
        obtain ⟨v17, h18, e19, hf⟩ := bn2_of hf
        refine ev_callVi (As := [.int (-3 : Int32)]) cal_X5_refuse kl0 rfl (ev_X5_refuse kl0 e19) (Nat.le_of_ble_eq_true rfl) rfl lk_248 (by decide) (by decide) (Nat.le_of_ble_eq_true rfl) dX5_finishes_31 rfl ?_
        obtain ⟨rfl, rfl⟩ := Prod.mk.inj (Option.some.inj hf)
        exact ev_ireturn dX5_finishes_34 ⟨.int, rfl, rfl⟩
    · replace hf := if_f c1 hf
      refine ev_sub [0] rfl (lv2 := [(0, .ref l0)]) ?_
      exact jn_X5_finishes_11 kl0 hf
def f_X5_of_j21 (h : Hp) (l0 : Nat) : Option (Int32 × Hp) := (bn2 (f_X5_refuse h l0 (-2 : Int32)) (fun v3 h4 => (some (v3, h4))))
set_option maxRecDepth 100000 in
set_option maxHeartbeats 4000000 in
theorem jn_X5_of_21 {g : Gl} {h : Hp} {l0 : Nat}  {rv : Int32} {h2 : Hp} (kl0 : KD g.1 l0 4 0)   (hf : f_X5_of_j21 h l0 = some (rv, h2)) : Ev yX5_of cX5_of 3 (some .int) 3 67 g 21 [] [(0, .ref l0)] h (some (.int rv)) h2 := by
  unfold f_X5_of_j21 at hf
  refine ev_aload_n (n := 0) dX5_of_21 rfl rfl ?_
  refine ev_bipush (v := -2) dX5_of_22 (by decide) ?_
  obtain ⟨v3, h4, e5, hf⟩ := bn2_of hf
  refine ev_callVi (As := [.int (-2 : Int32)]) cal_X5_refuse kl0 rfl (ev_X5_refuse kl0 e5) (Nat.le_of_ble_eq_true rfl) rfl lk_248 (by decide) (by decide) (Nat.le_of_ble_eq_true rfl) dX5_of_24 rfl ?_
  obtain ⟨rfl, rfl⟩ := Prod.mk.inj (Option.some.inj hf)
  exact ev_ireturn dX5_of_27 ⟨.int, rfl, rfl⟩
def f_X5_of (h : Hp) (l0 : Nat) (l1 : Int32) (l2 : Int32) : Option (Int32 × Hp) := (bn1 (f_X3_isPeer h (l0 + 1) l1) (fun v1 => (if v1 = 0 then (f_X5_of_j21 h l0) else (if l2 < 0 then (f_X5_of_j21 h l0) else (if l2 ≤ (9 : Int32) then (bn1 (f_X3_tellPeer h (l0 + 1) l1 l2) (fun v6 => (some (v6, h)))) else (f_X5_of_j21 h l0))))))
set_option maxRecDepth 100000 in
set_option maxHeartbeats 4000000 in
theorem ev_X5_of {g : Gl} {h : Hp} {l0 : Nat} {l1 : Int32} {l2 : Int32} {rv : Int32} {h2 : Hp} (kl0 : KD g.1 l0 4 0) (hf : f_X5_of h l0 l1 l2 = some (rv, h2)) : Ev yX5_of cX5_of 3 (some .int) 3 67 g 0 [] [(0, .ref l0), (1, .int l1), (2, .int l2)] h (some (.int rv)) h2 := by
  unfold f_X5_of at hf
  refine ev_aload_n (n := 0) dX5_of_0 rfl rfl ?_
  refine ev_get (v := .ref (l0 + 1)) 0 kl0 rfl (by decide) rfl lk_216 dX5_of_1 ?_
  refine ev_iload_n (n := 1) dX5_of_4 rfl rfl ?_
  obtain ⟨v1, e2, hf⟩ := bn1_of hf
  refine ev_callVi (As := [.int l1]) cal_X3_isPeer (kd_4_0 kl0) rfl (ev_X3_isPeer (kd_4_0 kl0) e2) (Nat.le_of_ble_eq_true rfl) rfl lk_457 (by decide) (by decide) (Nat.le_of_ble_eq_true rfl) dX5_of_5 rfl ?_
  refine ev_if_eq (tgt := 21) dX5_of_8 (by decide) (fun c1 => ?_) (fun c1 => ?_)
  · replace hf := if_t c1 hf
    refine ev_sub [0] rfl (lv2 := [(0, .ref l0)]) ?_
    exact jn_X5_of_21 kl0 hf
  · replace hf := if_f c1 hf
    refine ev_iload_n (n := 2) dX5_of_11 rfl rfl ?_
    refine ev_if_lt (tgt := 21) dX5_of_12 (by decide) (fun c1 => ?_) (fun c1 => ?_)
    · replace hf := if_t c1 hf
      refine ev_sub [0] rfl (lv2 := [(0, .ref l0)]) ?_
      exact jn_X5_of_21 kl0 hf
    · replace hf := if_f c1 hf
      refine ev_iload_n (n := 2) dX5_of_15 rfl rfl ?_
      refine ev_bipush (v := 9) dX5_of_16 (by decide) ?_
      refine ev_icmp_le (tgt := 28) dX5_of_18 (by decide) (fun c1 => ?_) (fun c1 => ?_)
      · replace hf := if_t c1 hf
        refine ev_aload_n (n := 0) dX5_of_28 rfl rfl ?_
        refine ev_get (v := .ref (l0 + 1)) 0 kl0 rfl (by decide) rfl lk_216 dX5_of_29 ?_
        refine ev_iload_n (n := 1) dX5_of_32 rfl rfl ?_
        refine ev_iload_n (n := 2) dX5_of_33 rfl rfl ?_
        obtain ⟨v6, e7, hf⟩ := bn1_of hf
        refine ev_callVi (As := [.int l1, .int l2]) cal_X3_tellPeer (kd_4_0 kl0) rfl (ev_X3_tellPeer (kd_4_0 kl0) e7) (Nat.le_of_ble_eq_true rfl) rfl lk_458 (by decide) (by decide) (Nat.le_of_ble_eq_true rfl) dX5_of_34 rfl ?_
        obtain ⟨rfl, rfl⟩ := Prod.mk.inj (Option.some.inj hf)
        exact ev_ireturn dX5_of_37 ⟨.int, rfl, rfl⟩
      · replace hf := if_f c1 hf
        refine ev_sub [0] rfl (lv2 := [(0, .ref l0)]) ?_
        exact jn_X5_of_21 kl0 hf
def f_X5_block_j37 (h : Hp) (l0 : Nat) : Option (Int32 × Hp) := (bn2 (f_X5_refuse h l0 (-2 : Int32)) (fun v3 h4 => (some (v3, h4))))
set_option maxRecDepth 100000 in
set_option maxHeartbeats 4000000 in
theorem jn_X5_block_37 {g : Gl} {h : Hp} {l0 : Nat}  {rv : Int32} {h2 : Hp} (kl0 : KD g.1 l0 4 0)   (hf : f_X5_block_j37 h l0 = some (rv, h2)) : Ev yX5_block cX5_block 4 (some .int) 2 44 g 37 [] [(0, .ref l0)] h (some (.int rv)) h2 := by
  unfold f_X5_block_j37 at hf
  refine ev_aload_n (n := 0) dX5_block_37 rfl rfl ?_
  refine ev_bipush (v := -2) dX5_block_38 (by decide) ?_
  obtain ⟨v3, h4, e5, hf⟩ := bn2_of hf
  refine ev_callVi (As := [.int (-2 : Int32)]) cal_X5_refuse kl0 rfl (ev_X5_refuse kl0 e5) (Nat.le_of_ble_eq_true rfl) rfl lk_248 (by decide) (by decide) (Nat.le_of_ble_eq_true rfl) dX5_block_40 rfl ?_
  obtain ⟨rfl, rfl⟩ := Prod.mk.inj (Option.some.inj hf)
  exact ev_ireturn dX5_block_43 ⟨.int, rfl, rfl⟩
def f_X5_block (h : Hp) (l0 : Nat) (l1 : Int32) (l2 : Int32) (l3 : Int32) : Option (Int32 × Hp) := (bn1 (f_X3_isPeer h (l0 + 1) l1) (fun v1 => (if v1 = 0 then (f_X5_block_j37 h l0) else (bn1 (f_X3_isPiece h (l0 + 1) l2) (fun v6 => (if v6 = 0 then (f_X5_block_j37 h l0) else (if l3 < 0 then (f_X5_block_j37 h l0) else (if l3 < (hI h (l0 + 1) 1) then (if inb l1 6 = true then (bn1 (f_X1_sourceOf h (((l0 + 1) + 2) + 1 + 4 * l1.toNatClampNeg) l2 l3) (fun v9 => (some (v9, h)))) else none) else (f_X5_block_j37 h l0)))))))))
set_option maxRecDepth 100000 in
set_option maxHeartbeats 4000000 in
theorem ev_X5_block {g : Gl} {h : Hp} {l0 : Nat} {l1 : Int32} {l2 : Int32} {l3 : Int32} {rv : Int32} {h2 : Hp} (kl0 : KD g.1 l0 4 0) (hf : f_X5_block h l0 l1 l2 l3 = some (rv, h2)) : Ev yX5_block cX5_block 4 (some .int) 2 44 g 0 [] [(0, .ref l0), (1, .int l1), (2, .int l2), (3, .int l3)] h (some (.int rv)) h2 := by
  unfold f_X5_block at hf
  refine ev_aload_n (n := 0) dX5_block_0 rfl rfl ?_
  refine ev_get (v := .ref (l0 + 1)) 0 kl0 rfl (by decide) rfl lk_216 dX5_block_1 ?_
  refine ev_iload_n (n := 1) dX5_block_4 rfl rfl ?_
  obtain ⟨v1, e2, hf⟩ := bn1_of hf
  refine ev_callVi (As := [.int l1]) cal_X3_isPeer (kd_4_0 kl0) rfl (ev_X3_isPeer (kd_4_0 kl0) e2) (Nat.le_of_ble_eq_true rfl) rfl lk_457 (by decide) (by decide) (Nat.le_of_ble_eq_true rfl) dX5_block_5 rfl ?_
  refine ev_if_eq (tgt := 37) dX5_block_8 (by decide) (fun c1 => ?_) (fun c1 => ?_)
  · replace hf := if_t c1 hf
    refine ev_sub [0] rfl (lv2 := [(0, .ref l0)]) ?_
    exact jn_X5_block_37 kl0 hf
  · replace hf := if_f c1 hf
    refine ev_aload_n (n := 0) dX5_block_11 rfl rfl ?_
    refine ev_get (v := .ref (l0 + 1)) 0 kl0 rfl (by decide) rfl lk_216 dX5_block_12 ?_
    refine ev_iload_n (n := 2) dX5_block_15 rfl rfl ?_
    obtain ⟨v6, e7, hf⟩ := bn1_of hf
    refine ev_callVi (As := [.int l2]) cal_X3_isPiece (kd_4_0 kl0) rfl (ev_X3_isPiece (kd_4_0 kl0) e7) (Nat.le_of_ble_eq_true rfl) rfl lk_467 (by decide) (by decide) (Nat.le_of_ble_eq_true rfl) dX5_block_16 rfl ?_
    refine ev_if_eq (tgt := 37) dX5_block_19 (by decide) (fun c1 => ?_) (fun c1 => ?_)
    · replace hf := if_t c1 hf
      refine ev_sub [0] rfl (lv2 := [(0, .ref l0)]) ?_
      exact jn_X5_block_37 kl0 hf
    · replace hf := if_f c1 hf
      refine ev_iload_n (n := 3) dX5_block_22 rfl rfl ?_
      refine ev_if_lt (tgt := 37) dX5_block_23 (by decide) (fun c1 => ?_) (fun c1 => ?_)
      · replace hf := if_t c1 hf
        refine ev_sub [0] rfl (lv2 := [(0, .ref l0)]) ?_
        exact jn_X5_block_37 kl0 hf
      · replace hf := if_f c1 hf
        refine ev_iload_n (n := 3) dX5_block_26 rfl rfl ?_
        refine ev_aload_n (n := 0) dX5_block_27 rfl rfl ?_
        refine ev_get (v := .ref (l0 + 1)) 0 kl0 rfl (by decide) rfl lk_216 dX5_block_28 ?_
        refine ev_get (v := .int (hI h (l0 + 1) 1)) 1 (kd_4_0 kl0) rfl (by decide) rfl lk_107 dX5_block_31 ?_
        refine ev_icmp_lt (tgt := 44) dX5_block_34 (by decide) (fun c1 => ?_) (fun c1 => ?_)
        · replace hf := if_t c1 hf
          refine ev_aload_n (n := 0) dX5_block_44 rfl rfl ?_
          refine ev_get (v := .ref (l0 + 1)) 0 kl0 rfl (by decide) rfl lk_216 dX5_block_45 ?_
          refine ev_get (v := .ref ((l0 + 1) + 2)) 11 (kd_4_0 kl0) rfl (by decide) rfl lk_131 dX5_block_48 ?_
          refine ev_iload_n (n := 1) dX5_block_51 rfl rfl ?_
          obtain ⟨gd8, hf⟩ := gd_of hf
          refine ev_aaldP (kd_2_11 (kd_4_0 kl0)) (inb_of gd8) dX5_block_52 ?_
          refine ev_iload_n (n := 2) dX5_block_53 rfl rfl ?_
          refine ev_iload_n (n := 3) dX5_block_54 rfl rfl ?_
          obtain ⟨v9, e10, hf⟩ := bn1_of hf
          refine ev_callVi (As := [.int l2, .int l3]) cal_X1_sourceOf (kdPA (kd_2_11 (kd_4_0 kl0)) (inb_of gd8)) rfl (ev_X1_sourceOf (kdPA (kd_2_11 (kd_4_0 kl0)) (inb_of gd8)) e10) (Nat.le_of_ble_eq_true rfl) rfl lk_468 (by decide) (by decide) (Nat.le_of_ble_eq_true rfl) dX5_block_55 rfl ?_
          obtain ⟨rfl, rfl⟩ := Prod.mk.inj (Option.some.inj hf)
          exact ev_ireturn dX5_block_58 ⟨.int, rfl, rfl⟩
        · replace hf := if_f c1 hf
          refine ev_sub [0] rfl (lv2 := [(0, .ref l0)]) ?_
          exact jn_X5_block_37 kl0 hf
def f_X5_rate (h : Hp) (l0 : Nat) (l1 : Int32) (l2 : Int32) : Option (Int32 × Hp) := (bn1 (f_X3_isPair h (l0 + 1) l1 l2) (fun v1 => (if v1 = 0 then (bn2 (f_X5_refuse h l0 (-2 : Int32)) (fun v7 h8 => (some (v7, h8)))) else (if inb l1 6 = true then (if inb l2 6 = true then (bn1 (f_X0_ofFloat h (hF h ((((l0 + 1) + 2) + 1 + 4 * l1.toNatClampNeg) + 3) l2.toNatClampNeg)) (fun v5 => (some (v5, h)))) else none) else none))))
set_option maxRecDepth 100000 in
set_option maxHeartbeats 4000000 in
theorem ev_X5_rate {g : Gl} {h : Hp} {l0 : Nat} {l1 : Int32} {l2 : Int32} {rv : Int32} {h2 : Hp} (kl0 : KD g.1 l0 4 0) (hf : f_X5_rate h l0 l1 l2 = some (rv, h2)) : Ev yX5_rate cX5_rate 3 (some .int) 2 43 g 0 [] [(0, .ref l0), (1, .int l1), (2, .int l2)] h (some (.int rv)) h2 := by
  unfold f_X5_rate at hf
  refine ev_aload_n (n := 0) dX5_rate_0 rfl rfl ?_
  refine ev_get (v := .ref (l0 + 1)) 0 kl0 rfl (by decide) rfl lk_216 dX5_rate_1 ?_
  refine ev_iload_n (n := 1) dX5_rate_4 rfl rfl ?_
  refine ev_iload_n (n := 2) dX5_rate_5 rfl rfl ?_
  obtain ⟨v1, e2, hf⟩ := bn1_of hf
  refine ev_callVi (As := [.int l1, .int l2]) cal_X3_isPair (kd_4_0 kl0) rfl (ev_X3_isPair (kd_4_0 kl0) e2) (Nat.le_of_ble_eq_true rfl) rfl lk_478 (by decide) (by decide) (Nat.le_of_ble_eq_true rfl) dX5_rate_6 rfl ?_
  refine ev_if_ne (tgt := 19) dX5_rate_9 (by decide) (fun c1 => ?_) (fun c1 => ?_)
  · replace hf := if_f c1 hf
    refine ev_aload_n (n := 0) dX5_rate_19 rfl rfl ?_
    refine ev_get (v := .ref (l0 + 1)) 0 kl0 rfl (by decide) rfl lk_216 dX5_rate_20 ?_
    refine ev_get (v := .ref ((l0 + 1) + 2)) 11 (kd_4_0 kl0) rfl (by decide) rfl lk_131 dX5_rate_23 ?_
    refine ev_iload_n (n := 1) dX5_rate_26 rfl rfl ?_
    obtain ⟨gd3, hf⟩ := gd_of hf
    refine ev_aaldP (kd_2_11 (kd_4_0 kl0)) (inb_of gd3) dX5_rate_27 ?_
    refine ev_get (v := .ref ((((l0 + 1) + 2) + 1 + 4 * l1.toNatClampNeg) + 3)) 11 (kdPA (kd_2_11 (kd_4_0 kl0)) (inb_of gd3)) rfl (by decide) rfl lk_71 dX5_rate_28 ?_
    refine ev_iload_n (n := 2) dX5_rate_31 rfl rfl ?_
    obtain ⟨gd4, hf⟩ := gd_of hf
    refine ev_fald (kd_0_11 (kdPA (kd_2_11 (kd_4_0 kl0)) (inb_of gd3))) (inb_of gd4) dX5_rate_32 ?_
    obtain ⟨v5, e6, hf⟩ := bn1_of hf
    refine ev_callSi (As := [.float (hF h ((((l0 + 1) + 2) + 1 + 4 * l1.toNatClampNeg) + 3) l2.toNatClampNeg)]) cal_X0_ofFloat (ev_X0_ofFloat e6) (Nat.le_of_ble_eq_true rfl) rfl lk_482 (by decide) (by decide) (Nat.le_of_ble_eq_true rfl) dX5_rate_33 rfl ?_
    obtain ⟨rfl, rfl⟩ := Prod.mk.inj (Option.some.inj hf)
    exact ev_ireturn dX5_rate_36 ⟨.int, rfl, rfl⟩
  · replace hf := if_t c1 hf
    refine ev_aload_n (n := 0) dX5_rate_12 rfl rfl ?_
    refine ev_bipush (v := -2) dX5_rate_13 (by decide) ?_
    obtain ⟨v7, h8, e9, hf⟩ := bn2_of hf
    refine ev_callVi (As := [.int (-2 : Int32)]) cal_X5_refuse kl0 rfl (ev_X5_refuse kl0 e9) (Nat.le_of_ble_eq_true rfl) rfl lk_248 (by decide) (by decide) (Nat.le_of_ble_eq_true rfl) dX5_rate_15 rfl ?_
    obtain ⟨rfl, rfl⟩ := Prod.mk.inj (Option.some.inj hf)
    exact ev_ireturn dX5_rate_18 ⟨.int, rfl, rfl⟩
def f_X5_suspects (h : Hp) (l0 : Nat) (l1 : Int32) (l2 : Int32) : Option (Int32 × Hp) := (bn1 (f_X3_isPair h (l0 + 1) l1 l2) (fun v1 => (if v1 = 0 then (bn2 (f_X5_refuse h l0 (-2 : Int32)) (fun v5 h6 => (some (v5, h6)))) else (if inb l1 6 = true then (if inb l2 6 = true then (some ((hI h ((((l0 + 1) + 2) + 1 + 4 * l1.toNatClampNeg) + 2) l2.toNatClampNeg), h)) else none) else none))))
set_option maxRecDepth 100000 in
set_option maxHeartbeats 4000000 in
theorem ev_X5_suspects {g : Gl} {h : Hp} {l0 : Nat} {l1 : Int32} {l2 : Int32} {rv : Int32} {h2 : Hp} (kl0 : KD g.1 l0 4 0) (hf : f_X5_suspects h l0 l1 l2 = some (rv, h2)) : Ev yX5_suspects cX5_suspects 3 (some .int) 2 43 g 0 [] [(0, .ref l0), (1, .int l1), (2, .int l2)] h (some (.int rv)) h2 := by
  unfold f_X5_suspects at hf
  refine ev_aload_n (n := 0) dX5_suspects_0 rfl rfl ?_
  refine ev_get (v := .ref (l0 + 1)) 0 kl0 rfl (by decide) rfl lk_216 dX5_suspects_1 ?_
  refine ev_iload_n (n := 1) dX5_suspects_4 rfl rfl ?_
  refine ev_iload_n (n := 2) dX5_suspects_5 rfl rfl ?_
  obtain ⟨v1, e2, hf⟩ := bn1_of hf
  refine ev_callVi (As := [.int l1, .int l2]) cal_X3_isPair (kd_4_0 kl0) rfl (ev_X3_isPair (kd_4_0 kl0) e2) (Nat.le_of_ble_eq_true rfl) rfl lk_478 (by decide) (by decide) (Nat.le_of_ble_eq_true rfl) dX5_suspects_6 rfl ?_
  refine ev_if_ne (tgt := 19) dX5_suspects_9 (by decide) (fun c1 => ?_) (fun c1 => ?_)
  · replace hf := if_f c1 hf
    refine ev_aload_n (n := 0) dX5_suspects_19 rfl rfl ?_
    refine ev_get (v := .ref (l0 + 1)) 0 kl0 rfl (by decide) rfl lk_216 dX5_suspects_20 ?_
    refine ev_get (v := .ref ((l0 + 1) + 2)) 11 (kd_4_0 kl0) rfl (by decide) rfl lk_131 dX5_suspects_23 ?_
    refine ev_iload_n (n := 1) dX5_suspects_26 rfl rfl ?_
    obtain ⟨gd3, hf⟩ := gd_of hf
    refine ev_aaldP (kd_2_11 (kd_4_0 kl0)) (inb_of gd3) dX5_suspects_27 ?_
    refine ev_get (v := .ref ((((l0 + 1) + 2) + 1 + 4 * l1.toNatClampNeg) + 2)) 10 (kdPA (kd_2_11 (kd_4_0 kl0)) (inb_of gd3)) rfl (by decide) rfl lk_67 dX5_suspects_28 ?_
    refine ev_iload_n (n := 2) dX5_suspects_31 rfl rfl ?_
    obtain ⟨gd4, hf⟩ := gd_of hf
    refine ev_iald (kd_0_10 (kdPA (kd_2_11 (kd_4_0 kl0)) (inb_of gd3))) (inb_of gd4) dX5_suspects_32 ?_
    obtain ⟨rfl, rfl⟩ := Prod.mk.inj (Option.some.inj hf)
    exact ev_ireturn dX5_suspects_33 ⟨.int, rfl, rfl⟩
  · replace hf := if_t c1 hf
    refine ev_aload_n (n := 0) dX5_suspects_12 rfl rfl ?_
    refine ev_bipush (v := -2) dX5_suspects_13 (by decide) ?_
    obtain ⟨v5, h6, e7, hf⟩ := bn2_of hf
    refine ev_callVi (As := [.int (-2 : Int32)]) cal_X5_refuse kl0 rfl (ev_X5_refuse kl0 e7) (Nat.le_of_ble_eq_true rfl) rfl lk_248 (by decide) (by decide) (Nat.le_of_ble_eq_true rfl) dX5_suspects_15 rfl ?_
    obtain ⟨rfl, rfl⟩ := Prod.mk.inj (Option.some.inj hf)
    exact ev_ireturn dX5_suspects_18 ⟨.int, rfl, rfl⟩
def f_X5_copies (h : Hp) (l0 : Nat) (l1 : Int32) : Option (Int32 × Hp) := (bn1 (f_X3_isPiece h (l0 + 1) l1) (fun v1 => (if v1 = 0 then (bn2 (f_X5_refuse h l0 (-2 : Int32)) (fun v5 h6 => (some (v5, h6)))) else (bn1 (f_X3_copiesOf h (l0 + 1) l1) (fun v3 => (some (v3, h)))))))
set_option maxRecDepth 100000 in
set_option maxHeartbeats 4000000 in
theorem ev_X5_copies {g : Gl} {h : Hp} {l0 : Nat} {l1 : Int32} {rv : Int32} {h2 : Hp} (kl0 : KD g.1 l0 4 0) (hf : f_X5_copies h l0 l1 = some (rv, h2)) : Ev yX5_copies cX5_copies 2 (some .int) 2 44 g 0 [] [(0, .ref l0), (1, .int l1)] h (some (.int rv)) h2 := by
  unfold f_X5_copies at hf
  refine ev_aload_n (n := 0) dX5_copies_0 rfl rfl ?_
  refine ev_get (v := .ref (l0 + 1)) 0 kl0 rfl (by decide) rfl lk_216 dX5_copies_1 ?_
  refine ev_iload_n (n := 1) dX5_copies_4 rfl rfl ?_
  obtain ⟨v1, e2, hf⟩ := bn1_of hf
  refine ev_callVi (As := [.int l1]) cal_X3_isPiece (kd_4_0 kl0) rfl (ev_X3_isPiece (kd_4_0 kl0) e2) (Nat.le_of_ble_eq_true rfl) rfl lk_467 (by decide) (by decide) (Nat.le_of_ble_eq_true rfl) dX5_copies_5 rfl ?_
  refine ev_if_ne (tgt := 18) dX5_copies_8 (by decide) (fun c1 => ?_) (fun c1 => ?_)
  · replace hf := if_f c1 hf
    refine ev_aload_n (n := 0) dX5_copies_18 rfl rfl ?_
    refine ev_get (v := .ref (l0 + 1)) 0 kl0 rfl (by decide) rfl lk_216 dX5_copies_19 ?_
    refine ev_iload_n (n := 1) dX5_copies_22 rfl rfl ?_
    obtain ⟨v3, e4, hf⟩ := bn1_of hf
    refine ev_callVi (As := [.int l1]) cal_X3_copiesOf (kd_4_0 kl0) rfl (ev_X3_copiesOf (kd_4_0 kl0) e4) (Nat.le_of_ble_eq_true rfl) rfl lk_494 (by decide) (by decide) (Nat.le_of_ble_eq_true rfl) dX5_copies_23 rfl ?_
    obtain ⟨rfl, rfl⟩ := Prod.mk.inj (Option.some.inj hf)
    exact ev_ireturn dX5_copies_26 ⟨.int, rfl, rfl⟩
  · replace hf := if_t c1 hf
    refine ev_aload_n (n := 0) dX5_copies_11 rfl rfl ?_
    refine ev_bipush (v := -2) dX5_copies_12 (by decide) ?_
    obtain ⟨v5, h6, e7, hf⟩ := bn2_of hf
    refine ev_callVi (As := [.int (-2 : Int32)]) cal_X5_refuse kl0 rfl (ev_X5_refuse kl0 e7) (Nat.le_of_ble_eq_true rfl) rfl lk_248 (by decide) (by decide) (Nat.le_of_ble_eq_true rfl) dX5_copies_14 rfl ?_
    obtain ⟨rfl, rfl⟩ := Prod.mk.inj (Option.some.inj hf)
    exact ev_ireturn dX5_copies_17 ⟨.int, rfl, rfl⟩
def f_X5_rarest_j45 (kk : Int32 → Int32 → Int32 → Option (Int32)) (h : Hp) (l0 : Nat) (l1 : Int32) (l2 : Int32) (l3 : Int32) : Option (Int32) := (kk l1 l2 (l3 + 1))
set_option maxRecDepth 100000 in
set_option maxHeartbeats 4000000 in
theorem jn_X5_rarest_45 {g : Gl} {h : Hp} {kk : Int32 → Int32 → Int32 → Option (Int32)} {l0 : Nat} {l1 : Int32} {l2 : Int32} {l3 : Int32}  {r : Option Value} {h2 : Hp} {o1 : Int32} (kl0 : KD g.1 l0 4 0) (hx0 : Ev yX5_rarest cX5_rarest 5 (some .int) 2 44 g 51 [] [(1, .int o1)] h r h2) (hk : ∀ (x1 : Int32) (x2 : Int32) (x3 : Int32), kk x1 x2 x3 = some o1 → Ev yX5_rarest cX5_rarest 5 (some .int) 2 44 g 7 [] [(0, .ref l0), (1, .int x1), (2, .int x2), (3, .int x3)] h r h2) (hf : f_X5_rarest_j45 kk h l0 l1 l2 l3 = some o1) : Ev yX5_rarest cX5_rarest 5 (some .int) 2 44 g 45 [] [(0, .ref l0), (1, .int l1), (2, .int l2), (3, .int l3)] h r h2 := by
  unfold f_X5_rarest_j45 at hf
  refine ev_iinc (z := 3) (v := (l3 + 1)) (lv2 := [(3, .int (l3 + 1)), (0, .ref l0), (1, .int l1), (2, .int l2)]) dX5_rarest_45 rfl rfl (by decide) rfl ?_
  refine ev_goto (tgt := 7) dX5_rarest_48 (by decide) ?_
  refine ev_sub [1, 2, 3, 0] rfl (lv2 := [(0, .ref l0), (1, .int l1), (2, .int l2), (3, .int (l3 + 1))]) ?_
  exact hk _ _ _ hf
def f_X5_rarest_l7 (h : Hp) (l0 : Nat) : Nat → Int32 → Int32 → Int32 → Option (Int32)
  | 0, _, _, _ => none
  | fu1 + 1, l1, l2, l3 => (if (hI h (l0 + 1) 0) ≤ l3 then (some l1) else (bn1 (f_X3_copiesOf h (l0 + 1) l3) (fun v1 => (if v1 < (1 : Int32) then (f_X5_rarest_j45 (f_X5_rarest_l7 h l0 fu1) h l0 l1 l2 l3) else (if l2 ≤ v1 then (f_X5_rarest_j45 (f_X5_rarest_l7 h l0 fu1) h l0 l1 l2 l3) else (f_X5_rarest_j45 (f_X5_rarest_l7 h l0 fu1) h l0 l3 v1 l3))))))
theorem f_X5_rarest_l7_s (h : Hp) (l0 : Nat) (fu1 : Nat) (l1 : Int32) (l2 : Int32) (l3 : Int32) : f_X5_rarest_l7 h l0 (fu1 + 1) l1 l2 l3 = (if (hI h (l0 + 1) 0) ≤ l3 then (some l1) else (bn1 (f_X3_copiesOf h (l0 + 1) l3) (fun v1 => (if v1 < (1 : Int32) then (f_X5_rarest_j45 (f_X5_rarest_l7 h l0 fu1) h l0 l1 l2 l3) else (if l2 ≤ v1 then (f_X5_rarest_j45 (f_X5_rarest_l7 h l0 fu1) h l0 l1 l2 l3) else (f_X5_rarest_j45 (f_X5_rarest_l7 h l0 fu1) h l0 l3 v1 l3)))))) := rfl
theorem f_X5_rarest_l7_0 (h : Hp) (l0 : Nat) (l1 : Int32) (l2 : Int32) (l3 : Int32) : f_X5_rarest_l7 h l0 0 l1 l2 l3 = none := rfl
set_option maxRecDepth 100000 in
set_option maxHeartbeats 4000000 in
theorem lp_X5_rarest_7 {g : Gl} {h : Hp} {l0 : Nat} {r : Option Value} {h2 : Hp} {o1 : Int32} (kl0 : KD g.1 l0 4 0) (hx0 : Ev yX5_rarest cX5_rarest 5 (some .int) 2 44 g 51 [] [(1, .int o1)] h r h2) : ∀ (fu1 : Nat) (l1 : Int32) (l2 : Int32) (l3 : Int32), f_X5_rarest_l7 h l0 fu1 l1 l2 l3 = some o1 → Ev yX5_rarest cX5_rarest 5 (some .int) 2 44 g 7 [] [(0, .ref l0), (1, .int l1), (2, .int l2), (3, .int l3)] h r h2 := by
  intro fu1
  induction fu1 with
  | zero =>
    intro l1 l2 l3 hf
    cases hf
  | succ fu1 ih =>
    intro l1 l2 l3 hf
    rw [f_X5_rarest_l7_s] at hf
    have hk := ih
    refine ev_iload_n (n := 3) dX5_rarest_7 rfl rfl ?_
    refine ev_aload_n (n := 0) dX5_rarest_8 rfl rfl ?_
    refine ev_get (v := .ref (l0 + 1)) 0 kl0 rfl (by decide) rfl lk_216 dX5_rarest_9 ?_
    refine ev_get (v := .int (hI h (l0 + 1) 0)) 0 (kd_4_0 kl0) rfl (by decide) rfl lk_105 dX5_rarest_12 ?_
    refine ev_icmp_ge (tgt := 51) dX5_rarest_15 (by decide) (fun c1 => ?_) (fun c1 => ?_)
    · replace hf := if_t c1 hf
      refine ev_sub [1] rfl (lv2 := [(1, .int l1)]) ?_
      obtain rfl := Option.some.inj hf
      exact hx0
    · replace hf := if_f c1 hf
      refine ev_aload_n (n := 0) dX5_rarest_18 rfl rfl ?_
      refine ev_get (v := .ref (l0 + 1)) 0 kl0 rfl (by decide) rfl lk_216 dX5_rarest_19 ?_
      refine ev_iload_n (n := 3) dX5_rarest_22 rfl rfl ?_
      obtain ⟨v1, e2, hf⟩ := bn1_of hf
      refine ev_callVi (As := [.int l3]) cal_X3_copiesOf (kd_4_0 kl0) rfl (ev_X3_copiesOf (kd_4_0 kl0) e2) (Nat.le_of_ble_eq_true rfl) rfl lk_494 (by decide) (by decide) (Nat.le_of_ble_eq_true rfl) dX5_rarest_23 rfl ?_
      refine ev_istore (lv2 := [(4, .int v1), (0, .ref l0), (1, .int l1), (2, .int l2), (3, .int l3)]) dX5_rarest_26 (by decide) rfl ?_
      refine ev_iload (n := 0) dX5_rarest_28 rfl ?_
      refine ev_iconst (v := 1) dX5_rarest_30 (by decide) ?_
      refine ev_icmp_lt (tgt := 45) dX5_rarest_31 (by decide) (fun c1 => ?_) (fun c1 => ?_)
      · replace hf := if_t c1 hf
        refine ev_sub [1, 2, 3, 4] rfl (lv2 := [(0, .ref l0), (1, .int l1), (2, .int l2), (3, .int l3)]) ?_
        exact jn_X5_rarest_45 kl0 hx0 hk hf
      · replace hf := if_f c1 hf
        refine ev_iload (n := 0) dX5_rarest_34 rfl ?_
        refine ev_iload_n (n := 3) dX5_rarest_36 rfl rfl ?_
        refine ev_icmp_ge (tgt := 45) dX5_rarest_37 (by decide) (fun c1 => ?_) (fun c1 => ?_)
        · replace hf := if_t c1 hf
          refine ev_sub [1, 2, 3, 4] rfl (lv2 := [(0, .ref l0), (1, .int l1), (2, .int l2), (3, .int l3)]) ?_
          exact jn_X5_rarest_45 kl0 hx0 hk hf
        · replace hf := if_f c1 hf
          refine ev_iload_n (n := 4) dX5_rarest_40 rfl rfl ?_
          refine ev_istore_n (lv2 := [(1, .int l3), (4, .int v1), (0, .ref l0), (2, .int l2), (3, .int l3)]) dX5_rarest_41 rfl (by decide) rfl ?_
          refine ev_iload (n := 1) dX5_rarest_42 rfl ?_
          refine ev_istore_n (lv2 := [(2, .int v1), (1, .int l3), (4, .int v1), (0, .ref l0), (3, .int l3)]) dX5_rarest_44 rfl (by decide) rfl ?_
          refine ev_sub [3, 1, 0, 4] rfl (lv2 := [(0, .ref l0), (1, .int l3), (2, .int v1), (3, .int l3)]) ?_
          exact jn_X5_rarest_45 kl0 hx0 hk hf
def f_X5_rarest (h : Hp) (l0 : Nat) : Option (Int32) := (bn1 (f_X5_rarest_l7 h l0 fu (-1 : Int32) (7 : Int32) (0 : Int32)) (fun w1_3 => (some w1_3)))
set_option maxRecDepth 100000 in
set_option maxHeartbeats 4000000 in
theorem ev_X5_rarest {g : Gl} {h : Hp} {l0 : Nat} {rv : Int32} (kl0 : KD g.1 l0 4 0) (hf : f_X5_rarest h l0 = some rv) : Ev yX5_rarest cX5_rarest 5 (some .int) 2 44 g 0 [] [(0, .ref l0)] h (some (.int rv)) h := by
  unfold f_X5_rarest at hf
  refine ev_iconst (v := -1) dX5_rarest_0 (by decide) ?_
  refine ev_istore_n (lv2 := [(1, .int (-1 : Int32)), (0, .ref l0)]) dX5_rarest_1 rfl (by decide) rfl ?_
  refine ev_bipush (v := 7) dX5_rarest_2 (by decide) ?_
  refine ev_istore_n (lv2 := [(2, .int (7 : Int32)), (1, .int (-1 : Int32)), (0, .ref l0)]) dX5_rarest_4 rfl (by decide) rfl ?_
  refine ev_iconst (v := 0) dX5_rarest_5 (by decide) ?_
  refine ev_istore_n (lv2 := [(3, .int (0 : Int32)), (2, .int (7 : Int32)), (1, .int (-1 : Int32)), (0, .ref l0)]) dX5_rarest_6 rfl (by decide) rfl ?_
  obtain ⟨w1_3, e4, hf⟩ := bn1_of hf
  refine ev_sub [3, 2, 1, 0] rfl (lv2 := [(0, .ref l0), (1, .int (-1 : Int32)), (2, .int (7 : Int32)), (3, .int (0 : Int32))]) ?_
  refine lp_X5_rarest_7 kl0 ?_ fu _ _ _ e4
  refine ev_iload_n (n := 0) dX5_rarest_51 rfl rfl ?_
  obtain rfl := Option.some.inj hf
  exact ev_ireturn dX5_rarest_52 ⟨.int, rfl, rfl⟩
def f_X5_ratio (h : Hp) (l0 : Nat) (l1 : Int32) : Option (Int32 × Hp) := (bn1 (f_X3_isPeer h (l0 + 1) l1) (fun v1 => (if v1 = 0 then (bn2 (f_X5_refuse h l0 (-2 : Int32)) (fun v9 h10 => (some (v9, h10)))) else (if inb l1 6 = true then (if (hI h (((l0 + 1) + 2) + 1 + 4 * l1.toNatClampNeg) 8) = 0 then (bn1 (f_X0_ofFloat h FP.fconst0) (fun v7 => (some (v7, h)))) else (if nn32 (FP.fdiv (FP.i2f (hI h (((l0 + 1) + 2) + 1 + 4 * l1.toNatClampNeg) 7)) (FP.i2f (hI h (((l0 + 1) + 2) + 1 + 4 * l1.toNatClampNeg) 8))) = true then (bn1 (f_X0_ofFloat h (FP.fdiv (FP.i2f (hI h (((l0 + 1) + 2) + 1 + 4 * l1.toNatClampNeg) 7)) (FP.i2f (hI h (((l0 + 1) + 2) + 1 + 4 * l1.toNatClampNeg) 8)))) (fun v5 => (some (v5, h)))) else none)) else none))))
set_option maxRecDepth 100000 in
set_option maxHeartbeats 4000000 in
theorem ev_X5_ratio {g : Gl} {h : Hp} {l0 : Nat} {l1 : Int32} {rv : Int32} {h2 : Hp} (kl0 : KD g.1 l0 4 0) (hf : f_X5_ratio h l0 l1 = some (rv, h2)) : Ev yX5_ratio cX5_ratio 3 (some .int) 1 23 g 0 [] [(0, .ref l0), (1, .int l1)] h (some (.int rv)) h2 := by
  unfold f_X5_ratio at hf
  refine ev_aload_n (n := 0) dX5_ratio_0 rfl rfl ?_
  refine ev_get (v := .ref (l0 + 1)) 0 kl0 rfl (by decide) rfl lk_216 dX5_ratio_1 ?_
  refine ev_iload_n (n := 1) dX5_ratio_4 rfl rfl ?_
  obtain ⟨v1, e2, hf⟩ := bn1_of hf
  refine ev_callVi (As := [.int l1]) cal_X3_isPeer (kd_4_0 kl0) rfl (ev_X3_isPeer (kd_4_0 kl0) e2) (Nat.le_of_ble_eq_true rfl) rfl lk_457 (by decide) (by decide) (Nat.le_of_ble_eq_true rfl) dX5_ratio_5 rfl ?_
  refine ev_if_ne (tgt := 18) dX5_ratio_8 (by decide) (fun c1 => ?_) (fun c1 => ?_)
  · replace hf := if_f c1 hf
    refine ev_aload_n (n := 0) dX5_ratio_18 rfl rfl ?_
    refine ev_get (v := .ref (l0 + 1)) 0 kl0 rfl (by decide) rfl lk_216 dX5_ratio_19 ?_
    refine ev_get (v := .ref ((l0 + 1) + 2)) 11 (kd_4_0 kl0) rfl (by decide) rfl lk_131 dX5_ratio_22 ?_
    refine ev_iload_n (n := 1) dX5_ratio_25 rfl rfl ?_
    obtain ⟨gd3, hf⟩ := gd_of hf
    refine ev_aaldP (kd_2_11 (kd_4_0 kl0)) (inb_of gd3) dX5_ratio_26 ?_
    refine ev_astore_n (lv2 := [(2, .ref (((l0 + 1) + 2) + 1 + 4 * l1.toNatClampNeg)), (0, .ref l0), (1, .int l1)]) dX5_ratio_27 rfl (by decide) rfl ?_
    refine ev_aload_n (n := 0) dX5_ratio_28 rfl rfl ?_
    refine ev_get (v := .int (hI h (((l0 + 1) + 2) + 1 + 4 * l1.toNatClampNeg) 8)) 8 (kdPA (kd_2_11 (kd_4_0 kl0)) (inb_of gd3)) rfl (by decide) rfl lk_61 dX5_ratio_29 ?_
    refine ev_if_ne (tgt := 40) dX5_ratio_32 (by decide) (fun c1 => ?_) (fun c1 => ?_)
    · replace hf := if_f c1 hf
      refine ev_aload_n (n := 0) dX5_ratio_40 rfl rfl ?_
      refine ev_get (v := .int (hI h (((l0 + 1) + 2) + 1 + 4 * l1.toNatClampNeg) 7)) 7 (kdPA (kd_2_11 (kd_4_0 kl0)) (inb_of gd3)) rfl (by decide) rfl lk_57 dX5_ratio_41 ?_
      refine ev_i2f dX5_ratio_44 ?_
      refine ev_aload_n (n := 0) dX5_ratio_45 rfl rfl ?_
      refine ev_get (v := .int (hI h (((l0 + 1) + 2) + 1 + 4 * l1.toNatClampNeg) 8)) 8 (kdPA (kd_2_11 (kd_4_0 kl0)) (inb_of gd3)) rfl (by decide) rfl lk_61 dX5_ratio_46 ?_
      refine ev_i2f dX5_ratio_49 ?_
      obtain ⟨gd4, hf⟩ := gd_of hf
      refine ev_fdiv dX5_ratio_50 (nn32_of gd4) ?_
      obtain ⟨v5, e6, hf⟩ := bn1_of hf
      refine ev_callSi (As := [.float (FP.fdiv (FP.i2f (hI h (((l0 + 1) + 2) + 1 + 4 * l1.toNatClampNeg) 7)) (FP.i2f (hI h (((l0 + 1) + 2) + 1 + 4 * l1.toNatClampNeg) 8)))]) cal_X0_ofFloat (ev_X0_ofFloat e6) (Nat.le_of_ble_eq_true rfl) rfl lk_482 (by decide) (by decide) (Nat.le_of_ble_eq_true rfl) dX5_ratio_51 rfl ?_
      obtain ⟨rfl, rfl⟩ := Prod.mk.inj (Option.some.inj hf)
      exact ev_ireturn dX5_ratio_54 ⟨.int, rfl, rfl⟩
    · replace hf := if_t c1 hf
      refine ev_fconst0 dX5_ratio_35 ?_
      obtain ⟨v7, e8, hf⟩ := bn1_of hf
      refine ev_callSi (As := [.float FP.fconst0]) cal_X0_ofFloat (ev_X0_ofFloat e8) (Nat.le_of_ble_eq_true rfl) rfl lk_482 (by decide) (by decide) (Nat.le_of_ble_eq_true rfl) dX5_ratio_36 rfl ?_
      obtain ⟨rfl, rfl⟩ := Prod.mk.inj (Option.some.inj hf)
      exact ev_ireturn dX5_ratio_39 ⟨.int, rfl, rfl⟩
  · replace hf := if_t c1 hf
    refine ev_aload_n (n := 0) dX5_ratio_11 rfl rfl ?_
    refine ev_bipush (v := -2) dX5_ratio_12 (by decide) ?_
    obtain ⟨v9, h10, e11, hf⟩ := bn2_of hf
    refine ev_callVi (As := [.int (-2 : Int32)]) cal_X5_refuse kl0 rfl (ev_X5_refuse kl0 e11) (Nat.le_of_ble_eq_true rfl) rfl lk_248 (by decide) (by decide) (Nat.le_of_ble_eq_true rfl) dX5_ratio_14 rfl ?_
    obtain ⟨rfl, rfl⟩ := Prod.mk.inj (Option.some.inj hf)
    exact ev_ireturn dX5_ratio_17 ⟨.int, rfl, rfl⟩
def f_X5_spread_l4 (h : Hp) (l0 : Nat) : Nat → Int32 → Int32 → Option (Int32)
  | 0, _, _ => none
  | fu1 + 1, l1, l2 => (if (hI h (l0 + 1) 0) ≤ l2 then (some l1) else (bn1 (f_X3_copiesOf h (l0 + 1) l2) (fun v1 => (f_X5_spread_l4 h l0 fu1 (l1 + v1) (l2 + 1)))))
theorem f_X5_spread_l4_s (h : Hp) (l0 : Nat) (fu1 : Nat) (l1 : Int32) (l2 : Int32) : f_X5_spread_l4 h l0 (fu1 + 1) l1 l2 = (if (hI h (l0 + 1) 0) ≤ l2 then (some l1) else (bn1 (f_X3_copiesOf h (l0 + 1) l2) (fun v1 => (f_X5_spread_l4 h l0 fu1 (l1 + v1) (l2 + 1))))) := rfl
theorem f_X5_spread_l4_0 (h : Hp) (l0 : Nat) (l1 : Int32) (l2 : Int32) : f_X5_spread_l4 h l0 0 l1 l2 = none := rfl
set_option maxRecDepth 100000 in
set_option maxHeartbeats 4000000 in
theorem lp_X5_spread_4 {g : Gl} {h : Hp} {l0 : Nat} {r : Option Value} {h2 : Hp} {o1 : Int32} (kl0 : KD g.1 l0 4 0) (hx0 : Ev yX5_spread cX5_spread 3 (some .int) 2 44 g 32 [] [(0, .ref l0), (1, .int o1)] h r h2) : ∀ (fu1 : Nat) (l1 : Int32) (l2 : Int32), f_X5_spread_l4 h l0 fu1 l1 l2 = some o1 → Ev yX5_spread cX5_spread 3 (some .int) 2 44 g 4 [] [(0, .ref l0), (1, .int l1), (2, .int l2)] h r h2 := by
  intro fu1
  induction fu1 with
  | zero =>
    intro l1 l2 hf
    cases hf
  | succ fu1 ih =>
    intro l1 l2 hf
    rw [f_X5_spread_l4_s] at hf
    have hk := ih
    refine ev_iload_n (n := 2) dX5_spread_4 rfl rfl ?_
    refine ev_aload_n (n := 0) dX5_spread_5 rfl rfl ?_
    refine ev_get (v := .ref (l0 + 1)) 0 kl0 rfl (by decide) rfl lk_216 dX5_spread_6 ?_
    refine ev_get (v := .int (hI h (l0 + 1) 0)) 0 (kd_4_0 kl0) rfl (by decide) rfl lk_105 dX5_spread_9 ?_
    refine ev_icmp_ge (tgt := 32) dX5_spread_12 (by decide) (fun c1 => ?_) (fun c1 => ?_)
    · replace hf := if_t c1 hf
      refine ev_sub [0, 1] rfl (lv2 := [(0, .ref l0), (1, .int l1)]) ?_
      obtain rfl := Option.some.inj hf
      exact hx0
    · replace hf := if_f c1 hf
      refine ev_iload_n (n := 1) dX5_spread_15 rfl rfl ?_
      refine ev_aload_n (n := 0) dX5_spread_16 rfl rfl ?_
      refine ev_get (v := .ref (l0 + 1)) 0 kl0 rfl (by decide) rfl lk_216 dX5_spread_17 ?_
      refine ev_iload_n (n := 2) dX5_spread_20 rfl rfl ?_
      obtain ⟨v1, e2, hf⟩ := bn1_of hf
      refine ev_callVi (As := [.int l2]) cal_X3_copiesOf (kd_4_0 kl0) rfl (ev_X3_copiesOf (kd_4_0 kl0) e2) (Nat.le_of_ble_eq_true rfl) rfl lk_494 (by decide) (by decide) (Nat.le_of_ble_eq_true rfl) dX5_spread_21 rfl ?_
      refine ev_iadd dX5_spread_24 ?_
      refine ev_istore_n (lv2 := [(1, .int (l1 + v1)), (0, .ref l0), (2, .int l2)]) dX5_spread_25 rfl (by decide) rfl ?_
      refine ev_iinc (z := 2) (v := (l2 + 1)) (lv2 := [(2, .int (l2 + 1)), (1, .int (l1 + v1)), (0, .ref l0)]) dX5_spread_26 rfl rfl (by decide) rfl ?_
      refine ev_goto (tgt := 4) dX5_spread_29 (by decide) ?_
      refine ev_sub [2, 1, 0] rfl (lv2 := [(0, .ref l0), (1, .int (l1 + v1)), (2, .int (l2 + 1))]) ?_
      exact hk _ _ hf
def f_X5_spread (h : Hp) (l0 : Nat) : Option (Int32) := (bn1 (f_X5_spread_l4 h l0 fu (0 : Int32) (0 : Int32)) (fun w1_3 => (if nn32 (FP.fdiv (FP.i2f w1_3) (FP.i2f (hI h (l0 + 1) 0))) = true then (bn1 (f_X0_ofFloat h (FP.fdiv (FP.i2f w1_3) (FP.i2f (hI h (l0 + 1) 0)))) (fun v5 => (some v5))) else none)))
set_option maxRecDepth 100000 in
set_option maxHeartbeats 4000000 in
theorem ev_X5_spread {g : Gl} {h : Hp} {l0 : Nat} {rv : Int32} (kl0 : KD g.1 l0 4 0) (hf : f_X5_spread h l0 = some rv) : Ev yX5_spread cX5_spread 3 (some .int) 2 44 g 0 [] [(0, .ref l0)] h (some (.int rv)) h := by
  unfold f_X5_spread at hf
  refine ev_iconst (v := 0) dX5_spread_0 (by decide) ?_
  refine ev_istore_n (lv2 := [(1, .int (0 : Int32)), (0, .ref l0)]) dX5_spread_1 rfl (by decide) rfl ?_
  refine ev_iconst (v := 0) dX5_spread_2 (by decide) ?_
  refine ev_istore_n (lv2 := [(2, .int (0 : Int32)), (1, .int (0 : Int32)), (0, .ref l0)]) dX5_spread_3 rfl (by decide) rfl ?_
  obtain ⟨w1_3, e7, hf⟩ := bn1_of hf
  refine ev_sub [2, 1, 0] rfl (lv2 := [(0, .ref l0), (1, .int (0 : Int32)), (2, .int (0 : Int32))]) ?_
  refine lp_X5_spread_4 kl0 ?_ fu _ _ e7
  refine ev_iload_n (n := 1) dX5_spread_32 rfl rfl ?_
  refine ev_i2f dX5_spread_33 ?_
  refine ev_aload_n (n := 0) dX5_spread_34 rfl rfl ?_
  refine ev_get (v := .ref (l0 + 1)) 0 kl0 rfl (by decide) rfl lk_216 dX5_spread_35 ?_
  refine ev_get (v := .int (hI h (l0 + 1) 0)) 0 (kd_4_0 kl0) rfl (by decide) rfl lk_105 dX5_spread_38 ?_
  refine ev_i2f dX5_spread_41 ?_
  obtain ⟨gd4, hf⟩ := gd_of hf
  refine ev_fdiv dX5_spread_42 (nn32_of gd4) ?_
  obtain ⟨v5, e6, hf⟩ := bn1_of hf
  refine ev_callSi (As := [.float (FP.fdiv (FP.i2f w1_3) (FP.i2f (hI h (l0 + 1) 0)))]) cal_X0_ofFloat (ev_X0_ofFloat e6) (Nat.le_of_ble_eq_true rfl) rfl lk_482 (by decide) (by decide) (Nat.le_of_ble_eq_true rfl) dX5_spread_43 rfl ?_
  obtain rfl := Option.some.inj hf
  exact ev_ireturn dX5_spread_46 ⟨.int, rfl, rfl⟩
def f_X5_fairness_l7 (h : Hp) (l0 : Nat) : Nat → UInt64 → UInt64 → Int32 → Option (UInt64 × UInt64)
  | 0, _, _, _ => none
  | fu1 + 1, l1, l3, l5 => (if (hI h (l0 + 1) 4) ≤ l5 then (some (l1, l3)) else (if inb l5 6 = true then (if nn64 (FP.dadd l1 (FP.i2d (hI h (((l0 + 1) + 2) + 1 + 4 * l5.toNatClampNeg) 7))) = true then (if nn64 (FP.dmul (FP.i2d (hI h (((l0 + 1) + 2) + 1 + 4 * l5.toNatClampNeg) 7)) (FP.i2d (hI h (((l0 + 1) + 2) + 1 + 4 * l5.toNatClampNeg) 7))) = true then (if nn64 (FP.dadd l3 (FP.dmul (FP.i2d (hI h (((l0 + 1) + 2) + 1 + 4 * l5.toNatClampNeg) 7)) (FP.i2d (hI h (((l0 + 1) + 2) + 1 + 4 * l5.toNatClampNeg) 7)))) = true then (f_X5_fairness_l7 h l0 fu1 (FP.dadd l1 (FP.i2d (hI h (((l0 + 1) + 2) + 1 + 4 * l5.toNatClampNeg) 7))) (FP.dadd l3 (FP.dmul (FP.i2d (hI h (((l0 + 1) + 2) + 1 + 4 * l5.toNatClampNeg) 7)) (FP.i2d (hI h (((l0 + 1) + 2) + 1 + 4 * l5.toNatClampNeg) 7)))) (l5 + 1)) else none) else none) else none) else none))
theorem f_X5_fairness_l7_s (h : Hp) (l0 : Nat) (fu1 : Nat) (l1 : UInt64) (l3 : UInt64) (l5 : Int32) : f_X5_fairness_l7 h l0 (fu1 + 1) l1 l3 l5 = (if (hI h (l0 + 1) 4) ≤ l5 then (some (l1, l3)) else (if inb l5 6 = true then (if nn64 (FP.dadd l1 (FP.i2d (hI h (((l0 + 1) + 2) + 1 + 4 * l5.toNatClampNeg) 7))) = true then (if nn64 (FP.dmul (FP.i2d (hI h (((l0 + 1) + 2) + 1 + 4 * l5.toNatClampNeg) 7)) (FP.i2d (hI h (((l0 + 1) + 2) + 1 + 4 * l5.toNatClampNeg) 7))) = true then (if nn64 (FP.dadd l3 (FP.dmul (FP.i2d (hI h (((l0 + 1) + 2) + 1 + 4 * l5.toNatClampNeg) 7)) (FP.i2d (hI h (((l0 + 1) + 2) + 1 + 4 * l5.toNatClampNeg) 7)))) = true then (f_X5_fairness_l7 h l0 fu1 (FP.dadd l1 (FP.i2d (hI h (((l0 + 1) + 2) + 1 + 4 * l5.toNatClampNeg) 7))) (FP.dadd l3 (FP.dmul (FP.i2d (hI h (((l0 + 1) + 2) + 1 + 4 * l5.toNatClampNeg) 7)) (FP.i2d (hI h (((l0 + 1) + 2) + 1 + 4 * l5.toNatClampNeg) 7)))) (l5 + 1)) else none) else none) else none) else none)) := rfl
theorem f_X5_fairness_l7_0 (h : Hp) (l0 : Nat) (l1 : UInt64) (l3 : UInt64) (l5 : Int32) : f_X5_fairness_l7 h l0 0 l1 l3 l5 = none := rfl
set_option maxRecDepth 100000 in
set_option maxHeartbeats 4000000 in
theorem lp_X5_fairness_7 {g : Gl} {h : Hp} {l0 : Nat} {r : Option Value} {h2 : Hp} {o1 : UInt64} {o3 : UInt64} (kl0 : KD g.1 l0 4 0) (hx0 : Ev yX5_fairness cX5_fairness 8 (some .long) 1 26 g 54 [] [(0, .ref l0), (1, .double o1), (3, .double o3)] h r h2) : ∀ (fu1 : Nat) (l1 : UInt64) (l3 : UInt64) (l5 : Int32), f_X5_fairness_l7 h l0 fu1 l1 l3 l5 = some (o1, o3) → Ev yX5_fairness cX5_fairness 8 (some .long) 1 26 g 7 [] [(0, .ref l0), (1, .double l1), (3, .double l3), (5, .int l5)] h r h2 := by
  intro fu1
  induction fu1 with
  | zero =>
    intro l1 l3 l5 hf
    cases hf
  | succ fu1 ih =>
    intro l1 l3 l5 hf
    rw [f_X5_fairness_l7_s] at hf
    have hk := ih
    refine ev_iload (n := 3) dX5_fairness_7 rfl ?_
    refine ev_aload_n (n := 0) dX5_fairness_9 rfl rfl ?_
    refine ev_get (v := .ref (l0 + 1)) 0 kl0 rfl (by decide) rfl lk_216 dX5_fairness_10 ?_
    refine ev_get (v := .int (hI h (l0 + 1) 4)) 4 (kd_4_0 kl0) rfl (by decide) rfl lk_114 dX5_fairness_13 ?_
    refine ev_icmp_ge (tgt := 54) dX5_fairness_16 (by decide) (fun c1 => ?_) (fun c1 => ?_)
    · replace hf := if_t c1 hf
      refine ev_sub [0, 1, 2] rfl (lv2 := [(0, .ref l0), (1, .double l1), (3, .double l3)]) ?_
      obtain ⟨rfl, rfl⟩ := Prod.mk.inj (Option.some.inj hf)
      exact hx0
    · replace hf := if_f c1 hf
      refine ev_aload_n (n := 0) dX5_fairness_19 rfl rfl ?_
      refine ev_get (v := .ref (l0 + 1)) 0 kl0 rfl (by decide) rfl lk_216 dX5_fairness_20 ?_
      refine ev_get (v := .ref ((l0 + 1) + 2)) 11 (kd_4_0 kl0) rfl (by decide) rfl lk_131 dX5_fairness_23 ?_
      refine ev_iload (n := 3) dX5_fairness_26 rfl ?_
      obtain ⟨gd1, hf⟩ := gd_of hf
      refine ev_aaldP (kd_2_11 (kd_4_0 kl0)) (inb_of gd1) dX5_fairness_28 ?_
      refine ev_get (v := .int (hI h (((l0 + 1) + 2) + 1 + 4 * l5.toNatClampNeg) 7)) 7 (kdPA (kd_2_11 (kd_4_0 kl0)) (inb_of gd1)) rfl (by decide) rfl lk_57 dX5_fairness_29 ?_
      refine ev_i2d dX5_fairness_32 ?_
      refine ev_dstore (lv2 := [(6, .double (FP.i2d (hI h (((l0 + 1) + 2) + 1 + 4 * l5.toNatClampNeg) 7))), (0, .ref l0), (1, .double l1), (3, .double l3), (5, .int l5)]) dX5_fairness_33 (by decide) rfl ?_
      refine ev_dload_n (n := 2) dX5_fairness_35 rfl rfl ?_
      refine ev_dload (n := 0) dX5_fairness_36 rfl ?_
      obtain ⟨gd2, hf⟩ := gd_of hf
      refine ev_dadd dX5_fairness_38 (nn64_of gd2) ?_
      refine ev_dstore_n (lv2 := [(1, .double (FP.dadd l1 (FP.i2d (hI h (((l0 + 1) + 2) + 1 + 4 * l5.toNatClampNeg) 7)))), (6, .double (FP.i2d (hI h (((l0 + 1) + 2) + 1 + 4 * l5.toNatClampNeg) 7))), (0, .ref l0), (3, .double l3), (5, .int l5)]) dX5_fairness_39 rfl (by decide) rfl ?_
      refine ev_dload_n (n := 3) dX5_fairness_40 rfl rfl ?_
      refine ev_dload (n := 1) dX5_fairness_41 rfl ?_
      refine ev_dload (n := 1) dX5_fairness_43 rfl ?_
      obtain ⟨gd3, hf⟩ := gd_of hf
      refine ev_dmul dX5_fairness_45 (nn64_of gd3) ?_
      obtain ⟨gd4, hf⟩ := gd_of hf
      refine ev_dadd dX5_fairness_46 (nn64_of gd4) ?_
      refine ev_dstore_n (lv2 := [(3, .double (FP.dadd l3 (FP.dmul (FP.i2d (hI h (((l0 + 1) + 2) + 1 + 4 * l5.toNatClampNeg) 7)) (FP.i2d (hI h (((l0 + 1) + 2) + 1 + 4 * l5.toNatClampNeg) 7))))), (1, .double (FP.dadd l1 (FP.i2d (hI h (((l0 + 1) + 2) + 1 + 4 * l5.toNatClampNeg) 7)))), (6, .double (FP.i2d (hI h (((l0 + 1) + 2) + 1 + 4 * l5.toNatClampNeg) 7))), (0, .ref l0), (5, .int l5)]) dX5_fairness_47 rfl (by decide) rfl ?_
      refine ev_iinc (z := 4) (v := (l5 + 1)) (lv2 := [(5, .int (l5 + 1)), (3, .double (FP.dadd l3 (FP.dmul (FP.i2d (hI h (((l0 + 1) + 2) + 1 + 4 * l5.toNatClampNeg) 7)) (FP.i2d (hI h (((l0 + 1) + 2) + 1 + 4 * l5.toNatClampNeg) 7))))), (1, .double (FP.dadd l1 (FP.i2d (hI h (((l0 + 1) + 2) + 1 + 4 * l5.toNatClampNeg) 7)))), (6, .double (FP.i2d (hI h (((l0 + 1) + 2) + 1 + 4 * l5.toNatClampNeg) 7))), (0, .ref l0)]) dX5_fairness_48 rfl rfl (by decide) rfl ?_
      refine ev_goto (tgt := 7) dX5_fairness_51 (by decide) ?_
      refine ev_sub [4, 2, 1, 0] rfl (lv2 := [(0, .ref l0), (1, .double (FP.dadd l1 (FP.i2d (hI h (((l0 + 1) + 2) + 1 + 4 * l5.toNatClampNeg) 7)))), (3, .double (FP.dadd l3 (FP.dmul (FP.i2d (hI h (((l0 + 1) + 2) + 1 + 4 * l5.toNatClampNeg) 7)) (FP.i2d (hI h (((l0 + 1) + 2) + 1 + 4 * l5.toNatClampNeg) 7))))), (5, .int (l5 + 1))]) ?_
      exact hk _ _ _ hf
def f_X5_fairness (h : Hp) (l0 : Nat) : Option (Int64) := (bn2 (f_X5_fairness_l7 h l0 fu FP.dconst0 FP.dconst0 (0 : Int32)) (fun w1_5 w3_6 => (if (Op.cmpValue (FP.dcmp w3_6 FP.dconst0) .l) = 0 then (bn1 (f_X0_ofDouble h FP.dconst1) (fun v12 => (some v12))) else (if nn64 (FP.dmul w1_5 w1_5) = true then (if nn64 (FP.dmul (FP.i2d (hI h (l0 + 1) 4)) w3_6) = true then (if nn64 (FP.ddiv (FP.dmul w1_5 w1_5) (FP.dmul (FP.i2d (hI h (l0 + 1) 4)) w3_6)) = true then (bn1 (f_X0_ofDouble h (FP.ddiv (FP.dmul w1_5 w1_5) (FP.dmul (FP.i2d (hI h (l0 + 1) 4)) w3_6))) (fun v10 => (some v10))) else none) else none) else none))))
set_option maxRecDepth 100000 in
set_option maxHeartbeats 4000000 in
theorem ev_X5_fairness {g : Gl} {h : Hp} {l0 : Nat} {rv : Int64} (kl0 : KD g.1 l0 4 0) (hf : f_X5_fairness h l0 = some rv) : Ev yX5_fairness cX5_fairness 8 (some .long) 1 26 g 0 [] [(0, .ref l0)] h (some (.long rv)) h := by
  unfold f_X5_fairness at hf
  refine ev_dconst0 dX5_fairness_0 ?_
  refine ev_dstore_n (lv2 := [(1, .double FP.dconst0), (0, .ref l0)]) dX5_fairness_1 rfl (by decide) rfl ?_
  refine ev_dconst0 dX5_fairness_2 ?_
  refine ev_dstore_n (lv2 := [(3, .double FP.dconst0), (1, .double FP.dconst0), (0, .ref l0)]) dX5_fairness_3 rfl (by decide) rfl ?_
  refine ev_iconst (v := 0) dX5_fairness_4 (by decide) ?_
  refine ev_istore (lv2 := [(5, .int (0 : Int32)), (3, .double FP.dconst0), (1, .double FP.dconst0), (0, .ref l0)]) dX5_fairness_5 (by decide) rfl ?_
  obtain ⟨w1_5, w3_6, e14, hf⟩ := bn2_of hf
  refine ev_sub [3, 2, 1, 0] rfl (lv2 := [(0, .ref l0), (1, .double FP.dconst0), (3, .double FP.dconst0), (5, .int (0 : Int32))]) ?_
  refine lp_X5_fairness_7 kl0 ?_ fu _ _ _ e14
  refine ev_dload_n (n := 2) dX5_fairness_54 rfl rfl ?_
  refine ev_dconst0 dX5_fairness_55 ?_
  refine ev_dcmp dX5_fairness_56 ?_
  refine ev_if_ne (tgt := 65) dX5_fairness_57 (by decide) (fun c1 => ?_) (fun c1 => ?_)
  · replace hf := if_f c1 hf
    refine ev_dload_n (n := 1) dX5_fairness_65 rfl rfl ?_
    refine ev_dload_n (n := 1) dX5_fairness_66 rfl rfl ?_
    obtain ⟨gd7, hf⟩ := gd_of hf
    refine ev_dmul dX5_fairness_67 (nn64_of gd7) ?_
    refine ev_aload_n (n := 0) dX5_fairness_68 rfl rfl ?_
    refine ev_get (v := .ref (l0 + 1)) 0 kl0 rfl (by decide) rfl lk_216 dX5_fairness_69 ?_
    refine ev_get (v := .int (hI h (l0 + 1) 4)) 4 (kd_4_0 kl0) rfl (by decide) rfl lk_114 dX5_fairness_72 ?_
    refine ev_i2d dX5_fairness_75 ?_
    refine ev_dload_n (n := 2) dX5_fairness_76 rfl rfl ?_
    obtain ⟨gd8, hf⟩ := gd_of hf
    refine ev_dmul dX5_fairness_77 (nn64_of gd8) ?_
    obtain ⟨gd9, hf⟩ := gd_of hf
    refine ev_ddiv dX5_fairness_78 (nn64_of gd9) ?_
    obtain ⟨v10, e11, hf⟩ := bn1_of hf
    refine ev_callSl (As := [.double (FP.ddiv (FP.dmul w1_5 w1_5) (FP.dmul (FP.i2d (hI h (l0 + 1) 4)) w3_6))]) cal_X0_ofDouble (ev_X0_ofDouble e11) (Nat.le_of_ble_eq_true rfl) rfl lk_511 (by decide) (by decide) (Nat.le_of_ble_eq_true rfl) dX5_fairness_79 rfl ?_
    obtain rfl := Option.some.inj hf
    exact ev_lreturn dX5_fairness_82 rfl
  · replace hf := if_t c1 hf
    refine ev_dconst1 dX5_fairness_60 ?_
    obtain ⟨v12, e13, hf⟩ := bn1_of hf
    refine ev_callSl (As := [.double FP.dconst1]) cal_X0_ofDouble (ev_X0_ofDouble e13) (Nat.le_of_ble_eq_true rfl) rfl lk_511 (by decide) (by decide) (Nat.le_of_ble_eq_true rfl) dX5_fairness_61 rfl ?_
    obtain rfl := Option.some.inj hf
    exact ev_lreturn dX5_fairness_64 rfl
def f_X5_count_j10 (h : Hp) (l0 : Nat) : Option (Int32 × Hp) := (bn2 (f_X5_refuse h l0 (-2 : Int32)) (fun v1 h2 => (some (v1, h2))))
set_option maxRecDepth 100000 in
set_option maxHeartbeats 4000000 in
theorem jn_X5_count_10 {g : Gl} {h : Hp} {l0 : Nat}  {rv : Int32} {h2 : Hp} (kl0 : KD g.1 l0 4 0)   (hf : f_X5_count_j10 h l0 = some (rv, h2)) : Ev yX5_count cX5_count 2 (some .int) 3 63 g 10 [] [(0, .ref l0)] h (some (.int rv)) h2 := by
  unfold f_X5_count_j10 at hf
  refine ev_aload_n (n := 0) dX5_count_10 rfl rfl ?_
  refine ev_bipush (v := -2) dX5_count_11 (by decide) ?_
  obtain ⟨v1, h2, e3, hf⟩ := bn2_of hf
  refine ev_callVi (As := [.int (-2 : Int32)]) cal_X5_refuse kl0 rfl (ev_X5_refuse kl0 e3) (Nat.le_of_ble_eq_true rfl) rfl lk_248 (by decide) (by decide) (Nat.le_of_ble_eq_true rfl) dX5_count_13 rfl ?_
  obtain ⟨rfl, rfl⟩ := Prod.mk.inj (Option.some.inj hf)
  exact ev_ireturn dX5_count_16 ⟨.int, rfl, rfl⟩
def f_X5_count (h : Hp) (l0 : Nat) (l1 : Int32) : Option (Int32 × Hp) := (if l1 < 0 then (f_X5_count_j10 h l0) else (if l1 ≤ (9 : Int32) then (bn1 (f_X3_tellCount h (l0 + 1) l1) (fun v4 => (some (v4, h)))) else (f_X5_count_j10 h l0)))
set_option maxRecDepth 100000 in
set_option maxHeartbeats 4000000 in
theorem ev_X5_count {g : Gl} {h : Hp} {l0 : Nat} {l1 : Int32} {rv : Int32} {h2 : Hp} (kl0 : KD g.1 l0 4 0) (hf : f_X5_count h l0 l1 = some (rv, h2)) : Ev yX5_count cX5_count 2 (some .int) 3 63 g 0 [] [(0, .ref l0), (1, .int l1)] h (some (.int rv)) h2 := by
  unfold f_X5_count at hf
  refine ev_iload_n (n := 1) dX5_count_0 rfl rfl ?_
  refine ev_if_lt (tgt := 10) dX5_count_1 (by decide) (fun c1 => ?_) (fun c1 => ?_)
  · replace hf := if_t c1 hf
    refine ev_sub [0] rfl (lv2 := [(0, .ref l0)]) ?_
    exact jn_X5_count_10 kl0 hf
  · replace hf := if_f c1 hf
    refine ev_iload_n (n := 1) dX5_count_4 rfl rfl ?_
    refine ev_bipush (v := 9) dX5_count_5 (by decide) ?_
    refine ev_icmp_le (tgt := 17) dX5_count_7 (by decide) (fun c1 => ?_) (fun c1 => ?_)
    · replace hf := if_t c1 hf
      refine ev_aload_n (n := 0) dX5_count_17 rfl rfl ?_
      refine ev_get (v := .ref (l0 + 1)) 0 kl0 rfl (by decide) rfl lk_216 dX5_count_18 ?_
      refine ev_iload_n (n := 1) dX5_count_21 rfl rfl ?_
      obtain ⟨v4, e5, hf⟩ := bn1_of hf
      refine ev_callVi (As := [.int l1]) cal_X3_tellCount (kd_4_0 kl0) rfl (ev_X3_tellCount (kd_4_0 kl0) e5) (Nat.le_of_ble_eq_true rfl) rfl lk_521 (by decide) (by decide) (Nat.le_of_ble_eq_true rfl) dX5_count_22 rfl ?_
      obtain ⟨rfl, rfl⟩ := Prod.mk.inj (Option.some.inj hf)
      exact ev_ireturn dX5_count_25 ⟨.int, rfl, rfl⟩
    · replace hf := if_f c1 hf
      refine ev_sub [0] rfl (lv2 := [(0, .ref l0)]) ?_
      exact jn_X5_count_10 kl0 hf
def f_X5_type_j10 (h : Hp) (l0 : Nat) : Option (Int32 × Hp) := (bn2 (f_X5_refuse h l0 (-2 : Int32)) (fun v1 h2 => (some (v1, h2))))
set_option maxRecDepth 100000 in
set_option maxHeartbeats 4000000 in
theorem jn_X5_type_10 {g : Gl} {h : Hp} {l0 : Nat}  {rv : Int32} {h2 : Hp} (kl0 : KD g.1 l0 4 0)   (hf : f_X5_type_j10 h l0 = some (rv, h2)) : Ev yX5_type cX5_type 2 (some .int) 1 21 g 10 [] [(0, .ref l0)] h (some (.int rv)) h2 := by
  unfold f_X5_type_j10 at hf
  refine ev_aload_n (n := 0) dX5_type_10 rfl rfl ?_
  refine ev_bipush (v := -2) dX5_type_11 (by decide) ?_
  obtain ⟨v1, h2, e3, hf⟩ := bn2_of hf
  refine ev_callVi (As := [.int (-2 : Int32)]) cal_X5_refuse kl0 rfl (ev_X5_refuse kl0 e3) (Nat.le_of_ble_eq_true rfl) rfl lk_248 (by decide) (by decide) (Nat.le_of_ble_eq_true rfl) dX5_type_13 rfl ?_
  obtain ⟨rfl, rfl⟩ := Prod.mk.inj (Option.some.inj hf)
  exact ev_ireturn dX5_type_16 ⟨.int, rfl, rfl⟩
def f_X5_type (h : Hp) (l0 : Nat) (l1 : Int32) : Option (Int32 × Hp) := (if l1 < 0 then (f_X5_type_j10 h l0) else (if l1 ≤ (127 : Int32) then (if (hI h (l0 + 169) 0) < (120 : Int32) then (bn1 (f_X4_append h (l0 + 169) l1) (fun h4 => (some ((hI h4 (l0 + 169) 0), h4)))) else (bn2 (f_X5_refuse h l0 (-4 : Int32)) (fun v6 h7 => (some (v6, h7))))) else (f_X5_type_j10 h l0)))
set_option maxRecDepth 100000 in
set_option maxHeartbeats 4000000 in
theorem ev_X5_type {g : Gl} {h : Hp} {l0 : Nat} {l1 : Int32} {rv : Int32} {h2 : Hp} (kl0 : KD g.1 l0 4 0) (hf : f_X5_type h l0 l1 = some (rv, h2)) : Ev yX5_type cX5_type 2 (some .int) 1 21 g 0 [] [(0, .ref l0), (1, .int l1)] h (some (.int rv)) h2 := by
  unfold f_X5_type at hf
  refine ev_iload_n (n := 1) dX5_type_0 rfl rfl ?_
  refine ev_if_lt (tgt := 10) dX5_type_1 (by decide) (fun c1 => ?_) (fun c1 => ?_)
  · replace hf := if_t c1 hf
    refine ev_sub [0] rfl (lv2 := [(0, .ref l0)]) ?_
    exact jn_X5_type_10 kl0 hf
  · replace hf := if_f c1 hf
    refine ev_iload_n (n := 1) dX5_type_4 rfl rfl ?_
    refine ev_bipush (v := 127) dX5_type_5 (by decide) ?_
    refine ev_icmp_le (tgt := 17) dX5_type_7 (by decide) (fun c1 => ?_) (fun c1 => ?_)
    · replace hf := if_t c1 hf
      refine ev_aload_n (n := 0) dX5_type_17 rfl rfl ?_
      refine ev_get (v := .ref (l0 + 169)) 3 kl0 rfl (by decide) rfl lk_219 dX5_type_18 ?_
      refine ev_get (v := .int (hI h (l0 + 169) 0)) 0 (kd_4_3 kl0) rfl (by decide) rfl lk_184 dX5_type_21 ?_
      refine ev_bipush (v := 120) dX5_type_24 (by decide) ?_
      refine ev_icmp_lt (tgt := 36) dX5_type_26 (by decide) (fun c1 => ?_) (fun c1 => ?_)
      · replace hf := if_t c1 hf
        refine ev_aload_n (n := 0) dX5_type_36 rfl rfl ?_
        refine ev_get (v := .ref (l0 + 169)) 3 kl0 rfl (by decide) rfl lk_219 dX5_type_37 ?_
        refine ev_iload_n (n := 1) dX5_type_40 rfl rfl ?_
        obtain ⟨h4, e5, hf⟩ := bn1_of hf
        refine ev_callVv (As := [.int l1]) cal_X4_append (kd_4_3 kl0) rfl (ev_X4_append (kd_4_3 kl0) e5) (Nat.le_of_ble_eq_true rfl) rfl lk_538 (by decide) (by decide) (Nat.le_of_ble_eq_true rfl) dX5_type_41 rfl ?_
        refine ev_aload_n (n := 0) dX5_type_44 rfl rfl ?_
        refine ev_get (v := .ref (l0 + 169)) 3 kl0 rfl (by decide) rfl lk_219 dX5_type_45 ?_
        refine ev_get (v := .int (hI h4 (l0 + 169) 0)) 0 (kd_4_3 kl0) rfl (by decide) rfl lk_184 dX5_type_48 ?_
        obtain ⟨rfl, rfl⟩ := Prod.mk.inj (Option.some.inj hf)
        exact ev_ireturn dX5_type_51 ⟨.int, rfl, rfl⟩
      · replace hf := if_f c1 hf
        refine ev_aload_n (n := 0) dX5_type_29 rfl rfl ?_
        refine ev_bipush (v := -4) dX5_type_30 (by decide) ?_
        obtain ⟨v6, h7, e8, hf⟩ := bn2_of hf
        refine ev_callVi (As := [.int (-4 : Int32)]) cal_X5_refuse kl0 rfl (ev_X5_refuse kl0 e8) (Nat.le_of_ble_eq_true rfl) rfl lk_248 (by decide) (by decide) (Nat.le_of_ble_eq_true rfl) dX5_type_32 rfl ?_
        obtain ⟨rfl, rfl⟩ := Prod.mk.inj (Option.some.inj hf)
        exact ev_ireturn dX5_type_35 ⟨.int, rfl, rfl⟩
    · replace hf := if_f c1 hf
      refine ev_sub [0] rfl (lv2 := [(0, .ref l0)]) ?_
      exact jn_X5_type_10 kl0 hf
def f_X5_clear (h : Hp) (l0 : Nat) : Option (Int32 × Hp) := (some ((hI h (l0 + 169) 0), (sI h (l0 + 169) 0 (0 : Int32))))
set_option maxRecDepth 100000 in
set_option maxHeartbeats 4000000 in
theorem ev_X5_clear {g : Gl} {h : Hp} {l0 : Nat} {rv : Int32} {h2 : Hp} (kl0 : KD g.1 l0 4 0) (hf : f_X5_clear h l0 = some (rv, h2)) : Ev yX5_clear cX5_clear 2 (some .int) 0 0 g 0 [] [(0, .ref l0)] h (some (.int rv)) h2 := by
  unfold f_X5_clear at hf
  refine ev_aload_n (n := 0) dX5_clear_0 rfl rfl ?_
  refine ev_get (v := .ref (l0 + 169)) 3 kl0 rfl (by decide) rfl lk_219 dX5_clear_1 ?_
  refine ev_get (v := .int (hI h (l0 + 169) 0)) 0 (kd_4_3 kl0) rfl (by decide) rfl lk_184 dX5_clear_4 ?_
  refine ev_istore_n (lv2 := [(1, .int (hI h (l0 + 169) 0)), (0, .ref l0)]) dX5_clear_7 rfl (by decide) rfl ?_
  refine ev_aload_n (n := 1) dX5_clear_8 rfl rfl ?_
  refine ev_get (v := .ref (l0 + 169)) 3 kl0 rfl (by decide) rfl lk_219 dX5_clear_9 ?_
  refine ev_iconst (v := 0) dX5_clear_12 (by decide) ?_
  refine ev_putI 0 (kd_4_3 kl0) rfl (by decide) rfl (by decide +kernel) rfl (by exact Nat.le_of_ble_eq_true rfl) lk_184 dX5_clear_13 ?_
  refine ev_iload_n (n := 0) dX5_clear_16 rfl rfl ?_
  obtain ⟨rfl, rfl⟩ := Prod.mk.inj (Option.some.inj hf)
  exact ev_ireturn dX5_clear_17 ⟨.int, rfl, rfl⟩
def f_X5_obey (h : Hp) (l0 : Nat) (l1 : Int32) (l2 : Int32) (l3 : Int32) : Option (Int32 × Hp) := (if l1 = 103 then (bn1 (f_X3_refusesGift h (l0 + 1) l2 l3) (fun v15 => (if v15 = 0 then (bn2 (f_X3_takeGift h (l0 + 1) l2 l3) (fun v17 h18 => (some ((1 : Int32), h18)))) else (some ((0 : Int32), h))))) else (if l1 = 112 then (bn1 (f_X3_refusesPeer h (l0 + 1) l2 l3) (fun v10 => (if v10 = 0 then (bn2 (f_X3_addPeer h (l0 + 1) l2 l3) (fun v12 h13 => (some ((1 : Int32), h13)))) else (some ((0 : Int32), h))))) else (if l1 = 115 then (bn1 (f_X3_refusesSetting h (l0 + 1) l2 l3) (fun v5 => (if v5 = 0 then (bn2 (f_X3_changeSetting h (l0 + 1) l2 l3) (fun v7 h8 => (some ((1 : Int32), h8)))) else (some ((0 : Int32), h))))) else (bn1 (f_X5_areRounds h l2) (fun v1 => (if v1 = 0 then (some ((0 : Int32), h)) else (bn1 (f_X2_runSome h (l0 + 164) (l0 + 1) l2) (fun h3 => (some ((1 : Int32), h3))))))))))
set_option maxRecDepth 100000 in
set_option maxHeartbeats 4000000 in
theorem ev_X5_obey {g : Gl} {h : Hp} {l0 : Nat} {l1 : Int32} {l2 : Int32} {l3 : Int32} {rv : Int32} {h2 : Hp} (kl0 : KD g.1 l0 4 0) (hf : f_X5_obey h l0 l1 l2 l3 = some (rv, h2)) : Ev yX5_obey cX5_obey 4 (some .boolean) 5 126 g 0 [] [(0, .ref l0), (1, .int l1), (2, .int l2), (3, .int l3)] h (some (.int rv)) h2 := by
  unfold f_X5_obey at hf
  refine ev_iload_n (n := 1) dX5_obey_0 rfl rfl ?_
  by_cases sw103 : l1 = 103
  · replace hf := if_t sw103 hf
    refine ev_lookup (tgt := 62) dX5_obey_1 (by decide) (by rw [sw103]) (by decide) ?_
    refine ev_aload_n (n := 0) dX5_obey_62 rfl rfl ?_
    refine ev_get (v := .ref (l0 + 1)) 0 kl0 rfl (by decide) rfl lk_216 dX5_obey_63 ?_
    refine ev_iload_n (n := 2) dX5_obey_66 rfl rfl ?_
    refine ev_iload_n (n := 3) dX5_obey_67 rfl rfl ?_
    obtain ⟨v15, e16, hf⟩ := bn1_of hf
    refine ev_callVi (As := [.int l2, .int l3]) cal_X3_refusesGift (kd_4_0 kl0) rfl (ev_X3_refusesGift (kd_4_0 kl0) e16) (Nat.le_of_ble_eq_true rfl) rfl lk_289 (by decide) (by decide) (Nat.le_of_ble_eq_true rfl) dX5_obey_68 rfl ?_
    refine ev_if_eq (tgt := 76) dX5_obey_71 (by decide) (fun c1 => ?_) (fun c1 => ?_)
    · replace hf := if_t c1 hf
      refine ev_aload_n (n := 0) dX5_obey_76 rfl rfl ?_
      refine ev_get (v := .ref (l0 + 1)) 0 kl0 rfl (by decide) rfl lk_216 dX5_obey_77 ?_
      refine ev_iload_n (n := 2) dX5_obey_80 rfl rfl ?_
      refine ev_iload_n (n := 3) dX5_obey_81 rfl rfl ?_
      obtain ⟨v17, h18, e19, hf⟩ := bn2_of hf
      refine ev_callVi (As := [.int l2, .int l3]) cal_X3_takeGift (kd_4_0 kl0) rfl (ev_X3_takeGift (kd_4_0 kl0) e19) (Nat.le_of_ble_eq_true rfl) rfl lk_305 (by decide) (by decide) (Nat.le_of_ble_eq_true rfl) dX5_obey_82 rfl ?_
      refine ev_pop dX5_obey_85 rfl ?_
      refine ev_iconst (v := 1) dX5_obey_86 (by decide) ?_
      obtain ⟨rfl, rfl⟩ := Prod.mk.inj (Option.some.inj hf)
      exact ev_ireturn dX5_obey_87 ⟨.boolean, rfl, rfl⟩
    · replace hf := if_f c1 hf
      refine ev_iconst (v := 0) dX5_obey_74 (by decide) ?_
      obtain ⟨rfl, rfl⟩ := Prod.mk.inj (Option.some.inj hf)
      exact ev_ireturn dX5_obey_75 ⟨.boolean, rfl, rfl⟩
  replace hf := if_f sw103 hf
  by_cases sw112 : l1 = 112
  · replace hf := if_t sw112 hf
    refine ev_lookup (tgt := 36) dX5_obey_1 (by decide) (by rw [sw112]) (by decide) ?_
    refine ev_aload_n (n := 0) dX5_obey_36 rfl rfl ?_
    refine ev_get (v := .ref (l0 + 1)) 0 kl0 rfl (by decide) rfl lk_216 dX5_obey_37 ?_
    refine ev_iload_n (n := 2) dX5_obey_40 rfl rfl ?_
    refine ev_iload_n (n := 3) dX5_obey_41 rfl rfl ?_
    obtain ⟨v10, e11, hf⟩ := bn1_of hf
    refine ev_callVi (As := [.int l2, .int l3]) cal_X3_refusesPeer (kd_4_0 kl0) rfl (ev_X3_refusesPeer (kd_4_0 kl0) e11) (Nat.le_of_ble_eq_true rfl) rfl lk_273 (by decide) (by decide) (Nat.le_of_ble_eq_true rfl) dX5_obey_42 rfl ?_
    refine ev_if_eq (tgt := 50) dX5_obey_45 (by decide) (fun c1 => ?_) (fun c1 => ?_)
    · replace hf := if_t c1 hf
      refine ev_aload_n (n := 0) dX5_obey_50 rfl rfl ?_
      refine ev_get (v := .ref (l0 + 1)) 0 kl0 rfl (by decide) rfl lk_216 dX5_obey_51 ?_
      refine ev_iload_n (n := 2) dX5_obey_54 rfl rfl ?_
      refine ev_iload_n (n := 3) dX5_obey_55 rfl rfl ?_
      obtain ⟨v12, h13, e14, hf⟩ := bn2_of hf
      refine ev_callVi (As := [.int l2, .int l3]) cal_X3_addPeer (kd_4_0 kl0) rfl (ev_X3_addPeer (kd_4_0 kl0) e14) (Nat.le_of_ble_eq_true rfl) rfl lk_277 (by decide) (by decide) (Nat.le_of_ble_eq_true rfl) dX5_obey_56 rfl ?_
      refine ev_pop dX5_obey_59 rfl ?_
      refine ev_iconst (v := 1) dX5_obey_60 (by decide) ?_
      obtain ⟨rfl, rfl⟩ := Prod.mk.inj (Option.some.inj hf)
      exact ev_ireturn dX5_obey_61 ⟨.boolean, rfl, rfl⟩
    · replace hf := if_f c1 hf
      refine ev_iconst (v := 0) dX5_obey_48 (by decide) ?_
      obtain ⟨rfl, rfl⟩ := Prod.mk.inj (Option.some.inj hf)
      exact ev_ireturn dX5_obey_49 ⟨.boolean, rfl, rfl⟩
  replace hf := if_f sw112 hf
  by_cases sw115 : l1 = 115
  · replace hf := if_t sw115 hf
    refine ev_lookup (tgt := 88) dX5_obey_1 (by decide) (by rw [sw115]) (by decide) ?_
    refine ev_aload_n (n := 0) dX5_obey_88 rfl rfl ?_
    refine ev_get (v := .ref (l0 + 1)) 0 kl0 rfl (by decide) rfl lk_216 dX5_obey_89 ?_
    refine ev_iload_n (n := 2) dX5_obey_92 rfl rfl ?_
    refine ev_iload_n (n := 3) dX5_obey_93 rfl rfl ?_
    obtain ⟨v5, e6, hf⟩ := bn1_of hf
    refine ev_callVi (As := [.int l2, .int l3]) cal_X3_refusesSetting (kd_4_0 kl0) rfl (ev_X3_refusesSetting (kd_4_0 kl0) e6) (Nat.le_of_ble_eq_true rfl) rfl lk_323 (by decide) (by decide) (Nat.le_of_ble_eq_true rfl) dX5_obey_94 rfl ?_
    refine ev_if_eq (tgt := 102) dX5_obey_97 (by decide) (fun c1 => ?_) (fun c1 => ?_)
    · replace hf := if_t c1 hf
      refine ev_aload_n (n := 0) dX5_obey_102 rfl rfl ?_
      refine ev_get (v := .ref (l0 + 1)) 0 kl0 rfl (by decide) rfl lk_216 dX5_obey_103 ?_
      refine ev_iload_n (n := 2) dX5_obey_106 rfl rfl ?_
      refine ev_iload_n (n := 3) dX5_obey_107 rfl rfl ?_
      obtain ⟨v7, h8, e9, hf⟩ := bn2_of hf
      refine ev_callVi (As := [.int l2, .int l3]) cal_X3_changeSetting (kd_4_0 kl0) rfl (ev_X3_changeSetting (kd_4_0 kl0) e9) (Nat.le_of_ble_eq_true rfl) rfl lk_331 (by decide) (by decide) (Nat.le_of_ble_eq_true rfl) dX5_obey_108 rfl ?_
      refine ev_pop dX5_obey_111 rfl ?_
      refine ev_iconst (v := 1) dX5_obey_112 (by decide) ?_
      obtain ⟨rfl, rfl⟩ := Prod.mk.inj (Option.some.inj hf)
      exact ev_ireturn dX5_obey_113 ⟨.boolean, rfl, rfl⟩
    · replace hf := if_f c1 hf
      refine ev_iconst (v := 0) dX5_obey_100 (by decide) ?_
      obtain ⟨rfl, rfl⟩ := Prod.mk.inj (Option.some.inj hf)
      exact ev_ireturn dX5_obey_101 ⟨.boolean, rfl, rfl⟩
  replace hf := if_f sw115 hf
  · refine ev_lookup (tgt := 114) dX5_obey_1 (by decide) (lsw_out sw103 sw112 sw115) (by decide) ?_
    refine ev_iload_n (n := 2) dX5_obey_114 rfl rfl ?_
    obtain ⟨v1, e2, hf⟩ := bn1_of hf
    refine ev_callSi (As := [.int l2]) cal_X5_areRounds (ev_X5_areRounds e2) (Nat.le_of_ble_eq_true rfl) rfl lk_339 (by decide) (by decide) (Nat.le_of_ble_eq_true rfl) dX5_obey_115 rfl ?_
    refine ev_if_ne (tgt := 123) dX5_obey_118 (by decide) (fun c1 => ?_) (fun c1 => ?_)
    · replace hf := if_f c1 hf
      refine ev_aload_n (n := 0) dX5_obey_123 rfl rfl ?_
      refine ev_get (v := .ref (l0 + 164)) 2 kl0 rfl (by decide) rfl lk_218 dX5_obey_124 ?_
      refine ev_aload_n (n := 0) dX5_obey_127 rfl rfl ?_
      refine ev_get (v := .ref (l0 + 1)) 0 kl0 rfl (by decide) rfl lk_216 dX5_obey_128 ?_
      refine ev_iload_n (n := 2) dX5_obey_131 rfl rfl ?_
      obtain ⟨h3, e4, hf⟩ := bn1_of hf
      refine ev_callVv (As := [.ref (l0 + 1), .int l2]) cal_X2_runSome (kd_4_2 kl0) rfl (ev_X2_runSome (kd_4_2 kl0) (kd_4_0 kl0) e4) (Nat.le_of_ble_eq_true rfl) rfl lk_342 (by decide) (by decide) (Nat.le_of_ble_eq_true rfl) dX5_obey_132 rfl ?_
      refine ev_iconst (v := 1) dX5_obey_135 (by decide) ?_
      obtain ⟨rfl, rfl⟩ := Prod.mk.inj (Option.some.inj hf)
      exact ev_ireturn dX5_obey_136 ⟨.boolean, rfl, rfl⟩
    · replace hf := if_t c1 hf
      refine ev_iconst (v := 0) dX5_obey_121 (by decide) ?_
      obtain ⟨rfl, rfl⟩ := Prod.mk.inj (Option.some.inj hf)
      exact ev_ireturn dX5_obey_122 ⟨.boolean, rfl, rfl⟩
def f_X5_does_j74 (kk : Int32 → Int32 → Hp → Option (Int32 × Hp)) (h : Hp) (l0 : Nat) (l2 : Int32) (l3 : Int32) : Option (Int32 × Hp) := (kk l2 (l3 + 1) h)
set_option maxRecDepth 100000 in
set_option maxHeartbeats 4000000 in
theorem jn_X5_does_74 {g : Gl} {h : Hp} {kk : Int32 → Int32 → Hp → Option (Int32 × Hp)} {l0 : Nat} {l2 : Int32} {l3 : Int32}  {r : Option Value} {h2 : Hp} {o2 : Int32} {h3 : Hp} (kl0 : KD g.1 l0 4 0) (hx0 : Ev yX5_does cX5_does 4 (some .int) 6 149 g 80 [] [(2, .int o2)] h3 r h2) (hk : ∀ (x2 : Int32) (x3 : Int32) (hq : Hp), kk x2 x3 hq = some (o2, h3) → Ev yX5_does cX5_does 4 (some .int) 6 149 g 26 [] [(0, .ref l0), (2, .int x2), (3, .int x3)] hq r h2) (hf : f_X5_does_j74 kk h l0 l2 l3 = some (o2, h3)) : Ev yX5_does cX5_does 4 (some .int) 6 149 g 74 [] [(0, .ref l0), (2, .int l2), (3, .int l3)] h r h2 := by
  unfold f_X5_does_j74 at hf
  refine ev_iinc (z := 2) (v := (l3 + 1)) (lv2 := [(3, .int (l3 + 1)), (0, .ref l0), (2, .int l2)]) dX5_does_74 rfl rfl (by decide) rfl ?_
  refine ev_goto (tgt := 26) dX5_does_77 (by decide) ?_
  refine ev_sub [1, 2, 0] rfl (lv2 := [(0, .ref l0), (2, .int l2), (3, .int (l3 + 1))]) ?_
  exact hk _ _ _ hf
def f_X5_does_l26 (l0 : Nat) : Nat → Int32 → Int32 → Hp → Option (Int32 × Hp)
  | 0, _, _, _ => none
  | fu1 + 1, l2, l3, h => (if (hI h (l0 + 169) 1) ≤ l3 then (some (l2, h)) else (if inb l3 40 = true then (if inb l3 40 = true then (if inb l3 40 = true then (bn2 (f_X5_obey h l0 (hI h ((l0 + 169) + 2) l3.toNatClampNeg) (hI h ((l0 + 169) + 3) l3.toNatClampNeg) (hI h ((l0 + 169) + 4) l3.toNatClampNeg)) (fun v9 h10 => (if v9 = 0 then (f_X5_does_j74 (f_X5_does_l26 l0 fu1) h10 l0 l2 l3) else (f_X5_does_j74 (f_X5_does_l26 l0 fu1) h10 l0 (l2 + 1) l3)))) else none) else none) else none))
theorem f_X5_does_l26_s (l0 : Nat) (fu1 : Nat) (l2 : Int32) (l3 : Int32) (h : Hp) : f_X5_does_l26 l0 (fu1 + 1) l2 l3 h = (if (hI h (l0 + 169) 1) ≤ l3 then (some (l2, h)) else (if inb l3 40 = true then (if inb l3 40 = true then (if inb l3 40 = true then (bn2 (f_X5_obey h l0 (hI h ((l0 + 169) + 2) l3.toNatClampNeg) (hI h ((l0 + 169) + 3) l3.toNatClampNeg) (hI h ((l0 + 169) + 4) l3.toNatClampNeg)) (fun v9 h10 => (if v9 = 0 then (f_X5_does_j74 (f_X5_does_l26 l0 fu1) h10 l0 l2 l3) else (f_X5_does_j74 (f_X5_does_l26 l0 fu1) h10 l0 (l2 + 1) l3)))) else none) else none) else none)) := rfl
theorem f_X5_does_l26_0 (l0 : Nat) (l2 : Int32) (l3 : Int32) (h : Hp) : f_X5_does_l26 l0 0 l2 l3 h = none := rfl
set_option maxRecDepth 100000 in
set_option maxHeartbeats 4000000 in
theorem lp_X5_does_26 {g : Gl} {l0 : Nat} {r : Option Value} {h2 : Hp} {o2 : Int32} {h3 : Hp} (kl0 : KD g.1 l0 4 0) (hx0 : Ev yX5_does cX5_does 4 (some .int) 6 149 g 80 [] [(2, .int o2)] h3 r h2) : ∀ (fu1 : Nat) (l2 : Int32) (l3 : Int32) (h : Hp), f_X5_does_l26 l0 fu1 l2 l3 h = some (o2, h3) → Ev yX5_does cX5_does 4 (some .int) 6 149 g 26 [] [(0, .ref l0), (2, .int l2), (3, .int l3)] h r h2 := by
  intro fu1
  induction fu1 with
  | zero =>
    intro l2 l3 h hf
    cases hf
  | succ fu1 ih =>
    intro l2 l3 h hf
    rw [f_X5_does_l26_s] at hf
    have hk := ih
    refine ev_iload_n (n := 2) dX5_does_26 rfl rfl ?_
    refine ev_aload_n (n := 0) dX5_does_27 rfl rfl ?_
    refine ev_get (v := .ref (l0 + 169)) 3 kl0 rfl (by decide) rfl lk_219 dX5_does_28 ?_
    refine ev_get (v := .int (hI h (l0 + 169) 1)) 1 (kd_4_3 kl0) rfl (by decide) rfl lk_186 dX5_does_31 ?_
    refine ev_icmp_ge (tgt := 80) dX5_does_34 (by decide) (fun c1 => ?_) (fun c1 => ?_)
    · replace hf := if_t c1 hf
      refine ev_sub [1] rfl (lv2 := [(2, .int l2)]) ?_
      obtain ⟨rfl, rfl⟩ := Prod.mk.inj (Option.some.inj hf)
      exact hx0
    · replace hf := if_f c1 hf
      refine ev_aload_n (n := 0) dX5_does_37 rfl rfl ?_
      refine ev_aload_n (n := 0) dX5_does_38 rfl rfl ?_
      refine ev_get (v := .ref (l0 + 169)) 3 kl0 rfl (by decide) rfl lk_219 dX5_does_39 ?_
      refine ev_get (v := .ref ((l0 + 169) + 2)) 2 (kd_4_3 kl0) rfl (by decide) rfl lk_188 dX5_does_42 ?_
      refine ev_iload_n (n := 2) dX5_does_45 rfl rfl ?_
      obtain ⟨gd6, hf⟩ := gd_of hf
      refine ev_iald (kd_3_2 (kd_4_3 kl0)) (inb_of gd6) dX5_does_46 ?_
      refine ev_aload_n (n := 0) dX5_does_47 rfl rfl ?_
      refine ev_get (v := .ref (l0 + 169)) 3 kl0 rfl (by decide) rfl lk_219 dX5_does_48 ?_
      refine ev_get (v := .ref ((l0 + 169) + 3)) 3 (kd_4_3 kl0) rfl (by decide) rfl lk_190 dX5_does_51 ?_
      refine ev_iload_n (n := 2) dX5_does_54 rfl rfl ?_
      obtain ⟨gd7, hf⟩ := gd_of hf
      refine ev_iald (kd_3_3 (kd_4_3 kl0)) (inb_of gd7) dX5_does_55 ?_
      refine ev_aload_n (n := 0) dX5_does_56 rfl rfl ?_
      refine ev_get (v := .ref (l0 + 169)) 3 kl0 rfl (by decide) rfl lk_219 dX5_does_57 ?_
      refine ev_get (v := .ref ((l0 + 169) + 4)) 4 (kd_4_3 kl0) rfl (by decide) rfl lk_192 dX5_does_60 ?_
      refine ev_iload_n (n := 2) dX5_does_63 rfl rfl ?_
      obtain ⟨gd8, hf⟩ := gd_of hf
      refine ev_iald (kd_3_4 (kd_4_3 kl0)) (inb_of gd8) dX5_does_64 ?_
      obtain ⟨v9, h10, e11, hf⟩ := bn2_of hf
      refine ev_callVi (As := [.int (hI h ((l0 + 169) + 2) l3.toNatClampNeg), .int (hI h ((l0 + 169) + 3) l3.toNatClampNeg), .int (hI h ((l0 + 169) + 4) l3.toNatClampNeg)]) cal_X5_obey kl0 rfl (ev_X5_obey kl0 e11) (Nat.le_of_ble_eq_true rfl) rfl lk_566 (by decide) (by decide) (Nat.le_of_ble_eq_true rfl) dX5_does_65 rfl ?_
      refine ev_if_eq (tgt := 74) dX5_does_68 (by decide) (fun c1 => ?_) (fun c1 => ?_)
      · replace hf := if_t c1 hf
        exact jn_X5_does_74 kl0 hx0 hk hf
      · replace hf := if_f c1 hf
        refine ev_iinc (z := 1) (v := (l2 + 1)) (lv2 := [(2, .int (l2 + 1)), (0, .ref l0), (3, .int l3)]) dX5_does_71 rfl rfl (by decide) rfl ?_
        refine ev_sub [1, 0, 2] rfl (lv2 := [(0, .ref l0), (2, .int (l2 + 1)), (3, .int l3)]) ?_
        exact jn_X5_does_74 kl0 hx0 hk hf
def f_X5_does (h : Hp) (l0 : Nat) : Option (Int32 × Hp) := (bn2 (f_X4_read h (l0 + 169)) (fun v1 h2 => (if v1 = (-1 : Int32) then (bn1 (f_X5_keepState h2 l0) (fun h4 => (bn2 (f_X5_does_l26 l0 fu (0 : Int32) (0 : Int32) h4) (fun w2_12 h13 => (some (w2_12, h13)))))) else (some (((-10 : Int32) - v1), h2)))))
set_option maxRecDepth 100000 in
set_option maxHeartbeats 4000000 in
theorem ev_X5_does {g : Gl} {h : Hp} {l0 : Nat} {rv : Int32} {h2 : Hp} (kl0 : KD g.1 l0 4 0) (hf : f_X5_does h l0 = some (rv, h2)) : Ev yX5_does cX5_does 4 (some .int) 6 149 g 0 [] [(0, .ref l0)] h (some (.int rv)) h2 := by
  unfold f_X5_does at hf
  refine ev_aload_n (n := 0) dX5_does_0 rfl rfl ?_
  refine ev_get (v := .ref (l0 + 169)) 3 kl0 rfl (by decide) rfl lk_219 dX5_does_1 ?_
  obtain ⟨v1, h2, e3, hf⟩ := bn2_of hf
  refine ev_callVi (As := []) cal_X4_read (kd_4_3 kl0) rfl (ev_X4_read (kd_4_3 kl0) e3) (Nat.le_of_ble_eq_true rfl) rfl lk_550 (by decide) (by decide) (Nat.le_of_ble_eq_true rfl) dX5_does_4 rfl ?_
  refine ev_istore_n (lv2 := [(1, .int v1), (0, .ref l0)]) dX5_does_7 rfl (by decide) rfl ?_
  refine ev_iload_n (n := 0) dX5_does_8 rfl rfl ?_
  refine ev_iconst (v := -1) dX5_does_9 (by decide) ?_
  refine ev_icmp_eq (tgt := 18) dX5_does_10 (by decide) (fun c1 => ?_) (fun c1 => ?_)
  · replace hf := if_t c1 hf
    refine ev_aload_n (n := 1) dX5_does_18 rfl rfl ?_
    obtain ⟨h4, e5, hf⟩ := bn1_of hf
    refine ev_callVv (As := []) cal_X5_keepState kl0 rfl (ev_X5_keepState kl0 e5) (Nat.le_of_ble_eq_true rfl) rfl lk_252 (by decide) (by decide) (Nat.le_of_ble_eq_true rfl) dX5_does_19 rfl ?_
    refine ev_iconst (v := 0) dX5_does_22 (by decide) ?_
    refine ev_istore_n (lv2 := [(2, .int (0 : Int32)), (1, .int v1), (0, .ref l0)]) dX5_does_23 rfl (by decide) rfl ?_
    refine ev_iconst (v := 0) dX5_does_24 (by decide) ?_
    refine ev_istore_n (lv2 := [(3, .int (0 : Int32)), (2, .int (0 : Int32)), (1, .int v1), (0, .ref l0)]) dX5_does_25 rfl (by decide) rfl ?_
    obtain ⟨w2_12, h13, e14, hf⟩ := bn2_of hf
    refine ev_sub [3, 1, 0] rfl (lv2 := [(0, .ref l0), (2, .int (0 : Int32)), (3, .int (0 : Int32))]) ?_
    refine lp_X5_does_26 kl0 ?_ fu _ _ _ e14
    refine ev_iload_n (n := 0) dX5_does_80 rfl rfl ?_
    obtain ⟨rfl, rfl⟩ := Prod.mk.inj (Option.some.inj hf)
    exact ev_ireturn dX5_does_81 ⟨.int, rfl, rfl⟩
  · replace hf := if_f c1 hf
    refine ev_bipush (v := -10) dX5_does_13 (by decide) ?_
    refine ev_iload_n (n := 0) dX5_does_15 rfl rfl ?_
    refine ev_isub dX5_does_16 ?_
    obtain ⟨rfl, rfl⟩ := Prod.mk.inj (Option.some.inj hf)
    exact ev_ireturn dX5_does_17 ⟨.int, rfl, rfl⟩
def f_X5_back (h : Hp) (l0 : Nat) : Option (Int32 × Hp) := (if (hI h l0 5) = 0 then (bn2 (f_X5_refuse h l0 (-3 : Int32)) (fun v4 h5 => (some (v4, h5)))) else (if inb (hI h l0 4) 5 = true then (bn1 (f_X3_copyFrom h (l0 + 1) ((l0 + 28) + 1 + 27 * (hI h l0 4).toNatClampNeg)) (fun h2 => (some ((hI (sI (sI h2 l0 4 ((((hI h2 l0 4) + (5 : Int32)) - (1 : Int32)) - (((hI h2 l0 4) + (5 : Int32)) - (1 : Int32)) / (5 : Int32) * (5 : Int32))) l0 5 ((hI (sI h2 l0 4 ((((hI h2 l0 4) + (5 : Int32)) - (1 : Int32)) - (((hI h2 l0 4) + (5 : Int32)) - (1 : Int32)) / (5 : Int32) * (5 : Int32))) l0 5) - (1 : Int32))) l0 5), (sI (sI h2 l0 4 ((((hI h2 l0 4) + (5 : Int32)) - (1 : Int32)) - (((hI h2 l0 4) + (5 : Int32)) - (1 : Int32)) / (5 : Int32) * (5 : Int32))) l0 5 ((hI (sI h2 l0 4 ((((hI h2 l0 4) + (5 : Int32)) - (1 : Int32)) - (((hI h2 l0 4) + (5 : Int32)) - (1 : Int32)) / (5 : Int32) * (5 : Int32))) l0 5) - (1 : Int32))))))) else none))
set_option maxRecDepth 100000 in
set_option maxHeartbeats 4000000 in
theorem ev_X5_back {g : Gl} {h : Hp} {l0 : Nat} {rv : Int32} {h2 : Hp} (kl0 : KD g.1 l0 4 0) (hf : f_X5_back h l0 = some (rv, h2)) : Ev yX5_back cX5_back 1 (some .int) 3 73 g 0 [] [(0, .ref l0)] h (some (.int rv)) h2 := by
  unfold f_X5_back at hf
  refine ev_aload_n (n := 0) dX5_back_0 rfl rfl ?_
  refine ev_get (v := .int (hI h l0 5)) 5 kl0 rfl (by decide) rfl lk_221 dX5_back_1 ?_
  refine ev_if_ne (tgt := 14) dX5_back_4 (by decide) (fun c1 => ?_) (fun c1 => ?_)
  · replace hf := if_f c1 hf
    refine ev_aload_n (n := 0) dX5_back_14 rfl rfl ?_
    refine ev_get (v := .ref (l0 + 1)) 0 kl0 rfl (by decide) rfl lk_216 dX5_back_15 ?_
    refine ev_aload_n (n := 0) dX5_back_18 rfl rfl ?_
    refine ev_get (v := .ref (l0 + 28)) 1 kl0 rfl (by decide) rfl lk_217 dX5_back_19 ?_
    refine ev_aload_n (n := 0) dX5_back_22 rfl rfl ?_
    refine ev_get (v := .int (hI h l0 4)) 4 kl0 rfl (by decide) rfl lk_220 dX5_back_23 ?_
    obtain ⟨gd1, hf⟩ := gd_of hf
    refine ev_aaldS (kd_4_1 kl0) (inb_of gd1) dX5_back_26 ?_
    obtain ⟨h2, e3, hf⟩ := bn1_of hf
    refine ev_callVv (As := [.ref ((l0 + 28) + 1 + 27 * (hI h l0 4).toNatClampNeg)]) cal_X3_copyFrom (kd_4_0 kl0) rfl (ev_X3_copyFrom (kd_4_0 kl0) (kdSA (kd_4_1 kl0) (inb_of gd1)) e3) (Nat.le_of_ble_eq_true rfl) rfl lk_256 (by decide) (by decide) (Nat.le_of_ble_eq_true rfl) dX5_back_27 rfl ?_
    refine ev_aload_n (n := 0) dX5_back_30 rfl rfl ?_
    refine ev_aload_n (n := 0) dX5_back_31 rfl rfl ?_
    refine ev_get (v := .int (hI h2 l0 4)) 4 kl0 rfl (by decide) rfl lk_220 dX5_back_32 ?_
    refine ev_iconst (v := 5) dX5_back_35 (by decide) ?_
    refine ev_iadd dX5_back_36 ?_
    refine ev_iconst (v := 1) dX5_back_37 (by decide) ?_
    refine ev_isub dX5_back_38 ?_
    refine ev_iconst (v := 5) dX5_back_39 (by decide) ?_
    refine ev_irem dX5_back_40 (by decide) ?_
    refine ev_putI 4 kl0 rfl (by decide) rfl (by decide +kernel) rfl (by exact Nat.le_of_ble_eq_true rfl) lk_220 dX5_back_41 ?_
    refine ev_aload_n (n := 0) dX5_back_44 rfl rfl ?_
    refine ev_dup dX5_back_45 rfl ?_
    refine ev_get (v := .int (hI (sI h2 l0 4 ((((hI h2 l0 4) + (5 : Int32)) - (1 : Int32)) - (((hI h2 l0 4) + (5 : Int32)) - (1 : Int32)) / (5 : Int32) * (5 : Int32))) l0 5)) 5 kl0 rfl (by decide) rfl lk_221 dX5_back_46 ?_
    refine ev_iconst (v := 1) dX5_back_49 (by decide) ?_
    refine ev_isub dX5_back_50 ?_
    refine ev_putI 5 kl0 rfl (by decide) rfl (by decide +kernel) rfl (by exact Nat.le_of_ble_eq_true rfl) lk_221 dX5_back_51 ?_
    refine ev_aload_n (n := 0) dX5_back_54 rfl rfl ?_
    refine ev_get (v := .int (hI (sI (sI h2 l0 4 ((((hI h2 l0 4) + (5 : Int32)) - (1 : Int32)) - (((hI h2 l0 4) + (5 : Int32)) - (1 : Int32)) / (5 : Int32) * (5 : Int32))) l0 5 ((hI (sI h2 l0 4 ((((hI h2 l0 4) + (5 : Int32)) - (1 : Int32)) - (((hI h2 l0 4) + (5 : Int32)) - (1 : Int32)) / (5 : Int32) * (5 : Int32))) l0 5) - (1 : Int32))) l0 5)) 5 kl0 rfl (by decide) rfl lk_221 dX5_back_55 ?_
    obtain ⟨rfl, rfl⟩ := Prod.mk.inj (Option.some.inj hf)
    exact ev_ireturn dX5_back_58 ⟨.int, rfl, rfl⟩
  · replace hf := if_t c1 hf
    refine ev_aload_n (n := 0) dX5_back_7 rfl rfl ?_
    refine ev_bipush (v := -3) dX5_back_8 (by decide) ?_
    obtain ⟨v4, h5, e6, hf⟩ := bn2_of hf
    refine ev_callVi (As := [.int (-3 : Int32)]) cal_X5_refuse kl0 rfl (ev_X5_refuse kl0 e6) (Nat.le_of_ble_eq_true rfl) rfl lk_248 (by decide) (by decide) (Nat.le_of_ble_eq_true rfl) dX5_back_10 rfl ?_
    obtain ⟨rfl, rfl⟩ := Prod.mk.inj (Option.some.inj hf)
    exact ev_ireturn dX5_back_13 ⟨.int, rfl, rfl⟩
def f_X5_told_j10 (h : Hp) (l0 : Nat) : Option (Int32 × Hp) := (bn2 (f_X5_refuse h l0 (-2 : Int32)) (fun v1 h2 => (some (v1, h2))))
set_option maxRecDepth 100000 in
set_option maxHeartbeats 4000000 in
theorem jn_X5_told_10 {g : Gl} {h : Hp} {l0 : Nat}  {rv : Int32} {h2 : Hp} (kl0 : KD g.1 l0 4 0)   (hf : f_X5_told_j10 h l0 = some (rv, h2)) : Ev yX5_told cX5_told 2 (some .int) 1 21 g 10 [] [(0, .ref l0)] h (some (.int rv)) h2 := by
  unfold f_X5_told_j10 at hf
  refine ev_aload_n (n := 0) dX5_told_10 rfl rfl ?_
  refine ev_bipush (v := -2) dX5_told_11 (by decide) ?_
  obtain ⟨v1, h2, e3, hf⟩ := bn2_of hf
  refine ev_callVi (As := [.int (-2 : Int32)]) cal_X5_refuse kl0 rfl (ev_X5_refuse kl0 e3) (Nat.le_of_ble_eq_true rfl) rfl lk_248 (by decide) (by decide) (Nat.le_of_ble_eq_true rfl) dX5_told_13 rfl ?_
  obtain ⟨rfl, rfl⟩ := Prod.mk.inj (Option.some.inj hf)
  exact ev_ireturn dX5_told_16 ⟨.int, rfl, rfl⟩
def f_X5_told (h : Hp) (l0 : Nat) (l1 : Int32) : Option (Int32 × Hp) := (if l1 < 0 then (f_X5_told_j10 h l0) else (if l1 ≤ (8 : Int32) then (if l1 = 0 then (some ((hI h l0 6), h)) else (if l1 = 1 then (some ((hI h l0 7), h)) else (if l1 = 2 then (some ((hI h l0 8), h)) else (if l1 = 3 then (some ((hI h ((l0 + 1) + 1) (0 : Int32).toNatClampNeg), h)) else (if l1 = 4 then (some ((hI h ((l0 + 1) + 1) (1 : Int32).toNatClampNeg), h)) else (if l1 = 5 then (some ((hI h ((l0 + 1) + 1) (2 : Int32).toNatClampNeg), h)) else (if l1 = 6 then (some ((hI h ((l0 + 1) + 1) (3 : Int32).toNatClampNeg), h)) else (if l1 = 7 then (some ((hI h (l0 + 169) 0), h)) else (some ((hI h l0 5), h)))))))))) else (f_X5_told_j10 h l0)))
set_option maxRecDepth 100000 in
set_option maxHeartbeats 4000000 in
theorem ev_X5_told {g : Gl} {h : Hp} {l0 : Nat} {l1 : Int32} {rv : Int32} {h2 : Hp} (kl0 : KD g.1 l0 4 0) (hf : f_X5_told h l0 l1 = some (rv, h2)) : Ev yX5_told cX5_told 2 (some .int) 1 21 g 0 [] [(0, .ref l0), (1, .int l1)] h (some (.int rv)) h2 := by
  unfold f_X5_told at hf
  refine ev_iload_n (n := 1) dX5_told_0 rfl rfl ?_
  refine ev_if_lt (tgt := 10) dX5_told_1 (by decide) (fun c1 => ?_) (fun c1 => ?_)
  · replace hf := if_t c1 hf
    refine ev_sub [0] rfl (lv2 := [(0, .ref l0)]) ?_
    exact jn_X5_told_10 kl0 hf
  · replace hf := if_f c1 hf
    refine ev_iload_n (n := 1) dX5_told_4 rfl rfl ?_
    refine ev_bipush (v := 8) dX5_told_5 (by decide) ?_
    refine ev_icmp_le (tgt := 17) dX5_told_7 (by decide) (fun c1 => ?_) (fun c1 => ?_)
    · replace hf := if_t c1 hf
      refine ev_iload_n (n := 1) dX5_told_17 rfl rfl ?_
      by_cases sw0 : l1 = 0
      · replace hf := if_t sw0 hf
        refine ev_tableIn (tgt := 64) dX5_told_18 (by rw [sw0]; decide) (by rw [sw0]; decide) (by rw [sw0]; rfl) (by decide) ?_
        refine ev_aload_n (n := 0) dX5_told_64 rfl rfl ?_
        refine ev_get (v := .int (hI h l0 6)) 6 kl0 rfl (by decide) rfl lk_222 dX5_told_65 ?_
        obtain ⟨rfl, rfl⟩ := Prod.mk.inj (Option.some.inj hf)
        exact ev_ireturn dX5_told_68 ⟨.int, rfl, rfl⟩
      replace hf := if_f sw0 hf
      by_cases sw1 : l1 = 1
      · replace hf := if_t sw1 hf
        refine ev_tableIn (tgt := 69) dX5_told_18 (by rw [sw1]; decide) (by rw [sw1]; decide) (by rw [sw1]; rfl) (by decide) ?_
        refine ev_aload_n (n := 0) dX5_told_69 rfl rfl ?_
        refine ev_get (v := .int (hI h l0 7)) 7 kl0 rfl (by decide) rfl lk_223 dX5_told_70 ?_
        obtain ⟨rfl, rfl⟩ := Prod.mk.inj (Option.some.inj hf)
        exact ev_ireturn dX5_told_73 ⟨.int, rfl, rfl⟩
      replace hf := if_f sw1 hf
      by_cases sw2 : l1 = 2
      · replace hf := if_t sw2 hf
        refine ev_tableIn (tgt := 74) dX5_told_18 (by rw [sw2]; decide) (by rw [sw2]; decide) (by rw [sw2]; rfl) (by decide) ?_
        refine ev_aload_n (n := 0) dX5_told_74 rfl rfl ?_
        refine ev_get (v := .int (hI h l0 8)) 8 kl0 rfl (by decide) rfl lk_224 dX5_told_75 ?_
        obtain ⟨rfl, rfl⟩ := Prod.mk.inj (Option.some.inj hf)
        exact ev_ireturn dX5_told_78 ⟨.int, rfl, rfl⟩
      replace hf := if_f sw2 hf
      by_cases sw3 : l1 = 3
      · replace hf := if_t sw3 hf
        refine ev_tableIn (tgt := 79) dX5_told_18 (by rw [sw3]; decide) (by rw [sw3]; decide) (by rw [sw3]; rfl) (by decide) ?_
        refine ev_aload_n (n := 0) dX5_told_79 rfl rfl ?_
        refine ev_get (v := .ref (l0 + 1)) 0 kl0 rfl (by decide) rfl lk_216 dX5_told_80 ?_
        refine ev_get (v := .ref ((l0 + 1) + 1)) 10 (kd_4_0 kl0) rfl (by decide) rfl lk_128 dX5_told_83 ?_
        refine ev_iconst (v := 0) dX5_told_86 (by decide) ?_
        refine ev_iald (kd_2_10 (kd_4_0 kl0)) (by unfold vp_in; decide) dX5_told_87 ?_
        obtain ⟨rfl, rfl⟩ := Prod.mk.inj (Option.some.inj hf)
        exact ev_ireturn dX5_told_88 ⟨.int, rfl, rfl⟩
      replace hf := if_f sw3 hf
      by_cases sw4 : l1 = 4
      · replace hf := if_t sw4 hf
        refine ev_tableIn (tgt := 89) dX5_told_18 (by rw [sw4]; decide) (by rw [sw4]; decide) (by rw [sw4]; rfl) (by decide) ?_
        refine ev_aload_n (n := 0) dX5_told_89 rfl rfl ?_
        refine ev_get (v := .ref (l0 + 1)) 0 kl0 rfl (by decide) rfl lk_216 dX5_told_90 ?_
        refine ev_get (v := .ref ((l0 + 1) + 1)) 10 (kd_4_0 kl0) rfl (by decide) rfl lk_128 dX5_told_93 ?_
        refine ev_iconst (v := 1) dX5_told_96 (by decide) ?_
        refine ev_iald (kd_2_10 (kd_4_0 kl0)) (by unfold vp_in; decide) dX5_told_97 ?_
        obtain ⟨rfl, rfl⟩ := Prod.mk.inj (Option.some.inj hf)
        exact ev_ireturn dX5_told_98 ⟨.int, rfl, rfl⟩
      replace hf := if_f sw4 hf
      by_cases sw5 : l1 = 5
      · replace hf := if_t sw5 hf
        refine ev_tableIn (tgt := 99) dX5_told_18 (by rw [sw5]; decide) (by rw [sw5]; decide) (by rw [sw5]; rfl) (by decide) ?_
        refine ev_aload_n (n := 0) dX5_told_99 rfl rfl ?_
        refine ev_get (v := .ref (l0 + 1)) 0 kl0 rfl (by decide) rfl lk_216 dX5_told_100 ?_
        refine ev_get (v := .ref ((l0 + 1) + 1)) 10 (kd_4_0 kl0) rfl (by decide) rfl lk_128 dX5_told_103 ?_
        refine ev_iconst (v := 2) dX5_told_106 (by decide) ?_
        refine ev_iald (kd_2_10 (kd_4_0 kl0)) (by unfold vp_in; decide) dX5_told_107 ?_
        obtain ⟨rfl, rfl⟩ := Prod.mk.inj (Option.some.inj hf)
        exact ev_ireturn dX5_told_108 ⟨.int, rfl, rfl⟩
      replace hf := if_f sw5 hf
      by_cases sw6 : l1 = 6
      · replace hf := if_t sw6 hf
        refine ev_tableIn (tgt := 109) dX5_told_18 (by rw [sw6]; decide) (by rw [sw6]; decide) (by rw [sw6]; rfl) (by decide) ?_
        refine ev_aload_n (n := 0) dX5_told_109 rfl rfl ?_
        refine ev_get (v := .ref (l0 + 1)) 0 kl0 rfl (by decide) rfl lk_216 dX5_told_110 ?_
        refine ev_get (v := .ref ((l0 + 1) + 1)) 10 (kd_4_0 kl0) rfl (by decide) rfl lk_128 dX5_told_113 ?_
        refine ev_iconst (v := 3) dX5_told_116 (by decide) ?_
        refine ev_iald (kd_2_10 (kd_4_0 kl0)) (by unfold vp_in; decide) dX5_told_117 ?_
        obtain ⟨rfl, rfl⟩ := Prod.mk.inj (Option.some.inj hf)
        exact ev_ireturn dX5_told_118 ⟨.int, rfl, rfl⟩
      replace hf := if_f sw6 hf
      by_cases sw7 : l1 = 7
      · replace hf := if_t sw7 hf
        refine ev_tableIn (tgt := 119) dX5_told_18 (by rw [sw7]; decide) (by rw [sw7]; decide) (by rw [sw7]; rfl) (by decide) ?_
        refine ev_aload_n (n := 0) dX5_told_119 rfl rfl ?_
        refine ev_get (v := .ref (l0 + 169)) 3 kl0 rfl (by decide) rfl lk_219 dX5_told_120 ?_
        refine ev_get (v := .int (hI h (l0 + 169) 0)) 0 (kd_4_3 kl0) rfl (by decide) rfl lk_184 dX5_told_123 ?_
        obtain ⟨rfl, rfl⟩ := Prod.mk.inj (Option.some.inj hf)
        exact ev_ireturn dX5_told_126 ⟨.int, rfl, rfl⟩
      replace hf := if_f sw7 hf
      · refine ev_tableOut (tgt := 127) dX5_told_18 (tsw7 sw0 sw1 sw2 sw3 sw4 sw5 sw6 sw7) (by decide) ?_
        refine ev_aload_n (n := 0) dX5_told_127 rfl rfl ?_
        refine ev_get (v := .int (hI h l0 5)) 5 kl0 rfl (by decide) rfl lk_221 dX5_told_128 ?_
        obtain ⟨rfl, rfl⟩ := Prod.mk.inj (Option.some.inj hf)
        exact ev_ireturn dX5_told_131 ⟨.int, rfl, rfl⟩
    · replace hf := if_f c1 hf
      refine ev_sub [0] rfl (lv2 := [(0, .ref l0)]) ?_
      exact jn_X5_told_10 kl0 hf
