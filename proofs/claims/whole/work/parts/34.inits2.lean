theorem bl_Peer : ∀ j, j < 12 → defaultValue (tyX1 j) = vp_V bPeer j := by decide +kernel
theorem bl_Round : ∀ j, j < 4 → defaultValue (tyX2 j) = vp_V bRound j := by decide +kernel
theorem bl_Swarm : ∀ j, j < 12 → defaultValue (tyX3 j) = vp_V bSwarm j := by decide +kernel
theorem bl_Text : ∀ j, j < 9 → defaultValue (tyX4 j) = vp_V bText j := by decide +kernel
theorem bl_PS : ∀ j, j < 9 → defaultValue (tyX5 j) = vp_V bPS j := by decide +kernel
theorem bl_Model : ∀ j, j < 16 → defaultValue (tyX6 j) = vp_V bModel j := by decide +kernel
theorem refs_eq {cA : ClassId} {N : Nat} {f f1 : Nat → Option Nat} (h : ∀ j, j < N → f j = f1 j) : vp_cell cA (N, .inr (.inr (.inr (.inr f)))) = vp_cell cA (N, .inr (.inr (.inr (.inr f1)))) := by
  rw [vp_cell_q, vp_cell_q]
  unfold arrV
  have : (Array.ofFn (n := N) fun j => va_rf (f j.val)) = (Array.ofFn (n := N) fun j => va_rf (f1 j.val)) := by
    congr 1
    funext j
    rw [h j.val j.isLt]
  rw [this]
theorem nv_refs {y : MethodName} {cc : ByteArray} {maxL fr lc : Nat} {g : Gl} {cy : Nat → ClassId} {b pc : Nat} {st : List Value} {lv : List (Nat × Value)} {E E2 : Nat → va_E} {c0 s0 mc ms : Nat} (z : Nat) {cA : ClassId} {N : Nat} {f f1 : Nat → Option Nat} (hz : z < c0 + 1) (he : E z = .inl (cA, N, .inr (.inr (.inr (.inr f))))) (hf : ∀ j, j < N → f j = f1 j) (k : EvN y cc maxL fr lc g cy b pc st lv (ufn E z (.inl (cA, N, .inr (.inr (.inr (.inr f1)))))) c0 s0 E2 mc ms) : EvN y cc maxL fr lc g cy b pc st lv E c0 s0 E2 mc ms := by
  intro p l e R s m args below meth c D A Q C hin hr H locs ls hP hS hl
  refine k p l e R s m args below meth c D A Q C hin hr H locs ls (fun i q hq => ?_) hS hl
  obtain ⟨hlt, rfl⟩ := wsN_lt hq
  by_cases hi : i = z
  · subst hi
    rw [ufn_same]
    have := hP i _ (wsN_at hlt)
    rw [he] at this
    show H[b + i]? = some (vp_cell cA (N, .inr (.inr (.inr (.inr f1)))))
    rw [← refs_eq hf]
    exact this
  · rw [ufn_ne _ _ hi]
    exact hP i _ (wsN_at hlt)
def fsS (b : Nat) : List Value := [.int 0, .int 0, .int 0, .int 0, .int 0, .int 0, .int 0, .int 0, .int 0, .long 0, .ref (b + 1), .ref (b + 2)]
def pf (b i : Nat) : Nat → Option Nat := fun j => if j < i then some (b + 3 + 4 * j) else none
theorem pf_s (b i : Nat) : va_up (pf b i) i (some (b + 3 + 4 * i)) = pf b (i + 1) := by
  funext j
  unfold va_up pf
  by_cases h : j = i
  · subst h; rw [if_pos rfl, if_pos (Nat.lt_succ_self j)]
  · rw [if_neg h]
    by_cases h2 : j < i
    · rw [if_pos h2, if_pos (by omega)]
    · rw [if_neg h2, if_neg (by omega)]
theorem kdS_peer : ∀ i, i < 6 → kdS (3 + 4 * i) = (0, 0) ∧ kdS (3 + 4 * i + 1) = (6, 32) ∧ kdS (3 + 4 * i + 2) = (6, 6) ∧ kdS (3 + 4 * i + 3) = (7, 6) := by decide
theorem kdS_zero : ∀ r, r < 27 → 2 ≤ r → h0I (kdS r) 0 = h0I (kdS r) 0 ∧ (kdS r).1 ≠ 2 ∧ (kdS r).1 ≠ 5 ∧ ((kdS r).1 = 6 → (kdS r).2 ≠ 4 ∧ (kdS r).2 ≠ 320) := by decide
theorem h0I_z {kn : Nat × Nat} (h : kn.1 ≠ 2) (h2 : kn.1 = 6 → kn.2 ≠ 4 ∧ kn.2 ≠ 320) : h0I kn = fun _ => 0 := by
  unfold h0I
  rw [if_neg h, if_neg (fun q => (h2 q.1).1 q.2), if_neg (fun q => (h2 q.1).2 q.2)]
theorem h0L_z {kn : Nat × Nat} (h : kn.1 ≠ 2) (h2 : kn.1 ≠ 5) : h0L kn = fun _ => 0 := by
  unfold h0L
  rw [if_neg h, if_neg h2]
theorem cel0_z {cy : Nat → ClassId} {o k0 r : Nat} (hK : kdl (k0 + r) = kdS r) (hr : r < 27) (h2 : 2 ≤ r) : cel cy (h0 o) o (o + k0 + r) = cel cy hz0 o (o + k0 + r) := by
  obtain ⟨-, a, b, c⟩ := kdS_zero r hr h2
  rw [cel0_at hK, cel_at hK, h0I_z a c, h0L_z a b]; rfl
set_option maxRecDepth 100000 in
set_option maxHeartbeats 4000000 in
theorem n_Swarm_loop {g : Gl} {cy : Nat → ClassId} {o k0 b : Nat} {E2 : Nat → va_E} (hb : b = o + k0) (hK : ∀ r, r < 27 → kdl (k0 + r) = kdS r)
    (exit : ∀ E : Nat → va_E, E 0 = .inr (2, fsS b) → E 1 = .inl (cy 0, 4, .inl (fun _ => 0)) → E 2 = .inl (cy 4, 6, .inr (.inr (.inr (.inr (pf b 6))))) → (∀ k, 3 ≤ k → k < 27 → E k = cel cy (h0 o) o (o + k0 + k)) → EvN yX3_init cX3_init 2 2 32 g cy b 50 [] [(0, .ref b)] E 26 346 E2 26 346) :
    ∀ (r i : Nat), i + r = 6 → ∀ E : Nat → va_E, E 0 = .inr (2, fsS b) → E 1 = .inl (cy 0, 4, .inl (fun _ => 0)) → E 2 = .inl (cy 4, 6, .inr (.inr (.inr (.inr (pf b i))))) → (∀ k, 3 ≤ k → k < 3 + 4 * i → E k = cel cy (h0 o) o (o + k0 + k)) → EvN yX3_init cX3_init 2 2 32 g cy b 25 [] [(1, .int (nI i)), (0, .ref b)] E (2 + 4 * i) (10 + 56 * i) E2 26 346 := by
  intro r
  induction r with
  | zero =>
    intro i hi E a0 a1 a2 a3
    have : i = 6 := by omega
    subst this
    refine nv_iload_n (z := 0) dX3_init_25 rfl rfl ?_
    refine nv_bipush (v := 6) dX3_init_26 (by decide) ?_
    refine nv_icmp_ge (tgt := 50) dX3_init_28 (by decide) (fun c1 => ?_) (fun c1 => ?_)
    · refine nv_sub [1] rfl (lv2 := [(0, .ref b)]) ?_
      exact exit E a0 a1 a2 a3
    · exact absurd (by decide) c1
  | succ r ih =>
    intro i hi E a0 a1 a2 a3
    have hlt : i < 6 := by omega
    refine nv_iload_n (z := 0) dX3_init_25 rfl rfl ?_
    refine nv_bipush (v := 6) dX3_init_26 (by decide) ?_
    refine nv_icmp_ge (tgt := 50) dX3_init_28 (by decide) (fun c1 => ?_) (fun c1 => ?_)
    · exact absurd c1 (show ¬ (6 : Int32) ≤ nI i from nI_ge (b := 6) hlt (by decide))
    · refine nv_aload_n (z := 1) dX3_init_31 rfl rfl ?_
      refine nv_get 11 (ci := 2) (v := b + 2) rfl a0 (by decide) rfl lk_129 dX3_init_32 ?_
      refine nv_iload_n (z := 0) dX3_init_35 rfl rfl ?_
      refine nv_new (ci := 0) (fs := bPeer) (C0 := RX1) (T := TX1) (N := 12) rfl tyX1 tyX1_ok bl_Peer lk_28 lk_30 lk_3 (by omega) (by omega) dX3_init_36 ?_
      refine nv_dup dX3_init_39 rfl ?_
      have hk := kdS_peer i hlt
      have np := n_Peer (g := g) (cy := cy) (o := o) (k0 := k0 + 3 + 4 * i) (b := b + (2 + 4 * i + 1)) (E := fun k => ufn E (2 + 4 * i + 1) (.inr (0, bPeer)) (2 + 4 * i + 1 + k)) (by omega) (by rw [show k0 + 3 + 4 * i + 0 = k0 + (3 + 4 * i) by omega, hK _ (by omega), hk.1]) (by rw [show k0 + 3 + 4 * i + 1 = k0 + (3 + 4 * i + 1) by omega, hK _ (by omega), hk.2.1]) (by rw [show k0 + 3 + 4 * i + 2 = k0 + (3 + 4 * i + 2) by omega, hK _ (by omega), hk.2.2.1]) (by rw [show k0 + 3 + 4 * i + 3 = k0 + (3 + 4 * i + 3) by omega, hK _ (by omega), hk.2.2.2]) (ufn_same _ _ _)
      refine nv_callI (b1 := b + (2 + 4 * i + 1)) rfl lk_33 lk_3 lk_32 (by decide +kernel) rfl (by decide +kernel) (by decide) np rfl lk_31 (by decide) (by decide) (by omega) (by omega) (Nat.le_of_ble_eq_true rfl) dX3_init_40 ?_
      generalize hE1 : apE (2 + 4 * i + 1) (ufn E (2 + 4 * i + 1) (.inr (0, bPeer))) (fun k => cel cy (h0 o) o (o + (k0 + 3 + 4 * i) + k)) = E1
      have lo : ∀ k, k < 2 + 4 * i + 1 → E1 k = E k := fun k hk => by rw [← hE1, apE_lt hk, ufn_ne _ _ (by omega)]
      have hi2 : ∀ k, 3 + 4 * i ≤ k → E1 k = cel cy (h0 o) o (o + k0 + k) := fun k hk => by
        rw [← hE1, apE_ge (by omega)]
        show cel cy (h0 o) o (o + (k0 + 3 + 4 * i) + (k - (2 + 4 * i + 1))) = _
        rw [show o + (k0 + 3 + 4 * i) + (k - (2 + 4 * i + 1)) = o + k0 + k by omega]
      refine nv_aastP (z := 2) (u := 3 + 4 * i) (N := 6) (f := pf b i) (vs := fl 0 (o + k0 + (3 + 4 * i)) (fun _ => 0) (fun _ => 0)) (by omega) rfl (by rw [lo 2 (by omega), a2]) (by omega) (by omega) (by rw [hi2 _ (Nat.le_refl _), cel0_at (hK _ (by omega)), hk.1]; rfl) (nI_in hlt (by decide)) dX3_init_43 ?_
      rw [nI_clamp (by omega), show b + (2 + 4 * i + 1) = b + 3 + 4 * i by omega, pf_s]
      refine nv_iinc (z := 0) (v := nI (i + 1)) (lv2 := [(1, .int (nI (i + 1))), (0, .ref b)]) dX3_init_44 rfl (nI_1 i) (by decide) rfl ?_
      refine nv_goto (tgt := 25) dX3_init_47 (by decide) ?_
      rw [show 2 + 4 * i + 1 + 3 = 2 + 4 * (i + 1) by omega, show 10 + 56 * i + 12 + 44 = 10 + 56 * (i + 1) by omega]
      refine ih (i + 1) (by omega) _ ?_ ?_ (ufn_same _ _ _) (fun k h3 hk => ?_)
      · rw [ufn_ne _ _ (by decide), lo 0 (by omega), a0]
      · rw [ufn_ne _ _ (by decide), lo 1 (by omega), a1]
      · rw [ufn_ne _ _ (by omega)]
        by_cases hq : k < 3 + 4 * i
        · rw [lo k (by omega), a3 k h3 hq]
        · exact hi2 k (by omega)
set_option maxRecDepth 100000 in
set_option maxHeartbeats 4000000 in
theorem n_Swarm {g : Gl} {cy : Nat → ClassId} {o k0 b : Nat} {E : Nat → va_E} (hb : b = o + k0) (h186 : k0 + 27 ≤ 186) (hK : ∀ r, r < 27 → kdl (k0 + r) = kdS r) (hE : E 0 = .inr (2, bSwarm)) : EvN yX3_init cX3_init 2 2 32 g cy b 0 [] [(0, .ref b)] E 0 0 (fun k => cel cy (h0 o) o (o + k0 + k)) 26 346 := by
  refine nv_aload_n (z := 0) dX3_init_0 rfl rfl ?_
  refine nv_objInit lk_25 (by decide) (by decide) dX3_init_1 ?_
  refine nv_aload_n (z := 0) dX3_init_4 rfl rfl ?_
  refine nv_gets 0 (by decide) rfl rfl dX3_init_5 ?_
  refine nv_tablen 0 (v := 4) (by decide) rfl dX3_init_8 ?_
  refine nv_newI (N := 4) (by decide) (by decide) (by decide) (by decide) (by decide) dX3_init_9 ?_
  refine nv_putR 10 (ty := .array .int) (ci := 2) (fs := bSwarm) rfl (by rw [ufn_ne _ _ (by decide), hE]) (by decide) rfl rfl (by decide +kernel) rfl rfl (Nat.le_of_ble_eq_true rfl) lk_126 dX3_init_11 ?_
  refine nv_aload_n (z := 0) dX3_init_14 rfl rfl ?_
  refine nv_bipush (v := 6) dX3_init_15 (by decide) ?_
  refine nv_anewP (N := 6) lk_28 (by decide) (by decide) (by decide) (by decide) (by decide) dX3_init_17 ?_
  refine nv_putR 11 (ty := .array (.object "PieceSwarm$Peer")) (ci := 2) (fs := [.int 0, .int 0, .int 0, .int 0, .int 0, .int 0, .int 0, .int 0, .int 0, .long 0, .ref (b + 1), .null]) rfl (by rw [ufn_ne _ _ (by decide), ufn_same]; rfl) (by decide) rfl rfl (by decide +kernel) rfl rfl (Nat.le_of_ble_eq_true rfl) lk_129 dX3_init_20 ?_
  refine nv_iconst (v := 0) dX3_init_23 (by decide) ?_
  refine nv_istore_n (lv2 := [(1, .int (nI 0)), (0, .ref b)]) dX3_init_24 rfl (by decide) rfl ?_
  refine n_Swarm_loop hb hK (fun E a0 a1 a2 a3 => ?_) 6 0 rfl _ ?_ ?_ ?_ (fun k h1 h2 => absurd h2 (by omega))
  · refine nv_refs 2 (f1 := fun j => some (b + 2 + 1 + 4 * j)) (by decide) a2 (fun j hj => by unfold pf; rw [if_pos hj]) ?_
    obtain ⟨H1, e1, e2, e3, e4, e5, e6, e7⟩ := startAnew0 b
    have kd : KD ((o, k0, k0 + 27) : Ob) b 2 0 := ⟨by subst hb; exact Nat.le_refl _, by subst hb; show o + k0 + 26 < o + (k0 + 27); omega, h186, by subst hb; show kdl (o + k0 - o) = (2, 0); rw [Nat.add_sub_cancel_left]; exact hK 0 (by decide)⟩
    refine nv_aload_n (z := 0) dX3_init_50 rfl rfl ?_
    refine nv_iconst (v := 4) dX3_init_51 (by decide) ?_
    refine nv_iconst (v := 2) dX3_init_52 (by decide) ?_
    refine nv_callV (g1 := ((o, k0, k0 + 27), g.2)) (As := [.int 4, .int 2]) cal_X3_startAnew kd rfl (ev_X3_startAnew kd e1) rfl hb rfl (fun k hk => ?_) (Nat.le_of_ble_eq_true rfl) rfl lk_99 (by decide) (by decide) (by decide) (by decide) (by decide) dX3_init_53 rfl ?_
    · subst hb
      show ufn E 2 _ k = cel cy hz0 o (o + k0 + k)
      rcases (show k = 0 ∨ k = 1 ∨ k = 2 ∨ 3 ≤ k by omega) with rfl | rfl | rfl | h3
      · rw [ufn_ne _ _ (by decide), a0, cel_at (k := 0) (hK 0 (by decide))]; rfl
      · rw [ufn_ne _ _ (by decide), a1, cel_at (k := 1) (hK 1 (by decide))]; rfl
      · rw [ufn_same, cel_at (k := 2) (hK 2 (by decide))]; rfl
      · rw [ufn_ne _ _ (by omega), a3 k h3 (by omega), cel0_z (hK k (by omega)) (by omega) (by omega)]
    · subst hb
      refine nv_return dX3_init_56 (fun k hk => ?_)
      show cel cy H1 o (o + k0 + k) = _
      rcases (show k = 0 ∨ k = 1 ∨ 2 ≤ k by omega) with rfl | rfl | h3
      · rw [cel_at (k := 0) (hK 0 (by decide)), cel0_at (k := 0) (hK 0 (by decide)), show o + k0 + 0 = o + k0 from rfl, e2, e5, e7]; rfl
      · rw [cel_at (k := 1) (hK 1 (by decide)), cel0_at (k := 1) (hK 1 (by decide)), e3, e6 _ (by omega), e7]; rfl
      · rw [cel0_z (hK k (by omega)) (by omega) h3, cel_at (hK k (by omega)), cel_at (hK k (by omega)), e4 _ (by omega) (by omega), e6 _ (by omega), e7]; rfl
  · rw [ufn_same]; rfl
  · rw [ufn_ne _ _ (by decide), ufn_ne _ _ (by decide), ufn_ne _ _ (by decide), ufn_same]
  · rw [ufn_ne _ _ (by decide), ufn_same]
    rfl
