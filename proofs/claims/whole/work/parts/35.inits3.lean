def fsP (b : Nat) : List Value := [.ref (b + 1), .ref (b + 28), .null, .null, .int 0, .int 0, .int 0, .int 0, .int 0]
def sf (b i : Nat) : Nat → Option Nat := fun j => if j < i then some (b + 29 + 27 * j) else none
theorem sf_s (b i : Nat) : va_up (sf b i) i (some (b + 29 + 27 * i)) = sf b (i + 1) := by
  funext j
  unfold va_up sf
  by_cases h : j = i
  · subst h; rw [if_pos rfl, if_pos (Nat.lt_succ_self j)]
  · rw [if_neg h]
    by_cases h2 : j < i
    · rw [if_pos h2, if_pos (by omega)]
    · rw [if_neg h2, if_neg (by omega)]
theorem kd_now : ∀ r, r < 27 → kdl (1 + r) = kdS r := by decide
theorem kd_states : ∀ i, i < 5 → ∀ r, r < 27 → kdl (29 + 27 * i + r) = kdS r := by decide
set_option maxRecDepth 100000 in
set_option maxHeartbeats 4000000 in
theorem n_PS_loop {g : Gl} {cy : Nat → ClassId} {b : Nat} {E2 : Nat → va_E}
    (exit : ∀ E : Nat → va_E, E 0 = .inr (4, fsP b) → E 28 = .inl (cy 5, 5, .inr (.inr (.inr (.inr (sf b 5))))) → (∀ k, 1 ≤ k → k < 28 → E k = cel cy (h0 b) b (b + k)) → (∀ k, 29 ≤ k → k < 164 → E k = cel cy (h0 b) b (b + k)) → EvN yX5_init cX5_init 2 3 53 g cy b 49 [] [(0, .ref b)] E 163 2153 E2 173 2492) :
    ∀ (r i : Nat), i + r = 5 → ∀ E : Nat → va_E, E 0 = .inr (4, fsP b) → E 28 = .inl (cy 5, 5, .inr (.inr (.inr (.inr (sf b i))))) → (∀ k, 1 ≤ k → k < 28 → E k = cel cy (h0 b) b (b + k)) → (∀ k, 29 ≤ k → k < 29 + 27 * i → E k = cel cy (h0 b) b (b + k)) → EvN yX5_init cX5_init 2 3 53 g cy b 25 [] [(1, .int (nI i)), (0, .ref b)] E (28 + 27 * i) (363 + 358 * i) E2 173 2492 := by
  intro r
  induction r with
  | zero =>
    intro i hi E a0 a1 a2 a3
    have : i = 5 := by omega
    subst this
    refine nv_iload_n (z := 0) dX5_init_25 rfl rfl ?_
    refine nv_iconst (v := 5) dX5_init_26 (by decide) ?_
    refine nv_icmp_ge (tgt := 49) dX5_init_27 (by decide) (fun c1 => ?_) (fun c1 => ?_)
    · refine nv_sub [1] rfl (lv2 := [(0, .ref b)]) ?_
      exact exit E a0 a1 a2 a3
    · exact absurd (by decide) c1
  | succ r ih =>
    intro i hi E a0 a1 a2 a3
    have hlt : i < 5 := by omega
    refine nv_iload_n (z := 0) dX5_init_25 rfl rfl ?_
    refine nv_iconst (v := 5) dX5_init_26 (by decide) ?_
    refine nv_icmp_ge (tgt := 49) dX5_init_27 (by decide) (fun c1 => ?_) (fun c1 => ?_)
    · exact absurd c1 (show ¬ (5 : Int32) ≤ nI i from nI_ge (b := 5) hlt (by decide))
    · refine nv_aload_n (z := 1) dX5_init_30 rfl rfl ?_
      refine nv_get 1 (ci := 4) (v := b + 28) rfl a0 (by decide) rfl lk_217 dX5_init_31 ?_
      refine nv_iload_n (z := 0) dX5_init_34 rfl rfl ?_
      refine nv_new (ci := 2) (fs := bSwarm) (C0 := RX3) (T := TX3) (N := 12) rfl tyX3 tyX3_ok bl_Swarm lk_20 lk_21 lk_2 (by omega) (by omega) dX5_init_35 ?_
      refine nv_dup dX5_init_38 rfl ?_
      have np := n_Swarm (g := g) (cy := cy) (o := b) (k0 := 29 + 27 * i) (b := b + (28 + 27 * i + 1)) (E := fun k => ufn E (28 + 27 * i + 1) (.inr (2, bSwarm)) (28 + 27 * i + 1 + k)) (by omega) (by omega) (kd_states i hlt) (ufn_same _ _ _)
      refine nv_callI (b1 := b + (28 + 27 * i + 1)) rfl lk_24 lk_2 lk_23 (by decide +kernel) rfl (by decide +kernel) (by decide) np rfl lk_22 (by decide) (by decide) (by omega) (by omega) (Nat.le_of_ble_eq_true rfl) dX5_init_39 ?_
      generalize hE1 : apE (28 + 27 * i + 1) (ufn E (28 + 27 * i + 1) (.inr (2, bSwarm))) (fun k => cel cy (h0 b) b (b + (29 + 27 * i) + k)) = E1
      have lo : ∀ k, k < 28 + 27 * i + 1 → E1 k = E k := fun k hk => by rw [← hE1, apE_lt hk, ufn_ne _ _ (by omega)]
      have hi2 : ∀ k, 29 + 27 * i ≤ k → E1 k = cel cy (h0 b) b (b + k) := fun k hk => by
        rw [← hE1, apE_ge (by omega)]
        show cel cy (h0 b) b (b + (29 + 27 * i) + (k - (28 + 27 * i + 1))) = _
        rw [show b + (29 + 27 * i) + (k - (28 + 27 * i + 1)) = b + k by omega]
      have hsw : E1 (29 + 27 * i) = .inr (2, fl 2 (b + (29 + 27 * i)) swF swL) := by
        rw [hi2 _ (Nat.le_refl _), show b + (29 + 27 * i) = b + (29 + 27 * i) + 0 from rfl, cel0_at (k := 0) (kd_states i hlt 0 (by decide))]; rfl
      refine nv_aastS (z := 28) (u := 29 + 27 * i) (N := 5) (f := sf b i) (by omega) rfl (by rw [lo 28 (by omega), a1]) (by omega) (by omega) hsw (nI_in hlt (by decide)) dX5_init_42 ?_
      rw [nI_clamp (by omega), show b + (28 + 27 * i + 1) = b + 29 + 27 * i by omega, sf_s]
      refine nv_iinc (z := 0) (v := nI (i + 1)) (lv2 := [(1, .int (nI (i + 1))), (0, .ref b)]) dX5_init_43 rfl (nI_1 i) (by decide) rfl ?_
      refine nv_goto (tgt := 25) dX5_init_46 (by decide) ?_
      rw [show 28 + 27 * i + 1 + 26 = 28 + 27 * (i + 1) by omega, show 363 + 358 * i + 12 + 346 = 363 + 358 * (i + 1) by omega]
      refine ih (i + 1) (by omega) _ ?_ (ufn_same _ _ _) (fun k h3 hk => ?_) (fun k h3 hk => ?_)
      · rw [ufn_ne _ _ (by decide), lo 0 (by omega), a0]
      · rw [ufn_ne _ _ (by omega), lo k (by omega), a2 k h3 hk]
      · rw [ufn_ne _ _ (by omega)]
        by_cases hq : k < 29 + 27 * i
        · rw [lo k (by omega), a3 k h3 hq]
        · exact hi2 k (by omega)
set_option maxRecDepth 100000 in
set_option maxHeartbeats 4000000 in
theorem n_PS {g : Gl} {cy : Nat → ClassId} {b : Nat} {E : Nat → va_E} (hE : E 0 = .inr (4, bPS)) : EvN yX5_init cX5_init 2 3 53 g cy b 0 [] [(0, .ref b)] E 0 0 (fun k => cel cy (h0 b) b (b + k)) 173 2492 := by
  refine nv_aload_n (z := 0) dX5_init_0 rfl rfl ?_
  refine nv_objInit lk_17 (by decide) (by decide) dX5_init_1 ?_
  refine nv_aload_n (z := 0) dX5_init_4 rfl rfl ?_
  refine nv_new (ci := 2) (fs := bSwarm) (C0 := RX3) (T := TX3) (N := 12) rfl tyX3 tyX3_ok bl_Swarm lk_20 lk_21 lk_2 (by decide) (by decide) dX5_init_5 ?_
  refine nv_dup dX5_init_8 rfl ?_
  have np := n_Swarm (g := g) (cy := cy) (o := b) (k0 := 1) (b := b + 1) (E := fun k => ufn E 1 (.inr (2, bSwarm)) (1 + k)) rfl (by decide) kd_now (ufn_same _ _ _)
  refine nv_callI (b1 := b + 1) rfl lk_24 lk_2 lk_23 (by decide +kernel) rfl (by decide +kernel) (by decide) np rfl lk_22 (by decide) (by decide) (by decide) (by decide) (Nat.le_of_ble_eq_true rfl) dX5_init_9 ?_
  show EvN yX5_init cX5_init 2 3 53 g cy b 12 _ _ (apE 1 (ufn E 1 (.inr (2, bSwarm))) (fun k => cel cy (h0 b) b (b + 1 + k))) 27 358 _ 173 2492
  generalize hE1 : apE 1 (ufn E 1 (.inr (2, bSwarm))) (fun k => cel cy (h0 b) b (b + 1 + k)) = E1
  have l0 : E1 0 = .inr (4, bPS) := by rw [← hE1, apE_lt (by decide), ufn_ne _ _ (by decide), hE]
  have l1 : ∀ k, 1 ≤ k → E1 k = cel cy (h0 b) b (b + k) := fun k hk => by
    rw [← hE1, apE_ge hk]
    show cel cy (h0 b) b (b + 1 + (k - 1)) = _
    rw [show b + 1 + (k - 1) = b + k by omega]
  refine nv_putR 0 (ty := .object "PieceSwarm$Swarm") (ci := 4) (fs := bPS) rfl l0 (by decide) rfl rfl (by decide +kernel) rfl rfl (Nat.le_of_ble_eq_true rfl) lk_216 dX5_init_12 ?_
  refine nv_aload_n (z := 0) dX5_init_15 rfl rfl ?_
  refine nv_iconst (v := 5) dX5_init_16 (by decide) ?_
  refine nv_anewS (N := 5) lk_20 (by decide) (by decide) (by decide) (by decide) (by decide) dX5_init_17 ?_
  refine nv_putR 1 (ty := .array (.object "PieceSwarm$Swarm")) (ci := 4) (fs := [.ref (b + 1), .null, .null, .null, .int 0, .int 0, .int 0, .int 0, .int 0]) rfl (by rw [ufn_ne _ _ (by decide), ufn_same]; rfl) (by decide) rfl rfl (by decide +kernel) rfl rfl (Nat.le_of_ble_eq_true rfl) lk_217 dX5_init_20 ?_
  refine nv_iconst (v := 0) dX5_init_23 (by decide) ?_
  refine nv_istore_n (lv2 := [(1, .int (nI 0)), (0, .ref b)]) dX5_init_24 rfl (by decide) rfl ?_
  refine n_PS_loop (fun E a0 a1 a2 a3 => ?_) 5 0 rfl _ ?_ ?_ (fun k h1 h2 => ?_) (fun k h1 h2 => absurd h2 (by omega))
  · refine nv_refs 28 (f1 := fun j => some (b + 28 + 1 + 27 * j)) (by decide) a1 (fun j hj => by unfold sf; rw [if_pos hj]) ?_
    refine nv_aload_n (z := 0) dX5_init_49 rfl rfl ?_
    refine nv_new (ci := 1) (fs := bRound) (C0 := RX2) (T := TX2) (N := 4) rfl tyX2 tyX2_ok bl_Round lk_158 lk_159 lk_4 (by decide) (by decide) dX5_init_50 ?_
    refine nv_dup dX5_init_53 rfl ?_
    generalize hEa : ufn (ufn E 28 (.inl (cy 5, 5, .inr (.inr (.inr (.inr (fun j => some (b + 28 + 1 + 27 * j)))))))) (163 + 1) (.inr (1, bRound)) = Ea
    have n1 := n_Round (g := g) (cy := cy) (o := b) (k0 := 164) (b := b + 164) (E := fun k => Ea (164 + k)) rfl (by decide) (by decide) (by decide) (by decide) (by decide) (by rw [← hEa]; exact ufn_same _ _ _)
    refine nv_callI (b1 := b + 164) rfl lk_162 lk_4 lk_161 (by decide +kernel) rfl (by decide +kernel) (by decide) n1 rfl lk_160 (by decide) (by decide) (by decide) (by decide) (Nat.le_of_ble_eq_true rfl) dX5_init_54 ?_
    show EvN yX5_init cX5_init 2 3 53 g cy b 57 _ _ (apE 164 Ea (fun k => cel cy (h0 b) b (b + 164 + k))) 168 2243 _ 173 2492
    refine nv_putR 2 (ty := .object "PieceSwarm$Round") (ci := 4) (fs := fsP b) rfl (by rw [apE_lt (by decide), ← hEa, ufn_ne _ _ (by decide), ufn_ne _ _ (by decide), a0]) (by decide) rfl rfl (by decide +kernel) rfl rfl (Nat.le_of_ble_eq_true rfl) lk_218 dX5_init_57 ?_
    refine nv_aload_n (z := 0) dX5_init_60 rfl rfl ?_
    refine nv_new (ci := 3) (fs := bText) (C0 := RX4) (T := TX4) (N := 9) rfl tyX4 tyX4_ok bl_Text lk_177 lk_178 lk_5 (by decide) (by decide) dX5_init_61 ?_
    refine nv_dup dX5_init_64 rfl ?_
    generalize hEb : ufn (ufn (apE 164 Ea (fun k => cel cy (h0 b) b (b + 164 + k))) 0 (.inr (4, (fsP b).set 2 (.ref (b + 164))))) (168 + 1) (.inr (3, bText)) = Eb
    have n2 := n_Text (g := g) (cy := cy) (o := b) (k0 := 169) (b := b + 169) (E := fun k => Eb (169 + k)) rfl (by decide) (by decide) (by decide) (by decide) (by decide) (by rw [← hEb]; exact ufn_same _ _ _)
    refine nv_callI (b1 := b + 169) rfl lk_181 lk_5 lk_180 (by decide +kernel) rfl (by decide +kernel) (by decide) n2 rfl lk_179 (by decide) (by decide) (by decide) (by decide) (Nat.le_of_ble_eq_true rfl) dX5_init_65 ?_
    show EvN yX5_init cX5_init 2 3 53 g cy b 68 _ _ (apE 169 Eb (fun k => cel cy (h0 b) b (b + 169 + k))) 173 2492 _ 173 2492
    refine nv_putR 3 (ty := .object "PieceSwarm$Text") (ci := 4) (fs := (fsP b).set 2 (.ref (b + 164))) rfl (by rw [apE_lt (by decide), ← hEb, ufn_ne _ _ (by decide), ufn_same]) (by decide) rfl rfl (by decide +kernel) rfl rfl (Nat.le_of_ble_eq_true rfl) lk_219 dX5_init_68 ?_
    refine nv_return dX5_init_71 (fun k hk => ?_)
    rcases (show k = 0 ∨ (1 ≤ k ∧ k < 28) ∨ k = 28 ∨ (29 ≤ k ∧ k < 164) ∨ (164 ≤ k ∧ k < 169) ∨ (169 ≤ k ∧ k < 174) by omega) with rfl | h | rfl | h | h | h
    · rw [ufn_same, show cel cy (h0 b) b (b + 0) = cel cy (h0 b) b (b + 0 + 0) from rfl, cel0_at (k0 := 0) (k := 0) (kn := (4, 0)) (by decide)]; rfl
    · rw [ufn_ne _ _ (by omega), apE_lt (by omega), ← hEb, ufn_ne _ _ (by omega), ufn_ne _ _ (by omega), apE_lt (by omega), ← hEa, ufn_ne _ _ (by omega), ufn_ne _ _ (by omega), a2 k h.1 h.2]
    · rw [ufn_ne _ _ (by omega), apE_lt (by omega), ← hEb, ufn_ne _ _ (by omega), ufn_ne _ _ (by omega), apE_lt (by omega), ← hEa, ufn_ne _ _ (by omega), ufn_same, show cel cy (h0 b) b (b + 28) = cel cy (h0 b) b (b + 28 + 0) from rfl, cel0_at (k0 := 28) (k := 0) (kn := (11, 5)) (by decide)]; rfl
    · rw [ufn_ne _ _ (by omega), apE_lt (by omega), ← hEb, ufn_ne _ _ (by omega), ufn_ne _ _ (by omega), apE_lt (by omega), ← hEa, ufn_ne _ _ (by omega), ufn_ne _ _ (by omega), a3 k h.1 h.2]
    · rw [ufn_ne _ _ (by omega), apE_lt (by omega), ← hEb, ufn_ne _ _ (by omega), ufn_ne _ _ (by omega), apE_ge (by omega)]
      show cel cy (h0 b) b (b + 164 + (k - 164)) = _
      rw [show b + 164 + (k - 164) = b + k by omega]
    · rw [ufn_ne _ _ (by omega), apE_ge (by omega)]
      show cel cy (h0 b) b (b + 169 + (k - 169)) = _
      rw [show b + 169 + (k - 169) = b + k by omega]
  · rw [ufn_same]; rfl
  · rw [ufn_ne _ _ (by decide), ufn_same]; rfl
  · rw [ufn_ne _ _ (by omega), ufn_ne _ _ (by omega), ufn_ne _ _ (by omega), l1 k h1]
