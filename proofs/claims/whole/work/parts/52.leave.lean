def mxL (h : Hp) (a : Nat) (f : Nat → Int64) : Hp := (h.1, ufn h.2.1 a f, h.2.2)
theorem mxL_id (h : Hp) (a : Nat) : mxL h a (h.2.1 a) = h := by unfold mxL; rw [ufn_id]
theorem sL_mxL (h : Hp) (a j : Nat) (f : Nat → Int64) (v : Int64) : sL (mxL h a f) a j v = mxL h a (vp_updL f j v) := by
  unfold sL mxL
  show (h.1, ufn (ufn h.2.1 a f) a (vp_updL (ufn h.2.1 a f a) j v), h.2.2) = _
  rw [ufn_same, ufn_ufn]
theorem same_mxL {h : Hp} {a b : Nat} {f : Nat → Int64} (hb : b ≠ a) : same h (mxL h a f) b := ⟨rfl, ufn_ne _ _ hb, rfl⟩
theorem preL_s (n : Nat) (v f : Nat → Int64) : vp_updL (pre n v f) n (v n) = pre (n + 1) v f := by
  funext j
  unfold vp_updL pre
  by_cases h : j = n
  · subst h; rw [if_pos rfl, if_pos (Nat.lt_succ_self j)]
  · rw [if_neg h]
    by_cases h2 : j < n
    · rw [if_pos h2, if_pos (by omega)]
    · rw [if_neg h2, if_neg (by omega)]
theorem hI_mx (h : Hp) (a : Nat) (f : Nat → Int32) (k : Nat) : hI (mxI h a f) a k = f k := by show ufn h.1 a f a k = f k; rw [ufn_same]
theorem hF_mx (h : Hp) (a : Nat) (f : Nat → UInt32) (k : Nat) : hF (mxF h a f) a k = f k := by show ufn h.2.2 a f a k = f k; rw [ufn_same]
theorem hL_mx (h : Hp) (a : Nat) (f : Nat → Int64) (k : Nat) : hL (mxL h a f) a k = f k := by show ufn h.2.1 a f a k = f k; rw [ufn_same]
def seg {α : Type} (s n : Nat) (v f : Nat → α) : Nat → α := fun j => if s ≤ j ∧ j < s + n then v (j - s) else f j
theorem seg_0 {α : Type} (s : Nat) (v f : Nat → α) : seg s 0 v f = f := by funext j; unfold seg; rw [if_neg (by omega)]
theorem seg_in {α : Type} {s n j : Nat} {v f : Nat → α} (h : j < n) : seg s n v f (s + j) = v j := by
  unfold seg; rw [if_pos ⟨Nat.le_add_right s j, by omega⟩, Nat.add_sub_cancel_left]
theorem seg_out {α : Type} {s n j : Nat} {v f : Nat → α} (h : j < s ∨ s + n ≤ j) : seg s n v f j = f j := by
  unfold seg; rw [if_neg (by omega)]
theorem seg_s (s n : Nat) (v f : Nat → Int32) : upd (seg s n v f) (s + n) (v n) = seg s (n + 1) v f := by
  funext j
  unfold upd seg
  by_cases h : j = s + n
  · subst h; rw [if_pos rfl, if_pos (by omega), Nat.add_sub_cancel_left]
  · rw [if_neg h]
    by_cases h2 : s ≤ j ∧ j < s + n
    · rw [if_pos h2, if_pos (by omega)]
    · rw [if_neg h2, if_neg (by omega)]
theorem segF_s (s n : Nat) (v f : Nat → UInt32) : vf_upd (seg s n v f) (s + n) (v n) = seg s (n + 1) v f := by
  funext j
  unfold vf_upd seg
  by_cases h : j = s + n
  · subst h; rw [if_pos rfl, if_pos (by omega), Nat.add_sub_cancel_left]
  · rw [if_neg h]
    by_cases h2 : s ≤ j ∧ j < s + n
    · rw [if_pos h2, if_pos (by omega)]
    · rw [if_neg h2, if_neg (by omega)]
theorem pre_hi {α : Type} {n j : Nat} {v f : Nat → α} (h : n ≤ j) : pre n v f j = f j := by unfold pre; rw [if_neg (by omega)]
theorem pre_lo {α : Type} {n j : Nat} {v f : Nat → α} (h : j < n) : pre n v f j = v j := by unfold pre; rw [if_pos h]
theorem sh_I {h : Hp} {m : Nat} : ∀ (r k fuel : Nat), k + r = 1280 → r < fuel → f_X6_leavesState_l10 m fuel (nI k) (mxI h (m + 4) (pre k (fun j => h.1 (m + 4) (j + 320)) (h.1 (m + 4)))) = some (mxI h (m + 4) (pre 1280 (fun j => h.1 (m + 4) (j + 320)) (h.1 (m + 4)))) := by
  intro r
  induction r with
  | zero =>
    intro k fuel hk hf
    obtain ⟨fuel, rfl⟩ : ∃ z, fuel = z + 1 := ⟨fuel - 1, by omega⟩
    have : k = 1280 := by omega
    subst this
    rw [f_X6_leavesState_l10_s, if_pos (by decide)]
  | succ r ih =>
    intro k fuel hk hf
    obtain ⟨fuel, rfl⟩ : ∃ z, fuel = z + 1 := ⟨fuel - 1, by omega⟩
    have ih1 := ih (k + 1) fuel (by omega) (by omega)
    have rd : hI (mxI h (m + 4) (pre k (fun j => h.1 (m + 4) (j + 320)) (h.1 (m + 4)))) (m + 4) (k + 320) = h.1 (m + 4) (k + 320) := by
      rw [hI_mx, pre_hi (by omega)]
    rw [f_X6_leavesState_l10_s, if_neg (show ¬ (1280 : Int32) ≤ nI k from nI_ge (b := 1280) (by omega) (by decide)), show nI k + (320 : Int32) = nI (k + 320) from nI_add k 320, if_pos (inb_nI (by omega) (by decide)), if_pos (inb_nI (by omega) (by decide)), nI_clamp (by omega), nI_clamp (by omega), rd, sI_mxI, pre_s (v := fun j => h.1 (m + 4) (j + 320)), nI_1]
    exact ih1
theorem sh_F {h : Hp} {m : Nat} : ∀ (r k fuel : Nat), k + r = 144 → r < fuel → f_X6_leavesState_l41 m fuel (nI k) (mxF h (m + 5) (pre k (fun j => h.2.2 (m + 5) (j + 36)) (h.2.2 (m + 5)))) = some (mxF h (m + 5) (pre 144 (fun j => h.2.2 (m + 5) (j + 36)) (h.2.2 (m + 5)))) := by
  intro r
  induction r with
  | zero =>
    intro k fuel hk hf
    obtain ⟨fuel, rfl⟩ : ∃ z, fuel = z + 1 := ⟨fuel - 1, by omega⟩
    have : k = 144 := by omega
    subst this
    rw [f_X6_leavesState_l41_s, if_pos (by decide)]
  | succ r ih =>
    intro k fuel hk hf
    obtain ⟨fuel, rfl⟩ : ∃ z, fuel = z + 1 := ⟨fuel - 1, by omega⟩
    have ih1 := ih (k + 1) fuel (by omega) (by omega)
    have rd : hF (mxF h (m + 5) (pre k (fun j => h.2.2 (m + 5) (j + 36)) (h.2.2 (m + 5)))) (m + 5) (k + 36) = h.2.2 (m + 5) (k + 36) := by
      rw [hF_mx, pre_hi (by omega)]
    rw [f_X6_leavesState_l41_s, if_neg (show ¬ (144 : Int32) ≤ nI k from nI_ge (b := 144) (by omega) (by decide)), show nI k + (36 : Int32) = nI (k + 36) from nI_add k 36, if_pos (inb_nI (by omega) (by decide)), if_pos (inb_nI (by omega) (by decide)), nI_clamp (by omega), nI_clamp (by omega), rd, sF_mxF, preF_s (v := fun j => h.2.2 (m + 5) (j + 36)), nI_1]
    exact ih1
theorem sh_L {h : Hp} {m : Nat} : ∀ (r k fuel : Nat), k + r = 4 → r < fuel → f_X6_leavesState_l71 m fuel (nI k) (mxL h (m + 6) (pre k (fun j => h.2.1 (m + 6) (j + 1)) (h.2.1 (m + 6)))) = some (mxL h (m + 6) (pre 4 (fun j => h.2.1 (m + 6) (j + 1)) (h.2.1 (m + 6)))) := by
  intro r
  induction r with
  | zero =>
    intro k fuel hk hf
    obtain ⟨fuel, rfl⟩ : ∃ z, fuel = z + 1 := ⟨fuel - 1, by omega⟩
    have : k = 4 := by omega
    subst this
    rw [f_X6_leavesState_l71_s, if_pos (by decide)]
  | succ r ih =>
    intro k fuel hk hf
    obtain ⟨fuel, rfl⟩ : ∃ z, fuel = z + 1 := ⟨fuel - 1, by omega⟩
    have ih1 := ih (k + 1) fuel (by omega) (by omega)
    have rd : hL (mxL h (m + 6) (pre k (fun j => h.2.1 (m + 6) (j + 1)) (h.2.1 (m + 6)))) (m + 6) (k + 1) = h.2.1 (m + 6) (k + 1) := by
      rw [hL_mx, pre_hi (by omega)]
    rw [f_X6_leavesState_l71_s, if_neg (show ¬ (4 : Int32) ≤ nI k from nI_ge (b := 4) (by omega) (by decide)), show nI k + (1 : Int32) = nI (k + 1) from nI_add k 1, if_pos (inb_nI (by omega) (by decide)), if_pos (inb_nI (by omega) (by decide)), nI_clamp (by omega), nI_clamp (by omega), rd, sL_mxL, preL_s (v := fun j => h.2.1 (m + 6) (j + 1))]
    exact ih1
theorem lv_I {h : Hp} {m : Nat} {s : Nat} (hs5 : s < 5) (hs : hI h m 4 = nI s) : ∀ (r k fuel : Nat), k + r = 320 → r < fuel → f_X6_leavesState_l108 m fuel (nI k) (mxI h (m + 4) (seg (320 * s) k (h.1 (m + 2)) (h.1 (m + 4)))) = some (mxI h (m + 4) (seg (320 * s) 320 (h.1 (m + 2)) (h.1 (m + 4)))) := by
  intro r
  induction r with
  | zero =>
    intro k fuel hk hf
    obtain ⟨fuel, rfl⟩ : ∃ z, fuel = z + 1 := ⟨fuel - 1, by omega⟩
    have : k = 320 := by omega
    subst this
    rw [f_X6_leavesState_l108_s, if_pos (by decide)]
  | succ r ih =>
    intro k fuel hk hf
    obtain ⟨fuel, rfl⟩ : ∃ z, fuel = z + 1 := ⟨fuel - 1, by omega⟩
    have ih1 := ih (k + 1) fuel (by omega) (by omega)
    have st : hI (mxI h (m + 4) (seg (320 * s) k (h.1 (m + 2)) (h.1 (m + 4)))) m 4 = nI s := by rw [hI_eq (same_mxI (by omega)).1]; exact hs
    have rd : hI (mxI h (m + 4) (seg (320 * s) k (h.1 (m + 2)) (h.1 (m + 4)))) (m + 2) k = h.1 (m + 2) k := by
      exact hI_eq (same_mxI (by omega)).1 k
    rw [f_X6_leavesState_l108_s, if_neg (show ¬ (320 : Int32) ≤ nI k from nI_ge (b := 320) (by omega) (by decide)), if_pos (inb_nI (by omega) (by decide)), st, show (320 : Int32) * nI s + nI k = nI (320 * s + k) by rw [show (320 : Int32) = nI 320 from rfl, nI_mulE, nI_add], if_pos (inb_nI (by omega) (by decide)), nI_clamp (by omega), nI_clamp (by omega), rd, sI_mxI, seg_s, nI_1]
    exact ih1
theorem lv_F {h : Hp} {m : Nat} {s : Nat} (hs5 : s < 5) (hs : hI h m 4 = nI s) : ∀ (r k fuel : Nat), k + r = 36 → r < fuel → f_X6_leavesState_l144 m fuel (nI k) (mxF h (m + 5) (seg (36 * s) k (h.2.2 (m + 3)) (h.2.2 (m + 5)))) = some (mxF h (m + 5) (seg (36 * s) 36 (h.2.2 (m + 3)) (h.2.2 (m + 5)))) := by
  intro r
  induction r with
  | zero =>
    intro k fuel hk hf
    obtain ⟨fuel, rfl⟩ : ∃ z, fuel = z + 1 := ⟨fuel - 1, by omega⟩
    have : k = 36 := by omega
    subst this
    rw [f_X6_leavesState_l144_s, if_pos (by decide)]
  | succ r ih =>
    intro k fuel hk hf
    obtain ⟨fuel, rfl⟩ : ∃ z, fuel = z + 1 := ⟨fuel - 1, by omega⟩
    have ih1 := ih (k + 1) fuel (by omega) (by omega)
    have st : hI (mxF h (m + 5) (seg (36 * s) k (h.2.2 (m + 3)) (h.2.2 (m + 5)))) m 4 = nI s := by exact hs
    have rd : hF (mxF h (m + 5) (seg (36 * s) k (h.2.2 (m + 3)) (h.2.2 (m + 5)))) (m + 3) k = h.2.2 (m + 3) k := by
      exact hF_eq (same_mxF (by omega)).2.2 k
    rw [f_X6_leavesState_l144_s, if_neg (show ¬ (36 : Int32) ≤ nI k from nI_ge (b := 36) (by omega) (by decide)), if_pos (inb_nI (by omega) (by decide)), st, show (36 : Int32) * nI s + nI k = nI (36 * s + k) by rw [show (36 : Int32) = nI 36 from rfl, nI_mulE, nI_add], if_pos (inb_nI (by omega) (by decide)), nI_clamp (by omega), nI_clamp (by omega), rd, sF_mxF, segF_s, nI_1]
    exact ih1
/-- the reference's state goes into slot s -/
theorem x6_leave_j {h : Hp} {m s : Nat} (hs5 : s < 5) (hs : hI h m 4 = nI s) : ∃ h2, f_X6_leavesState_j106 h m = some h2 ∧ (∀ b, b ≠ m → b ≠ m + 4 → b ≠ m + 5 → b ≠ m + 6 → same h h2 b) ∧ hI h2 m 4 = nI (s + 1) ∧ (∀ k, k ≠ 4 → hI h2 m k = hI h m k) ∧ h2.2.1 m = h.2.1 m ∧ h2.2.2 m = h.2.2 m ∧ eqv (rv h m) (kv h2 m s) ∧ (∀ t, t < s → eqv (kv h m t) (kv h2 m t)) := by
  unfold f_X6_leavesState_j106
  have e1 := lv_I (h := h) (m := m) hs5 hs 320 0 fu (by omega) (by decide)
  rw [seg_0, mxI_id] at e1
  rw [show (0 : Int32) = nI 0 from rfl, e1, bn1_some]
  generalize hA : mxI h (m + 4) (seg (320 * s) 320 (h.1 (m + 2)) (h.1 (m + 4))) = h1
  have rA : ∀ b, b ≠ m + 4 → same h h1 b := fun b hb => by rw [← hA]; exact same_mxI hb
  have hs1 : hI h1 m 4 = nI s := by rw [hI_eq (rA m (by omega)).1]; exact hs
  have e2 := lv_F (h := h1) (m := m) hs5 hs1 36 0 fu (by omega) (by decide)
  rw [seg_0, mxF_id] at e2
  rw [e2, bn1_some]
  generalize hB : mxF h1 (m + 5) (seg (36 * s) 36 (h1.2.2 (m + 3)) (h1.2.2 (m + 5))) = h2
  have rB : ∀ b, b ≠ m + 5 → same h1 h2 b := fun b hb => by rw [← hB]; exact same_mxF hb
  have hs2 : hI h2 m 4 = nI s := by rw [hI_eq (rB m (by omega)).1]; exact hs1
  rw [hs2, if_pos (inb_nI hs5 (by decide)), nI_clamp (by omega), hI_sL, hs2, nI_1]
  generalize hD : sI (sL h2 (m + 6) s (hL h2 m 3)) m 4 (nI (s + 1)) = h9
  have rm : ∀ b, b ≠ m → b ≠ m + 6 → same h2 h9 b := fun b g1 g2 => by rw [← hD]; exact same_tr (same_sL g2) (same_sI g1)
  have i4 : ∀ j, hI h9 (m + 4) j = seg (320 * s) 320 (h.1 (m + 2)) (h.1 (m + 4)) j := by
    intro j
    rw [hI_eq (rm _ (by omega) (by omega)).1, hI_eq (rB _ (by omega)).1, ← hA, hI_mx]
  have i5 : ∀ j, hF h9 (m + 5) j = seg (36 * s) 36 (h.2.2 (m + 3)) (h.2.2 (m + 5)) j := by
    intro j
    rw [hF_eq (rm _ (by omega) (by omega)).2.2, ← hB, hF_mx, (rA (m + 3) (by omega)).2.2, (rA (m + 5) (by omega)).2.2]
  have l6 : ∀ j, hL h9 (m + 6) j = if j = s then hL h m 3 else hL h (m + 6) j := by
    intro j
    rw [← hD]
    show ufn h2.2.1 (m + 6) (vp_updL (h2.2.1 (m + 6)) s (hL h2 m 3)) (m + 6) j = _
    rw [ufn_same]
    unfold vp_updL
    rw [(rB (m + 6) (by omega)).2.1, (rA (m + 6) (by omega)).2.1, hL_eq (rB m (by omega)).2.1, hL_eq (rA m (by omega)).2.1]
    rfl
  refine ⟨h9, rfl, fun b g1 g2 g3 g4 => same_tr (same_tr (rA b g2) (rB b g3)) (rm b g1 g4), by rw [← hD, hI_sI], fun k hk => ?_, ?_, ?_, ⟨fun c hc => ?_, fun c hc => ?_, ?_⟩, fun t ht => ⟨fun c hc => ?_, fun c hc => ?_, ?_⟩⟩
  · rw [← hD, hI_sIj _ _ _ hk, hI_sL, hI_eq (rB m (by omega)).1, hI_eq (rA m (by omega)).1]
  · rw [← hD]
    show (sL h2 (m + 6) s (hL h2 m 3)).2.1 m = _
    rw [(same_sL (by omega)).2.1, (rB m (by omega)).2.1, (rA m (by omega)).2.1]
  · rw [← hD]
    show h2.2.2 m = _
    rw [(rB m (by omega)).2.2, (rA m (by omega)).2.2]
  · show hI h9 (m + 4) (320 * s + c) = _
    rw [i4, seg_in hc]; rfl
  · show hF h9 (m + 5) (36 * s + c) = _
    rw [i5, seg_in hc]; rfl
  · show hL h9 (m + 6) s = _
    rw [l6, if_pos rfl]; rfl
  · show hI h9 (m + 4) (320 * t + c) = hI h (m + 4) (320 * t + c)
    rw [i4, seg_out (by omega)]; rfl
  · show hF h9 (m + 5) (36 * t + c) = hF h (m + 5) (36 * t + c)
    rw [i5, seg_out (by omega)]; rfl
  · show hL h9 (m + 6) t = hL h (m + 6) t
    rw [l6, if_neg (by omega)]
theorem eqv_tr {A B C : MS} (x : eqv A B) (y : eqv B C) : eqv A C := ⟨fun c hc => (y.1 c hc).trans (x.1 c hc), fun c hc => (y.2.1 c hc).trans (x.2.1 c hc), y.2.2.trans x.2.2⟩
/-- the reference leaves a state -/
theorem x6_leave {h : Hp} {m K : Nat} (hK : K ≤ 5) (hs : hI h m 4 = nI K) : ∃ h2, f_X6_leavesState h m = some h2 ∧ (∀ b, b ≠ m → b ≠ m + 4 → b ≠ m + 5 → b ≠ m + 6 → same h h2 b) ∧ hI h2 m 4 = nI (if K < 5 then K + 1 else 5) ∧ (∀ k, k ≠ 4 → hI h2 m k = hI h m k) ∧ h2.2.1 m = h.2.1 m ∧ h2.2.2 m = h.2.2 m ∧ eqv (rv h m) (kv h2 m ((if K < 5 then K + 1 else 5) - 1)) ∧ (∀ t, t + 1 < (if K < 5 then K + 1 else 5) → eqv (kv h m (if K < 5 then t else t + 1)) (kv h2 m t)) := by
  unfold f_X6_leavesState
  by_cases hK5 : K < 5
  · rw [hs, if_neg (show ¬ nI K = (5 : Int32) from fun q => absurd ((nI_eq (by omega) (by decide)).mp (show nI K = nI 5 from q)) (by omega))]
    obtain ⟨h2, c1, c2, c3, c4, c5, c6, c7, c8⟩ := x6_leave_j hK5 hs
    simp only [if_pos hK5]
    exact ⟨h2, c1, c2, c3, c4, c5, c6, c7, fun t ht => c8 t (by omega)⟩
  · have : K = 5 := by omega
    subst this
    rw [hs, if_pos (show nI 5 = (5 : Int32) from rfl)]
    have e1 := sh_I (h := h) (m := m) 1280 0 fu (by omega) (by decide)
    rw [pre_0, mxI_id] at e1
    rw [show (0 : Int32) = nI 0 from rfl, e1, bn1_some]
    generalize hA : mxI h (m + 4) (pre 1280 (fun j => h.1 (m + 4) (j + 320)) (h.1 (m + 4))) = h1
    have rA : ∀ b, b ≠ m + 4 → same h h1 b := fun b hb => by rw [← hA]; exact same_mxI hb
    have e2 := sh_F (h := h1) (m := m) 144 0 fu (by omega) (by decide)
    rw [pre_0, mxF_id] at e2
    rw [e2, bn1_some]
    generalize hB : mxF h1 (m + 5) (pre 144 (fun j => h1.2.2 (m + 5) (j + 36)) (h1.2.2 (m + 5))) = h2
    have rB : ∀ b, b ≠ m + 5 → same h1 h2 b := fun b hb => by rw [← hB]; exact same_mxF hb
    have e3 := sh_L (h := h2) (m := m) 4 0 fu (by omega) (by decide)
    rw [pre_0, mxL_id] at e3
    rw [e3, bn1_some]
    generalize hC : mxL h2 (m + 6) (pre 4 (fun j => h2.2.1 (m + 6) (j + 1)) (h2.2.1 (m + 6))) = h3
    have rC : ∀ b, b ≠ m + 6 → same h2 h3 b := fun b hb => by rw [← hC]; exact same_mxL hb
    have hs3 : hI h3 m 4 = nI 5 := by rw [hI_eq (rC m (by omega)).1, hI_eq (rB m (by omega)).1, hI_eq (rA m (by omega)).1]; exact hs
    rw [hs3, show nI 5 - (1 : Int32) = nI 4 from rfl]
    have r4 : ∀ b, b ≠ m → same h3 (sI h3 m 4 (nI 4)) b := fun b hb => same_sI hb
    obtain ⟨h5, c1, c2, c3, c4, c5, c6, c7, c8⟩ := x6_leave_j (h := sI h3 m 4 (nI 4)) (m := m) (s := 4) (by decide) (hI_sI _ _ _ _)
    simp only [if_neg hK5]
    have rr : ∀ b, b ≠ m → b ≠ m + 4 → b ≠ m + 5 → b ≠ m + 6 → same h (sI h3 m 4 (nI 4)) b := fun b g1 g2 g3 g4 => same_tr (same_tr (same_tr (rA b g2) (rB b g3)) (rC b g4)) (r4 b g1)
    have l0 : (sI h3 m 4 (nI 4)).2.1 m = h.2.1 m := by show h3.2.1 m = _; rw [(rC m (by omega)).2.1, (rB m (by omega)).2.1, (rA m (by omega)).2.1]
    have f0 : (sI h3 m 4 (nI 4)).2.2 m = h.2.2 m := by show h3.2.2 m = _; rw [(rC m (by omega)).2.2, (rB m (by omega)).2.2, (rA m (by omega)).2.2]
    refine ⟨h5, c1, fun b g1 g2 g3 g4 => same_tr (rr b g1 g2 g3 g4) (c2 b g1 g2 g3 g4), c3, fun k hk => ?_, c5.trans l0, c6.trans f0, eqv_tr (eqv_of ?_) c7, fun t ht => eqv_tr ⟨fun c hc => ?_, fun c hc => ?_, ?_⟩ (c8 t (by omega))⟩
    · rw [c4 k hk, hI_sIj _ _ _ hk, hI_eq (rC m (by omega)).1, hI_eq (rB m (by omega)).1, hI_eq (rA m (by omega)).1]
    · unfold rv
      rw [hL_eq l0, show hI (sI h3 m 4 (nI 4)) (m + 2) = hI h (m + 2) from funext fun j => hI_eq (rr _ (by omega) (by omega) (by omega) (by omega)).1 j, show hF (sI h3 m 4 (nI 4)) (m + 3) = hF h (m + 3) from funext fun j => hF_eq (rr _ (by omega) (by omega) (by omega) (by omega)).2.2 j]
    · show hI (sI h3 m 4 (nI 4)) (m + 4) (320 * t + c) = hI h (m + 4) (320 * (t + 1) + c)
      rw [hI_eq (r4 _ (by omega)).1, hI_eq (rC _ (by omega)).1, hI_eq (rB _ (by omega)).1, ← hA, hI_mx, pre_lo (by omega), show 320 * t + c + 320 = 320 * (t + 1) + c by omega]; rfl
    · show hF h3 (m + 5) (36 * t + c) = hF h (m + 5) (36 * (t + 1) + c)
      rw [hF_eq (rC _ (by omega)).2.2, ← hB, hF_mx, pre_lo (by omega), show 36 * t + c + 36 = 36 * (t + 1) + c by omega, (rA (m + 5) (by omega)).2.2]; rfl
    · show hL h3 (m + 6) t = hL h (m + 6) (t + 1)
      rw [← hC, hL_mx, pre_lo (by omega), (rB (m + 6) (by omega)).2.1, (rA (m + 6) (by omega)).2.1]; rfl
