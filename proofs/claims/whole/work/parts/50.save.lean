/-! STATES are left and taken back -/
def eqv (M M2 : MS) : Prop := (∀ c, c < 320 → M2.1 c = M.1 c) ∧ (∀ c, c < 36 → M2.2.1 c = M.2.1 c) ∧ M2.2.2 = M.2.2
theorem eqv_pc {M M2 : MS} (E : eqv M M2) {i c : Nat} (hi : i < 6) (hc : c < 48) : pc M2 i c = pc M i c := E.1 _ (by omega)
theorem eqv_sum {f g : Nat → Int32} : ∀ {n : Nat}, (∀ i, i < n → g i = f i) → sumN g n = sumN f n
  | 0, _ => rfl
  | n + 1, h => by show sumN g n + g n = sumN f n + f n; rw [eqv_sum (fun i hi => h i (by omega)), h n (by omega)]
theorem SwR_eqv {h : Hp} {q n : Nat} {M M2 : MS} (hn : n ≤ 6) (E : eqv M M2) (H : SwR h q M n) : SwR h q M2 n := by
  obtain ⟨⟨a0, a1, a2, a3, a4, a5, a6, a7, a8⟩, a9, b1, b2⟩ := H
  have e := E.1
  refine ⟨⟨by rw [e 1 (by decide)]; exact a0, by rw [e 2 (by decide)]; exact a1, by rw [e 1 (by decide)]; exact a2, by rw [e 2 (by decide)]; exact a3, by rw [e 0 (by decide)]; exact a4, by rw [e 3 (by decide)]; exact a5, by rw [e 5 (by decide)]; exact a6, by rw [e 6 (by decide)]; exact a7, by rw [e 7 (by decide)]; exact a8⟩, by rw [E.2.2]; exact a9, fun j hj => by rw [e (8 + j) (by omega)]; exact b1 j hj, fun i hi => ?_⟩
  obtain ⟨⟨c0, c1, c2, c3, c4, c5, c6, c7⟩, d1, d2, d3⟩ := b2 i hi
  have p : ∀ c, c < 48 → pc M2 i c = pc M i c := fun c hc => eqv_pc E (by omega) hc
  refine ⟨⟨by rw [p 0 (by decide)]; exact c0, by rw [p 1 (by decide)]; exact c1, by rw [p 2 (by decide)]; exact c2, by rw [p 3 (by decide)]; exact c3, by rw [p 4 (by decide)]; exact c4, by rw [p 5 (by decide)]; exact c5, by rw [p 6 (by decide)]; exact c6, by rw [p 7 (by decide)]; exact c7⟩, fun j hj => by rw [p (8 + j) (by omega)]; exact d1 j hj, fun k hk => by rw [p (15 + k) (by omega)]; exact d2 k hk, fun j hj hne => by rw [E.2.1 (6 * i + j) (by omega)]; exact d3 j hj hne⟩
theorem WFn_eqv {M M2 : MS} {n p b t : Nat} (E : eqv M M2) (H : WFn M n p b t) : WFn M2 n p b t := by
  obtain ⟨w0, w1, w2, w3, ws, wf, we, wd, wt, wP, wR, wr⟩ := H
  have e := E.1
  refine ⟨by rw [e 0 (by decide)]; exact w0, by rw [e 1 (by decide)]; exact w1, by rw [e 2 (by decide)]; exact w2, by rw [e 3 (by decide)]; exact w3, by rw [e 8 (by decide)]; exact ws, by rw [e 9 (by decide)]; exact wf, by rw [e 10 (by decide)]; exact we, by rw [e 11 (by decide)]; exact wd, ?_, fun i hi => ?_, fun i j hi hj hh => by rw [E.2.1 _ (by omega)]; exact wR i j hi hj hh, fun c hc => by rw [E.2.1 c hc]; exact wr c hc⟩
  · rw [e 4 (by decide), wt]
    exact (eqv_sum (fun i hi => eqv_pc E (by omega) (by decide))).symm
  · obtain ⟨a1, a2, a3, a4, a5, a6, a7, a8, a9⟩ := wP i hi
    have p : ∀ c, c < 48 → pc M2 i c = pc M i c := fun c hc => eqv_pc E (by omega) hc
    refine ⟨by rw [p 0 (by decide), p 3 (by decide)]; exact a1, by rw [p 1 (by decide)]; exact a2, by rw [p 2 (by decide)]; exact a3, by rw [p 3 (by decide)]; exact a4, by rw [p 4 (by decide)]; exact a5, by rw [p 5 (by decide)]; exact a6, by rw [p 6 (by decide)]; exact a7, by rw [p 7 (by decide)]; exact a8, fun k hk => by rw [p (15 + k) (by omega)]; exact a9 k hk⟩
theorem Sim_eqv {h : Hp} {q t : Nat} {M M2 : MS} (E : eqv M M2) (H : Sim h q M t) : Sim h q M2 t := by
  obtain ⟨n, p, b, S, Wf⟩ := H
  exact ⟨n, p, b, SwR_eqv Wf.1.2 E S, WFn_eqv E Wf⟩
theorem eqv_rfl (M : MS) : eqv M M := ⟨fun _ _ => rfl, fun _ _ => rfl, rfl⟩
theorem eqv_of {M M2 : MS} (h : M2 = M) : eqv M M2 := by subst h; exact eqv_rfl _
/-- rows that are the same -/
def same (h h2 : Hp) (a : Nat) : Prop := h2.1 a = h.1 a ∧ h2.2.1 a = h.2.1 a ∧ h2.2.2 a = h.2.2 a
theorem same_rfl (h : Hp) (a : Nat) : same h h a := ⟨rfl, rfl, rfl⟩
theorem same_tr {h h1 h2 : Hp} {a : Nat} (x : same h h1 a) (y : same h1 h2 a) : same h h2 a := ⟨y.1.trans x.1, y.2.1.trans x.2.1, y.2.2.trans x.2.2⟩
theorem same_sI {h : Hp} {a b j : Nat} {v : Int32} (hb : b ≠ a) : same h (sI h a j v) b := sI_ne h a j v b hb
theorem same_sL {h : Hp} {a b j : Nat} {v : Int64} (hb : b ≠ a) : same h (sL h a j v) b := sL_ne h a j v b hb
theorem same_sF {h : Hp} {a b j : Nat} {v : UInt32} (hb : b ≠ a) : same h (sF h a j v) b := sF_ne h a j v b hb
theorem same_cpI {h : Hp} {a0 a b n : Nat} (hb : b ≠ a) : same h (cpI h a0 a n) b := cpI_ne h a0 a n b hb
theorem same_cpF {h : Hp} {a0 a b n : Nat} (hb : b ≠ a) : same h (cpF h a0 a n) b := cpF_ne h a0 a n b hb
theorem same_mxI {h : Hp} {a b : Nat} {f : Nat → Int32} (hb : b ≠ a) : same h (mxI h a f) b := ⟨ufn_ne _ _ hb, rfl, rfl⟩
theorem same_mxF {h : Hp} {a b : Nat} {f : Nat → UInt32} (hb : b ≠ a) : same h (mxF h a f) b := ⟨rfl, rfl, ufn_ne _ _ hb⟩
theorem hI_cpI {h : Hp} {a0 a n k : Nat} (hk : k < n) : hI (cpI h a0 a n) a k = hI h a0 k := by
  unfold hI cpI
  show ufn h.1 a (va_cpy (h.1 a0) (h.1 a) 0 0 n) a k = _
  rw [ufn_same]
  unfold va_cpy
  rw [if_pos ⟨Nat.zero_le k, by omega⟩]
  show h.1 a0 (0 + (k - 0)) = _
  rw [Nat.zero_add, Nat.sub_zero]
theorem hF_cpF {h : Hp} {a0 a n k : Nat} (hk : k < n) : hF (cpF h a0 a n) a k = hF h a0 k := by
  unfold hF cpF
  show ufn h.2.2 a (va_cpy (h.2.2 a0) (h.2.2 a) 0 0 n) a k = _
  rw [ufn_same]
  unfold va_cpy
  rw [if_pos ⟨Nat.zero_le k, by omega⟩]
  show h.2.2 a0 (0 + (k - 0)) = _
  rw [Nat.zero_add, Nat.sub_zero]
theorem hI_sL (h : Hp) (a j : Nat) (v : Int64) (b k : Nat) : hI (sL h a j v) b k = hI h b k := rfl
theorem x1_copy_eq {h : Hp} {a1 a2 : Nat} (hne : a2 ≠ a1) : f_X1_copyFrom h a1 a2 = some (cpF (cpI (cpI (sI (sI (sI (sI (sI (sI (sI (sI (sI h a1 0 (hI h a2 0)) a1 1 (hI h a2 1)) a1 2 (hI h a2 2)) a1 3 (hI h a2 3)) a1 4 (hI h a2 4)) a1 5 (hI h a2 5)) a1 6 (hI h a2 6)) a1 7 (hI h a2 7)) a1 8 (hI h a2 8)) (a2 + 1) (a1 + 1) 32) (a2 + 2) (a1 + 2) 6) (a2 + 3) (a1 + 3) 6) := by
  unfold f_X1_copyFrom
  simp (disch := omega) only [hI_s1]
theorem x1_copy {h : Hp} {a1 a2 : Nat} (hne : a2 + 3 < a1 ∨ a1 + 3 < a2) : ∃ h2, f_X1_copyFrom h a1 a2 = some h2 ∧ (∀ b, b < a1 ∨ a1 + 3 < b → same h h2 b) ∧ (∀ k, k < 9 → hI h2 a1 k = hI h a2 k) ∧ (∀ k, k < 32 → hI h2 (a1 + 1) k = hI h (a2 + 1) k) ∧ (∀ k, k < 6 → hI h2 (a1 + 2) k = hI h (a2 + 2) k) ∧ (∀ k, k < 6 → hF h2 (a1 + 3) k = hF h (a2 + 3) k) := by
  refine ⟨_, x1_copy_eq (by omega), ?_, ?_, ?_, ?_, ?_⟩
  · intro b hb
    refine same_tr ?_ (same_cpF (by omega))
    refine same_tr ?_ (same_cpI (by omega))
    refine same_tr ?_ (same_cpI (by omega))
    repeat (first | exact same_rfl _ _ | refine same_tr ?_ (same_sI (by omega)))
  · intro k hk
    rw [hI_eq (h := cpI _ _ _ _) (same_cpF (by omega)).1, hI_eq (same_cpI (by omega)).1, hI_eq (same_cpI (by omega)).1]
    rcases (show k = 0 ∨ k = 1 ∨ k = 2 ∨ k = 3 ∨ k = 4 ∨ k = 5 ∨ k = 6 ∨ k = 7 ∨ k = 8 by omega) with rfl | rfl | rfl | rfl | rfl | rfl | rfl | rfl | rfl <;> simp (disch := omega) only [hI_s1, hI_s2, hI_s3]
  · intro k hk
    rw [hI_eq (h := cpI _ _ _ _) (same_cpF (by omega)).1, hI_eq (same_cpI (by omega)).1, hI_cpI hk]
    simp (disch := omega) only [hI_s1]
  · intro k hk
    rw [hI_eq (h := cpI _ _ _ _) (same_cpF (by omega)).1, hI_cpI hk, hI_eq (same_cpI (by omega)).1]
    simp (disch := omega) only [hI_s1]
  · intro k hk
    rw [hF_cpF hk]
    rfl
