/-! THE LAW: the invariant holds behind the two constructors, and every pair of calls keeps it -/
theorem h0_1 (o k : Nat) : (h0 o).1 (o + k) = h0I (kdl k) := by
  show h0I (kdl (o + k - o)) = _
  rw [Nat.add_sub_cancel_left]
theorem h0_2 (o k : Nat) : (h0 o).2.1 (o + k) = h0L (kdl k) := by
  show h0L (kdl (o + k - o)) = _
  rw [Nat.add_sub_cancel_left]
theorem rv_h0 (o : Nat) : rv (h0 o) (o + 174) = (nwF, fun _ => 0, 1) := by
  have e1 : hI (h0 o) (o + 174 + 2) = nwF := h0_1 o 176
  have e2 : hL (h0 o) (o + 174) 3 = 1 := congrFun (h0_2 o 174) 3
  unfold rv
  rw [e1, e2]
  rfl
theorem inv0 (o : Nat) : Inv o 0 (h0 o) := by
  have s : ∀ j, hI (h0 o) (o + 1) j = swF j := fun j => congrFun (h0_1 o 1) j
  have z : ∀ j, hI (h0 o) (o + 1 + 1) j = seF j := fun j => congrFun (h0_1 o 2) j
  have d : hL (h0 o) (o + 1) 9 = 1 := congrFun (h0_2 o 1) 9
  have w : ∀ j, hI (h0 o) o j = 0 := fun j => congrFun (h0_1 o 0) j
  have m : ∀ j, hI (h0 o) (o + 174) j = 0 := fun j => congrFun (h0_1 o 174) j
  have r : ∀ j, hI (h0 o) (o + 175) j = 0 := fun j => congrFun (h0_1 o 175) j
  have x : ∀ j, hI (h0 o) (o + 169) j = 0 := fun j => congrFun (h0_1 o 169) j
  refine ⟨?_, ⟨0, 0, by decide, by decide, w 5, m 4, w 4, fun t ht => absurd ht (Nat.not_lt_zero _)⟩, ⟨0, by decide, x 0, m 12, fun j hj => absurd hj (Nat.not_lt_zero _)⟩, ⟨(w 6).trans (r 0).symm, (w 7).trans (r 1).symm, (w 8).trans (r 2).symm⟩⟩
  show Sim (h0 o) (o + 1) (rv (h0 o) (o + 174)) (1200 * 0)
  rw [rv_h0]
  refine ⟨0, 4, 2, ⟨⟨s 0, s 1, s 2, s 3, s 4, s 5, s 6, s 7, s 8⟩, d, fun j hj => ?_, fun i hi => absurd hi (Nat.not_lt_zero _)⟩, ⟨rfl, by decide⟩, ⟨rfl, by decide, by decide⟩, ⟨rfl, by decide, by decide⟩, ⟨0, rfl, by decide⟩, ⟨2, rfl, by decide, by decide⟩, ⟨5, rfl, by decide⟩, ⟨2, rfl, by decide⟩, ⟨3, rfl, by decide, by decide⟩, rfl, fun i hi => absurd hi (Nat.not_lt_zero _), fun i j _ _ _ => rfl, fun c _ => Nat.zero_le _⟩
  rw [z j]
  rcases (show j = 0 ∨ j = 1 ∨ j = 2 ∨ j = 3 by omega) with rfl | rfl | rfl | rfl <;> rfl
theorem law_math : ∀ (o L : Nat) (xs : Nat → Int32), L ≤ 2048 → ∃ h2, f_L_law L xs (h0 o) o (o + 174) 0 = some (1, h2) := fun o L xs hL =>
  law_of_ops ⟨op_begins o, op_peer o, op_gives o, op_sets o, op_rounds o, op_finishes o, op_of o, op_block o, op_rate o, op_suspects o, op_copies o, op_rarest o, op_ratio o, op_spread o, op_fairness o, op_count o, op_type o, op_clear o, op_does o, op_back o, op_told o, op_digest o, fun c h _ H => Inv_same H⟩ (inv0 o) L xs hL
