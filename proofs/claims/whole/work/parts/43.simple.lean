theorem hI_sI (h : Hp) (a j : Nat) (v : Int32) : hI (sI h a j v) a j = v := by
  unfold hI sI; show ufn h.1 a (upd (h.1 a) j v) a j = v; rw [ufn_same]; unfold upd; rw [if_pos rfl]
theorem hI_sIj (h : Hp) (a : Nat) {j k : Nat} (v : Int32) (hk : k ≠ j) : hI (sI h a j v) a k = hI h a k := by
  unfold hI sI; show ufn h.1 a (upd (h.1 a) j v) a k = _; rw [ufn_same]; unfold upd; rw [if_neg hk]
theorem sI1 (h : Hp) {a b : Nat} (j : Nat) (v : Int32) (hb : b ≠ a) : (sI h a j v).1 b = h.1 b := ufn_ne _ _ hb
theorem hI_sIb (h : Hp) {a b : Nat} (j k : Nat) (v : Int32) (hb : b ≠ a) : hI (sI h a j v) b k = hI h b k := hI_eq (sI1 h j v hb) k
theorem hI_sIr (h : Hp) (a j : Nat) (v : Int32) : hI (sI h a j v) a = upd (hI h a) j v := by
  funext k; unfold hI sI; show ufn h.1 a (upd (h.1 a) j v) a k = _; rw [ufn_same]
theorem hI_s1 (h : Hp) (a b j k : Nat) (v : Int32) (hb : b ≠ a) : hI (sI h a j v) b k = hI h b k := hI_sIb h j k v hb
theorem hI_s2 (h : Hp) (a b j k : Nat) (v : Int32) (hb : b = a) (hk : k = j) : hI (sI h a j v) b k = v := by subst hb; subst hk; exact hI_sI _ _ _ _
theorem hI_s3 (h : Hp) (a b j k : Nat) (v : Int32) (hb : b = a) (hk : k ≠ j) : hI (sI h a j v) b k = hI h b k := by subst hb; exact hI_sIj _ _ _ hk
theorem Ia_congr {o c c2 : Nat} {h h2 : Hp} (hc : c ≤ c2) (e1 : ∀ a, o + 1 ≤ a → a < o + 28 → h2.1 a = h.1 a) (e2 : h2.2.1 (o + 1) = h.2.1 (o + 1)) (e3 : ∀ a, o + 1 ≤ a → a < o + 28 → h2.2.2 a = h.2.2 a) (e4 : h2.1 (o + 176) = h.1 (o + 176)) (e5 : h2.2.2 (o + 177) = h.2.2 (o + 177)) (e6 : hL h2 (o + 174) 3 = hL h (o + 174) 3) (H : Ia o c h) : Ia o c2 h2 := by
  refine Sim_congr (by omega) ?_ (fun a h1 h3 => e1 a h1 (by omega)) e2 (fun a h1 h3 => e3 a h1 (by omega)) H
  unfold rv
  rw [e6]
  show (hI h2 (o + 176), hF h2 (o + 177), _) = (hI h (o + 176), hF h (o + 177), _)
  unfold hI hF
  rw [e4, e5]
theorem Ib_congr {o c c2 : Nat} {h h2 : Hp} (hc : c ≤ c2) (e1 : ∀ a, o + 29 ≤ a → a < o + 164 → h2.1 a = h.1 a) (e2 : ∀ a, o + 29 ≤ a → a < o + 164 → h2.2.1 a = h.2.1 a) (e3 : ∀ a, o + 29 ≤ a → a < o + 164 → h2.2.2 a = h.2.2 a) (k5 : hI h2 o 5 = hI h o 5) (k4 : hI h2 o 4 = hI h o 4) (m4 : hI h2 (o + 174) 4 = hI h (o + 174) 4) (e4 : h2.1 (o + 178) = h.1 (o + 178)) (e5 : h2.2.2 (o + 179) = h.2.2 (o + 179)) (e6 : h2.2.1 (o + 180) = h.2.1 (o + 180)) (H : Ib o c h) : Ib o c2 h2 := by
  obtain ⟨K, e, h1, h3, h4, h5, h6, h7⟩ := H
  refine ⟨K, e, h1, h3, k5.trans h4, m4.trans h5, k4.trans h6, fun t ht => ?_⟩
  have hr : (e + 5 - t) % 5 < 5 := Nat.mod_lt _ (by decide)
  refine Sim_congr (by omega) ?_ (fun a g1 g2 => e1 a (by omega) (by omega)) (e2 _ (by omega) (by omega)) (fun a g1 g2 => e3 a (by omega) (by omega)) (h7 t ht)
  unfold kv
  show ((fun c => hI h2 (o + 178) _), (fun c => hF h2 (o + 179) _), hL h2 (o + 180) _) = ((fun c => hI h (o + 178) _), (fun c => hF h (o + 179) _), hL h (o + 180) _)
  unfold hI hF hL
  rw [e4, e5, e6]
theorem Ic_congr {o : Nat} {h h2 : Hp} (e1 : hI h2 (o + 169) 0 = hI h (o + 169) 0) (e2 : hI h2 (o + 174) 12 = hI h (o + 174) 12) (e3 : h2.1 (o + 170) = h.1 (o + 170)) (e4 : h2.1 (o + 184) = h.1 (o + 184)) (H : Ic o h) : Ic o h2 := by
  obtain ⟨len, h1, h3, h4, h5⟩ := H
  exact ⟨len, h1, e1.trans h3, e2.trans h4, fun j hj => by rw [hI_eq e3, hI_eq e4]; exact h5 j hj⟩
/-- a step that leaves all as it is -/
theorem Inv_same {o c : Nat} {h : Hp} (H : Inv o c h) : Inv o (c + 1) h :=
  ⟨Ia_congr (by omega) (fun _ _ _ => rfl) rfl (fun _ _ _ => rfl) rfl rfl rfl H.1, Ib_congr (by omega) (fun _ _ _ => rfl) (fun _ _ _ => rfl) (fun _ _ _ => rfl) rfl rfl rfl rfl rfl rfl H.2.1, H.2.2.1, H.2.2.2⟩
/-- both refuse for like reasons -/
theorem Inv_ref {o c k : Nat} {h : Hp} (hk : k < 3) (H : Inv o c h) : Inv o (c + 1) (sI (sI h o (6 + k) (hI h o (6 + k) + 1)) (o + 175) k (hI (sI h o (6 + k) (hI h o (6 + k) + 1)) (o + 175) k + 1)) := by
  have r : ∀ a, a ≠ o → a ≠ o + 175 → (sI (sI h o (6 + k) (hI h o (6 + k) + 1)) (o + 175) k (hI (sI h o (6 + k) (hI h o (6 + k) + 1)) (o + 175) k + 1)).1 a = h.1 a := fun a h1 h2 => (sI1 _ _ _ h2).trans (sI1 _ _ _ h1)
  refine ⟨Ia_congr (by omega) (fun a h1 h2 => r a (by omega) (by omega)) rfl (fun _ _ _ => rfl) (r _ (by omega) (by omega)) rfl rfl H.1, Ib_congr (by omega) (fun a h1 h2 => r a (by omega) (by omega)) (fun _ _ _ => rfl) (fun _ _ _ => rfl) ?_ ?_ (hI_eq (r _ (by omega) (by omega)) 4) (r _ (by omega) (by omega)) rfl rfl H.2.1, Ic_congr (hI_eq (r _ (by omega) (by omega)) 0) (hI_eq (r _ (by omega) (by omega)) 12) (r _ (by omega) (by omega)) (r _ (by omega) (by omega)) H.2.2.1, ?_⟩
  · rw [hI_sIb _ _ _ _ (by omega), hI_sIj _ _ _ (by omega)]
  · rw [hI_sIb _ _ _ _ (by omega), hI_sIj _ _ _ (by omega)]
  · obtain ⟨d0, d1, d2⟩ := H.2.2.2
    rcases (show k = 0 ∨ k = 1 ∨ k = 2 by omega) with rfl | rfl | rfl
    · refine ⟨?_, ?_, ?_⟩
      · rw [hI_sIb _ _ _ _ (by omega), hI_sI, hI_sI, hI_sIb _ _ _ _ (by omega), d0]
      · rw [hI_sIb _ _ _ _ (by omega), hI_sIj _ _ _ (by omega), hI_sIj _ _ _ (by omega), hI_sIb _ _ _ _ (by omega), d1]
      · rw [hI_sIb _ _ _ _ (by omega), hI_sIj _ _ _ (by omega), hI_sIj _ _ _ (by omega), hI_sIb _ _ _ _ (by omega), d2]
    · refine ⟨?_, ?_, ?_⟩
      · rw [hI_sIb _ _ _ _ (by omega), hI_sIj _ _ _ (by omega), hI_sIj _ _ _ (by omega), hI_sIb _ _ _ _ (by omega), d0]
      · rw [hI_sIb _ _ _ _ (by omega), hI_sI, hI_sI, hI_sIb _ _ _ _ (by omega), d1]
      · rw [hI_sIb _ _ _ _ (by omega), hI_sIj _ _ _ (by omega), hI_sIj _ _ _ (by omega), hI_sIb _ _ _ _ (by omega), d2]
    · refine ⟨?_, ?_, ?_⟩
      · rw [hI_sIb _ _ _ _ (by omega), hI_sIj _ _ _ (by omega), hI_sIj _ _ _ (by omega), hI_sIb _ _ _ _ (by omega), d0]
      · rw [hI_sIb _ _ _ _ (by omega), hI_sIj _ _ _ (by omega), hI_sIj _ _ _ (by omega), hI_sIb _ _ _ _ (by omega), d1]
      · rw [hI_sIb _ _ _ _ (by omega), hI_sI, hI_sI, hI_sIb _ _ _ _ (by omega), d2]
theorem x5_bad (h : Hp) (o : Nat) : f_X5_refuse h o (-2) = some (-2, sI h o 6 (hI h o 6 + 1)) := rfl
theorem x5_no (h : Hp) (o : Nat) : f_X5_refuse h o (-3) = some (-3, sI h o 7 (hI h o 7 + 1)) := rfl
theorem x5_full (h : Hp) (o : Nat) : f_X5_refuse h o (-4) = some (-4, sI h o 8 (hI h o 8 + 1)) := rfl
theorem x6_bad (h : Hp) (m : Nat) : f_X6_bad h m = some (-2, sI h (m + 1) 0 (hI h (m + 1) 0 + 1)) := rfl
theorem x6_no (h : Hp) (m : Nat) : f_X6_no h m = some (-3, sI h (m + 1) 1 (hI h (m + 1) 1 + 1)) := rfl
theorem x6_full (h : Hp) (m : Nat) : f_X6_full h m = some (-4, sI h (m + 1) 2 (hI h (m + 1) 2 + 1)) := rfl
/-- whether v is from a to b -/
def inr (v a b : Int32) : Prop := ¬ v < a ∧ ¬ b < v
theorem x6_in_t {h : Hp} {v a b : Int32} (H : inr v a b) : f_X6_in h v a b = some 1 := by unfold f_X6_in; rw [if_neg H.1, if_neg H.2]
theorem x6_in_f {h : Hp} {v a b : Int32} (H : ¬ inr v a b) : f_X6_in h v a b = some 0 := by
  unfold f_X6_in inr at *
  by_cases h1 : v < a
  · rw [if_pos h1]; rfl
  · rw [if_neg h1]
    by_cases h2 : b < v
    · rw [if_pos h2]; rfl
    · exact absurd ⟨h1, h2⟩ H
theorem Inv_bad {o c : Nat} {h : Hp} (H : Inv o c h) : ∃ v h1 h2, f_X5_refuse h o (-2) = some (v, h1) ∧ f_X6_bad h1 (o + 174) = some (v, h2) ∧ Inv o (c + 1) h2 := ⟨-2, _, _, x5_bad h o, x6_bad _ _, Inv_ref (k := 0) (by decide) H⟩
theorem Inv_no {o c : Nat} {h : Hp} (H : Inv o c h) : ∃ v h1 h2, f_X5_refuse h o (-3) = some (v, h1) ∧ f_X6_no h1 (o + 174) = some (v, h2) ∧ Inv o (c + 1) h2 := ⟨-3, _, _, x5_no h o, x6_no _ _, Inv_ref (k := 1) (by decide) H⟩
theorem Inv_full {o c : Nat} {h : Hp} (H : Inv o c h) : ∃ v h1 h2, f_X5_refuse h o (-4) = some (v, h1) ∧ f_X6_full h1 (o + 174) = some (v, h2) ∧ Inv o (c + 1) h2 := ⟨-4, _, _, x5_full h o, x6_full _ _, Inv_ref (k := 2) (by decide) H⟩
theorem op_clear (o : Nat) : Op_clear o (Inv o) := by
  intro c h _ H
  obtain ⟨len, h1, h3, h4, h5⟩ := H.2.2.1
  refine ⟨nI len, sI h (o + 169) 0 0, sI (sI h (o + 169) 0 0) (o + 174) 12 0, ?_, ?_, ?_⟩
  · unfold f_X5_clear; rw [h3]
  · unfold f_X6_clear; rw [hI_sIb _ _ _ _ (by omega), h4]
  · have r : ∀ a, a ≠ o + 169 → a ≠ o + 174 → (sI (sI h (o + 169) 0 0) (o + 174) 12 0).1 a = h.1 a := fun a h1 h2 => (sI1 _ _ _ h2).trans (sI1 _ _ _ h1)
    refine ⟨Ia_congr (by omega) (fun a h1 h2 => r a (by omega) (by omega)) rfl (fun _ _ _ => rfl) (r _ (by omega) (by omega)) rfl rfl H.1, Ib_congr (by omega) (fun a h1 h2 => r a (by omega) (by omega)) (fun _ _ _ => rfl) (fun _ _ _ => rfl) (hI_eq (r _ (by omega) (by omega)) 5) (hI_eq (r _ (by omega) (by omega)) 4) ?_ (r _ (by omega) (by omega)) rfl rfl H.2.1, ⟨0, by omega, ?_, ?_, fun j hj => absurd hj (Nat.not_lt_zero j)⟩, ?_⟩
    · rw [hI_sIj _ _ _ (by decide), hI_sIb _ _ _ _ (by omega)]
    · rw [hI_sIb _ _ _ _ (by omega), hI_sI]; rfl
    · rw [hI_sI]; rfl
    · obtain ⟨d0, d1, d2⟩ := H.2.2.2
      refine ⟨?_, ?_, ?_⟩ <;> rw [hI_eq (r _ (by omega) (by omega)), hI_eq (r _ (by omega) (by omega))]
      · exact d0
      · exact d1
      · exact d2
theorem op_type (o : Nat) : Op_type o (Inv o) := by
  intro c h _ H v
  obtain ⟨len, h1, h3, h4, h5⟩ := H.2.2.1
  by_cases hv : inr v 0 127
  · have hv2 : v ≤ 127 := Int32.not_lt.mp hv.2
    unfold f_X5_type f_X6_type
    rw [if_neg hv.1, if_pos hv2, h3]
    by_cases hl : len = 120
    · subst hl
      rw [if_neg (by decide)]
      obtain ⟨w, q1, q2, e1, e2, e3⟩ := Inv_full H
      refine ⟨w, q1, q2, ?_, ?_, e3⟩
      · rw [e1]; rfl
      · have q1e : q1 = sI h o 8 (hI h o 8 + 1) := by rw [x5_full] at e1; exact (Prod.mk.inj (Option.some.inj e1)).2.symm
        rw [x6_in_t hv, bn1_some, if_neg (by decide), q1e, hI_sIb _ _ _ _ (by omega), h4, if_pos (show nI 120 = (120 : Int32) from rfl), ← q1e, e2]; rfl
    · have hlt : len < 120 := by omega
      rw [if_pos (show nI len < 120 from nI_lt (b := 120) hlt (by decide))]
      refine ⟨nI (len + 1), sI (sI h (o + 170) len v) (o + 169) 0 (nI (len + 1)), sI (sI (sI (sI h (o + 170) len v) (o + 169) 0 (nI (len + 1))) (o + 184) len v) (o + 174) 12 (nI (len + 1)), ?_, ?_, ?_⟩
      · unfold f_X4_append
        rw [h3, if_neg (show ¬ (120 : Int32) ≤ nI len from nI_ge (b := 120) hlt (by decide)), if_pos (inb_nI hlt (by decide)), nI_clamp (by omega), hI_sIb _ _ _ _ (by omega), h3, nI_1]
        show bn1 (some (sI (sI h (o + 170) len v) (o + 169) 0 (nI (len + 1)))) _ = _
        rw [bn1_some, hI_sI]
      · have hne : ¬ nI len = (120 : Int32) := fun q => hl ((nI_eq (by omega) (by decide)).mp (show nI len = nI 120 from q))
        simp (disch := omega) only [hI_s1, hI_s2, hI_s3]
        rw [x6_in_t hv, bn1_some, if_neg (by decide), h4, if_neg hne, if_pos (inb_nI hlt (by decide)), nI_clamp (by omega), nI_1]
      · generalize hh : sI (sI (sI (sI h (o + 170) len v) (o + 169) 0 (nI (len + 1))) (o + 184) len v) (o + 174) 12 (nI (len + 1)) = h2
        have r : ∀ a, a ≠ o + 170 → a ≠ o + 169 → a ≠ o + 184 → a ≠ o + 174 → h2.1 a = h.1 a := fun a x1 x2 x3 x4 => by rw [← hh]; exact (sI1 _ _ _ x4).trans ((sI1 _ _ _ x3).trans ((sI1 _ _ _ x2).trans (sI1 _ _ _ x1)))
        have rl : h2.2 = h.2 := by rw [← hh]; rfl
        refine ⟨Ia_congr (by omega) (fun a h1 h2 => r a (by omega) (by omega) (by omega) (by omega)) (by rw [rl]) (fun _ _ _ => by rw [rl]) (r _ (by omega) (by omega) (by omega) (by omega)) (by rw [rl]) (by unfold hL; rw [rl]) H.1, Ib_congr (by omega) (fun a h1 h2 => r a (by omega) (by omega) (by omega) (by omega)) (fun _ _ _ => by rw [rl]) (fun _ _ _ => by rw [rl]) (hI_eq (r _ (by omega) (by omega) (by omega) (by omega)) 5) (hI_eq (r _ (by omega) (by omega) (by omega) (by omega)) 4) ?_ (r _ (by omega) (by omega) (by omega) (by omega)) (by rw [rl]) (by rw [rl]) H.2.1, ⟨len + 1, by omega, ?_, ?_, fun j hj => ?_⟩, ?_⟩
        · rw [← hh, hI_sIj _ _ _ (by decide), hI_sIb _ _ _ _ (by omega), hI_sIb _ _ _ _ (by omega), hI_sIb _ _ _ _ (by omega)]
        · rw [← hh, hI_sIb _ _ _ _ (by omega), hI_sIb _ _ _ _ (by omega), hI_sI]
        · rw [← hh, hI_sI]
        · rw [← hh, hI_sIb _ _ _ _ (by omega), hI_sIb _ _ _ _ (by omega), hI_sIb _ _ _ _ (by omega), hI_sIb _ _ _ _ (show o + 184 ≠ o + 174 by omega)]
          by_cases hj2 : j = len
          · subst hj2; rw [hI_sI, hI_sI]
          · rw [hI_sIj _ _ _ hj2, hI_sIj _ _ _ hj2, hI_sIb _ _ _ _ (by omega), hI_sIb _ _ _ _ (by omega)]
            exact h5 j (by omega)
        · obtain ⟨d0, d1, d2⟩ := H.2.2.2
          refine ⟨?_, ?_, ?_⟩ <;> rw [hI_eq (r _ (by omega) (by omega) (by omega) (by omega)), hI_eq (r _ (by omega) (by omega) (by omega) (by omega))]
          · exact d0
          · exact d1
          · exact d2
  · obtain ⟨w, q1, q2, e1, e2, e3⟩ := Inv_bad H
    refine ⟨w, q1, q2, ?_, ?_, e3⟩
    · unfold f_X5_type f_X5_type_j10
      rw [e1]
      by_cases hn : v < 0
      · rw [if_pos hn]; rfl
      · rw [if_neg hn, if_neg (fun q => hv ⟨hn, Int32.not_lt.mpr q⟩)]; rfl
    · unfold f_X6_type
      rw [x6_in_f hv, bn1_some, if_pos rfl, e2]; rfl
