theorem gd_of {α : Type} {c : Prop} {ic : Decidable c} {x : Option α} {r : α} (h : (@ite _ c ic x none) = some r) : c ∧ x = some r := by
  by_cases hc : c
  · rw [if_pos hc] at h; exact ⟨hc, h⟩
  · rw [if_neg hc] at h; cases h
theorem if_t {α : Type} {c : Prop} {ic : Decidable c} {a b r : α} (hc : c) (h : (@ite _ c ic a b) = r) : a = r := by rw [if_pos hc] at h; exact h
theorem if_f {α : Type} {c : Prop} {ic : Decidable c} {a b r : α} (hc : ¬ c) (h : (@ite _ c ic a b) = r) : b = r := by rw [if_neg hc] at h; exact h
/-- a bound on every loop's rounds, far above what is needed -/
def fu : Nat := 5000
def inb (i : Int32) (n : Nat) : Bool := decide (¬ (i < 0 ∨ n ≤ i.toNatClampNeg))
theorem inb_of {i : Int32} {n : Nat} (h : inb i n = true) : vp_in i n := by unfold inb at h; have z := of_decide_eq_true h; exact z
def isBb (x : Int32) : Bool := decide (x = 0 ∨ x = 1)
theorem isBb_of {x : Int32} (h : isBb x = true) : isB x := by unfold isBb at h; have z := of_decide_eq_true h; exact z
def nn32 (r : UInt32) : Bool := decide (r &&& 0x7fffffff ≤ 0x7f800000)
theorem nn32_of {r : UInt32} (h : nn32 r = true) : vf_n32 r := by unfold nn32 at h; have z := of_decide_eq_true h; exact z
def nn64 (r : UInt64) : Bool := decide (r &&& 0x7fffffffffffffff ≤ 0x7ff0000000000000)
theorem nn64_of {r : UInt64} (h : nn64 r = true) : vf_n64 r := by unfold nn64 at h; have z := of_decide_eq_true h; exact z
def bn1 {α1 γ : Type} (x : Option (α1)) (f : α1 → Option γ) : Option γ := match x with
  | none => none
  | some a1 => f a1
theorem bn1_some {α1 γ : Type} (a1 : α1) (f : α1 → Option γ) : bn1 (some a1) f = f a1 := rfl
theorem bn1_of {α1 γ : Type} {x : Option α1} {f : α1 → Option γ} {r : γ} (h : bn1 x f = some r) : ∃ a1, x = some a1 ∧ f a1 = some r := by
  cases x with
  | none => cases h
  | some p => exact ⟨p, rfl, h⟩
def bn2 {α1 α2 γ : Type} (x : Option (α1 × α2)) (f : α1 → α2 → Option γ) : Option γ := match x with
  | none => none
  | some (a1, a2) => f a1 a2
theorem bn2_some {α1 α2 γ : Type} (a1 : α1) (a2 : α2) (f : α1 → α2 → Option γ) : bn2 (some (a1, a2)) f = f a1 a2 := rfl
theorem bn2_of {α1 α2 γ : Type} {x : Option (α1 × α2)} {f : α1 → α2 → Option γ} {r : γ} (h : bn2 x f = some r) : ∃ a1 a2, x = some (a1, a2) ∧ f a1 a2 = some r := by
  cases x with
  | none => cases h
  | some p => obtain ⟨a1, a2⟩ := p; exact ⟨a1, a2, rfl, h⟩
def bn3 {α1 α2 α3 γ : Type} (x : Option (α1 × α2 × α3)) (f : α1 → α2 → α3 → Option γ) : Option γ := match x with
  | none => none
  | some (a1, a2, a3) => f a1 a2 a3
theorem bn3_some {α1 α2 α3 γ : Type} (a1 : α1) (a2 : α2) (a3 : α3) (f : α1 → α2 → α3 → Option γ) : bn3 (some (a1, a2, a3)) f = f a1 a2 a3 := rfl
theorem bn3_of {α1 α2 α3 γ : Type} {x : Option (α1 × α2 × α3)} {f : α1 → α2 → α3 → Option γ} {r : γ} (h : bn3 x f = some r) : ∃ a1 a2 a3, x = some (a1, a2, a3) ∧ f a1 a2 a3 = some r := by
  cases x with
  | none => cases h
  | some p => obtain ⟨a1, a2, a3⟩ := p; exact ⟨a1, a2, a3, rfl, h⟩
def bn4 {α1 α2 α3 α4 γ : Type} (x : Option (α1 × α2 × α3 × α4)) (f : α1 → α2 → α3 → α4 → Option γ) : Option γ := match x with
  | none => none
  | some (a1, a2, a3, a4) => f a1 a2 a3 a4
theorem bn4_some {α1 α2 α3 α4 γ : Type} (a1 : α1) (a2 : α2) (a3 : α3) (a4 : α4) (f : α1 → α2 → α3 → α4 → Option γ) : bn4 (some (a1, a2, a3, a4)) f = f a1 a2 a3 a4 := rfl
theorem bn4_of {α1 α2 α3 α4 γ : Type} {x : Option (α1 × α2 × α3 × α4)} {f : α1 → α2 → α3 → α4 → Option γ} {r : γ} (h : bn4 x f = some r) : ∃ a1 a2 a3 a4, x = some (a1, a2, a3, a4) ∧ f a1 a2 a3 a4 = some r := by
  cases x with
  | none => cases h
  | some p => obtain ⟨a1, a2, a3, a4⟩ := p; exact ⟨a1, a2, a3, a4, rfl, h⟩
def bn5 {α1 α2 α3 α4 α5 γ : Type} (x : Option (α1 × α2 × α3 × α4 × α5)) (f : α1 → α2 → α3 → α4 → α5 → Option γ) : Option γ := match x with
  | none => none
  | some (a1, a2, a3, a4, a5) => f a1 a2 a3 a4 a5
theorem bn5_some {α1 α2 α3 α4 α5 γ : Type} (a1 : α1) (a2 : α2) (a3 : α3) (a4 : α4) (a5 : α5) (f : α1 → α2 → α3 → α4 → α5 → Option γ) : bn5 (some (a1, a2, a3, a4, a5)) f = f a1 a2 a3 a4 a5 := rfl
theorem bn5_of {α1 α2 α3 α4 α5 γ : Type} {x : Option (α1 × α2 × α3 × α4 × α5)} {f : α1 → α2 → α3 → α4 → α5 → Option γ} {r : γ} (h : bn5 x f = some r) : ∃ a1 a2 a3 a4 a5, x = some (a1, a2, a3, a4, a5) ∧ f a1 a2 a3 a4 a5 = some r := by
  cases x with
  | none => cases h
  | some p => obtain ⟨a1, a2, a3, a4, a5⟩ := p; exact ⟨a1, a2, a3, a4, a5, rfl, h⟩
def bn6 {α1 α2 α3 α4 α5 α6 γ : Type} (x : Option (α1 × α2 × α3 × α4 × α5 × α6)) (f : α1 → α2 → α3 → α4 → α5 → α6 → Option γ) : Option γ := match x with
  | none => none
  | some (a1, a2, a3, a4, a5, a6) => f a1 a2 a3 a4 a5 a6
theorem bn6_some {α1 α2 α3 α4 α5 α6 γ : Type} (a1 : α1) (a2 : α2) (a3 : α3) (a4 : α4) (a5 : α5) (a6 : α6) (f : α1 → α2 → α3 → α4 → α5 → α6 → Option γ) : bn6 (some (a1, a2, a3, a4, a5, a6)) f = f a1 a2 a3 a4 a5 a6 := rfl
theorem bn6_of {α1 α2 α3 α4 α5 α6 γ : Type} {x : Option (α1 × α2 × α3 × α4 × α5 × α6)} {f : α1 → α2 → α3 → α4 → α5 → α6 → Option γ} {r : γ} (h : bn6 x f = some r) : ∃ a1 a2 a3 a4 a5 a6, x = some (a1, a2, a3, a4, a5, a6) ∧ f a1 a2 a3 a4 a5 a6 = some r := by
  cases x with
  | none => cases h
  | some p => obtain ⟨a1, a2, a3, a4, a5, a6⟩ := p; exact ⟨a1, a2, a3, a4, a5, a6, rfl, h⟩
def bn7 {α1 α2 α3 α4 α5 α6 α7 γ : Type} (x : Option (α1 × α2 × α3 × α4 × α5 × α6 × α7)) (f : α1 → α2 → α3 → α4 → α5 → α6 → α7 → Option γ) : Option γ := match x with
  | none => none
  | some (a1, a2, a3, a4, a5, a6, a7) => f a1 a2 a3 a4 a5 a6 a7
theorem bn7_some {α1 α2 α3 α4 α5 α6 α7 γ : Type} (a1 : α1) (a2 : α2) (a3 : α3) (a4 : α4) (a5 : α5) (a6 : α6) (a7 : α7) (f : α1 → α2 → α3 → α4 → α5 → α6 → α7 → Option γ) : bn7 (some (a1, a2, a3, a4, a5, a6, a7)) f = f a1 a2 a3 a4 a5 a6 a7 := rfl
theorem bn7_of {α1 α2 α3 α4 α5 α6 α7 γ : Type} {x : Option (α1 × α2 × α3 × α4 × α5 × α6 × α7)} {f : α1 → α2 → α3 → α4 → α5 → α6 → α7 → Option γ} {r : γ} (h : bn7 x f = some r) : ∃ a1 a2 a3 a4 a5 a6 a7, x = some (a1, a2, a3, a4, a5, a6, a7) ∧ f a1 a2 a3 a4 a5 a6 a7 = some r := by
  cases x with
  | none => cases h
  | some p => obtain ⟨a1, a2, a3, a4, a5, a6, a7⟩ := p; exact ⟨a1, a2, a3, a4, a5, a6, a7, rfl, h⟩
theorem kd_gen {c n c2 n2 off : Nat} (t : ∀ k, k < 186 → kdl k = (c, n) → off + ext c2 ≤ ext c ∧ kdl (k + off) = (c2, n2)) {o : Ob} {a : Nat} (h : KD o a c n) : KD o (a + off) c2 n2 := by
  obtain ⟨h1, h2, hm, h3⟩ := h
  have q := t (a - o.1) (by omega) h3
  refine ⟨by omega, by omega, hm, ?_⟩
  rw [show a + off - o.1 = a - o.1 + off by omega]
  exact q.2
theorem kdPA_t : ∀ k, k < 186 → kdl k = (10, 6) → ∀ j, j < 6 → 1 + 4 * j + ext 0 ≤ ext 10 ∧ kdl (k + 1 + 4 * j) = (0, 0) := by decide +kernel
theorem kdSA_t : ∀ k, k < 186 → kdl k = (11, 5) → ∀ j, j < 5 → 1 + 27 * j + ext 2 ≤ ext 11 ∧ kdl (k + 1 + 27 * j) = (2, 0) := by decide +kernel
theorem kdPN {o : Ob} {a i : Nat} (h : KD o a 10 6) (hi : i < 6) : KD o (a + 1 + 4 * i) 0 0 := by
  obtain ⟨h1, h2, hm, h3⟩ := h
  have q := kdPA_t (a - o.1) (by omega) h3 i hi
  refine ⟨by omega, by omega, hm, ?_⟩
  rw [show a + 1 + 4 * i - o.1 = a - o.1 + 1 + 4 * i by omega]
  exact q.2
theorem kdSN {o : Ob} {a i : Nat} (h : KD o a 11 5) (hi : i < 5) : KD o (a + 1 + 27 * i) 2 0 := by
  obtain ⟨h1, h2, hm, h3⟩ := h
  have q := kdSA_t (a - o.1) (by omega) h3 i hi
  refine ⟨by omega, by omega, hm, ?_⟩
  rw [show a + 1 + 27 * i - o.1 = a - o.1 + 1 + 27 * i by omega]
  exact q.2
theorem kdPA {o : Ob} {a : Nat} {i : Int32} (h : KD o a 10 6) (hi : vp_in i 6) : KD o (a + 1 + 4 * i.toNatClampNeg) 0 0 := kdPN h (Nat.not_le.mp fun z => hi (Or.inr z))
theorem kdSA {o : Ob} {a : Nat} {i : Int32} (h : KD o a 11 5) (hi : vp_in i 5) : KD o (a + 1 + 27 * i.toNatClampNeg) 2 0 := kdSN h (Nat.not_le.mp fun z => hi (Or.inr z))
theorem kd_0_9 {o : Ob} {a : Nat} (h : KD o a 0 0) : KD o (a + 1) 6 32 := kd_gen (by decide +kernel) h
theorem kd_0_10 {o : Ob} {a : Nat} (h : KD o a 0 0) : KD o (a + 2) 6 6 := kd_gen (by decide +kernel) h
theorem kd_0_11 {o : Ob} {a : Nat} (h : KD o a 0 0) : KD o (a + 3) 7 6 := kd_gen (by decide +kernel) h
theorem kd_1_0 {o : Ob} {a : Nat} (h : KD o a 1 0) : KD o (a + 1) 6 6 := kd_gen (by decide +kernel) h
theorem kd_1_1 {o : Ob} {a : Nat} (h : KD o a 1 0) : KD o (a + 2) 6 8 := kd_gen (by decide +kernel) h
theorem kd_1_2 {o : Ob} {a : Nat} (h : KD o a 1 0) : KD o (a + 3) 6 36 := kd_gen (by decide +kernel) h
theorem kd_1_3 {o : Ob} {a : Nat} (h : KD o a 1 0) : KD o (a + 4) 6 36 := kd_gen (by decide +kernel) h
theorem kd_2_10 {o : Ob} {a : Nat} (h : KD o a 2 0) : KD o (a + 1) 6 4 := kd_gen (by decide +kernel) h
theorem kd_2_11 {o : Ob} {a : Nat} (h : KD o a 2 0) : KD o (a + 2) 10 6 := kd_gen (by decide +kernel) h
theorem kd_3_2 {o : Ob} {a : Nat} (h : KD o a 3 0) : KD o (a + 2) 6 40 := kd_gen (by decide +kernel) h
theorem kd_3_3 {o : Ob} {a : Nat} (h : KD o a 3 0) : KD o (a + 3) 6 40 := kd_gen (by decide +kernel) h
theorem kd_3_4 {o : Ob} {a : Nat} (h : KD o a 3 0) : KD o (a + 4) 6 40 := kd_gen (by decide +kernel) h
theorem kd_3_5 {o : Ob} {a : Nat} (h : KD o a 3 0) : KD o (a + 1) 6 120 := kd_gen (by decide +kernel) h
theorem kd_4_0 {o : Ob} {a : Nat} (h : KD o a 4 0) : KD o (a + 1) 2 0 := kd_gen (by decide +kernel) h
theorem kd_4_1 {o : Ob} {a : Nat} (h : KD o a 4 0) : KD o (a + 28) 11 5 := kd_gen (by decide +kernel) h
theorem kd_4_2 {o : Ob} {a : Nat} (h : KD o a 4 0) : KD o (a + 164) 1 0 := kd_gen (by decide +kernel) h
theorem kd_4_3 {o : Ob} {a : Nat} (h : KD o a 4 0) : KD o (a + 169) 3 0 := kd_gen (by decide +kernel) h
theorem kd_5_0 {o : Ob} {a : Nat} (h : KD o a 5 0) : KD o (a + 1) 6 3 := kd_gen (by decide +kernel) h
theorem kd_5_1 {o : Ob} {a : Nat} (h : KD o a 5 0) : KD o (a + 2) 6 320 := kd_gen (by decide +kernel) h
theorem kd_5_2 {o : Ob} {a : Nat} (h : KD o a 5 0) : KD o (a + 3) 7 36 := kd_gen (by decide +kernel) h
theorem kd_5_5 {o : Ob} {a : Nat} (h : KD o a 5 0) : KD o (a + 4) 6 1600 := kd_gen (by decide +kernel) h
theorem kd_5_6 {o : Ob} {a : Nat} (h : KD o a 5 0) : KD o (a + 5) 7 180 := kd_gen (by decide +kernel) h
theorem kd_5_7 {o : Ob} {a : Nat} (h : KD o a 5 0) : KD o (a + 6) 8 5 := kd_gen (by decide +kernel) h
theorem kd_5_8 {o : Ob} {a : Nat} (h : KD o a 5 0) : KD o (a + 7) 6 36 := kd_gen (by decide +kernel) h
theorem kd_5_9 {o : Ob} {a : Nat} (h : KD o a 5 0) : KD o (a + 8) 9 32 := kd_gen (by decide +kernel) h
theorem kd_5_10 {o : Ob} {a : Nat} (h : KD o a 5 0) : KD o (a + 9) 6 36 := kd_gen (by decide +kernel) h
theorem kd_5_11 {o : Ob} {a : Nat} (h : KD o a 5 0) : KD o (a + 10) 6 120 := kd_gen (by decide +kernel) h
theorem kd_5_15 {o : Ob} {a : Nat} (h : KD o a 5 0) : KD o (a + 11) 6 2 := kd_gen (by decide +kernel) h
theorem tsw7 {x : Int32} (h0 : ¬ x = 0) (h1 : ¬ x = 1) (h2 : ¬ x = 2) (h3 : ¬ x = 3) (h4 : ¬ x = 4) (h5 : ¬ x = 5) (h6 : ¬ x = 6) (h7 : ¬ x = 7) : x.toInt < 0 ∨ 7 < x.toInt := by
  rcases Int.lt_or_le x.toInt 0 with a | a
  · exact Or.inl a
  · rcases Int.lt_or_le 7 x.toInt with b | b
    · exact Or.inr b
    · exfalso
      have e : x = Int32.ofInt x.toInt := (Int32.ofInt_toInt x).symm
      have z : x.toInt = 0 ∨ x.toInt = 1 ∨ x.toInt = 2 ∨ x.toInt = 3 ∨ x.toInt = 4 ∨ x.toInt = 5 ∨ x.toInt = 6 ∨ x.toInt = 7 := by omega
      rcases z with q | q | q | q | q | q | q | q
      · exact h0 (e.trans (by rw [q]; decide))
      · exact h1 (e.trans (by rw [q]; decide))
      · exact h2 (e.trans (by rw [q]; decide))
      · exact h3 (e.trans (by rw [q]; decide))
      · exact h4 (e.trans (by rw [q]; decide))
      · exact h5 (e.trans (by rw [q]; decide))
      · exact h6 (e.trans (by rw [q]; decide))
      · exact h7 (e.trans (by rw [q]; decide))
theorem tsw8 {x : Int32} (h0 : ¬ x = 0) (h1 : ¬ x = 1) (h2 : ¬ x = 2) (h3 : ¬ x = 3) (h4 : ¬ x = 4) (h5 : ¬ x = 5) (h6 : ¬ x = 6) (h7 : ¬ x = 7) (h8 : ¬ x = 8) : x.toInt < 0 ∨ 8 < x.toInt := by
  rcases Int.lt_or_le x.toInt 0 with a | a
  · exact Or.inl a
  · rcases Int.lt_or_le 8 x.toInt with b | b
    · exact Or.inr b
    · exfalso
      have e : x = Int32.ofInt x.toInt := (Int32.ofInt_toInt x).symm
      have z : x.toInt = 0 ∨ x.toInt = 1 ∨ x.toInt = 2 ∨ x.toInt = 3 ∨ x.toInt = 4 ∨ x.toInt = 5 ∨ x.toInt = 6 ∨ x.toInt = 7 ∨ x.toInt = 8 := by omega
      rcases z with q | q | q | q | q | q | q | q | q
      · exact h0 (e.trans (by rw [q]; decide))
      · exact h1 (e.trans (by rw [q]; decide))
      · exact h2 (e.trans (by rw [q]; decide))
      · exact h3 (e.trans (by rw [q]; decide))
      · exact h4 (e.trans (by rw [q]; decide))
      · exact h5 (e.trans (by rw [q]; decide))
      · exact h6 (e.trans (by rw [q]; decide))
      · exact h7 (e.trans (by rw [q]; decide))
      · exact h8 (e.trans (by rw [q]; decide))
theorem tsw21 {x : Int32} (h0 : ¬ x = 0) (h1 : ¬ x = 1) (h2 : ¬ x = 2) (h3 : ¬ x = 3) (h4 : ¬ x = 4) (h5 : ¬ x = 5) (h6 : ¬ x = 6) (h7 : ¬ x = 7) (h8 : ¬ x = 8) (h9 : ¬ x = 9) (h10 : ¬ x = 10) (h11 : ¬ x = 11) (h12 : ¬ x = 12) (h13 : ¬ x = 13) (h14 : ¬ x = 14) (h15 : ¬ x = 15) (h16 : ¬ x = 16) (h17 : ¬ x = 17) (h18 : ¬ x = 18) (h19 : ¬ x = 19) (h20 : ¬ x = 20) (h21 : ¬ x = 21) : x.toInt < 0 ∨ 21 < x.toInt := by
  rcases Int.lt_or_le x.toInt 0 with a | a
  · exact Or.inl a
  · rcases Int.lt_or_le 21 x.toInt with b | b
    · exact Or.inr b
    · exfalso
      have e : x = Int32.ofInt x.toInt := (Int32.ofInt_toInt x).symm
      have z : x.toInt = 0 ∨ x.toInt = 1 ∨ x.toInt = 2 ∨ x.toInt = 3 ∨ x.toInt = 4 ∨ x.toInt = 5 ∨ x.toInt = 6 ∨ x.toInt = 7 ∨ x.toInt = 8 ∨ x.toInt = 9 ∨ x.toInt = 10 ∨ x.toInt = 11 ∨ x.toInt = 12 ∨ x.toInt = 13 ∨ x.toInt = 14 ∨ x.toInt = 15 ∨ x.toInt = 16 ∨ x.toInt = 17 ∨ x.toInt = 18 ∨ x.toInt = 19 ∨ x.toInt = 20 ∨ x.toInt = 21 := by omega
      rcases z with q | q | q | q | q | q | q | q | q | q | q | q | q | q | q | q | q | q | q | q | q | q
      · exact h0 (e.trans (by rw [q]; decide))
      · exact h1 (e.trans (by rw [q]; decide))
      · exact h2 (e.trans (by rw [q]; decide))
      · exact h3 (e.trans (by rw [q]; decide))
      · exact h4 (e.trans (by rw [q]; decide))
      · exact h5 (e.trans (by rw [q]; decide))
      · exact h6 (e.trans (by rw [q]; decide))
      · exact h7 (e.trans (by rw [q]; decide))
      · exact h8 (e.trans (by rw [q]; decide))
      · exact h9 (e.trans (by rw [q]; decide))
      · exact h10 (e.trans (by rw [q]; decide))
      · exact h11 (e.trans (by rw [q]; decide))
      · exact h12 (e.trans (by rw [q]; decide))
      · exact h13 (e.trans (by rw [q]; decide))
      · exact h14 (e.trans (by rw [q]; decide))
      · exact h15 (e.trans (by rw [q]; decide))
      · exact h16 (e.trans (by rw [q]; decide))
      · exact h17 (e.trans (by rw [q]; decide))
      · exact h18 (e.trans (by rw [q]; decide))
      · exact h19 (e.trans (by rw [q]; decide))
      · exact h20 (e.trans (by rw [q]; decide))
      · exact h21 (e.trans (by rw [q]; decide))
theorem i32_ne {x : Int32} {k : Int} (h : ¬ x = Int32.ofInt k) : ¬ x.toInt = k := fun q => h (by rw [← q]; exact (Int32.ofInt_toInt x).symm)
theorem lsw_out {x : Int32} (h1 : ¬ x = 103) (h2 : ¬ x = 112) (h3 : ¬ x = 115) : Op.lookupswitch.offset [(103, 61), (112, 35), (115, 87)] 113 x.toInt = 113 := by
  have a1 := i32_ne (k := 103) h1
  have a2 := i32_ne (k := 112) h2
  have a3 := i32_ne (k := 115) h3
  simp [Op.lookupswitch.offset, Ne.symm a1, Ne.symm a2, Ne.symm a3]
theorem nf_nat : Cond.native (⟨"java/lang/Float", "floatToRawIntBits", "(F)I"⟩ : MethodName) ∈ lw_u := by decide +kernel
theorem nf_stat : Cond.static (⟨"java/lang/Float", "floatToRawIntBits", "(F)I"⟩ : MethodName) ∈ lw_u := by decide +kernel
theorem nf_ini : Cond.initialized "java/lang/Float" ∈ lw_u := by decide +kernel
theorem nd_nat : Cond.native (⟨"java/lang/Double", "doubleToRawLongBits", "(D)J"⟩ : MethodName) ∈ lw_u := by decide +kernel
theorem nd_stat : Cond.static (⟨"java/lang/Double", "doubleToRawLongBits", "(D)J"⟩ : MethodName) ∈ lw_u := by decide +kernel
theorem nd_ini : Cond.initialized "java/lang/Double" ∈ lw_u := by decide +kernel
