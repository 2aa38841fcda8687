/-! FLOATS: steps that are exact -/
theorem dec_enc {f : FP.Core.Fmt} {c : Nat} {q : Int} (hp : 1 ≤ f.p) (he : 3 ≤ f.exps) (hx : f.qmin + (f.exps : Int) - 3 = f.qmax) (h : posOK f c q) (hm : q ≤ f.qmax) : FP.Core.decode f (bitsOf f c q) = .fin false c q := by
  obtain ⟨h1, h2, h3⟩ := h
  have tp : 0 < f.tails := pw_pos _
  have t2 := tails2 hp
  unfold bitsOf FP.Core.decode FP.Core.fieldE FP.Core.fieldS FP.Core.fieldT
  by_cases e : c < f.tails
  · have hq : q = f.qmin := h3.resolve_right (by omega)
    rw [hq, show (f.qmin - f.qmin).toNat = 0 by omega, Nat.zero_mul, Nat.zero_add, Nat.div_eq_of_lt e, Nat.mod_eq_of_lt e, Nat.zero_mod, Nat.zero_div, if_neg (by omega), if_pos rfl]; rfl
  · have hd : ((q - f.qmin).toNat * f.tails + c) / f.tails = (q - f.qmin).toNat + 1 := by
      rw [Nat.mul_comm, Nat.mul_add_div tp, show c / f.tails = 1 by
        exact Nat.div_eq_of_lt_le (by omega) (by omega)]
    have hmod : ((q - f.qmin).toNat * f.tails + c) % f.tails = c - f.tails := by
      rw [Nat.mul_comm, Nat.mul_add_mod, Nat.mod_eq_sub_mod (by omega), Nat.mod_eq_of_lt (by omega)]
    rw [hd, hmod, Nat.mod_eq_of_lt (show (q - f.qmin).toNat + 1 < f.exps by omega), Nat.div_eq_of_lt (show (q - f.qmin).toNat + 1 < f.exps by omega), if_neg (by omega), if_neg (by omega)]
    congr 1
    · omega
    · omega
/-- a format as it should be -/
def okF (f : FP.Core.Fmt) : Prop := 2 ≤ f.p ∧ 3 ≤ f.exps ∧ f.qmin + (f.exps : Int) - 3 = f.qmax ∧ f.p ≤ 60 ∧ -1500 ≤ f.qmin ∧ f.qmin ≤ -100 ∧ 60 ≤ f.qmax ∧ f.qmax ≤ 1500 ∧ f.qmin + 2 * f.p ≤ -50
theorem ok32 : okF FP.Core.b32 := by unfold okF; decide
theorem ok64 : okF FP.Core.b64 := by unfold okF; decide
theorem log2_t {f : FP.Core.Fmt} (h : f.p ≤ 60) (h1 : 1 ≤ f.p) : f.tails.log2 + 1 ≤ 4000 := by
  have : f.tails.log2 ≤ f.p - 1 := by
    unfold FP.Core.Fmt.tails
    rw [Nat.log2_two_pow]; omega
  omega
theorem prod_ff {c d : Nat} {q r : Int} : FP.Core.exactProduct (.fin false c q) (.fin false d r) = .fin false (c * d) (q + r) := rfl
section Ex
variable {f : FP.Core.Fmt} {x two : Nat} {c : Nat} {q : Int}
theorem mul2_n (F : okF f) (hx : FP.Core.decode f x = .fin false c q) (ht : FP.Core.decode f two = .fin false f.tails (2 - f.p)) (P : posOK f c q) (hc : f.tails ≤ c) (hm : q + 1 ≤ f.qmax) : FP.Core.mul f x two = bitsOf f c (q + 1) := by
  obtain ⟨f1, f2, f3, f4, f5, f6, f7, f8, f9⟩ := F
  obtain ⟨p1, p2, p3⟩ := P
  have tp : 0 < f.tails := pw_pos _
  unfold FP.Core.mul
  rw [hx, ht, prod_ff]
  show FP.Core.encode f (FP.Core.roundRatio f false (c * f.tails) 1 (q + (2 - f.p))) = _
  have P2 : posOK f c (q + 1) := ⟨p1, by omega, Or.inr hc⟩
  rw [round_eq (f := f) (C := c) (Q := q + 1) (Z := 4000) (by omega) (Nat.mul_pos (by omega) tp) (by decide) (by decide) (by omega) (by omega) P2 hm (by
    rw [Nat.mul_one, Nat.mul_assoc]
    unfold FP.Core.Fmt.tails
    rw [← Nat.pow_add]
    congr 2; omega), enc_bits P2]
theorem mul2_s (F : okF f) (hx : FP.Core.decode f x = .fin false c q) (ht : FP.Core.decode f two = .fin false f.tails (2 - f.p)) (hq : q = f.qmin) (h0 : 0 < c) (hc : c < f.tails) : FP.Core.mul f x two = 2 * c := by
  obtain ⟨f1, f2, f3, f4, f5, f6, f7, f8, f9⟩ := F
  have tp : 0 < f.tails := pw_pos _
  have t2 := tails2 (f := f) (by omega)
  subst hq
  unfold FP.Core.mul
  rw [hx, ht, prod_ff]
  show FP.Core.encode f (FP.Core.roundRatio f false (c * f.tails) 1 (f.qmin + (2 - f.p))) = _
  have P2 : posOK f (2 * c) f.qmin := ⟨by omega, Int.le_refl _, Or.inl rfl⟩
  rw [round_eq (f := f) (C := 2 * c) (Q := f.qmin) (Z := 4000) (by omega) (Nat.mul_pos h0 tp) (by decide) (by decide) (by omega) (by omega) P2 (by omega) (by
    rw [Nat.mul_one, Nat.mul_comm 2 c, Nat.mul_assoc, Nat.mul_assoc]
    unfold FP.Core.Fmt.tails
    rw [← Nat.pow_add, ← Nat.pow_succ']
    congr 2; omega), enc_bits P2]
  unfold bitsOf
  rw [show (f.qmin - f.qmin).toNat = 0 by omega]; omega
theorem div2 (F : okF f) (hx : FP.Core.decode f x = .fin false c q) (ht : FP.Core.decode f two = .fin false f.tails (2 - f.p)) (P : posOK f c q) (hc : f.tails ≤ c) (hm : q ≤ f.qmax) (hl : f.qmin ≤ q - 1) : FP.Core.div f x two = bitsOf f c (q - 1) := by
  obtain ⟨f1, f2, f3, f4, f5, f6, f7, f8, f9⟩ := F
  obtain ⟨p1, p2, p3⟩ := P
  have tp : 0 < f.tails := pw_pos _
  unfold FP.Core.div
  rw [hx, ht]
  show FP.Core.encode f (if f.tails = 0 then (if c = 0 then .nan else .inf false) else FP.Core.roundRatio f false c f.tails (q - (2 - f.p))) = _
  rw [if_neg (by omega)]
  have P2 : posOK f c (q - 1) := ⟨p1, by omega, Or.inr hc⟩
  rw [round_eq (f := f) (C := c) (Q := q - 1) (Z := 4000) (by omega) (by omega) tp (log2_t f4 (by omega)) (by omega) (by omega) P2 (by omega) (by
    rw [Nat.mul_assoc]
    unfold FP.Core.Fmt.tails
    rw [← Nat.pow_add]
    congr 2; omega), enc_bits P2]
/-- a whole number below 2^p, moved to the left -/
theorem norm_ex (F : okF f) {N : Nat} (h0 : 0 < N) (hN : N < 2 ^ f.p) : ∃ s, s ≤ f.p ∧ f.tails ≤ N * 2 ^ s ∧ N * 2 ^ s < 2 ^ f.p := by
  obtain ⟨f1, f2, f3, f4, f5, f6, f7, f8, f9⟩ := F
  have n1 : 2 ^ N.log2 ≤ N := Nat.log2_self_le (by omega)
  have n2 : N < 2 ^ (N.log2 + 1) := Nat.lt_log2_self
  have n3 : N.log2 < f.p := by
    by_cases h : N.log2 < f.p
    · exact h
    · have := pw_le (show f.p ≤ N.log2 by omega)
      omega
  refine ⟨f.p - 1 - N.log2, by omega, ?_, ?_⟩
  · unfold FP.Core.Fmt.tails
    rw [pw_split (show f.p - 1 = N.log2 + (f.p - 1 - N.log2) by omega)]
    exact Nat.mul_le_mul_right _ n1
  · rw [pw_split (show f.p = N.log2 + 1 + (f.p - 1 - N.log2) by omega)]
    exact Nat.mul_lt_mul_of_pos_right n2 (pw_pos _)
theorem round_int (F : okF f) {N n : Nat} {e y : Int} (h0 : 0 < N) (hN : N < 2 ^ f.p) (hy : f.qmin + f.p ≤ y) (hy2 : y ≤ 60) (hn : 0 < n) (he : -4000 ≤ e) (h : n * 2 ^ (e + ((4000 : Nat) : Int)).toNat = N * 2 ^ (y + ((4000 : Nat) : Int)).toNat) : ∃ s, s ≤ f.p ∧ posOK f (N * 2 ^ s) (y - s) ∧ FP.Core.roundRatio f false n 1 e = .fin false (N * 2 ^ s) (y - s) := by
  obtain ⟨s, s1, s2, s3⟩ := norm_ex F h0 hN
  obtain ⟨f1, f2, f3, f4, f5, f6, f7, f8, f9⟩ := F
  have P : posOK f (N * 2 ^ s) (y - s) := ⟨s3, by omega, Or.inr s2⟩
  refine ⟨s, s1, P, ?_⟩
  refine round_eq (f := f) (Z := 4000) (by omega) hn (by decide) (by decide) (by omega) (by omega) P (by omega) ?_
  rw [h, Nat.mul_one, Nat.mul_assoc, ← Nat.pow_add]
  congr 2; omega
theorem dec_of (F : okF f) {c : Nat} {q : Int} (P : posOK f c q) (hm : q ≤ f.qmax) : FP.Core.decode f (FP.Core.encode f (.fin false c q)) = .fin false c q := by
  obtain ⟨f1, f2, f3, f4, f5, f6, f7, f8, f9⟩ := F
  rw [enc_bits P]
  exact dec_enc (by omega) f2 f3 P hm
/-- times 2^(p-1), of a number N * 2^(1-p): the number N -/
theorem times_big (F : okF f) {N : Nat} {s : Nat} {big : Nat} (h0 : 0 < N) (hN : N < 2 ^ f.p) (hs : s ≤ f.p) (hx : FP.Core.decode f x = .fin false (N * 2 ^ s) (1 - (f.p : Int) - s)) (hb : FP.Core.decode f big = .fin false f.tails 0) : ∃ s2, s2 ≤ f.p ∧ posOK f (N * 2 ^ s2) (0 - s2) ∧ FP.Core.mul f x big = bitsOf f (N * 2 ^ s2) (0 - s2) := by
  have tp : 0 < f.tails := pw_pos _
  unfold FP.Core.mul
  rw [hx, hb, prod_ff]
  show ∃ s2, s2 ≤ f.p ∧ posOK f (N * 2 ^ s2) (0 - s2) ∧ FP.Core.encode f (FP.Core.roundRatio f false (N * 2 ^ s * f.tails) 1 (1 - (f.p : Int) - s + 0)) = _
  have F2 := F
  obtain ⟨f1, f2, f3, f4, f5, f6, f7, f8, f9⟩ := F2
  obtain ⟨s2, a, P, e⟩ := round_int (N := N) (n := N * 2 ^ s * f.tails) (e := 1 - (f.p : Int) - s + 0) (y := 0) F h0 hN (by omega) (by omega) (Nat.mul_pos (Nat.mul_pos h0 (pw_pos _)) tp) (by omega) (by
    unfold FP.Core.Fmt.tails
    rw [Nat.mul_assoc, Nat.mul_assoc, ← Nat.pow_add, ← Nat.pow_add]
    congr 2; omega)
  exact ⟨s2, a, P, by rw [e, enc_bits P]⟩
theorem sub1_0 (F : okF f) {one : Nat} (hx : FP.Core.decode f x = .fin false f.tails (1 - (f.p : Int))) (ho : FP.Core.decode f one = .fin false f.tails (1 - (f.p : Int))) : FP.Core.sub f x one = 0 := by
  obtain ⟨f1, f2, f3, f4, f5, f6, f7, f8, f9⟩ := F
  have tp : 0 < f.tails := pw_pos _
  unfold FP.Core.sub
  rw [hx, ho]
  show FP.Core.encode f (FP.Core.roundRatio f (FP.Core.sumSign false true (FP.Core.sumUnits false f.tails (1 - (f.p : Int)) true f.tails (1 - (f.p : Int)) (min (1 - (f.p : Int)) (1 - (f.p : Int))))) (FP.Core.sumUnits false f.tails (1 - (f.p : Int)) true f.tails (1 - (f.p : Int)) (min (1 - (f.p : Int)) (1 - (f.p : Int)))).natAbs 1 (min (1 - (f.p : Int)) (1 - (f.p : Int)))) = 0
  have e : FP.Core.sumUnits false f.tails (1 - (f.p : Int)) true f.tails (1 - (f.p : Int)) (min (1 - (f.p : Int)) (1 - (f.p : Int))) = 0 := by
    show ((f.tails * 2 ^ ((1 - (f.p : Int)) - min (1 - (f.p : Int)) (1 - (f.p : Int))).toNat : Nat) : Int) + -((f.tails * 2 ^ ((1 - (f.p : Int)) - min (1 - (f.p : Int)) (1 - (f.p : Int))).toNat : Nat) : Int) = 0
    omega
  rw [e]
  show FP.Core.encode f (FP.Core.roundRatio f false 0 1 _) = 0
  rw [round_0]
  have P : posOK f 0 f.qmin := ⟨pw_pos _, Int.le_refl _, Or.inl rfl⟩
  rw [enc_bits P]
  unfold bitsOf
  rw [show (f.qmin - f.qmin).toNat = 0 by omega]; omega
theorem sub1_n (F : okF f) {one T : Nat} (h0 : 0 < T) (hT : T < f.tails) (hx : FP.Core.decode f x = .fin false (f.tails + T) (1 - (f.p : Int))) (ho : FP.Core.decode f one = .fin false f.tails (1 - (f.p : Int))) : ∃ s, s ≤ f.p ∧ posOK f (T * 2 ^ s) (1 - (f.p : Int) - s) ∧ FP.Core.sub f x one = bitsOf f (T * 2 ^ s) (1 - (f.p : Int) - s) := by
  have F2 := F
  obtain ⟨f1, f2, f3, f4, f5, f6, f7, f8, f9⟩ := F2
  have tp : 0 < f.tails := pw_pos _
  have t2 := tails2 (f := f) (by omega)
  unfold FP.Core.sub
  rw [hx, ho]
  show ∃ s, s ≤ f.p ∧ posOK f (T * 2 ^ s) (1 - (f.p : Int) - s) ∧ FP.Core.encode f (FP.Core.roundRatio f (FP.Core.sumSign false true (FP.Core.sumUnits false (f.tails + T) (1 - (f.p : Int)) true f.tails (1 - (f.p : Int)) (min (1 - (f.p : Int)) (1 - (f.p : Int))))) (FP.Core.sumUnits false (f.tails + T) (1 - (f.p : Int)) true f.tails (1 - (f.p : Int)) (min (1 - (f.p : Int)) (1 - (f.p : Int)))).natAbs 1 (min (1 - (f.p : Int)) (1 - (f.p : Int)))) = _
  have e : FP.Core.sumUnits false (f.tails + T) (1 - (f.p : Int)) true f.tails (1 - (f.p : Int)) (min (1 - (f.p : Int)) (1 - (f.p : Int))) = (T : Int) := by
    show (((f.tails + T) * 2 ^ ((1 - (f.p : Int)) - min (1 - (f.p : Int)) (1 - (f.p : Int))).toNat : Nat) : Int) + -((f.tails * 2 ^ ((1 - (f.p : Int)) - min (1 - (f.p : Int)) (1 - (f.p : Int))).toNat : Nat) : Int) = T
    rw [show ((1 - (f.p : Int)) - min (1 - (f.p : Int)) (1 - (f.p : Int))).toNat = 0 by omega, Nat.pow_zero, Nat.mul_one, Nat.mul_one]
    omega
  have sg : FP.Core.sumSign false true (T : Int) = false := by
    unfold FP.Core.sumSign
    rw [if_neg (by omega)]
    exact decide_eq_false (by omega)
  rw [e, sg, Int.natAbs_natCast, show min (1 - (f.p : Int)) (1 - (f.p : Int)) = 1 - (f.p : Int) by omega]
  obtain ⟨s, a, P, r⟩ := round_int (N := T) (n := T) (e := 1 - (f.p : Int)) (y := 1 - (f.p : Int)) F h0 (by omega) (by omega) (by omega) h0 (by omega) rfl
  exact ⟨s, a, P, by rw [r, enc_bits P]⟩
end Ex
theorem bits_val_lt {f : FP.Core.Fmt} {c C : Nat} {q Q : Int} {Z : Nat} (hp : 1 ≤ f.p) (hz : 0 ≤ f.qmin + Z) (h1 : posOK f c q) (h2 : posOK f C Q) (h : bitsOf f c q < bitsOf f C Q) : c * 2 ^ (q + Z).toNat < C * 2 ^ (Q + Z).toNat := by
  obtain ⟨a1, a2, a3⟩ := h1
  obtain ⟨b1, b2, b3⟩ := h2
  have t2 := tails2 hp
  unfold bitsOf at h
  by_cases e : q = Q
  · subst e
    exact Nat.mul_lt_mul_of_pos_right (by omega) (pw_pos _)
  · by_cases g : q < Q
    · have hQ : f.tails ≤ C := b3.resolve_left (by omega)
      calc c * 2 ^ (q + Z).toNat < (2 * f.tails) * 2 ^ (q + Z).toNat := Nat.mul_lt_mul_of_pos_right (by omega) (pw_pos _)
        _ = f.tails * 2 ^ ((q + Z).toNat + 1) := by rw [Nat.pow_succ, Nat.mul_comm 2, Nat.mul_assoc, Nat.mul_comm 2]
        _ ≤ f.tails * 2 ^ (Q + Z).toNat := Nat.mul_le_mul_left _ (pw_le (by omega))
        _ ≤ C * 2 ^ (Q + Z).toNat := Nat.mul_le_mul_right _ hQ
    · exfalso
      have hq : f.tails ≤ c := a3.resolve_left (by omega)
      have : ((Q - f.qmin).toNat + 1) * f.tails ≤ (q - f.qmin).toNat * f.tails := Nat.mul_le_mul_right _ (by omega)
      rw [Nat.add_mul, Nat.one_mul] at this
      omega
/-- the order is that of the bits -/
theorem cmp_bits {f : FP.Core.Fmt} (F : okF f) {x y : Nat} {c d : Nat} {q r : Int} (hx : FP.Core.decode f x = .fin false c q) (hy : FP.Core.decode f y = .fin false d r) (P1 : posOK f c q) (P2 : posOK f d r) (b1 : bitsOf f c q = x) (b2 : bitsOf f d r = y) : FP.Core.cmp f x y = some (if x < y then .lt else if x = y then .eq else .gt) := by
  have F2 := F
  obtain ⟨f1, f2, f3, f4, f5, f6, f7, f8, f9⟩ := F2
  have hq := P1.2.1
  have hr := P2.2.1
  unfold FP.Core.cmp
  by_cases e : x = y
  · subst e
    rw [hx] at hy
    cases hy
    rw [if_neg (Nat.lt_irrefl _), if_pos rfl, hx]
    show some (compareOfLessAndEq _ _) = _
    unfold compareOfLessAndEq
    rw [if_neg (Int.lt_irrefl _), if_pos rfl]
  · rw [hx, hy]
    show some (compareOfLessAndEq ((c * 2 ^ (q - min q r).toNat : Nat) : Int) ((d * 2 ^ (r - min q r).toNat : Nat) : Int)) = _
    have key : ∀ {c d : Nat} {q r m : Int}, f.qmin ≤ q → f.qmin ≤ r → m ≤ q → m ≤ r → f.qmin ≤ m → c * 2 ^ (q + ((4000 : Nat) : Int)).toNat < d * 2 ^ (r + ((4000 : Nat) : Int)).toNat → c * 2 ^ (q - m).toNat < d * 2 ^ (r - m).toNat := by
      intro c d q r m g1 g2 g3 g4 g5 g
      rw [pw_split (show (q + ((4000 : Nat) : Int)).toNat = (q - m).toNat + (m + ((4000 : Nat) : Int)).toNat by omega), pw_split (show (r + ((4000 : Nat) : Int)).toNat = (r - m).toNat + (m + ((4000 : Nat) : Int)).toNat by omega), ← Nat.mul_assoc, ← Nat.mul_assoc] at g
      exact Nat.lt_of_mul_lt_mul_right g
    unfold compareOfLessAndEq
    by_cases l : x < y
    · have v := bits_val_lt (Z := 4000) (by omega) (by omega) P1 P2 (by omega)
      have w := key (m := min q r) hq hr (by omega) (by omega) (by omega) v
      rw [if_pos l, if_pos (by exact_mod_cast w)]
    · have v := bits_val_lt (Z := 4000) (by omega) (by omega) P2 P1 (by omega)
      have w := key (m := min q r) hr hq (by omega) (by omega) (by omega) v
      rw [if_neg l, if_neg e, if_neg (by omega), if_neg (by omega)]
