/-! FLOATS of 0 or more, by their bits -/
theorem dec_ok {f : FP.Core.Fmt} {n : Nat} (hp : 1 ≤ f.p) (he : 3 ≤ f.exps) (hx : f.qmin + (f.exps : Int) - 3 = f.qmax) (hn : n < (f.exps - 1) * f.tails) : ∃ c q, FP.Core.decode f n = .fin false c q ∧ posOK f c q ∧ q ≤ f.qmax ∧ bitsOf f c q = n := by
  have tp : 0 < f.tails := pw_pos _
  have t2 := tails2 hp
  have d1 : n / f.tails < f.exps - 1 := Nat.div_lt_of_lt_mul (by rw [Nat.mul_comm]; exact hn)
  have d2 : n / f.tails % f.exps = n / f.tails := Nat.mod_eq_of_lt (by omega)
  have d3 : n / f.tails / f.exps = 0 := Nat.div_eq_of_lt (by omega)
  have d4 := Nat.div_add_mod n f.tails
  have d5 : n % f.tails < f.tails := Nat.mod_lt _ tp
  unfold FP.Core.decode FP.Core.fieldE FP.Core.fieldS FP.Core.fieldT
  rw [d2, d3, if_neg (by omega)]
  by_cases e : n / f.tails = 0
  · rw [if_pos e]
    rw [e, Nat.mul_zero, Nat.zero_add] at d4
    refine ⟨n % f.tails, f.qmin, rfl, ⟨by omega, Int.le_refl _, Or.inl rfl⟩, by omega, ?_⟩
    unfold bitsOf
    rw [show (f.qmin - f.qmin).toNat = 0 by omega]; omega
  · rw [if_neg e]
    refine ⟨f.tails + n % f.tails, f.qmin + ((n / f.tails : Nat) - 1), rfl, ⟨by omega, by omega, Or.inr (by omega)⟩, by omega, ?_⟩
    unfold bitsOf
    rw [show (f.qmin + (((n / f.tails : Nat) : Int) - 1) - f.qmin).toNat = n / f.tails - 1 by omega]
    have : (n / f.tails - 1) * f.tails + f.tails = f.tails * (n / f.tails) := by
      rw [Nat.sub_mul, Nat.one_mul, Nat.mul_comm]
      have : f.tails ≤ f.tails * (n / f.tails) := Nat.le_mul_of_pos_right _ (by omega)
      omega
    omega
theorem bits_val {f : FP.Core.Fmt} {c C : Nat} {q Q : Int} {Z : Nat} (hp : 1 ≤ f.p) (hz : 0 ≤ f.qmin + Z) (h1 : posOK f c q) (h2 : posOK f C Q) (h : bitsOf f c q ≤ bitsOf f C Q) : c * 2 ^ (q + Z).toNat ≤ C * 2 ^ (Q + Z).toNat := by
  obtain ⟨a1, a2, a3⟩ := h1
  obtain ⟨b1, b2, b3⟩ := h2
  have t2 := tails2 hp
  unfold bitsOf at h
  by_cases e : q = Q
  · subst e
    exact Nat.mul_le_mul_right _ (by omega)
  · by_cases g : q < Q
    · have hQ : f.tails ≤ C := b3.resolve_left (by omega)
      calc c * 2 ^ (q + Z).toNat ≤ (2 * f.tails) * 2 ^ (q + Z).toNat := Nat.mul_le_mul_right _ (by omega)
        _ = f.tails * 2 ^ ((q + Z).toNat + 1) := by rw [Nat.pow_succ, Nat.mul_comm 2, Nat.mul_assoc, Nat.mul_comm 2]
        _ ≤ f.tails * 2 ^ (Q + Z).toNat := Nat.mul_le_mul_left _ (pw_le (by omega))
        _ ≤ C * 2 ^ (Q + Z).toNat := Nat.mul_le_mul_right _ hQ
    · exfalso
      have hq : f.tails ≤ c := a3.resolve_left (by omega)
      have : ((Q - f.qmin).toNat + 1) * f.tails ≤ (q - f.qmin).toNat * f.tails := Nat.mul_le_mul_right _ (by omega)
      rw [Nat.add_mul, Nat.one_mul] at this
      omega
theorem b32_q : FP.Core.b32.qmin = -149 ∧ FP.Core.b32.qmax = 104 ∧ FP.Core.b32.tails = 8388608 ∧ FP.Core.b32.exps = 256 ∧ FP.Core.b32.p = 24 := by decide
theorem b64_q : FP.Core.b64.qmin = -1074 ∧ FP.Core.b64.qmax = 971 ∧ FP.Core.b64.tails = 4503599627370496 ∧ FP.Core.b64.exps = 2048 ∧ FP.Core.b64.p = 53 := by decide
theorem dec32 {n : Nat} (hn : n < 2139095040) : ∃ c q, FP.Core.decode FP.Core.b32 n = .fin false c q ∧ posOK FP.Core.b32 c q ∧ q ≤ 104 ∧ bitsOf FP.Core.b32 c q = n := by
  obtain ⟨q1, q2, q3, q4, q5⟩ := b32_q
  have := dec_ok (f := FP.Core.b32) (n := n) (by omega) (by omega) (by omega) (by rw [q3, q4]; omega)
  rw [q2] at this
  exact this
theorem dec64 {n : Nat} (hn : n < 9218868437227405312) : ∃ c q, FP.Core.decode FP.Core.b64 n = .fin false c q ∧ posOK FP.Core.b64 c q ∧ q ≤ 971 ∧ bitsOf FP.Core.b64 c q = n := by
  obtain ⟨q1, q2, q3, q4, q5⟩ := b64_q
  have := dec_ok (f := FP.Core.b64) (n := n) (by omega) (by omega) (by omega) (by rw [q3, q4]; omega)
  rw [q2] at this
  exact this
theorem u32 {n : Nat} (h : n < 4294967296) : (UInt32.ofNat n).toNat = n := by
  show n % 2 ^ 32 = n
  exact Nat.mod_eq_of_lt h
theorem nn32_le {r : UInt32} (h : r.toNat ≤ 2139095040) : nn32 r = true := by
  unfold nn32
  refine decide_eq_true (UInt32.le_iff_toNat_le.mpr ?_)
  rw [UInt32.toNat_and]
  have : (2139095040 : UInt32).toNat = 2139095040 := rfl
  rw [this]
  exact Nat.le_trans Nat.and_le_left h
theorem round_0 {f : FP.Core.Fmt} {d : Nat} {e : Int} : FP.Core.roundRatio f false 0 d e = .fin false 0 f.qmin := by unfold FP.Core.roundRatio; rw [if_pos rfl]
theorem enc_0 : FP.Core.encode FP.Core.b32 (.fin false 0 FP.Core.b32.qmin) = 0 := by decide
theorem pos15 : posOK FP.Core.b32 15728640 (-20) ∧ bitsOf FP.Core.b32 15728640 (-20) = 1097859072 := by
  refine ⟨⟨by decide, by decide, Or.inr (by decide)⟩, by decide⟩
theorem pos16 : posOK FP.Core.b32 8388608 (-19) ∧ bitsOf FP.Core.b32 8388608 (-19) = 1098907648 := by
  refine ⟨⟨by decide, by decide, Or.inr (by decide)⟩, by decide⟩
theorem pos9 : posOK FP.Core.b32 15099494 (-24) ∧ bitsOf FP.Core.b32 15099494 (-24) = 1063675494 := by
  refine ⟨⟨by decide, by decide, Or.inr (by decide)⟩, by decide⟩
theorem log2_1 : Nat.log2 1 + 1 ≤ 600 := by decide
/-- a product of small ones is small -/
theorem fmul_le {a b : UInt32} (ha : a.toNat ≤ 1098907648) (hb : b.toNat ≤ 1063675494) : (FP.fmul a b).toNat ≤ 1097859072 := by
  obtain ⟨q1, q2, q3, q4, q5⟩ := b32_q
  obtain ⟨c, q, e1, p1, m1, b1⟩ := dec32 (n := a.toNat) (by omega)
  obtain ⟨d, r, e2, p2, m2, b2⟩ := dec32 (n := b.toNat) (by omega)
  show (UInt32.ofNat (FP.Core.encode FP.Core.b32 (FP.Core.round FP.Core.b32 (FP.Core.exactProduct (FP.Core.decode FP.Core.b32 a.toNat) (FP.Core.decode FP.Core.b32 b.toNat))))).toNat ≤ _
  rw [e1, e2]
  show (UInt32.ofNat (FP.Core.encode FP.Core.b32 (FP.Core.roundRatio FP.Core.b32 false (c * d) 1 (q + r)))).toNat ≤ _
  by_cases h0 : c * d = 0
  · rw [h0, round_0, enc_0]; decide
  · have v1 := bits_val (Z := 600) (by omega) (by omega) p1 pos16.1 (by rw [b1, pos16.2]; exact ha)
    have v2 := bits_val (Z := 600) (by omega) (by omega) p2 pos9.1 (by rw [b2, pos9.2]; exact hb)
    have v3 := Nat.mul_le_mul v1 v2
    have r1 := p1.2.1
    have r2 := p2.2.1
    obtain ⟨c2, k2, g1, g2, g3, g4⟩ := round_le (f := FP.Core.b32) (n := c * d) (d := 1) (C := 15728640) (e := q + r) (Q := -20) (Z := 600) (by omega) (by omega) (by decide) log2_1 (by omega) (by omega) pos15.1 (by omega) (by
      refine Nat.le_of_mul_le_mul_right (c := 2 ^ 600) ?_ (pw_pos _)
      have x1 : c * d * 2 ^ (q + r + ((600 : Nat) : Int)).toNat * 2 ^ 600 = c * 2 ^ (q + ((600 : Nat) : Int)).toNat * (d * 2 ^ (r + ((600 : Nat) : Int)).toNat) := by
        rw [Nat.mul_assoc (c * d), ← Nat.pow_add, Nat.mul_mul_mul_comm, ← Nat.pow_add]
        congr 2; omega
      rw [show ((-19 : Int) + ((600 : Nat) : Int)).toNat = 581 by decide, show ((-24 : Int) + ((600 : Nat) : Int)).toNat = 576 by decide] at v3
      rw [x1, show ((-20 : Int) + ((600 : Nat) : Int)).toNat = 580 by decide]
      refine Nat.le_trans v3 ?_
      decide +kernel)
    rw [g1, enc_bits g2]
    rw [pos15.2] at g4
    rw [u32 (by omega)]
    exact g4
theorem one_b32 : FP.Core.decode FP.Core.b32 1065353216 = .fin false 8388608 (-23) := by decide
theorem zero_b32 : FP.Core.decode FP.Core.b32 0 = .fin false 0 (-149) := by decide
theorem sum_ff {c d : Nat} {q r : Int} : FP.Core.exactSum (.fin false c q) (.fin false d r) = .fin false (c * 2 ^ (q - min q r).toNat + d * 2 ^ (r - min q r).toNat) (min q r) := by
  show FP.Core.Datum.fin (FP.Core.sumSign false false (FP.Core.sumUnits false c q false d r (min q r))) (FP.Core.sumUnits false c q false d r (min q r)).natAbs (min q r) = _
  have e : FP.Core.sumUnits false c q false d r (min q r) = ((c * 2 ^ (q - min q r).toNat + d * 2 ^ (r - min q r).toNat : Nat) : Int) := by
    show ((c * 2 ^ (q - min q r).toNat : Nat) : Int) + ((d * 2 ^ (r - min q r).toNat : Nat) : Int) = _
    omega
  rw [e]
  have s : FP.Core.sumSign false false ((c * 2 ^ (q - min q r).toNat + d * 2 ^ (r - min q r).toNat : Nat) : Int) = false := by
    unfold FP.Core.sumSign
    split
    · rfl
    · exact decide_eq_false (by omega)
  rw [s, Int.natAbs_natCast]
theorem fadd_le {a b : UInt32} (ha : a.toNat ≤ 1097859072) (hb : b.toNat = 0 ∨ b.toNat = 1065353216) : (FP.fadd a b).toNat ≤ 1098907648 := by
  obtain ⟨q1, q2, q3, q4, q5⟩ := b32_q
  obtain ⟨c, q, e1, p1, m1, b1⟩ := dec32 (n := a.toNat) (by omega)
  have v1 := bits_val (Z := 600) (by omega) (by omega) p1 pos15.1 (by rw [b1, pos15.2]; exact ha)
  obtain ⟨d, r, e2, m2, v2⟩ : ∃ d r, FP.Core.decode FP.Core.b32 b.toNat = .fin false d r ∧ -149 ≤ r ∧ d * 2 ^ (r + ((600 : Nat) : Int)).toNat ≤ 8388608 * 2 ^ 577 := by
    rcases hb with hb | hb
    · exact ⟨0, -149, by rw [hb]; exact zero_b32, by omega, by rw [Nat.zero_mul]; exact Nat.zero_le _⟩
    · exact ⟨8388608, -23, by rw [hb]; exact one_b32, by omega, by rw [show ((-23 : Int) + ((600 : Nat) : Int)).toNat = 577 by decide]; exact Nat.le_refl _⟩
  show (UInt32.ofNat (FP.Core.encode FP.Core.b32 (FP.Core.round FP.Core.b32 (FP.Core.exactSum (FP.Core.decode FP.Core.b32 a.toNat) (FP.Core.decode FP.Core.b32 b.toNat))))).toNat ≤ _
  rw [e1, e2, sum_ff]
  show (UInt32.ofNat (FP.Core.encode FP.Core.b32 (FP.Core.roundRatio FP.Core.b32 false (c * 2 ^ (q - min q r).toNat + d * 2 ^ (r - min q r).toNat) 1 (min q r)))).toNat ≤ _
  have r1 := p1.2.1
  by_cases h0 : c * 2 ^ (q - min q r).toNat + d * 2 ^ (r - min q r).toNat = 0
  · rw [h0, round_0, enc_0]; decide
  · obtain ⟨c2, k2, g1, g2, g3, g4⟩ := round_le (f := FP.Core.b32) (n := c * 2 ^ (q - min q r).toNat + d * 2 ^ (r - min q r).toNat) (d := 1) (C := 8388608) (e := min q r) (Q := -19) (Z := 600) (by omega) (by omega) (by decide) log2_1 (by omega) (by omega) pos16.1 (by omega) (by
      rw [Nat.add_mul, Nat.mul_assoc c, Nat.mul_assoc d, ← Nat.pow_add, ← Nat.pow_add, show (q - min q r).toNat + (min q r + ((600 : Nat) : Int)).toNat = (q + ((600 : Nat) : Int)).toNat by omega, show (r - min q r).toNat + (min q r + ((600 : Nat) : Int)).toNat = (r + ((600 : Nat) : Int)).toNat by omega]
      rw [show ((-20 : Int) + ((600 : Nat) : Int)).toNat = 580 by decide] at v1
      rw [show ((-19 : Int) + ((600 : Nat) : Int)).toNat = 581 by decide]
      refine Nat.le_trans (Nat.add_le_add v1 v2) ?_
      decide +kernel)
    rw [g1, enc_bits g2]
    rw [pos16.2] at g4
    rw [u32 (by omega)]
    exact g4
/-- how much of a rate stays -/
def fdF (s : Nat) : UInt32 := FP.fdiv (FP.i2f (nI s)) (1092616192 : UInt32)
theorem fdF_ok : ∀ s, s < 10 → (fdF s).toNat ≤ 1063675494 ∧ FP.fadd (FP.fmul 0 (fdF s)) (FP.i2f 0) = 0 := by decide +kernel
theorem i2f_01 : (FP.i2f 0).toNat = 0 ∧ (FP.i2f 1).toNat = 1065353216 := by decide
/-- a rate after a round -/
def nrF (r : UInt32) (s : Nat) (v : Int32) : UInt32 := FP.fadd (FP.fmul r (fdF s)) (FP.i2f v)
theorem nrF_ok {r : UInt32} {s : Nat} {v : Int32} (hr : rOK r) (hs : s ≤ 9) (hv : v = 0 ∨ v = 1) : nn32 (FP.fmul r (fdF s)) = true ∧ nn32 (nrF r s v) = true ∧ rOK (nrF r s v) := by
  have a := fmul_le hr (fdF_ok s (by omega)).1
  have b : (nrF r s v).toNat ≤ 1098907648 := fadd_le a (by
    rcases hv with rfl | rfl
    · exact Or.inl i2f_01.1
    · exact Or.inr i2f_01.2)
  exact ⟨nn32_le (by omega), nn32_le (by omega), b⟩
