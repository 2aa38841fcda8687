/-! FLOATS: how rounding goes. Exponents are shifted by Z so that they are natural numbers. -/
theorem pw_le {a b : Nat} (h : a ≤ b) : 2 ^ a ≤ 2 ^ b := Nat.pow_le_pow_right (by decide) h
theorem pw_lt {a b : Nat} (h : a < b) : 2 ^ a < 2 ^ b := Nat.pow_lt_pow_right (by decide) h
theorem pw_pos (a : Nat) : 0 < 2 ^ a := Nat.two_pow_pos a
theorem pw_split {a b c : Nat} (h : c = a + b) : 2 ^ c = 2 ^ a * 2 ^ b := by rw [h, Nat.pow_add]
/-- a * 2^x <= b * 2^y, shifted or not -/
theorem sc_le {a b : Nat} {x y : Int} {Z : Nat} (hx : 0 ≤ x + Z) (hy : 0 ≤ y + Z) : a * 2 ^ (x - y).toNat ≤ b * 2 ^ (y - x).toNat ↔ a * 2 ^ (x + Z).toNat ≤ b * 2 ^ (y + Z).toNat := by
  by_cases h : y ≤ x
  · rw [show (y - x).toNat = 0 by omega, pw_split (show (x + Z).toNat = (x - y).toNat + (y + Z).toNat by omega), ← Nat.mul_assoc, Nat.pow_zero, Nat.mul_one]
    exact ⟨fun h => Nat.mul_le_mul_right _ h, fun h => Nat.le_of_mul_le_mul_right h (pw_pos _)⟩
  · rw [show (x - y).toNat = 0 by omega, pw_split (show (y + Z).toNat = (y - x).toNat + (x + Z).toNat by omega), ← Nat.mul_assoc, Nat.pow_zero, Nat.mul_one]
    exact ⟨fun h => Nat.mul_le_mul_right _ h, fun h => Nat.le_of_mul_le_mul_right h (pw_pos _)⟩
theorem scz_eq {a b : Nat} {x y : Int} {Z : Nat} (hx : 0 ≤ x + Z) (hy : 0 ≤ y + Z) (h : a * 2 ^ (x + Z).toNat = b * 2 ^ (y + Z).toNat) : a * 2 ^ (x - y).toNat = b * 2 ^ (y - x).toNat := by
  have h1 := (sc_le (a := a) (b := b) hx hy).mpr (Nat.le_of_eq h)
  have h2 := (sc_le (a := b) (b := a) hy hx).mpr (Nat.le_of_eq h.symm)
  omega
/-- the exponent of the leading digit is as it says -/
theorem lead_ok {n d : Nat} {Z : Nat} (hn : 0 < n) (hd : 0 < d) (hZ : d.log2 + 1 ≤ Z) : 0 ≤ FP.Core.leading n d + Z ∧ d * 2 ^ (FP.Core.leading n d + Z).toNat ≤ n * 2 ^ Z ∧ n * 2 ^ Z < d * 2 ^ (FP.Core.leading n d + 1 + Z).toNat ∧ FP.Core.leading n d ≤ n.log2 := by
  have n1 : 2 ^ n.log2 ≤ n := Nat.log2_self_le (by omega)
  have n2 : n < 2 ^ (n.log2 + 1) := Nat.lt_log2_self
  have d1 : 2 ^ d.log2 ≤ d := Nat.log2_self_le (by omega)
  have d2 : d < 2 ^ (d.log2 + 1) := Nat.lt_log2_self
  unfold FP.Core.leading
  dsimp only
  generalize hk : ((n.log2 : Int) - (d.log2 : Int)) = k
  have s := sc_le (a := d) (b := n) (x := k) (y := 0) (Z := Z) (by omega) (by omega)
  rw [show k - 0 = k by omega, show 0 - k = -k by omega, show (0 + (Z : Int)).toNat = Z by omega] at s
  by_cases h : d * 2 ^ k.toNat ≤ n * 2 ^ (-k).toNat
  · rw [if_pos h]
    refine ⟨by omega, s.mp h, ?_, by omega⟩
    calc n * 2 ^ Z < 2 ^ (n.log2 + 1) * 2 ^ Z := Nat.mul_lt_mul_of_pos_right n2 (pw_pos _)
      _ = 2 ^ d.log2 * 2 ^ (k + 1 + Z).toNat := by rw [← Nat.pow_add, ← Nat.pow_add]; congr 1; omega
      _ ≤ d * 2 ^ (k + 1 + Z).toNat := Nat.mul_le_mul_right _ d1
  · rw [if_neg h]
    refine ⟨by omega, ?_, ?_, by omega⟩
    · calc d * 2 ^ (k - 1 + Z).toNat ≤ 2 ^ (d.log2 + 1) * 2 ^ (k - 1 + Z).toNat := Nat.mul_le_mul_right _ (Nat.le_of_lt d2)
        _ = 2 ^ n.log2 * 2 ^ Z := by rw [← Nat.pow_add, ← Nat.pow_add]; congr 1; omega
        _ ≤ n * 2 ^ Z := Nat.mul_le_mul_right _ n1
    · have h2 : ¬ d * 2 ^ (k + Z).toNat ≤ n * 2 ^ Z := fun q => h (s.mpr q)
      rw [show k - 1 + 1 + (Z : Int) = k + Z by omega]
      omega
theorem near_le {n d c : Nat} (hd : 0 < d) (h : n ≤ c * d) : FP.Core.nearest n d ≤ c := by
  have hdiv : n / d ≤ c := Nat.div_le_of_le_mul (by rw [Nat.mul_comm]; exact h)
  have hm := Nat.div_add_mod n d
  by_cases e : n / d = c
  · have : n % d = 0 := by
      have : d * (n / d) = c * d := by rw [e, Nat.mul_comm]
      omega
    unfold FP.Core.nearest
    rw [this, if_pos (by omega)]; omega
  · unfold FP.Core.nearest
    split
    · omega
    · split
      · omega
      · have : n / d % 2 ≤ 1 := by omega
        omega
theorem near_ge {n d c : Nat} (hd : 0 < d) (h : c * d ≤ n) : c ≤ FP.Core.nearest n d := by
  have hdiv : c ≤ n / d := (Nat.le_div_iff_mul_le hd).mpr h
  unfold FP.Core.nearest
  split
  · exact hdiv
  · split
    · omega
    · omega
/-- what a rounded positive number is like -/
def posOK (f : FP.Core.Fmt) (c : Nat) (q : Int) : Prop := c < 2 ^ f.p ∧ f.qmin ≤ q ∧ (q = f.qmin ∨ f.tails ≤ c)
def bitsOf (f : FP.Core.Fmt) (c : Nat) (q : Int) : Nat := (q - f.qmin).toNat * f.tails + c
theorem tails2 {f : FP.Core.Fmt} (hp : 1 ≤ f.p) : 2 ^ f.p = 2 * f.tails := by
  unfold FP.Core.Fmt.tails
  rw [← Nat.pow_succ']; congr 1; omega
theorem enc_bits {f : FP.Core.Fmt} {c : Nat} {q : Int} (h : posOK f c q) : FP.Core.encode f (.fin false c q) = bitsOf f c q := by
  obtain ⟨h1, h2, h3⟩ := h
  unfold FP.Core.encode bitsOf FP.Core.assemble
  dsimp only
  by_cases e : c < f.tails
  · rw [if_pos e, h3.resolve_right (by omega), show (f.qmin - f.qmin).toNat = 0 by omega]
    simp
  · rw [if_neg e]
    have : f.tails ≤ c := by omega
    rw [show Bool.toNat false = 0 from rfl, Nat.zero_mul, Nat.zero_add, Nat.add_mul, Nat.one_mul]
    omega
/-- rounding keeps below what can be written -/
theorem round_le {f : FP.Core.Fmt} {n d C : Nat} {e Q : Int} {Z : Nat} (hp : 1 ≤ f.p) (hn : 0 < n) (hd : 0 < d) (hZ : d.log2 + 1 ≤ Z) (he : 0 ≤ e + Z) (hq : 0 ≤ f.qmin + Z) (hC : posOK f C Q) (hm : Q ≤ f.qmax) (h : n * 2 ^ (e + Z).toNat ≤ C * d * 2 ^ (Q + Z).toNat) : ∃ c q, FP.Core.roundRatio f false n d e = .fin false c q ∧ posOK f c q ∧ q ≤ f.qmax ∧ bitsOf f c q ≤ bitsOf f C Q := by
  obtain ⟨l0, l1, l2, l3⟩ := lead_ok (Z := Z) hn hd hZ
  obtain ⟨C1, C2, C3⟩ := hC
  have t2 := tails2 hp
  unfold FP.Core.roundRatio
  rw [if_neg (by omega)]
  generalize hL : FP.Core.leading n d = L at l0 l1 l2 l3
  unfold FP.Core.roundAt
  have hqe : FP.Core.quantum f n d e = max f.qmin (L + e - ((f.p : Int) - 1)) := by unfold FP.Core.quantum; rw [hL]
  rw [hqe]
  generalize hqq : max f.qmin (L + e - ((f.p : Int) - 1)) = q
  have q1 : f.qmin ≤ q := by omega
  have q2 : L + e - ((f.p : Int) - 1) ≤ q := by omega
  have q3 : q ≤ Q := by
    by_cases g : L + e - ((f.p : Int) - 1) ≤ Q
    · omega
    · exfalso
      have x1 : d * 2 ^ (L + Z).toNat * 2 ^ (e + Z).toNat ≤ n * 2 ^ Z * 2 ^ (e + Z).toNat := Nat.mul_le_mul_right _ l1
      have x2 : n * 2 ^ (e + Z).toNat * 2 ^ Z ≤ C * d * 2 ^ (Q + Z).toNat * 2 ^ Z := Nat.mul_le_mul_right _ h
      have x3 : C * d * 2 ^ (Q + Z).toNat * 2 ^ Z < 2 ^ f.p * d * 2 ^ (Q + Z).toNat * 2 ^ Z := by
        refine Nat.mul_lt_mul_of_pos_right (Nat.mul_lt_mul_of_pos_right (Nat.mul_lt_mul_of_pos_right C1 hd) (pw_pos _)) (pw_pos _)
      have x4 : 2 ^ f.p * d * 2 ^ (Q + Z).toNat * 2 ^ Z ≤ d * 2 ^ (L + Z).toNat * 2 ^ (e + Z).toNat := by
        rw [Nat.mul_comm (2 ^ f.p) d, Nat.mul_assoc d, Nat.mul_assoc d, Nat.mul_assoc d, ← Nat.pow_add, ← Nat.pow_add, ← Nat.pow_add]
        exact Nat.mul_le_mul_left _ (pw_le (by omega))
      rw [Nat.mul_right_comm] at x2
      omega
  have den : 0 < FP.Core.unitsDen d e q := by unfold FP.Core.unitsDen; exact Nat.mul_pos hd (pw_pos _)
  have up : FP.Core.nearest (FP.Core.unitsNum n e q) (FP.Core.unitsDen d e q) ≤ 2 ^ f.p := by
    apply near_le den
    unfold FP.Core.unitsNum FP.Core.unitsDen
    rw [← Nat.mul_assoc, sc_le (Z := Z) he (by omega)]
    refine Nat.le_of_mul_le_mul_right (c := 2 ^ Z) ?_ (pw_pos _)
    calc n * 2 ^ (e + Z).toNat * 2 ^ Z = n * 2 ^ Z * 2 ^ (e + Z).toNat := Nat.mul_right_comm _ _ _
      _ ≤ d * 2 ^ (L + 1 + Z).toNat * 2 ^ (e + Z).toNat := Nat.mul_le_mul_right _ (Nat.le_of_lt l2)
      _ ≤ 2 ^ f.p * d * 2 ^ (q + Z).toNat * 2 ^ Z := by
        rw [Nat.mul_comm (2 ^ f.p) d, Nat.mul_assoc d, Nat.mul_assoc d, Nat.mul_assoc d, ← Nat.pow_add, ← Nat.pow_add, ← Nat.pow_add]
        exact Nat.mul_le_mul_left _ (pw_le (by omega))
  have lo : q = f.qmin ∨ f.tails ≤ FP.Core.nearest (FP.Core.unitsNum n e q) (FP.Core.unitsDen d e q) := by
    by_cases g : q = f.qmin
    · exact Or.inl g
    · right
      apply near_ge den
      unfold FP.Core.unitsNum FP.Core.unitsDen
      rw [← Nat.mul_assoc, sc_le (Z := Z) (by omega) he]
      refine Nat.le_of_mul_le_mul_right (c := 2 ^ Z) ?_ (pw_pos _)
      calc f.tails * d * 2 ^ (q + Z).toNat * 2 ^ Z ≤ d * 2 ^ (L + Z).toNat * 2 ^ (e + Z).toNat := by
            unfold FP.Core.Fmt.tails
            rw [Nat.mul_comm (2 ^ (f.p - 1)) d, Nat.mul_assoc d, Nat.mul_assoc d, Nat.mul_assoc d, ← Nat.pow_add, ← Nat.pow_add, ← Nat.pow_add]
            exact Nat.mul_le_mul_left _ (pw_le (by omega))
        _ ≤ n * 2 ^ Z * 2 ^ (e + Z).toNat := Nat.mul_le_mul_right _ l1
        _ = n * 2 ^ (e + Z).toNat * 2 ^ Z := Nat.mul_right_comm _ _ _
  have top : q = Q → FP.Core.nearest (FP.Core.unitsNum n e q) (FP.Core.unitsDen d e q) ≤ C := by
    intro g
    subst g
    apply near_le den
    unfold FP.Core.unitsNum FP.Core.unitsDen
    rw [← Nat.mul_assoc, sc_le (Z := Z) he (by omega)]
    exact h
  generalize FP.Core.nearest (FP.Core.unitsNum n e q) (FP.Core.unitsDen d e q) = N at up lo top
  unfold FP.Core.settle FP.Core.bound
  by_cases g : N < 2 ^ f.p
  · rw [if_pos g, if_pos (by omega)]
    refine ⟨N, q, rfl, ⟨g, q1, lo⟩, by omega, ?_⟩
    unfold bitsOf
    by_cases g2 : q = Q
    · have := top g2; rw [g2]; omega
    · have hQ : f.tails ≤ C := C3.resolve_left (by omega)
      have : ((q - f.qmin).toNat + 1) * f.tails ≤ (Q - f.qmin).toNat * f.tails := Nat.mul_le_mul_right _ (by omega)
      rw [Nat.add_mul] at this
      omega
  · have g3 : q ≠ Q := fun z => by have := top z; omega
    rw [if_neg g, if_pos (by omega)]
    have tp : 0 < f.tails := pw_pos _
    refine ⟨f.tails, q + 1, rfl, ⟨by omega, by omega, Or.inr (Nat.le_refl _)⟩, by omega, ?_⟩
    unfold bitsOf
    have hQ : f.tails ≤ C := C3.resolve_left (by omega)
    have : (q + 1 - f.qmin).toNat * f.tails ≤ (Q - f.qmin).toNat * f.tails := Nat.mul_le_mul_right _ (by omega)
    omega
/-- what can be written is written -/
theorem round_eq {f : FP.Core.Fmt} {n d C : Nat} {e Q : Int} {Z : Nat} (hp : 1 ≤ f.p) (hn : 0 < n) (hd : 0 < d) (hZ : d.log2 + 1 ≤ Z) (he : 0 ≤ e + Z) (hq : 0 ≤ f.qmin + Z) (hC : posOK f C Q) (hm : Q ≤ f.qmax) (h : n * 2 ^ (e + Z).toNat = C * d * 2 ^ (Q + Z).toNat) : FP.Core.roundRatio f false n d e = .fin false C Q := by
  obtain ⟨l0, l1, l2, l3⟩ := lead_ok (Z := Z) hn hd hZ
  obtain ⟨C1, C2, C3⟩ := hC
  have t2 := tails2 hp
  unfold FP.Core.roundRatio
  rw [if_neg (by omega)]
  generalize hL : FP.Core.leading n d = L at l0 l1 l2 l3
  unfold FP.Core.roundAt
  have hqe : FP.Core.quantum f n d e = max f.qmin (L + e - ((f.p : Int) - 1)) := by unfold FP.Core.quantum; rw [hL]
  rw [hqe]
  have qQ : max f.qmin (L + e - ((f.p : Int) - 1)) = Q := by
    have up : L + e - ((f.p : Int) - 1) ≤ Q := by
      by_cases g : L + e - ((f.p : Int) - 1) ≤ Q
      · exact g
      · exfalso
        have x1 : d * 2 ^ (L + Z).toNat * 2 ^ (e + Z).toNat ≤ n * 2 ^ Z * 2 ^ (e + Z).toNat := Nat.mul_le_mul_right _ l1
        have x2 : n * 2 ^ (e + Z).toNat * 2 ^ Z = C * d * 2 ^ (Q + Z).toNat * 2 ^ Z := by rw [h]
        have x3 : C * d * 2 ^ (Q + Z).toNat * 2 ^ Z < 2 ^ f.p * d * 2 ^ (Q + Z).toNat * 2 ^ Z := by
          refine Nat.mul_lt_mul_of_pos_right (Nat.mul_lt_mul_of_pos_right (Nat.mul_lt_mul_of_pos_right C1 hd) (pw_pos _)) (pw_pos _)
        have x4 : 2 ^ f.p * d * 2 ^ (Q + Z).toNat * 2 ^ Z ≤ d * 2 ^ (L + Z).toNat * 2 ^ (e + Z).toNat := by
          rw [Nat.mul_comm (2 ^ f.p) d, Nat.mul_assoc d, Nat.mul_assoc d, Nat.mul_assoc d, ← Nat.pow_add, ← Nat.pow_add, ← Nat.pow_add]
          exact Nat.mul_le_mul_left _ (pw_le (by omega))
        rw [Nat.mul_right_comm] at x2
        omega
    rcases C3 with g | g
    · omega
    · have dn : Q ≤ L + e - ((f.p : Int) - 1) := by
        by_cases k : Q ≤ L + e - ((f.p : Int) - 1)
        · exact k
        · exfalso
          have x1 : n * 2 ^ Z * 2 ^ (e + Z).toNat < d * 2 ^ (L + 1 + Z).toNat * 2 ^ (e + Z).toNat := Nat.mul_lt_mul_of_pos_right l2 (pw_pos _)
          have x2 : n * 2 ^ (e + Z).toNat * 2 ^ Z = C * d * 2 ^ (Q + Z).toNat * 2 ^ Z := by rw [h]
          have x3 : f.tails * d * 2 ^ (Q + Z).toNat * 2 ^ Z ≤ C * d * 2 ^ (Q + Z).toNat * 2 ^ Z := Nat.mul_le_mul_right _ (Nat.mul_le_mul_right _ (Nat.mul_le_mul_right _ g))
          have x4 : d * 2 ^ (L + 1 + Z).toNat * 2 ^ (e + Z).toNat ≤ f.tails * d * 2 ^ (Q + Z).toNat * 2 ^ Z := by
            unfold FP.Core.Fmt.tails
            rw [Nat.mul_comm (2 ^ (f.p - 1)) d, Nat.mul_assoc d, Nat.mul_assoc d, Nat.mul_assoc d, ← Nat.pow_add, ← Nat.pow_add, ← Nat.pow_add]
            exact Nat.mul_le_mul_left _ (pw_le (by omega))
          rw [Nat.mul_right_comm] at x2
          omega
      omega
  rw [qQ]
  have den : 0 < FP.Core.unitsDen d e Q := by unfold FP.Core.unitsDen; exact Nat.mul_pos hd (pw_pos _)
  have eq : FP.Core.unitsNum n e Q = C * FP.Core.unitsDen d e Q := by
    unfold FP.Core.unitsNum FP.Core.unitsDen
    rw [← Nat.mul_assoc]
    exact scz_eq (Z := Z) he (by omega) h
  have N : FP.Core.nearest (FP.Core.unitsNum n e Q) (FP.Core.unitsDen d e Q) = C := by
    have a := near_le den (Nat.le_of_eq eq)
    have b := near_ge den (Nat.le_of_eq eq.symm)
    omega
  rw [N]
  unfold FP.Core.settle FP.Core.bound
  rw [if_pos C1, if_pos hm]
