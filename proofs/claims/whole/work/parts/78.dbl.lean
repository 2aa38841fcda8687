/-! DOUBLES: the bits, whole numbers, quotients -/
theorem round_ge {f : FP.Core.Fmt} {n d C : Nat} {e Q : Int} {Z : Nat} (hp : 1 ≤ f.p) (hn : 0 < n) (hd : 0 < d) (hZ : d.log2 + 1 ≤ Z) (he : 0 ≤ e + Z) (hq : 0 ≤ f.qmin + Z) (hC : posOK f C Q) (h : C * d * 2 ^ (Q + Z).toNat ≤ n * 2 ^ (e + Z).toNat) {c : Nat} {q : Int} (hr : FP.Core.roundRatio f false n d e = .fin false c q) : bitsOf f C Q ≤ bitsOf f c q := by
  obtain ⟨l0, l1, l2, l3⟩ := lead_ok (Z := Z) hn hd hZ
  obtain ⟨C1, C2, C3⟩ := hC
  have t2 := tails2 hp
  have tp : 0 < f.tails := pw_pos _
  unfold FP.Core.roundRatio at hr
  rw [if_neg (by omega)] at hr
  generalize hL : FP.Core.leading n d = L at l0 l1 l2 l3
  unfold FP.Core.roundAt at hr
  have hqe : FP.Core.quantum f n d e = max f.qmin (L + e - ((f.p : Int) - 1)) := by unfold FP.Core.quantum; rw [hL]
  rw [hqe] at hr
  generalize hqq : max f.qmin (L + e - ((f.p : Int) - 1)) = r at hr
  have q1 : f.qmin ≤ r := by omega
  have q2 : L + e - ((f.p : Int) - 1) ≤ r := by omega
  have q3 : Q ≤ r := by
    by_cases g : Q ≤ r
    · exact g
    · exfalso
      have x0 : f.tails ≤ C := C3.resolve_left (by omega)
      have x1 : n * 2 ^ Z * 2 ^ (e + Z).toNat < d * 2 ^ (L + 1 + Z).toNat * 2 ^ (e + Z).toNat := Nat.mul_lt_mul_of_pos_right l2 (pw_pos _)
      have x2 : C * d * 2 ^ (Q + Z).toNat * 2 ^ Z ≤ n * 2 ^ (e + Z).toNat * 2 ^ Z := Nat.mul_le_mul_right _ h
      have x3 : f.tails * d * 2 ^ (Q + Z).toNat * 2 ^ Z ≤ C * d * 2 ^ (Q + Z).toNat * 2 ^ Z := Nat.mul_le_mul_right _ (Nat.mul_le_mul_right _ (Nat.mul_le_mul_right _ x0))
      have x4 : d * 2 ^ (L + 1 + Z).toNat * 2 ^ (e + Z).toNat ≤ f.tails * d * 2 ^ (Q + Z).toNat * 2 ^ Z := by
        unfold FP.Core.Fmt.tails
        rw [Nat.mul_comm (2 ^ (f.p - 1)) d, Nat.mul_assoc d, Nat.mul_assoc d, Nat.mul_assoc d, ← Nat.pow_add, ← Nat.pow_add, ← Nat.pow_add]
        exact Nat.mul_le_mul_left _ (pw_le (by omega))
      rw [Nat.mul_right_comm] at x1
      omega
  have den : 0 < FP.Core.unitsDen d e r := by unfold FP.Core.unitsDen; exact Nat.mul_pos hd (pw_pos _)
  have lo : r = f.qmin ∨ f.tails ≤ FP.Core.nearest (FP.Core.unitsNum n e r) (FP.Core.unitsDen d e r) := by
    by_cases g : r = f.qmin
    · exact Or.inl g
    · right
      apply near_ge den
      unfold FP.Core.unitsNum FP.Core.unitsDen
      rw [← Nat.mul_assoc, sc_le (Z := Z) (by omega) he]
      refine Nat.le_of_mul_le_mul_right (c := 2 ^ Z) ?_ (pw_pos _)
      calc f.tails * d * 2 ^ (r + Z).toNat * 2 ^ Z ≤ d * 2 ^ (L + Z).toNat * 2 ^ (e + Z).toNat := by
            unfold FP.Core.Fmt.tails
            rw [Nat.mul_comm (2 ^ (f.p - 1)) d, Nat.mul_assoc d, Nat.mul_assoc d, Nat.mul_assoc d, ← Nat.pow_add, ← Nat.pow_add, ← Nat.pow_add]
            exact Nat.mul_le_mul_left _ (pw_le (by omega))
        _ ≤ n * 2 ^ Z * 2 ^ (e + Z).toNat := Nat.mul_le_mul_right _ l1
        _ = n * 2 ^ (e + Z).toNat * 2 ^ Z := Nat.mul_right_comm _ _ _
  have bot : r = Q → C ≤ FP.Core.nearest (FP.Core.unitsNum n e r) (FP.Core.unitsDen d e r) := by
    intro g
    subst g
    apply near_ge den
    unfold FP.Core.unitsNum FP.Core.unitsDen
    rw [← Nat.mul_assoc, sc_le (Z := Z) (by omega) he]
    exact h
  generalize FP.Core.nearest (FP.Core.unitsNum n e r) (FP.Core.unitsDen d e r) = N at hr lo bot
  unfold FP.Core.settle FP.Core.bound at hr
  have up : ∀ r2 : Int, Q < r2 → (Q - f.qmin).toNat * f.tails + C < (r2 - f.qmin).toNat * f.tails + f.tails := by
    intro r2 g
    have : ((Q - f.qmin).toNat + 1) * f.tails ≤ (r2 - f.qmin).toNat * f.tails := Nat.mul_le_mul_right _ (by omega)
    rw [Nat.add_mul] at this
    omega
  unfold bitsOf
  by_cases g : N < 2 ^ f.p
  · rw [if_pos g] at hr
    by_cases g2 : r ≤ f.qmax
    · rw [if_pos g2] at hr
      have e1 : N = c := congrArg (fun d : FP.Core.Datum => match d with | .fin _ c _ => c | _ => 0) hr
      have e2 : r = q := congrArg (fun d : FP.Core.Datum => match d with | .fin _ _ q => q | _ => 0) hr
      rw [← e1, ← e2]
      by_cases g3 : r = Q
      · have := bot g3
        rw [g3]; omega
      · have := up r (by omega)
        have := lo.resolve_left (by omega)
        omega
    · rw [if_neg g2] at hr; cases hr
  · rw [if_neg g] at hr
    by_cases g2 : r + 1 ≤ f.qmax
    · rw [if_pos g2] at hr
      have e1 : f.tails = c := congrArg (fun d : FP.Core.Datum => match d with | .fin _ c _ => c | _ => 0) hr
      have e2 : r + 1 = q := congrArg (fun d : FP.Core.Datum => match d with | .fin _ _ q => q | _ => 0) hr
      rw [← e1, ← e2]
      have := up (r + 1) (by omega)
      omega
    · rw [if_neg g2] at hr; cases hr
def nL (a : Nat) : Int64 := Int64.ofNat a
theorem nL_add (a b : Nat) : nL a + nL b = nL (a + b) := (Int64.ofNat_add a b).symm
theorem nL_dec {a : Nat} (h : 1 ≤ a) : nL a - 1 = nL (a - 1) := by
  have e : nL a = nL (a - 1) + nL 1 := by rw [nL_add, Nat.sub_add_cancel h]
  rw [e]
  exact Int64.add_sub_cancel _ _
theorem toL_nL (v : UInt64) : v.toInt64 = nL v.toNat := by
  apply Int64.toBitVec_inj.mp
  apply BitVec.eq_of_toNat_eq
  show v.toNat = v.toNat % 2 ^ 64
  exact (Nat.mod_eq_of_lt v.toNat_lt).symm
theorem ofI_nL (t : Nat) : Int64.ofInt (t : Int) = nL t := by
  apply Int64.toBitVec_inj.mp
  show BitVec.ofInt 64 (t : Int) = BitVec.ofNat 64 t
  exact BitVec.ofInt_natCast 64 t
theorem d2l_of {z : UInt64} {c t : Nat} {q : Int} (h : FP.Core.decode FP.Core.b64 z.toNat = .fin false c q) (ht : FP.Core.truncate false c q = (t : Int)) (hb : t < 2 ^ 63) : FP.d2l z = nL t := by
  show Int64.ofInt (FP.Core.toInt (-2 ^ 63) (2 ^ 63 - 1) (FP.Core.decode FP.Core.b64 z.toNat)) = _
  rw [h]
  show Int64.ofInt (max (-2 ^ 63) (min (2 ^ 63 - 1) (FP.Core.truncate false c q))) = _
  rw [ht, show max (-2 ^ 63 : Int) (min (2 ^ 63 - 1) (t : Int)) = (t : Int) by omega, ofI_nL]
theorem shl52 : ∀ P, P < 1024 → nL P <<< ((52 : Int32).toInt64 &&& 63) = nL (4503599627370496 * P) := by decide +kernel
theorem of_l10 {h : Hp} {t : Nat} (ht : t < 4503599627370496) : ∀ (r k fuel E P : Nat) (v : UInt64), E + r = 1023 → 1 ≤ E → k + r ≤ 1022 → r < fuel → r ≤ P → v.toNat = 4503599627370496 * E + t → ∃ v1, f_X0_ofDouble_l10 h fuel v (nL P) (nI k) = some (v1, nL (P - r)) ∧ v1.toNat = 4607182418800017408 + t := by
  obtain ⟨q1, q2, q3, q4, q5⟩ := b64_q
  intro r
  induction r with
  | zero =>
    intro k fuel E P v hE h1 hk hf hP hv
    obtain ⟨fuel, rfl⟩ : ∃ z, fuel = z + 1 := ⟨fuel - 1, by omega⟩
    refine ⟨v, ?_, by omega⟩
    rw [f_X0_ofDouble_l10_s, dcmp_1 (a := v) (by omega)]
    by_cases g : (1022 : Int32) ≤ nI k
    · rw [if_pos g]; rfl
    · rw [if_neg g, if_pos (by rcases cv_ge (op := .g) (show ¬ v.toNat < 4607182418800017408 by omega) with z | z <;> rw [z] <;> decide)]; rfl
  | succ r ih =>
    intro k fuel E P v hE h1 hk hf hP hv
    obtain ⟨fuel, rfl⟩ : ∃ z, fuel = z + 1 := ⟨fuel - 1, by omega⟩
    have e : (FP.dmul v (4611686018427387904 : UInt64)).toNat = v.toNat + 4503599627370496 := by
      show (UInt64.ofNat (FP.Core.mul FP.Core.b64 v.toNat 4611686018427387904)).toNat = _
      rw [dbl_n ok64 two64 (by rw [m64, q3]; omega) (by rw [q3]; omega), q3, u64 (by omega)]
    rw [f_X0_ofDouble_l10_s, dcmp_1 (a := v) (by omega), if_neg (show ¬ (1022 : Int32) ≤ nI k from nI_ge (b := 1022) (by omega) (by decide)), cv_lt (by omega), if_neg (by decide), if_pos (nn64_le (by omega)), nL_dec (by omega), nI_1]
    obtain ⟨v1, a1, a2⟩ := ih (k + 1) fuel (E + 1) (P - 1) (FP.dmul v (4611686018427387904 : UInt64)) (by omega) (by omega) (by omega) (by omega) (by omega) (by omega)
    refine ⟨v1, ?_, a2⟩
    rw [a1, show P - 1 - r = P - (r + 1) by omega]
theorem j42_n {h : Hp} {v : UInt64} {P t : Nat} (ht : t < 4503599627370496) (hP : P < 1024) (hv : v.toNat = 4607182418800017408 + t) : f_X0_ofDouble_j42 h v (nL P) = some (nL (4503599627370496 * P + t)) := by
  obtain ⟨q1, q2, q3, q4, q5⟩ := b64_q
  have P1 : posOK FP.Core.b64 (FP.Core.b64.tails + t) (1 - (FP.Core.b64.p : Int)) := ⟨by rw [q3, q5]; show 4503599627370496 + t < 9007199254740992; omega, by omega, Or.inr (by omega)⟩
  have hb : bitsOf FP.Core.b64 (FP.Core.b64.tails + t) (1 - (FP.Core.b64.p : Int)) = v.toNat := by
    unfold bitsOf
    rw [q1, q3, q5, show (1 - ((53 : Nat) : Int) - -1074).toNat = 1022 by decide]
    omega
  have dx : FP.Core.decode FP.Core.b64 v.toNat = .fin false (FP.Core.b64.tails + t) (1 - (FP.Core.b64.p : Int)) := by
    rw [← hb]; exact dec_enc (by omega) (by omega) (by omega) P1 (by omega)
  obtain ⟨y, z, c, q, a1, a2, a3, a4, a5, a6⟩ := frac_n ok64 (by rw [q3]; exact ht) dx one64 big64
  rw [m64] at a2 a4
  have e1 : (FP.dsub v FP.dconst1).toNat = y := by
    show (UInt64.ofNat (FP.Core.sub FP.Core.b64 v.toNat 4607182418800017408)).toNat = _
    rw [a1, u64 (by omega)]
  have e2 : (FP.dmul (FP.dsub v FP.dconst1) (4841369599423283200 : UInt64)).toNat = z := by
    show (UInt64.ofNat (FP.Core.mul FP.Core.b64 (FP.dsub v FP.dconst1).toNat 4841369599423283200)).toNat = _
    rw [e1, a3, u64 (by omega)]
  unfold f_X0_ofDouble_j42
  rw [if_pos (nn64_le (by omega)), if_pos (nn64_le (by omega)), d2l_of (by rw [e2]; exact a5) a6 (by omega), shl52 P hP, nL_add]
/-- the class's bits of a double from the smallest usual one to below 2 are its bits -/
theorem ofDouble_ok {h : Hp} {v : UInt64} (h1 : 4503599627370496 ≤ v.toNat) (h2 : v.toNat < 4611686018427387904) : f_X0_ofDouble h v = some v.toInt64 := by
  rw [toL_nL]
  unfold f_X0_ofDouble
  obtain ⟨v2, a1, a2⟩ := of_l10 (h := h) (t := v.toNat % 4503599627370496) (Nat.mod_lt _ (by decide)) (1023 - v.toNat / 4503599627370496) 0 fu (v.toNat / 4503599627370496) 1023 v (by omega) (by omega) (by omega) (by show _ < 5000; omega) (by omega) (by omega)
  rw [show f_X0_ofDouble_l10 h fu v 1023 0 = _ from a1, bn2_some, j42_n (Nat.mod_lt _ (by decide)) (by omega) a2]
  congr 2
  omega
theorem dtlb_ok {h : Hp} {v : UInt64} (hv : v.toNat < 9218868437227405312) : f_Jxe99ae_doubleToLongBits_ccdee h v = some v.toInt64 := by
  unfold f_Jxe99ae_doubleToLongBits_ccdee f_Jxe99ae_isNaN_b9ae7
  rw [dcmp_b hv hv, cv_eq, if_pos rfl, bn1_some, if_pos rfl]
/-- the whole number N, as it is written -/
def isI (f : FP.Core.Fmt) (x N : Nat) : Prop := (N = 0 ∧ x = 0) ∨ (0 < N ∧ ∃ s : Nat, s ≤ f.p ∧ posOK f (N * 2 ^ s) (0 - (s : Int)) ∧ x = bitsOf f (N * 2 ^ s) (0 - (s : Int)))
theorem isI_lt {f : FP.Core.Fmt} (F : okF f) {x N : Nat} (H : isI f x N) : x < (f.exps - 1) * f.tails ∧ (x = 0 ↔ N = 0) := by
  have tp : 0 < f.tails := pw_pos _
  have F2 := F
  obtain ⟨f1, f2, f3, f4, f5, f6, f7, f8, f9⟩ := F2
  rcases H with ⟨h1, h2⟩ | ⟨h0, s, h1, h2, h3⟩
  · subst h1; subst h2
    exact ⟨Nat.mul_pos (by omega) tp, by simp⟩
  · refine ⟨by rw [h3]; exact bits_lt F h2 (by omega), ?_⟩
    have : 0 < N * 2 ^ s := Nat.mul_pos h0 (pw_pos _)
    rw [h3]
    unfold bitsOf
    omega
theorem isI_dec {f : FP.Core.Fmt} (F : okF f) {x N : Nat} (H : isI f x N) : ∃ c q, FP.Core.decode f x = .fin false c q ∧ -1500 ≤ q ∧ q ≤ 0 ∧ c < 2 ^ f.p ∧ c * 2 ^ (q + ((4000 : Nat) : Int)).toNat = N * 2 ^ 4000 := by
  obtain ⟨f1, f2, f3, f4, f5, f6, f7, f8, f9⟩ := F
  rcases H with ⟨h1, h2⟩ | ⟨h0, s, h1, h2, h3⟩
  · subst h1; subst h2
    have P0 : posOK f 0 f.qmin := ⟨pw_pos _, Int.le_refl _, Or.inl rfl⟩
    have d0 := dec_enc (f := f) (by omega) f2 f3 P0 (by omega)
    unfold bitsOf at d0
    rw [show (f.qmin - f.qmin).toNat = 0 by omega, Nat.zero_mul] at d0
    exact ⟨0, f.qmin, d0, by omega, by omega, pw_pos _, by rw [Nat.zero_mul, Nat.zero_mul]⟩
  · refine ⟨_, _, by rw [h3]; exact dec_enc (by omega) f2 f3 h2 (by omega), by omega, by omega, h2.1, ?_⟩
    rw [Nat.mul_assoc, ← Nat.pow_add]
    congr 2; omega
theorem isI_rnd {f : FP.Core.Fmt} (F : okF f) {N n : Nat} {e : Int} (hN : N < 2 ^ f.p) (he : -4000 ≤ e) (h : n * 2 ^ (e + ((4000 : Nat) : Int)).toNat = N * 2 ^ 4000) : isI f (FP.Core.encode f (FP.Core.roundRatio f false n 1 e)) N := by
  have F2 := F
  obtain ⟨f1, f2, f3, f4, f5, f6, f7, f8, f9⟩ := F2
  by_cases h0 : N = 0
  · subst h0
    rw [Nat.zero_mul] at h
    have n0 : n = 0 := by
      rcases Nat.mul_eq_zero.mp h with g | g
      · exact g
      · have := pw_pos (e + ((4000 : Nat) : Int)).toNat; omega
    subst n0
    have P0 : posOK f 0 f.qmin := ⟨pw_pos _, Int.le_refl _, Or.inl rfl⟩
    refine Or.inl ⟨rfl, ?_⟩
    rw [round_0, enc_bits P0]
    unfold bitsOf
    rw [show (f.qmin - f.qmin).toNat = 0 by omega, Nat.zero_mul]
  · have hn : 0 < n := by
      rcases Nat.eq_zero_or_pos n with g | g
      · rw [g, Nat.zero_mul] at h
        have := Nat.mul_pos (show 0 < N by omega) (pw_pos 4000)
        omega
      · exact g
    obtain ⟨s, a, P, r⟩ := round_int F (N := N) (n := n) (e := e) (y := 0) (by omega) hN (by omega) (by omega) hn he (by rw [h]; rfl)
    exact Or.inr ⟨by omega, s, a, P, by rw [r, enc_bits P]⟩
theorem isI_int {f : FP.Core.Fmt} (F : okF f) {N : Nat} (hN : N < 2 ^ f.p) : isI f (FP.Core.fromInt f (N : Int)) N := by
  unfold FP.Core.fromInt FP.Core.ofInt
  rw [show decide ((N : Int) < 0) = false from decide_eq_false (by omega), Int.natAbs_natCast]
  exact isI_rnd F hN (by decide) rfl
theorem isI_add {f : FP.Core.Fmt} (F : okF f) {x y a b : Nat} (H1 : isI f x a) (H2 : isI f y b) (hN : a + b < 2 ^ f.p) : isI f (FP.Core.add f x y) (a + b) := by
  obtain ⟨c, q, e1, x1, x2, x3, x4⟩ := isI_dec F H1
  obtain ⟨d, r, e2, y1, y2, y3, y4⟩ := isI_dec F H2
  unfold FP.Core.add
  rw [e1, e2, sum_ff]
  refine isI_rnd F hN (by omega) ?_
  rw [Nat.add_mul, Nat.mul_assoc c, Nat.mul_assoc d, ← Nat.pow_add, ← Nat.pow_add, show (q - min q r).toNat + (min q r + ((4000 : Nat) : Int)).toNat = (q + ((4000 : Nat) : Int)).toNat by omega, show (r - min q r).toNat + (min q r + ((4000 : Nat) : Int)).toNat = (r + ((4000 : Nat) : Int)).toNat by omega, x4, y4, Nat.add_mul]
theorem isI_mul {f : FP.Core.Fmt} (F : okF f) {x y a b : Nat} (H1 : isI f x a) (H2 : isI f y b) (hN : a * b < 2 ^ f.p) : isI f (FP.Core.mul f x y) (a * b) := by
  obtain ⟨c, q, e1, x1, x2, x3, x4⟩ := isI_dec F H1
  obtain ⟨d, r, e2, y1, y2, y3, y4⟩ := isI_dec F H2
  unfold FP.Core.mul
  rw [e1, e2, prod_ff]
  refine isI_rnd F hN (by omega) ?_
  refine Nat.eq_of_mul_eq_mul_right (pw_pos 4000) ?_
  have k : c * d * 2 ^ (q + r + ((4000 : Nat) : Int)).toNat * 2 ^ 4000 = c * 2 ^ (q + ((4000 : Nat) : Int)).toNat * (d * 2 ^ (r + ((4000 : Nat) : Int)).toNat) := by
    rw [Nat.mul_assoc (c * d), ← Nat.pow_add, Nat.mul_mul_mul_comm, ← Nat.pow_add]
    congr 2; omega
  rw [k, x4, y4, Nat.mul_mul_mul_comm, Nat.mul_assoc (a * b)]
/-- a quotient of whole numbers that is some 2^k at most -/
theorem isI_div {f : FP.Core.Fmt} (F : okF f) {x y a b k : Nat} (H1 : isI f x a) (H2 : isI f y b) (h0 : 0 < a) (hb : 0 < b) (hk : k ≤ 30) (hab : a ≤ b * 2 ^ k) : ∃ c q, FP.Core.div f x y = bitsOf f c q ∧ posOK f c q ∧ q ≤ f.qmax ∧ bitsOf f c q ≤ bitsOf f f.tails (1 - (f.p : Int) + k) ∧ (b ≤ a * 8 → bitsOf f f.tails (1 - (f.p : Int) - 3) ≤ bitsOf f c q) := by
  have F2 := F
  obtain ⟨f1, f2, f3, f4, f5, f6, f7, f8, f9⟩ := F2
  obtain ⟨c, q, e1, x1, x2, x3, x4⟩ := isI_dec F H1
  obtain ⟨d, r, e2, y1, y2, y3, y4⟩ := isI_dec F H2
  have tp : 0 < f.tails := pw_pos _
  have t2 := tails2 (f := f) (by omega)
  have c0 : 0 < c := by
    rcases Nat.eq_zero_or_pos c with g | g
    · rw [g, Nat.zero_mul] at x4
      have := Nat.mul_pos h0 (pw_pos 4000)
      omega
    · exact g
  have d0 : 0 < d := by
    rcases Nat.eq_zero_or_pos d with g | g
    · rw [g, Nat.zero_mul] at y4
      have := Nat.mul_pos hb (pw_pos 4000)
      omega
    · exact g
  have dl : d.log2 + 1 ≤ 8000 := by
    have : d.log2 < f.p := (Nat.log2_lt (by omega)).mpr y3
    omega
  have PC : posOK f f.tails (1 - (f.p : Int) + k) := ⟨by omega, by omega, Or.inr (Nat.le_refl _)⟩
  have PD : posOK f f.tails (1 - (f.p : Int) - 3) := ⟨by omega, by omega, Or.inr (Nat.le_refl _)⟩
  have L : ∀ z : Int, z = 8000 → c * 2 ^ (q - r + z).toNat * 2 ^ (r + ((4000 : Nat) : Int)).toNat = a * 2 ^ 4000 * 2 ^ 8000 := by
    intro z hz
    rw [← x4, Nat.mul_assoc, ← Nat.pow_add, Nat.mul_assoc, ← Nat.pow_add]
    congr 2; omega
  have R : ∀ (Q z : Int), z = 8000 → -4000 ≤ Q → f.tails * d * 2 ^ (Q + z).toNat * 2 ^ (r + ((4000 : Nat) : Int)).toNat = b * 2 ^ 4000 * 2 ^ (Q + (f.p : Int) - 1 + 8000).toNat := by
    intro Q z hz hQ
    rw [← y4]
    unfold FP.Core.Fmt.tails
    rw [Nat.mul_comm (2 ^ (f.p - 1)) d, Nat.mul_assoc d, Nat.mul_assoc d, ← Nat.pow_add, ← Nat.pow_add, Nat.mul_assoc d, ← Nat.pow_add]
    congr 2; omega
  obtain ⟨c2, q2, g1, g2, g3, g4⟩ := round_le (f := f) (n := c) (d := d) (C := f.tails) (e := q - r) (Q := 1 - (f.p : Int) + k) (Z := 8000) (by omega) c0 d0 dl (by omega) (by omega) PC (by omega) (by
    refine Nat.le_of_mul_le_mul_right (c := 2 ^ (r + ((4000 : Nat) : Int)).toNat) ?_ (pw_pos _)
    rw [L ((8000 : Nat) : Int) rfl, R _ ((8000 : Nat) : Int) rfl (by omega), show (1 - (f.p : Int) + k + (f.p : Int) - 1 + 8000).toNat = k + 8000 by omega, Nat.pow_add 2 k, ← Nat.mul_assoc, Nat.mul_right_comm b]
    exact Nat.mul_le_mul_right _ (Nat.mul_le_mul_right _ hab))
  refine ⟨c2, q2, ?_, g2, g3, g4, fun h8 => ?_⟩
  · unfold FP.Core.div
    rw [e1, e2]
    show FP.Core.encode f (if d = 0 then (if c = 0 then .nan else .inf false) else FP.Core.roundRatio f false c d (q - r)) = _
    rw [if_neg (by omega), g1, enc_bits g2]
  · refine round_ge (f := f) (n := c) (d := d) (C := f.tails) (e := q - r) (Q := 1 - (f.p : Int) - 3) (Z := 8000) (by omega) c0 d0 dl (by omega) (by omega) PD (by
      refine Nat.le_of_mul_le_mul_right (c := 2 ^ (r + ((4000 : Nat) : Int)).toNat) ?_ (pw_pos _)
      rw [L ((8000 : Nat) : Int) rfl, R _ ((8000 : Nat) : Int) rfl (by omega), show (1 - (f.p : Int) - 3 + (f.p : Int) - 1 + 8000).toNat = 7997 by omega, show (8000 : Nat) = 3 + 7997 from rfl, Nat.pow_add 2 3, ← Nat.mul_assoc, Nat.mul_right_comm a]
      exact Nat.mul_le_mul_right _ (Nat.mul_le_mul_right _ h8)) g1
