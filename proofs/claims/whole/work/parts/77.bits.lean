/-! THE BITS of floats and doubles, as the class makes them -/
theorem bits_lt {f : FP.Core.Fmt} (F : okF f) {c : Nat} {q : Int} (P : posOK f c q) (hm : q ≤ f.qmax) : bitsOf f c q < (f.exps - 1) * f.tails := by
  obtain ⟨f1, f2, f3, f4, f5, f6, f7, f8, f9⟩ := F
  obtain ⟨p1, p2, p3⟩ := P
  have t2 := tails2 (f := f) (by omega)
  unfold bitsOf
  have h : ((q - f.qmin).toNat + 2) * f.tails ≤ (f.exps - 1) * f.tails := Nat.mul_le_mul_right _ (by omega)
  rw [Nat.add_mul] at h
  omega
theorem cmpN {f : FP.Core.Fmt} (F : okF f) {x y : Nat} (hx : x < (f.exps - 1) * f.tails) (hy : y < (f.exps - 1) * f.tails) : FP.Core.cmp f x y = some (if x < y then .lt else if x = y then .eq else .gt) := by
  obtain ⟨c, q, e1, P1, m1, b1⟩ := dec_ok (f := f) (n := x) (by have := F.1; omega) F.2.1 F.2.2.1 hx
  obtain ⟨d, r, e2, P2, m2, b2⟩ := dec_ok (f := f) (n := y) (by have := F.1; omega) F.2.1 F.2.2.1 hy
  exact cmp_bits F e1 e2 P1 P2 b1 b2
theorem half_n {f : FP.Core.Fmt} (F : okF f) {x two : Nat} (ht : FP.Core.decode f two = .fin false f.tails (2 - f.p)) (hx : x < (f.exps - 1) * f.tails) (h2 : 2 * f.tails ≤ x) : FP.Core.div f x two = x - f.tails := by
  obtain ⟨c, q, e1, P1, m1, b1⟩ := dec_ok (f := f) (n := x) (by have := F.1; omega) F.2.1 F.2.2.1 hx
  have t2 := tails2 (f := f) (by have := F.1; omega)
  have tp : 0 < f.tails := pw_pos _
  have hq : q ≠ f.qmin := by
    intro g
    have := P1.1
    unfold bitsOf at b1
    rw [g, show (f.qmin - f.qmin).toNat = 0 by omega] at b1
    omega
  have hq1 := P1.2.1
  have hc : f.tails ≤ c := P1.2.2.resolve_left hq
  rw [div2 F e1 ht P1 hc m1 (by omega)]
  unfold bitsOf at b1 ⊢
  have : (q - f.qmin).toNat = (q - 1 - f.qmin).toNat + 1 := by omega
  rw [this, Nat.add_mul] at b1
  omega
theorem dbl_n {f : FP.Core.Fmt} (F : okF f) {x two : Nat} (ht : FP.Core.decode f two = .fin false f.tails (2 - f.p)) (hx : x + f.tails < (f.exps - 1) * f.tails) (h1 : f.tails ≤ x) : FP.Core.mul f x two = x + f.tails := by
  obtain ⟨c, q, e1, P1, m1, b1⟩ := dec_ok (f := f) (n := x) (by have := F.1; omega) F.2.1 F.2.2.1 (by omega)
  have tp : 0 < f.tails := pw_pos _
  have t2 := tails2 (f := f) (by have := F.1; omega)
  have hq1 := P1.2.1
  have hc : f.tails ≤ c := by
    rcases P1.2.2 with g | g
    · unfold bitsOf at b1
      rw [g, show (f.qmin - f.qmin).toNat = 0 by omega] at b1
      omega
    · exact g
  have hm : q + 1 ≤ f.qmax := by
    have f3 := F.2.2.1
    have c1 := P1.1
    by_cases g : q + 1 ≤ f.qmax
    · exact g
    · exfalso
      unfold bitsOf at b1
      have : (f.exps - 3) * f.tails ≤ (q - f.qmin).toNat * f.tails := Nat.mul_le_mul_right _ (by omega)
      have e3 := F.2.1
      have : (f.exps - 1) * f.tails = (f.exps - 3) * f.tails + 2 * f.tails := by
        rw [← Nat.add_mul]; congr 1; omega
      omega
  rw [mul2_n F e1 ht P1 hc hm]
  unfold bitsOf at b1 ⊢
  have : (q + 1 - f.qmin).toNat = (q - f.qmin).toNat + 1 := by omega
  rw [this, Nat.add_mul]
  omega
/-- of 1 and a part t: the part, moved to be whole -/
theorem frac_n {f : FP.Core.Fmt} (F : okF f) {x one big t : Nat} (ht : t < f.tails) (hx : FP.Core.decode f x = .fin false (f.tails + t) (1 - (f.p : Int))) (ho : FP.Core.decode f one = .fin false f.tails (1 - (f.p : Int))) (hb : FP.Core.decode f big = .fin false f.tails 0) : ∃ y z c q, FP.Core.sub f x one = y ∧ y < (f.exps - 1) * f.tails ∧ FP.Core.mul f y big = z ∧ z < (f.exps - 1) * f.tails ∧ FP.Core.decode f z = .fin false c q ∧ FP.Core.truncate false c q = (t : Int) := by
  have F2 := F
  obtain ⟨f1, f2, f3, f4, f5, f6, f7, f8, f9⟩ := F2
  have tp : 0 < f.tails := pw_pos _
  have t2 := tails2 (f := f) (by omega)
  have up : 0 < (f.exps - 1) * f.tails := Nat.mul_pos (by omega) tp
  have P0 : posOK f 0 f.qmin := ⟨pw_pos _, Int.le_refl _, Or.inl rfl⟩
  have d0 : FP.Core.decode f 0 = .fin false 0 f.qmin := by
    have := dec_enc (f := f) (by omega) f2 f3 P0 (by omega)
    unfold bitsOf at this
    rw [show (f.qmin - f.qmin).toNat = 0 by omega, Nat.zero_mul] at this
    exact this
  by_cases t0 : t = 0
  · subst t0
    refine ⟨0, 0, 0, f.qmin, sub1_0 F hx ho, up, ?_, up, d0, ?_⟩
    · unfold FP.Core.mul
      rw [d0, hb, prod_ff, Nat.zero_mul]
      show FP.Core.encode f (FP.Core.roundRatio f false 0 1 _) = 0
      rw [round_0, enc_bits P0]
      unfold bitsOf
      rw [show (f.qmin - f.qmin).toNat = 0 by omega, Nat.zero_mul]
    · unfold FP.Core.truncate FP.Core.signed
      simp
  · obtain ⟨s, s1, P1, e1⟩ := sub1_n F (by omega) ht hx ho
    have dy : FP.Core.decode f (bitsOf f (t * 2 ^ s) (1 - (f.p : Int) - s)) = .fin false (t * 2 ^ s) (1 - (f.p : Int) - s) := dec_enc (by omega) f2 f3 P1 (by omega)
    obtain ⟨s2, s3, P2, e2⟩ := times_big F (N := t) (s := s) (big := big) (by omega) (by omega) s1 dy hb
    have dz : FP.Core.decode f (bitsOf f (t * 2 ^ s2) (0 - (s2 : Int))) = .fin false (t * 2 ^ s2) (0 - (s2 : Int)) := dec_enc (by omega) f2 f3 P2 (by omega)
    refine ⟨_, _, _, _, e1, bits_lt F P1 (by omega), e2, bits_lt F P2 (by omega), dz, ?_⟩
    unfold FP.Core.truncate FP.Core.signed
    rw [show (0 - (s2 : Int)).toNat = 0 by omega, show (-(0 - (s2 : Int))).toNat = s2 by omega, Nat.pow_zero, Nat.mul_one, Nat.mul_div_cancel _ (pw_pos _)]
    simp
theorem m32 : (FP.Core.b32.exps - 1) * FP.Core.b32.tails = 2139095040 := by decide
theorem m64 : (FP.Core.b64.exps - 1) * FP.Core.b64.tails = 9218868437227405312 := by decide
theorem two32 : FP.Core.decode FP.Core.b32 1073741824 = .fin false FP.Core.b32.tails (2 - FP.Core.b32.p) := by decide
theorem one32 : FP.Core.decode FP.Core.b32 1065353216 = .fin false FP.Core.b32.tails (1 - (FP.Core.b32.p : Int)) := by decide
theorem big32 : FP.Core.decode FP.Core.b32 1258291200 = .fin false FP.Core.b32.tails 0 := by decide
theorem two64 : FP.Core.decode FP.Core.b64 4611686018427387904 = .fin false FP.Core.b64.tails (2 - FP.Core.b64.p) := by decide
theorem one64 : FP.Core.decode FP.Core.b64 4607182418800017408 = .fin false FP.Core.b64.tails (1 - (FP.Core.b64.p : Int)) := by decide
theorem big64 : FP.Core.decode FP.Core.b64 4841369599423283200 = .fin false FP.Core.b64.tails 0 := by decide
theorem u64 {n : Nat} (h : n < 18446744073709551616) : (UInt64.ofNat n).toNat = n := by
  show n % 2 ^ 64 = n
  exact Nat.mod_eq_of_lt h
theorem nn64_le {r : UInt64} (h : r.toNat ≤ 9218868437227405312) : nn64 r = true := by
  unfold nn64
  refine decide_eq_true (UInt64.le_iff_toNat_le.mpr ?_)
  rw [UInt64.toNat_and]
  have : (9218868437227405312 : UInt64).toNat = 9218868437227405312 := rfl
  rw [this]
  exact Nat.le_trans Nat.and_le_left h
theorem fcmp_b {a b : UInt32} (ha : a.toNat < 2139095040) (hb : b.toNat < 2139095040) : FP.fcmp a b = some (if a.toNat < b.toNat then .lt else if a.toNat = b.toNat then .eq else .gt) := cmpN ok32 (by rw [m32]; exact ha) (by rw [m32]; exact hb)
theorem dcmp_b {a b : UInt64} (ha : a.toNat < 9218868437227405312) (hb : b.toNat < 9218868437227405312) : FP.dcmp a b = some (if a.toNat < b.toNat then .lt else if a.toNat = b.toNat then .eq else .gt) := cmpN ok64 (by rw [m64]; exact ha) (by rw [m64]; exact hb)
theorem fcmp_0 {a : UInt32} (ha : a.toNat < 2139095040) : FP.fcmp a FP.fconst0 = some (if a.toNat < 0 then .lt else if a.toNat = 0 then .eq else .gt) := fcmp_b (b := FP.fconst0) ha (by decide)
theorem fcmp_1 {a : UInt32} (ha : a.toNat < 2139095040) : FP.fcmp a FP.fconst1 = some (if a.toNat < 1065353216 then .lt else if a.toNat = 1065353216 then .eq else .gt) := fcmp_b (b := FP.fconst1) ha (by decide)
theorem fcmp_2 {a : UInt32} (ha : a.toNat < 2139095040) : FP.fcmp a FP.fconst2 = some (if a.toNat < 1073741824 then .lt else if a.toNat = 1073741824 then .eq else .gt) := fcmp_b (b := FP.fconst2) ha (by decide)
theorem dcmp_0 {a : UInt64} (ha : a.toNat < 9218868437227405312) : FP.dcmp a FP.dconst0 = some (if a.toNat < 0 then .lt else if a.toNat = 0 then .eq else .gt) := dcmp_b (b := FP.dconst0) ha (by decide)
theorem dcmp_1 {a : UInt64} (ha : a.toNat < 9218868437227405312) : FP.dcmp a FP.dconst1 = some (if a.toNat < 4607182418800017408 then .lt else if a.toNat = 4607182418800017408 then .eq else .gt) := dcmp_b (b := FP.dconst1) ha (by decide)
theorem cv_lt {x y : Nat} {op : CmpOp} (h : x < y) : Op.cmpValue (some (if x < y then .lt else if x = y then .eq else .gt)) op = -1 := by rw [if_pos h]; rfl
theorem cv_ge {x y : Nat} {op : CmpOp} (h : ¬ x < y) : Op.cmpValue (some (if x < y then .lt else if x = y then .eq else .gt)) op = 0 ∨ Op.cmpValue (some (if x < y then .lt else if x = y then .eq else .gt)) op = 1 := by
  rw [if_neg h]
  by_cases e : x = y
  · rw [if_pos e]; exact Or.inl rfl
  · rw [if_neg e]; exact Or.inr rfl
theorem cv_gt {x y : Nat} {op : CmpOp} (h : y < x) : Op.cmpValue (some (if x < y then .lt else if x = y then .eq else .gt)) op = 1 := by rw [if_neg (by omega), if_neg (by omega)]; rfl
theorem cv_eq {x : Nat} {op : CmpOp} : Op.cmpValue (some (if x < x then .lt else if x = x then .eq else .gt)) op = 0 := by rw [if_neg (by omega), if_pos rfl]; rfl
theorem toI_nI (v : UInt32) : v.toInt32 = nI v.toNat := by
  apply Int32.toBitVec_inj.mp
  apply BitVec.eq_of_toNat_eq
  show v.toNat = v.toNat % 2 ^ 32
  exact (Nat.mod_eq_of_lt v.toNat_lt).symm
theorem of_l15 {h : Hp} : ∀ (r k fuel : Nat) (v : UInt32), k + r = 127 → r < fuel → v.toNat < 8388608 * (128 + r) → 0 < v.toNat → ∃ k1 v1, f_X0_ofFloat_l15 h fuel v (nI (127 + k)) (nI k) = some (v1, nI (127 + k + k1)) ∧ v1.toNat + 8388608 * k1 = v.toNat ∧ v1.toNat < 1073741824 ∧ 0 < v1.toNat ∧ (k1 = 0 ∨ 1065353216 ≤ v1.toNat) := by
  obtain ⟨q1, q2, q3, q4, q5⟩ := b32_q
  intro r
  induction r with
  | zero =>
    intro k fuel v hk hf hv h0
    obtain ⟨fuel, rfl⟩ : ∃ z, fuel = z + 1 := ⟨fuel - 1, by omega⟩
    have : k = 127 := by omega
    subst this
    exact ⟨0, v, by rw [f_X0_ofFloat_l15_s, if_pos (by decide)], by omega, by omega, h0, Or.inl rfl⟩
  | succ r ih =>
    intro k fuel v hk hf hv h0
    obtain ⟨fuel, rfl⟩ : ∃ z, fuel = z + 1 := ⟨fuel - 1, by omega⟩
    have cm := fcmp_2 (a := v) (by omega)
    rw [f_X0_ofFloat_l15_s, if_neg (show ¬ (127 : Int32) ≤ nI k from nI_ge (b := 127) (by omega) (by decide)), cm]
    by_cases g : v.toNat < 1073741824
    · rw [cv_lt g, if_pos (by decide)]
      exact ⟨0, v, rfl, by omega, by omega, h0, Or.inl rfl⟩
    · have e : (FP.fdiv v FP.fconst2).toNat = v.toNat - 8388608 := by
        show (UInt32.ofNat (FP.Core.div FP.Core.b32 v.toNat 1073741824)).toNat = _
        rw [half_n ok32 two32 (by rw [m32]; omega) (by rw [q3]; omega), q3, u32 (by omega)]
      rw [if_neg (by rcases cv_ge (op := .l) g with z | z <;> rw [z] <;> decide), if_pos (nn32_le (by omega))]
      obtain ⟨k1, v1, e1, e2, e3, e4, e5⟩ := ih (k + 1) fuel (FP.fdiv v FP.fconst2) (by omega) (by omega) (by omega) (by omega)
      rw [nI_1, nI_1]
      refine ⟨k1 + 1, v1, ?_, by omega, e3, e4, Or.inr (by omega)⟩
      rw [show 127 + k + (k1 + 1) = 127 + (k + 1) + k1 by omega]
      exact e1
theorem nI_dec {a : Nat} (h : 1 ≤ a) : nI a + (-1) = nI (a - 1) := by
  have e : nI a = nI (a - 1) + 1 := by rw [nI_1, Nat.sub_add_cancel h]
  rw [e, Int32.add_assoc, show (1 : Int32) + (-1) = 0 from rfl, Int32.add_zero]
theorem of_l42n {h : Hp} {t : Nat} (ht : t < 8388608) : ∀ (r k fuel E P : Nat) (v : UInt32), E + r = 127 → 1 ≤ E → k + r ≤ 126 → r < fuel → r ≤ P → v.toNat = 8388608 * E + t → ∃ v1, f_X0_ofFloat_l42 h fuel v (nI P) (nI k) = some (v1, nI (P - r)) ∧ v1.toNat = 1065353216 + t := by
  obtain ⟨q1, q2, q3, q4, q5⟩ := b32_q
  intro r
  induction r with
  | zero =>
    intro k fuel E P v hE h1 hk hf hP hv
    obtain ⟨fuel, rfl⟩ : ∃ z, fuel = z + 1 := ⟨fuel - 1, by omega⟩
    refine ⟨v, ?_, by omega⟩
    rw [f_X0_ofFloat_l42_s, fcmp_1 (a := v) (by omega)]
    by_cases g : (126 : Int32) ≤ nI k
    · rw [if_pos g]; rfl
    · rw [if_neg g, if_pos (by rcases cv_ge (op := .g) (show ¬ v.toNat < 1065353216 by omega) with z | z <;> rw [z] <;> decide)]; rfl
  | succ r ih =>
    intro k fuel E P v hE h1 hk hf hP hv
    obtain ⟨fuel, rfl⟩ : ∃ z, fuel = z + 1 := ⟨fuel - 1, by omega⟩
    have e : (FP.fmul v FP.fconst2).toNat = v.toNat + 8388608 := by
      show (UInt32.ofNat (FP.Core.mul FP.Core.b32 v.toNat 1073741824)).toNat = _
      rw [dbl_n ok32 two32 (by rw [m32, q3]; omega) (by rw [q3]; omega), q3, u32 (by omega)]
    rw [f_X0_ofFloat_l42_s, fcmp_1 (a := v) (by omega), if_neg (show ¬ (126 : Int32) ≤ nI k from nI_ge (b := 126) (by omega) (by decide)), cv_lt (by omega), if_neg (by decide), if_pos (nn32_le (by omega)), nI_dec (by omega), nI_1]
    obtain ⟨v1, a1, a2⟩ := ih (k + 1) fuel (E + 1) (P - 1) (FP.fmul v FP.fconst2) (by omega) (by omega) (by omega) (by omega) (by omega) (by omega)
    refine ⟨v1, ?_, a2⟩
    rw [a1, show P - 1 - r = P - (r + 1) by omega]
theorem of_l42s {h : Hp} {N : Nat} (h0 : 0 < N) (hN : N < 8388608) : ∀ (r k fuel s : Nat) (P : Int32) (v : UInt32), k + r = 126 → r < fuel → posOK FP.Core.b32 (N * 2 ^ s) (-149 + (k : Int) - s) → v.toNat = bitsOf FP.Core.b32 (N * 2 ^ s) (-149 + (k : Int) - s) → ∃ (v1 : UInt32) (s1 : Nat) (P1 : Int32), f_X0_ofFloat_l42 h fuel v P (nI k) = some (v1, P1) ∧ s1 ≤ 24 ∧ FP.Core.decode FP.Core.b32 v1.toNat = .fin false (N * 2 ^ s1) (1 - (FP.Core.b32.p : Int) - s1) ∧ v1.toNat < 1065353216 := by
  obtain ⟨q1, q2, q3, q4, q5⟩ := b32_q
  have one : posOK FP.Core.b32 8388608 (-23) ∧ bitsOf FP.Core.b32 8388608 (-23) = 1065353216 := by
    refine ⟨⟨by decide, by decide, Or.inr (by decide)⟩, by decide⟩
  have low : ∀ (k s : Nat), k ≤ 126 → posOK FP.Core.b32 (N * 2 ^ s) (-149 + (k : Int) - s) → bitsOf FP.Core.b32 (N * 2 ^ s) (-149 + (k : Int) - s) < 1065353216 := by
    intro k s hk P
    have p2 := P.2.1
    rw [q1] at p2
    by_cases g : bitsOf FP.Core.b32 (N * 2 ^ s) (-149 + (k : Int) - s) < 1065353216
    · exact g
    · exfalso
      have v := bits_val (Z := 600) (by omega) (by omega) one.1 P (by rw [one.2]; omega)
      rw [show ((-23 : Int) + ((600 : Nat) : Int)).toNat = 577 by decide, Nat.mul_assoc, ← Nat.pow_add] at v
      have w : 2 ^ (s + (-149 + (k : Int) - s + ((600 : Nat) : Int)).toNat) ≤ 2 ^ 577 := pw_le (by omega)
      have := Nat.le_of_mul_le_mul_right (Nat.le_trans v (Nat.mul_le_mul_left N w)) (pw_pos 577)
      omega
  intro r
  induction r with
  | zero =>
    intro k fuel s P v hk hf hP hv
    obtain ⟨fuel, rfl⟩ : ∃ z, fuel = z + 1 := ⟨fuel - 1, by omega⟩
    have : k = 126 := by omega
    subst this
    refine ⟨v, s, P, by rw [f_X0_ofFloat_l42_s, if_pos (by decide)], ?_, ?_, ?_⟩
    · have a := hP.1
      rw [q5] at a
      have : 2 ^ s ≤ N * 2 ^ s := Nat.le_mul_of_pos_left _ h0
      by_cases g : s ≤ 24
      · exact g
      · have := pw_le (show 24 ≤ s by omega)
        omega
    · rw [hv, dec_enc (by omega) (by omega) (by omega) hP (by omega), q5]
      congr 1
    · rw [hv]; exact low 126 s (by omega) hP
  | succ r ih =>
    intro k fuel s P v hk hf hP hv
    obtain ⟨fuel, rfl⟩ : ∃ z, fuel = z + 1 := ⟨fuel - 1, by omega⟩
    have lo := low k s (by omega) hP
    have p2 := hP.2.1
    rw [q1] at p2
    have hc0 : 0 < N * 2 ^ s := Nat.mul_pos h0 (pw_pos _)
    have dx : FP.Core.decode FP.Core.b32 v.toNat = .fin false (N * 2 ^ s) (-149 + (k : Int) - s) := by
      rw [hv]; exact dec_enc (by omega) (by omega) (by omega) hP (by omega)
    have nx : ∃ s2 : Nat, posOK FP.Core.b32 (N * 2 ^ s2) (-149 + ((k + 1 : Nat) : Int) - s2) ∧ FP.Core.mul FP.Core.b32 v.toNat 1073741824 = bitsOf FP.Core.b32 (N * 2 ^ s2) (-149 + ((k + 1 : Nat) : Int) - s2) := by
      by_cases g : N * 2 ^ s < FP.Core.b32.tails
      · have hq : -149 + (k : Int) - s = FP.Core.b32.qmin := hP.2.2.resolve_right (by omega)
        have e2 : N * 2 ^ (s + 1) = 2 * (N * 2 ^ s) := by rw [Nat.pow_succ, ← Nat.mul_assoc, Nat.mul_comm]
        have t2 := tails2 (f := FP.Core.b32) (by omega)
        have P2 : posOK FP.Core.b32 (N * 2 ^ (s + 1)) (-149 + ((k + 1 : Nat) : Int) - ((s + 1 : Nat) : Int)) := ⟨by omega, by omega, Or.inl (by omega)⟩
        refine ⟨s + 1, P2, ?_⟩
        rw [mul2_s ok32 dx two32 hq hc0 g, e2]
        unfold bitsOf
        rw [show (-149 + ((k + 1 : Nat) : Int) - ((s + 1 : Nat) : Int) - FP.Core.b32.qmin).toNat = 0 by omega, Nat.zero_mul, Nat.zero_add]
      · have g2 : FP.Core.b32.tails ≤ N * 2 ^ s := by omega
        refine ⟨s, ⟨hP.1, by omega, Or.inr g2⟩, ?_⟩
        rw [mul2_n ok32 dx two32 hP g2 (by omega)]
        congr 1
        omega
    obtain ⟨s2, P2, e2⟩ := nx
    have lo2 := low (k + 1) s2 (by omega) P2
    have e : (FP.fmul v FP.fconst2).toNat = bitsOf FP.Core.b32 (N * 2 ^ s2) (-149 + ((k + 1 : Nat) : Int) - s2) := by
      show (UInt32.ofNat (FP.Core.mul FP.Core.b32 v.toNat 1073741824)).toNat = _
      rw [e2, u32 (by omega)]
    rw [f_X0_ofFloat_l42_s, fcmp_1 (a := v) (by omega), if_neg (show ¬ (126 : Int32) ≤ nI k from nI_ge (b := 126) (by omega) (by decide)), cv_lt (by omega), if_neg (by decide), if_pos (nn32_le (by omega)), nI_1]
    exact ih (k + 1) fuel s2 (P + -1) (FP.fmul v FP.fconst2) (by omega) (by omega) P2 e
theorem ofI_nI (t : Nat) : Int32.ofInt (t : Int) = nI t := by
  apply Int32.toBitVec_inj.mp
  show BitVec.ofInt 32 (t : Int) = BitVec.ofNat 32 t
  exact BitVec.ofInt_natCast 32 t
theorem f2i_of {z : UInt32} {c t : Nat} {q : Int} (h : FP.Core.decode FP.Core.b32 z.toNat = .fin false c q) (ht : FP.Core.truncate false c q = (t : Int)) (hb : t < 2 ^ 31) : FP.f2i z = nI t := by
  show Int32.ofInt (FP.Core.toInt (-2 ^ 31) (2 ^ 31 - 1) (FP.Core.decode FP.Core.b32 z.toNat)) = _
  rw [h]
  show Int32.ofInt (max (-2 ^ 31) (min (2 ^ 31 - 1) (FP.Core.truncate false c q))) = _
  rw [ht, show max (-2 ^ 31 : Int) (min (2 ^ 31 - 1) (t : Int)) = (t : Int) by omega, ofI_nI]
theorem shl23 : ∀ P, P < 256 → nI P <<< ((23 : Int32) &&& 31) = nI (8388608 * P) := by decide +kernel
theorem j67_n {h : Hp} {v : UInt32} {P t : Nat} (ht : t < 8388608) (hP : P < 256) (hv : v.toNat = 1065353216 + t) : f_X0_ofFloat_j67 h v (nI P) = some (nI (8388608 * P + t)) := by
  obtain ⟨q1, q2, q3, q4, q5⟩ := b32_q
  have P1 : posOK FP.Core.b32 (FP.Core.b32.tails + t) (1 - (FP.Core.b32.p : Int)) := ⟨by rw [q3, q5]; show 8388608 + t < 16777216; omega, by omega, Or.inr (by omega)⟩
  have hb : bitsOf FP.Core.b32 (FP.Core.b32.tails + t) (1 - (FP.Core.b32.p : Int)) = v.toNat := by
    unfold bitsOf
    rw [q1, q3, q5, show (1 - ((24 : Nat) : Int) - -149).toNat = 126 by decide]
    omega
  have dx : FP.Core.decode FP.Core.b32 v.toNat = .fin false (FP.Core.b32.tails + t) (1 - (FP.Core.b32.p : Int)) := by
    rw [← hb]; exact dec_enc (by omega) (by omega) (by omega) P1 (by omega)
  obtain ⟨y, z, c, q, a1, a2, a3, a4, a5, a6⟩ := frac_n ok32 (by rw [q3]; exact ht) dx one32 big32
  rw [m32] at a2 a4
  have e1 : (FP.fsub v FP.fconst1).toNat = y := by
    show (UInt32.ofNat (FP.Core.sub FP.Core.b32 v.toNat 1065353216)).toNat = _
    rw [a1, u32 (by omega)]
  have e2 : (FP.fmul (FP.fsub v FP.fconst1) (1258291200 : UInt32)).toNat = z := by
    show (UInt32.ofNat (FP.Core.mul FP.Core.b32 (FP.fsub v FP.fconst1).toNat 1258291200)).toNat = _
    rw [e1, a3, u32 (by omega)]
  unfold f_X0_ofFloat_j67
  rw [fcmp_1 (a := v) (by omega), if_pos (by rcases cv_ge (op := .g) (show ¬ v.toNat < 1065353216 by omega) with z | z <;> rw [z] <;> decide), if_pos (nn32_le (by omega)), if_pos (nn32_le (by omega)), f2i_of (by rw [e2]; exact a5) a6 (by omega), shl23 P hP, nI_add]
theorem j67_s {h : Hp} {v : UInt32} {P : Int32} {N s : Nat} (h0 : 0 < N) (hN : N < 8388608) (hs : s ≤ 24) (hv : v.toNat < 1065353216) (dx : FP.Core.decode FP.Core.b32 v.toNat = .fin false (N * 2 ^ s) (1 - (FP.Core.b32.p : Int) - s)) : f_X0_ofFloat_j67 h v P = some (nI N) := by
  obtain ⟨q1, q2, q3, q4, q5⟩ := b32_q
  obtain ⟨s2, s3, P2, a2⟩ := times_big ok32 (N := N) (s := s) (big := 1258291200) h0 (by rw [q5]; omega) (by omega) dx big32
  have lt := bits_lt ok32 P2 (by omega)
  rw [m32] at lt
  have e2 : (FP.fmul v (1258291200 : UInt32)).toNat = bitsOf FP.Core.b32 (N * 2 ^ s2) (0 - (s2 : Int)) := by
    show (UInt32.ofNat (FP.Core.mul FP.Core.b32 v.toNat 1258291200)).toNat = _
    rw [a2, u32 (by omega)]
  have dz : FP.Core.decode FP.Core.b32 (FP.fmul v (1258291200 : UInt32)).toNat = .fin false (N * 2 ^ s2) (0 - (s2 : Int)) := by
    rw [e2]; exact dec_enc (by omega) (by omega) (by omega) P2 (by omega)
  unfold f_X0_ofFloat_j67
  rw [fcmp_1 (a := v) (by omega), cv_lt (by omega), if_neg (by decide), if_pos (nn32_le (by omega)), f2i_of dz (t := N) ?_ (by omega)]
  unfold FP.Core.truncate FP.Core.signed
  rw [show (0 - (s2 : Int)).toNat = 0 by omega, show (-(0 - (s2 : Int))).toNat = s2 by omega, Nat.pow_zero, Nat.mul_one, Nat.mul_div_cancel _ (pw_pos _)]
  simp
/-- the class's bits of a float are its bits -/
theorem ofFloat_ok {h : Hp} {v : UInt32} (hv : v.toNat < 2139095040) : f_X0_ofFloat h v = some v.toInt32 := by
  rw [toI_nI]
  obtain ⟨q1, q2, q3, q4, q5⟩ := b32_q
  have cm := fcmp_0 (a := v) hv
  unfold f_X0_ofFloat
  rw [cm]
  by_cases z : v.toNat = 0
  · rw [z, cv_eq, if_neg (by decide)]; rfl
  · rw [cv_gt (by omega), if_pos (by decide)]
    obtain ⟨k1, v1, e1, e2, e3, e4, e5⟩ := of_l15 (h := h) 127 0 fu v (by omega) (by decide) (by omega) (by omega)
    rw [show f_X0_ofFloat_l15 h fu v 127 0 = _ from e1, bn2_some]
    unfold f_X0_ofFloat_j40
    by_cases sm : v1.toNat < 8388608
    · have k0 : k1 = 0 := by omega
      obtain ⟨v2, s1, P1, a1, a2, a3, a4⟩ := of_l42s (h := h) (N := v1.toNat) e4 sm 126 0 fu 0 (nI (127 + 0 + k1)) v1 (by omega) (by decide) ⟨by rw [q5]; omega, by rw [q1]; omega, Or.inl (by rw [q1]; omega)⟩ (by
        unfold bitsOf
        rw [q1, show (-149 + ((0 : Nat) : Int) - ((0 : Nat) : Int) - -149).toNat = 0 by decide]
        omega)
      rw [show f_X0_ofFloat_l42 h fu v1 (nI (127 + 0 + k1)) 0 = _ from a1, bn2_some, j67_s e4 sm a2 a4 a3, show v1.toNat = v.toNat by omega]
    · obtain ⟨v2, a1, a2⟩ := of_l42n (h := h) (t := v1.toNat % 8388608) (Nat.mod_lt _ (by decide)) (127 - v1.toNat / 8388608) 0 fu (v1.toNat / 8388608) (127 + 0 + k1) v1 (by omega) (by omega) (by omega) (by show _ < 5000; omega) (by omega) (by omega)
      rw [show f_X0_ofFloat_l42 h fu v1 (nI (127 + 0 + k1)) 0 = _ from a1, bn2_some, j67_n (Nat.mod_lt _ (by decide)) (by omega) a2]
      congr 2
      omega
theorem ftib_ok {h : Hp} {v : UInt32} (hv : v.toNat < 2139095040) : f_Jxf58ca_floatToIntBits_5c35a h v = some v.toInt32 := by
  unfold f_Jxf58ca_floatToIntBits_5c35a f_Jxf58ca_isNaN_12338
  rw [fcmp_b hv hv, cv_eq, if_pos rfl, bn1_some, if_pos rfl]
