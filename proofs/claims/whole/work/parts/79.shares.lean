/-! RATES, shares and fairness on both sides -/
theorem isI_div0 {f : FP.Core.Fmt} (F : okF f) {x y b : Nat} (H1 : isI f x 0) (H2 : isI f y b) (hb : 0 < b) : FP.Core.div f x y = 0 := by
  obtain ⟨c, q, e1, x1, x2, x3, x4⟩ := isI_dec F H1
  obtain ⟨d, r, e2, y1, y2, y3, y4⟩ := isI_dec F H2
  have c0 : c = 0 := by
    rw [Nat.zero_mul] at x4
    rcases Nat.mul_eq_zero.mp x4 with g | g
    · exact g
    · have := pw_pos (q + ((4000 : Nat) : Int)).toNat; omega
  have d0 : d ≠ 0 := by
    intro g
    rw [g, Nat.zero_mul] at y4
    have := Nat.mul_pos hb (pw_pos 4000)
    omega
  have P0 : posOK f 0 f.qmin := ⟨pw_pos _, Int.le_refl _, Or.inl rfl⟩
  unfold FP.Core.div
  rw [e1, e2, c0]
  show FP.Core.encode f (if d = 0 then (if (0 : Nat) = 0 then .nan else .inf false) else FP.Core.roundRatio f false 0 d (q - r)) = _
  rw [if_neg d0, round_0, enc_bits P0]
  unfold bitsOf
  rw [show (f.qmin - f.qmin).toNat = 0 by omega, Nat.zero_mul]
theorem i2f_isI {a : Nat} (ha : a < 16777216) : isI FP.Core.b32 (FP.i2f (nI a)).toNat a := by
  have H := isI_int ok32 (N := a) (by rw [b32_q.2.2.2.2]; exact ha)
  have L := (isI_lt ok32 H).1
  rw [m32] at L
  have e : (FP.i2f (nI a)).toNat = FP.Core.fromInt FP.Core.b32 (a : Int) := by
    show (UInt32.ofNat (FP.Core.fromInt FP.Core.b32 (nI a).toInt)).toNat = _
    rw [nI_toInt (by omega), u32 (by omega)]
  rw [e]; exact H
theorem i2d_isI {a : Nat} (ha : a < 2147483648) : isI FP.Core.b64 (FP.i2d (nI a)).toNat a := by
  have H := isI_int ok64 (N := a) (by rw [b64_q.2.2.2.2]; exact Nat.lt_of_lt_of_le ha (by decide))
  have L := (isI_lt ok64 H).1
  rw [m64] at L
  have e : (FP.i2d (nI a)).toNat = FP.Core.fromInt FP.Core.b64 (a : Int) := by
    show (UInt64.ofNat (FP.Core.fromInt FP.Core.b64 (nI a).toInt)).toNat = _
    rw [nI_toInt (by omega), u64 (by omega)]
  rw [e]; exact H
theorem fdiv_lt {a g : Nat} (ha : a < 16777216) (h0 : 0 < g) (hg : g < 16777216) : (FP.fdiv (FP.i2f (nI a)) (FP.i2f (nI g))).toNat < 2139095040 := by
  have H1 := i2f_isI ha
  have H2 := i2f_isI hg
  show (UInt32.ofNat (FP.Core.div FP.Core.b32 (FP.i2f (nI a)).toNat (FP.i2f (nI g)).toNat)).toNat < _
  by_cases z : a = 0
  · subst z
    rw [isI_div0 ok32 H1 H2 h0]; decide
  · obtain ⟨c, q, e1, e2, e3, -, -⟩ := isI_div ok32 (k := 24) H1 H2 (by omega) h0 (by decide) (Nat.le_trans (Nat.le_of_lt ha) (Nat.le_mul_of_pos_left (2 ^ 24) h0))
    have L := bits_lt ok32 e2 e3
    rw [m32] at L
    rw [e1, u32 (by omega)]; exact L
theorem x5_rate {h : Hp} {o i j n p b t : Nat} {M : MS} (S : SwR h (o + 1) M n) (W : WFn M n p b t) (hi : i < n) (hj : j < n) (hne : i ≠ j) : f_X5_rate h o (nI i) (nI j) = some ((M.2.1 (6 * i + j)).toInt32, h) := by
  have w0 := W.1
  have hr : rOK (M.2.1 (6 * i + j)) := W.2.2.2.2.2.2.2.2.2.2.2 (6 * i + j) (by omega)
  have hr2 : (M.2.1 (6 * i + j)).toNat ≤ 1098907648 := hr
  have e : hF h (o + 1 + 2 + 1 + 4 * i + 3) j = M.2.1 (6 * i + j) := (S.2.2.2 i hi).2.2.2 j (by omega) (Ne.symm hne)
  unfold f_X5_rate
  rw [x3_isPair_t w0.2 (S.1.2.2.2.2.1.trans w0.1) hi hj hne, bn1_some, if_neg (by decide), if_pos (inb_nI (by omega) (by decide)), if_pos (inb_nI (by omega) (by decide)), nI_clamp (by omega), nI_clamp (by omega), e, ofFloat_ok (by omega)]; rfl
theorem x6_rateOf {h : Hp} {m i j n p b t : Nat} (W : WFn (rv h m) n p b t) (hi : i < n) (hj : j < n) : f_X6_rateOf h m (nI i) (nI j) = some (((rv h m).2.1 (6 * i + j)).toInt32) := by
  have w0 := W.1
  have hr : rOK ((rv h m).2.1 (6 * i + j)) := W.2.2.2.2.2.2.2.2.2.2.2 (6 * i + j) (by omega)
  have hr2 : ((rv h m).2.1 (6 * i + j)).toNat ≤ 1098907648 := hr
  unfold f_X6_rateOf
  rw [show (6 : Int32) * nI i + nI j = nI (6 * i + j) by rw [show (6 : Int32) = nI 6 from rfl, nI_mulE, nI_add], if_pos (inb_nI (by omega) (by decide)), nI_clamp (by omega)]
  show bn1 (f_Jxf58ca_floatToIntBits_5c35a h ((rv h m).2.1 (6 * i + j))) _ = _
  rw [ftib_ok (by omega)]; rfl
theorem op_rate (o : Nat) : Op_rate o (Inv o) := by
  intro c h _ H u v
  obtain ⟨n, p, b, S, W⟩ := id H.1
  have w0 := W.1
  have hs : hI h (o + 1) 4 = nI n := S.1.2.2.2.2.1.trans w0.1
  by_cases hp : ∃ i j, i < n ∧ j < n ∧ i ≠ j ∧ u = nI i ∧ v = nI j
  · obtain ⟨i, j, hi, hj, hne, rfl, rfl⟩ := hp
    refine read_pair H (G := fun q => f_X6_rate q (o + 174) (nI i) (nI j)) (v := ((rv h (o + 174)).2.1 (6 * i + j)).toInt32) (x5_rate S W hi hj hne) ?_
    show f_X6_rate h (o + 174) (nI i) (nI j) = _
    unfold f_X6_rate
    rw [x6_areTwo_t w0.2 w0.1 hi hj hne, bn1_some, if_neg (by decide), x6_rateOf W hi hj]; rfl
  · refine bad_pair H (G := fun q => f_X6_rate q (o + 174) u v) ?_ (fun q hq => ?_)
    · unfold f_X5_rate
      rw [x3_isPair_f w0.2 hs hp, bn1_some, if_pos rfl]
    · show f_X6_rate q (o + 174) u v = _
      unfold f_X6_rate
      rw [x6_areTwo_f w0.2 (by rw [hq]; exact w0.1) hp, bn1_some, if_pos rfl]
def rtM (M : MS) (i : Nat) : UInt32 := if pc M i 7 = 0 then FP.fconst0 else FP.fdiv (FP.i2f (pc M i 6)) (FP.i2f (pc M i 7))
theorem rt_lt {M : MS} {i n p b t : Nat} (W : WFn M n p b t) (hi : i < n) (ht : t ≤ 620000) : (rtM M i).toNat < 2139095040 := by
  obtain ⟨-, -, -, -, -, -, -, -, -, wP, -, -⟩ := W
  obtain ⟨-, -, -, -, -, -, ⟨a, a1, a2⟩, ⟨g, g1, g2⟩, -⟩ := wP i hi
  unfold rtM
  by_cases z : pc M i 7 = 0
  · rw [if_pos z]; decide
  · rw [if_neg z, a2, g2]
    have : g ≠ 0 := fun q => z (by rw [g2, q]; rfl)
    exact fdiv_lt (by omega) (by omega) (by omega)
theorem x5_ratio {h : Hp} {o i n p b t : Nat} {M : MS} (S : SwR h (o + 1) M n) (W : WFn M n p b t) (hi : i < n) (ht : t ≤ 620000) : f_X5_ratio h o (nI i) = some ((rtM M i).toInt32, h) := by
  have L := rt_lt W hi ht
  have w0 := W.1
  have P : PeR h (o + 1 + 2 + 1 + 4 * i) i M := S.2.2.2 i hi
  obtain ⟨c0, c1, c2, c3, c4, c5, c6, c7⟩ := P.1
  unfold f_X5_ratio
  rw [x3_isPeer_t (S.1.2.2.2.2.1.trans w0.1) w0.2 hi, bn1_some, if_neg (by decide), if_pos (inb_nI (by omega) (by decide)), nI_clamp (by omega), c6, c7]
  unfold rtM at L ⊢
  by_cases z : pc M i 7 = 0
  · rw [if_pos z] at L
    rw [if_pos z, if_pos z, ofFloat_ok L]; rfl
  · rw [if_neg z] at L
    rw [if_neg z, if_neg z, if_pos (nn32_le (Nat.le_of_lt L)), ofFloat_ok L]; rfl
theorem x6_ratio {h : Hp} {m i n p b t : Nat} (W : WFn (rv h m) n p b t) (hi : i < n) (ht : t ≤ 620000) : f_X6_ratio h m (nI i) = some ((rtM (rv h m) i).toInt32, h) := by
  have L := rt_lt W hi ht
  have w0 := W.1
  have k7 : f_X6_cellOf h m (nI i) 7 = some (pc (rv h m) i 7) := x6_cell (c := 7) (by omega) (by decide)
  have k6 : f_X6_cellOf h m (nI i) 6 = some (pc (rv h m) i 6) := x6_cell (c := 6) (by omega) (by decide)
  unfold f_X6_ratio f_X6_ratio_j48
  rw [x6_isPeer_t w0.2 w0.1 hi, bn1_some, if_neg (by decide), k7, bn1_some, k6, bn1_some, bn1_some]
  unfold rtM at L ⊢
  by_cases z : pc (rv h m) i 7 = 0
  · rw [if_pos z] at L
    rw [if_pos z, if_pos z, ftib_ok L]; rfl
  · rw [if_neg z] at L
    rw [if_neg z, if_neg z, if_pos (nn32_le (Nat.le_of_lt L)), ftib_ok L]; rfl
theorem op_ratio (o : Nat) : Op_ratio o (Inv o) := by
  intro c h hc H u
  obtain ⟨n, p, b, S, W⟩ := id H.1
  have w0 := W.1
  have hs : hI h (o + 1) 4 = nI n := S.1.2.2.2.2.1.trans w0.1
  rcases idx_or u (n := n) (by omega) with ⟨i, hi, rfl⟩ | hu
  · exact read_pair H (G := fun q => f_X6_ratio q (o + 174) (nI i)) (x5_ratio S W hi (by omega)) (x6_ratio W hi (by omega))
  · refine bad_pair H (G := fun q => f_X6_ratio q (o + 174) u) ?_ (fun q hq => ?_)
    · unfold f_X5_ratio
      rw [x3_isPeer_f hs hu, bn1_some, if_pos rfl]
    · show f_X6_ratio q (o + 174) u = _
      unfold f_X6_ratio
      rw [x6_isPeer_f w0.2 (by rw [hq]; exact w0.1) hu, bn1_some, if_pos rfl]
def sprM (M : MS) (n p : Nat) : Int32 := sumN (fun k => cpM M n k) p
theorem spr_nat (M : MS) (n : Nat) : ∀ p, ∃ c, c ≤ n * p ∧ sprM M n p = nI c
  | 0 => ⟨0, Nat.zero_le _, rfl⟩
  | p + 1 => by
    obtain ⟨c, h1, h2⟩ := spr_nat M n p
    obtain ⟨d, h3, h4⟩ := cp_nat M n p
    refine ⟨c + d, by rw [Nat.mul_succ]; omega, ?_⟩
    show sprM M n p + cpM M n p = _
    rw [h2, h4, nI_add]
def spV (M : MS) (n p : Nat) : UInt32 := FP.fdiv (FP.i2f (sprM M n p)) (FP.i2f (nI p))
theorem spV_lt {M : MS} {n p b t : Nat} (W : WFn M n p b t) : (spV M n p).toNat < 2139095040 := by
  obtain ⟨c, h1, h2⟩ := spr_nat M n p
  have w0 := W.1
  have w1 := W.2.1
  have : n * p ≤ 6 * 8 := Nat.mul_le_mul w0.2 w1.2.2
  unfold spV
  rw [h2]
  exact fdiv_lt (by omega) (by omega) (by omega)
theorem x5_spread_l {h : Hp} {o n p b t : Nat} {M : MS} (S : SwR h (o + 1) M n) (W : WFn M n p b t) : ∀ (r k fuel : Nat), k + r = p → r < fuel → f_X5_spread_l4 h o fuel (sprM M n k) (nI k) = some (sprM M n p) := by
  have w0 := W.1
  have w1 := W.2.1
  have hp : hI h (o + 1) 0 = nI p := S.1.1.trans w1.1
  intro r
  induction r with
  | zero =>
    intro k fuel hk hf
    obtain ⟨fuel, rfl⟩ : ∃ z, fuel = z + 1 := ⟨fuel - 1, by omega⟩
    have : k = p := by omega
    subst this
    rw [f_X5_spread_l4_s, hp, if_pos (Int32.le_refl _)]
  | succ r ih =>
    intro k fuel hk hf
    obtain ⟨fuel, rfl⟩ : ∃ z, fuel = z + 1 := ⟨fuel - 1, by omega⟩
    rw [f_X5_spread_l4_s, hp, if_neg (nI_ge (by omega) (by omega)), x3_copies S w0.2 w0.1, bn1_some, nI_1]
    exact ih (k + 1) fuel (by omega) (by omega)
theorem x5_spread {h : Hp} {o n p b t : Nat} {M : MS} (S : SwR h (o + 1) M n) (W : WFn M n p b t) : f_X5_spread h o = some (spV M n p).toInt32 := by
  have w1 := W.2.1
  have L := spV_lt W
  unfold f_X5_spread
  rw [show f_X5_spread_l4 h o fu 0 0 = some (sprM M n p) from x5_spread_l S W p 0 fu (by omega) (by show p < 5000; omega), bn1_some, show hI h (o + 1) 0 = nI p from S.1.1.trans w1.1]
  show (if nn32 (spV M n p) = true then bn1 (f_X0_ofFloat h (spV M n p)) _ else none) = _
  rw [if_pos (nn32_le (Nat.le_of_lt L)), ofFloat_ok L]; rfl
theorem x6_spread_l {h : Hp} {m n p b t : Nat} (W : WFn (rv h m) n p b t) : ∀ (r k fuel : Nat), k + r = p → r < fuel → f_X6_spread_l4 h m fuel (sprM (rv h m) n k) (nI k) = some (sprM (rv h m) n p) := by
  have w0 := W.1
  have w1 := W.2.1
  have hp : hI h (m + 2) (1 : Int32).toNatClampNeg = nI p := w1.1
  intro r
  induction r with
  | zero =>
    intro k fuel hk hf
    obtain ⟨fuel, rfl⟩ : ∃ z, fuel = z + 1 := ⟨fuel - 1, by omega⟩
    have : k = p := by omega
    subst this
    rw [f_X6_spread_l4_s, hp, if_pos (Int32.le_refl _)]
  | succ r ih =>
    intro k fuel hk hf
    obtain ⟨fuel, rfl⟩ : ∃ z, fuel = z + 1 := ⟨fuel - 1, by omega⟩
    rw [f_X6_spread_l4_s, hp, if_neg (nI_ge (by omega) (by omega)), x6_copies w0.2 w0.1, bn1_some, nI_1]
    exact ih (k + 1) fuel (by omega) (by omega)
theorem x6_spread {h : Hp} {m n p b t : Nat} (W : WFn (rv h m) n p b t) : f_X6_spread h m = some (spV (rv h m) n p).toInt32 := by
  have w1 := W.2.1
  have L := spV_lt W
  unfold f_X6_spread
  rw [show f_X6_spread_l4 h m fu 0 0 = some (sprM (rv h m) n p) from x6_spread_l W p 0 fu (by omega) (by show p < 5000; omega), bn1_some, show hI h (m + 2) (1 : Int32).toNatClampNeg = nI p from w1.1]
  show (if nn32 (spV (rv h m) n p) = true then bn1 (f_Jxf58ca_floatToIntBits_5c35a h (spV (rv h m) n p)) _ else none) = _
  rw [if_pos (nn32_le (Nat.le_of_lt L)), ftib_ok L]; rfl
theorem op_spread (o : Nat) : Op_spread o (Inv o) := by
  intro c h _ H
  obtain ⟨n, p, b, S, W⟩ := id H.1
  exact ⟨_, x5_spread S W, x6_spread W, Inv_same H⟩
/-! fairness: sums of whole numbers -/
def sS (u : Nat → Nat) : Nat → Nat
  | 0 => 0
  | k + 1 => sS u k + u k
def sQ (u : Nat → Nat) : Nat → Nat
  | 0 => 0
  | k + 1 => sQ u k + u k * u k
theorem sq2 (w v : Nat) : 2 * (w * v) ≤ w * w + v * v := by
  rcases Nat.le_total w v with h | h
  · obtain ⟨d, rfl⟩ := Nat.exists_eq_add_of_le h
    rw [Nat.mul_add w w d, Nat.add_mul w d (w + d), Nat.mul_add w w d, Nat.mul_add d w d, Nat.mul_comm d w]
    omega
  · obtain ⟨d, rfl⟩ := Nat.exists_eq_add_of_le h
    rw [Nat.add_mul v d v, Nat.add_mul v d (v + d), Nat.mul_add v v d, Nat.mul_add d v d, Nat.mul_comm d v]
    omega
theorem cs2 (u : Nat → Nat) (v : Nat) : ∀ k, 2 * (sS u k * v) ≤ sQ u k + k * (v * v)
  | 0 => by show 2 * (0 * v) ≤ _; rw [Nat.zero_mul]; exact Nat.zero_le _
  | k + 1 => by
    have h := cs2 u v k
    have h2 := sq2 (u k) v
    show 2 * ((sS u k + u k) * v) ≤ sQ u k + u k * u k + (k + 1) * (v * v)
    rw [Nat.add_mul (sS u k), Nat.add_mul k 1]
    omega
theorem csq (u : Nat → Nat) : ∀ k, sS u k * sS u k ≤ k * sQ u k
  | 0 => Nat.le_refl _
  | k + 1 => by
    have h := csq u k
    have h2 := cs2 u (u k) k
    show (sS u k + u k) * (sS u k + u k) ≤ (k + 1) * (sQ u k + u k * u k)
    rw [Nat.add_mul (sS u k), Nat.mul_add (sS u k), Nat.mul_add (u k), Nat.mul_comm (u k) (sS u k), Nat.add_mul k 1, Nat.mul_add k]
    omega
theorem qs2 (u : Nat → Nat) : ∀ k, sQ u k ≤ sS u k * sS u k
  | 0 => Nat.le_refl _
  | k + 1 => by
    have h := qs2 u k
    show sQ u k + u k * u k ≤ (sS u k + u k) * (sS u k + u k)
    rw [Nat.add_mul (sS u k), Nat.mul_add (sS u k), Nat.mul_add (u k)]
    omega
theorem dadd_I {x y : UInt64} {a b : Nat} (H1 : isI FP.Core.b64 x.toNat a) (H2 : isI FP.Core.b64 y.toNat b) (h : a + b < 9007199254740992) : isI FP.Core.b64 (FP.dadd x y).toNat (a + b) ∧ nn64 (FP.dadd x y) = true := by
  have H := isI_add ok64 H1 H2 (by rw [b64_q.2.2.2.2]; exact h)
  have L := (isI_lt ok64 H).1
  rw [m64] at L
  have e : (FP.dadd x y).toNat = FP.Core.add FP.Core.b64 x.toNat y.toNat := by
    show (UInt64.ofNat (FP.Core.add FP.Core.b64 x.toNat y.toNat)).toNat = _
    rw [u64 (by omega)]
  exact ⟨by rw [e]; exact H, nn64_le (by rw [e]; omega)⟩
theorem dmul_I {x y : UInt64} {a b : Nat} (H1 : isI FP.Core.b64 x.toNat a) (H2 : isI FP.Core.b64 y.toNat b) (h : a * b < 9007199254740992) : isI FP.Core.b64 (FP.dmul x y).toNat (a * b) ∧ nn64 (FP.dmul x y) = true := by
  have H := isI_mul ok64 H1 H2 (by rw [b64_q.2.2.2.2]; exact h)
  have L := (isI_lt ok64 H).1
  rw [m64] at L
  have e : (FP.dmul x y).toNat = FP.Core.mul FP.Core.b64 x.toNat y.toNat := by
    show (UInt64.ofNat (FP.Core.mul FP.Core.b64 x.toNat y.toNat)).toNat = _
    rw [u64 (by omega)]
  exact ⟨by rw [e]; exact H, nn64_le (by rw [e]; omega)⟩
def fsM (M : MS) : Nat → UInt64 × UInt64
  | 0 => (FP.dconst0, FP.dconst0)
  | k + 1 => (FP.dadd (fsM M k).1 (FP.i2d (pc M k 6)), FP.dadd (fsM M k).2 (FP.dmul (FP.i2d (pc M k 6)) (FP.i2d (pc M k 6))))
/-- the numbers sent are small -/
def uOK (M : MS) (n : Nat) (u : Nat → Nat) : Prop := n ≤ 6 ∧ ∀ i, i < n → u i ≤ 2480000 ∧ pc M i 6 = nI (u i)
theorem uOK_of {M : MS} {n p b t : Nat} (W : WFn M n p b t) (ht : t ≤ 620000) : ∃ u, uOK M n u := by
  obtain ⟨w0, -, -, -, -, -, -, -, -, wP, -, -⟩ := W
  refine ⟨fun i => (pc M i 6).toNatClampNeg, w0.2, fun i hi => ?_⟩
  obtain ⟨-, -, -, -, -, -, ⟨a, a1, a2⟩, -, -⟩ := wP i hi
  show (pc M i 6).toNatClampNeg ≤ 2480000 ∧ pc M i 6 = nI (pc M i 6).toNatClampNeg
  rw [a2, nI_clamp (by omega)]
  exact ⟨by omega, rfl⟩
theorem fs_step {M : MS} {n k : Nat} {u : Nat → Nat} (U : uOK M n u) (hk : k < n) (H : isI FP.Core.b64 (fsM M k).1.toNat (sS u k) ∧ isI FP.Core.b64 (fsM M k).2.toNat (sQ u k) ∧ sS u k ≤ 2480000 * k ∧ sQ u k ≤ 6150400000000 * k) : nn64 (FP.dadd (fsM M k).1 (FP.i2d (pc M k 6))) = true ∧ nn64 (FP.dmul (FP.i2d (pc M k 6)) (FP.i2d (pc M k 6))) = true ∧ nn64 (FP.dadd (fsM M k).2 (FP.dmul (FP.i2d (pc M k 6)) (FP.i2d (pc M k 6)))) = true ∧ isI FP.Core.b64 (fsM M (k + 1)).1.toNat (sS u (k + 1)) ∧ isI FP.Core.b64 (fsM M (k + 1)).2.toNat (sQ u (k + 1)) ∧ sS u (k + 1) ≤ 2480000 * (k + 1) ∧ sQ u (k + 1) ≤ 6150400000000 * (k + 1) := by
  obtain ⟨h1, h2, h3, h4⟩ := H
  obtain ⟨n6, U2⟩ := U
  obtain ⟨u1, u2⟩ := U2 k hk
  have I := i2d_isI (a := u k) (by omega)
  rw [← u2] at I
  have sq : u k * u k ≤ 2480000 * 2480000 := Nat.mul_le_mul u1 u1
  obtain ⟨a1, a2⟩ := dadd_I h1 I (by omega)
  obtain ⟨b1, b2⟩ := dmul_I I I (by omega)
  obtain ⟨c1, c2⟩ := dadd_I h2 b1 (by omega)
  refine ⟨a2, b2, c2, a1, c1, ?_, ?_⟩
  · show sS u k + u k ≤ _; omega
  · show sQ u k + u k * u k ≤ _; omega
theorem fs_ok {M : MS} {n : Nat} {u : Nat → Nat} (U : uOK M n u) : ∀ k, k ≤ n → isI FP.Core.b64 (fsM M k).1.toNat (sS u k) ∧ isI FP.Core.b64 (fsM M k).2.toNat (sQ u k) ∧ sS u k ≤ 2480000 * k ∧ sQ u k ≤ 6150400000000 * k
  | 0, _ => ⟨Or.inl ⟨rfl, rfl⟩, Or.inl ⟨rfl, rfl⟩, Nat.le_refl _, Nat.le_refl _⟩
  | k + 1, h => (fs_step U (by omega) (fs_ok U k (by omega))).2.2.2
theorem x5_fair_l {h : Hp} {o n : Nat} {M : MS} {u : Nat → Nat} (S : SwR h (o + 1) M n) (h0 : M.1 0 = nI n) (U : uOK M n u) : ∀ (r k fuel : Nat), k + r = n → r < fuel → f_X5_fairness_l7 h o fuel (fsM M k).1 (fsM M k).2 (nI k) = some (fsM M n) := by
  have hs : hI h (o + 1) 4 = nI n := S.1.2.2.2.2.1.trans h0
  have n6 := U.1
  intro r
  induction r with
  | zero =>
    intro k fuel hk hf
    obtain ⟨fuel, rfl⟩ : ∃ z, fuel = z + 1 := ⟨fuel - 1, by omega⟩
    have : k = n := by omega
    subst this
    rw [f_X5_fairness_l7_s, hs, if_pos (Int32.le_refl _)]
  | succ r ih =>
    intro k fuel hk hf
    obtain ⟨fuel, rfl⟩ : ∃ z, fuel = z + 1 := ⟨fuel - 1, by omega⟩
    have P : PeR h (o + 1 + 2 + 1 + 4 * k) k M := S.2.2.2 k (by omega)
    obtain ⟨c0, c1, c2, c3, c4, c5, c6, c7⟩ := P.1
    obtain ⟨g1, g2, g3, -⟩ := fs_step U (by omega) (fs_ok U k (by omega))
    rw [f_X5_fairness_l7_s, hs, if_neg (nI_ge (by omega) (by omega)), if_pos (inb_nI (by omega) (by decide)), nI_clamp (by omega), c6, if_pos g1, if_pos g2, if_pos g3, nI_1]
    exact ih (k + 1) fuel (by omega) (by omega)
theorem x6_fair_l {h : Hp} {m n : Nat} {u : Nat → Nat} (h0 : (rv h m).1 0 = nI n) (U : uOK (rv h m) n u) : ∀ (r k fuel : Nat), k + r = n → r < fuel → f_X6_fairness_l7 h m fuel (fsM (rv h m) k).1 (fsM (rv h m) k).2 (nI k) = some (fsM (rv h m) n) := by
  have hs : hI h (m + 2) (0 : Int32).toNatClampNeg = nI n := h0
  have n6 := U.1
  intro r
  induction r with
  | zero =>
    intro k fuel hk hf
    obtain ⟨fuel, rfl⟩ : ∃ z, fuel = z + 1 := ⟨fuel - 1, by omega⟩
    have : k = n := by omega
    subst this
    rw [f_X6_fairness_l7_s, hs, if_pos (Int32.le_refl _)]
  | succ r ih =>
    intro k fuel hk hf
    obtain ⟨fuel, rfl⟩ : ∃ z, fuel = z + 1 := ⟨fuel - 1, by omega⟩
    have k6 : f_X6_cellOf h m (nI k) 6 = some (pc (rv h m) k 6) := x6_cell (c := 6) (by omega) (by decide)
    obtain ⟨g1, g2, g3, -⟩ := fs_step U (by omega) (fs_ok U k (by omega))
    rw [f_X6_fairness_l7_s, hs, if_neg (nI_ge (by omega) (by omega)), k6, bn1_some, if_pos g1, if_pos g2, if_pos g3, nI_1]
    exact ih (k + 1) fuel (by omega) (by omega)
def frQ (M : MS) (n : Nat) : UInt64 := FP.ddiv (FP.dmul (fsM M n).1 (fsM M n).1) (FP.dmul (FP.i2d (nI n)) (fsM M n).2)
def frV (M : MS) (n : Nat) : UInt64 := if (fsM M n).2.toNat = 0 then FP.dconst1 else frQ M n
theorem fr_ok {M : MS} {n : Nat} {u : Nat → Nat} (U : uOK M n u) : (fsM M n).2.toNat < 9218868437227405312 ∧ (¬ (fsM M n).2.toNat = 0 → nn64 (FP.dmul (fsM M n).1 (fsM M n).1) = true ∧ nn64 (FP.dmul (FP.i2d (nI n)) (fsM M n).2) = true ∧ 4503599627370496 ≤ (frQ M n).toNat ∧ (frQ M n).toNat ≤ 4607182418800017408) := by
  obtain ⟨h1, h2, h3, h4⟩ := fs_ok U n (Nat.le_refl _)
  have n6 := U.1
  have L := isI_lt ok64 h2
  rw [m64] at L
  refine ⟨L.1, fun z => ?_⟩
  have Q0 : 0 < sQ u n := by
    rcases Nat.eq_zero_or_pos (sQ u n) with g | g
    · exact absurd (L.2.mpr g) z
    · exact g
  have c1 := csq u n
  have c2 := qs2 u n
  have n0 : 0 < n := by
    rcases Nat.eq_zero_or_pos n with g | g
    · subst g; exact absurd Q0 (Nat.lt_irrefl _)
    · exact g
  have s2 : sS u n * sS u n ≤ 14880000 * 14880000 := Nat.mul_le_mul (by omega) (by omega)
  have nq : n * sQ u n ≤ 6 * 36902400000000 := Nat.mul_le_mul n6 (by omega)
  have nq6 : n * sQ u n ≤ 6 * sQ u n := Nat.mul_le_mul_right _ n6
  have nq0 : 0 < n * sQ u n := Nat.mul_pos n0 Q0
  obtain ⟨a1, a2⟩ := dmul_I h1 h1 (by omega)
  obtain ⟨b1, b2⟩ := dmul_I (i2d_isI (a := n) (by omega)) h2 (by omega)
  obtain ⟨c, q, e1, e2, e3, e4, e5⟩ := isI_div ok64 (k := 0) a1 b1 (by omega) nq0 (by decide) (by rw [Nat.pow_zero, Nat.mul_one]; exact c1)
  have e6 := e5 (by omega)
  have k1 : bitsOf FP.Core.b64 FP.Core.b64.tails (1 - (FP.Core.b64.p : Int) + ((0 : Nat) : Int)) = 4607182418800017408 := by decide
  have k2 : 4503599627370496 ≤ bitsOf FP.Core.b64 FP.Core.b64.tails (1 - (FP.Core.b64.p : Int) - 3) := by decide
  rw [k1] at e4
  have e : (frQ M n).toNat = bitsOf FP.Core.b64 c q := by
    show (UInt64.ofNat (FP.Core.div FP.Core.b64 (FP.dmul (fsM M n).1 (fsM M n).1).toNat (FP.dmul (FP.i2d (nI n)) (fsM M n).2).toNat)).toNat = _
    rw [e1, u64 (by omega)]
  exact ⟨a2, b2, by rw [e]; omega, by rw [e]; exact e4⟩
theorem dc1 : FP.dconst1.toNat = 4607182418800017408 := rfl
theorem x5_fairness {h : Hp} {o n p b t : Nat} {M : MS} (S : SwR h (o + 1) M n) (W : WFn M n p b t) (ht : t ≤ 620000) : f_X5_fairness h o = some (frV M n).toInt64 := by
  obtain ⟨u, U⟩ := uOK_of W ht
  have w0 := W.1
  obtain ⟨L, R⟩ := fr_ok U
  have hs : hI h (o + 1) 4 = nI n := S.1.2.2.2.2.1.trans w0.1
  unfold f_X5_fairness
  rw [show f_X5_fairness_l7 h o fu FP.dconst0 FP.dconst0 0 = some ((fsM M n).1, (fsM M n).2) from x5_fair_l S w0.1 U n 0 fu (by omega) (by show n < 5000; omega), bn2_some, dcmp_0 L, hs]
  unfold frV
  by_cases z : (fsM M n).2.toNat = 0
  · rw [z, cv_eq, if_pos rfl, if_pos rfl, ofDouble_ok (by rw [dc1]; decide) (by rw [dc1]; decide)]; rfl
  · obtain ⟨g1, g2, g3, g4⟩ := R z
    rw [cv_gt (by omega), if_neg (by decide), if_neg z, if_pos g1, if_pos g2]
    show (if nn64 (frQ M n) = true then bn1 (f_X0_ofDouble h (frQ M n)) _ else none) = _
    rw [if_pos (nn64_le (by omega)), ofDouble_ok g3 (by omega)]; rfl
theorem x6_fairness {h : Hp} {m n p b t : Nat} (W : WFn (rv h m) n p b t) (ht : t ≤ 620000) : f_X6_fairness h m = some (frV (rv h m) n).toInt64 := by
  obtain ⟨u, U⟩ := uOK_of W ht
  have w0 := W.1
  obtain ⟨L, R⟩ := fr_ok U
  have hs : hI h (m + 2) (0 : Int32).toNatClampNeg = nI n := w0.1
  unfold f_X6_fairness f_X6_fairness_j75
  rw [show f_X6_fairness_l7 h m fu FP.dconst0 FP.dconst0 0 = some ((fsM (rv h m) n).1, (fsM (rv h m) n).2) from x6_fair_l w0.1 U n 0 fu (by omega) (by show n < 5000; omega), bn2_some, dcmp_0 L, hs]
  unfold frV
  by_cases z : (fsM (rv h m) n).2.toNat = 0
  · rw [z, cv_eq, if_pos rfl, if_pos rfl, dtlb_ok (by rw [dc1]; decide)]; rfl
  · obtain ⟨g1, g2, g3, g4⟩ := R z
    rw [cv_gt (by omega), if_neg (by decide), if_neg z, if_pos g1, if_pos g2]
    show (if nn64 (frQ (rv h m) n) = true then bn1 (f_Jxe99ae_doubleToLongBits_ccdee h (frQ (rv h m) n)) _ else none) = _
    rw [if_pos (nn64_le (by omega)), dtlb_ok (by omega)]; rfl
theorem op_fairness (o : Nat) : Op_fairness o (Inv o) := by
  intro c h hc H
  obtain ⟨n, p, b, S, W⟩ := id H.1
  exact ⟨_, x5_fairness S W (by omega), x6_fairness W (by omega), Inv_same H⟩
