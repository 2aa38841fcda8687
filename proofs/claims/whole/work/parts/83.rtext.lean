/-! THE REFERENCE READS A TEXT; m: its object (m + 10 the bytes, m + 11 the numbers, field 13 where it reads, 14 whether there is a fault) -/
def FrT (m : Nat) (g h : Hp) : Prop := h.2 = g.2 ∧ (∀ z, z ≠ m → z ≠ m + 11 → h.1 z = g.1 z) ∧ ∀ k, k ≠ 13 → k ≠ 14 → hI h m k = hI g m k
theorem FrT_rfl (m : Nat) (h : Hp) : FrT m h h := ⟨rfl, fun _ _ _ => rfl, fun _ _ _ => rfl⟩
def RS (m : Nat) (x : Nat → Int32) (len : Nat) (g h : Hp) (a : Nat) (ft : Int32) : Prop := FrT m g h ∧ (hI h m 12 = nI len ∧ ∀ j, j < len → hI h (m + 10) j = x j) ∧ hI h m 13 = nI a ∧ hI h m 14 = ft
section
variable {m len : Nat} {x : Nat → Int32} {g h : Hp} {a : Nat} {ft : Int32}
theorem RS_13 (R : RS m x len g h a ft) (a2 : Nat) : RS m x len g (sI h m 13 (nI a2)) a2 ft := by
  obtain ⟨⟨f1, f2, f3⟩, ⟨t1, t2⟩, -, q⟩ := R
  refine ⟨⟨f1, fun z z1 z2 => ?_, fun k k1 k2 => ?_⟩, ⟨?_, fun j hj => ?_⟩, hI_sI _ _ _ _, ?_⟩
  · rw [sI1 h 13 _ z1]; exact f2 z z1 z2
  · rw [hI_sIj h m _ k1]; exact f3 k k1 k2
  · rw [hI_sIj h m _ (by omega)]; exact t1
  · rw [hI_sIb h 13 j _ (by omega)]; exact t2 j hj
  · rw [hI_sIj h m _ (by omega)]; exact q
theorem RS_14 (R : RS m x len g h a ft) (ft2 : Int32) : RS m x len g (sI h m 14 ft2) a ft2 := by
  obtain ⟨⟨f1, f2, f3⟩, ⟨t1, t2⟩, q, -⟩ := R
  refine ⟨⟨f1, fun z z1 z2 => ?_, fun k k1 k2 => ?_⟩, ⟨?_, fun j hj => ?_⟩, ?_, hI_sI _ _ _ _⟩
  · rw [sI1 h 14 _ z1]; exact f2 z z1 z2
  · rw [hI_sIj h m _ k2]; exact f3 k k1 k2
  · rw [hI_sIj h m _ (by omega)]; exact t1
  · rw [hI_sIb h 14 j _ (by omega)]; exact t2 j hj
  · rw [hI_sIj h m _ (by omega)]; exact q
theorem RS_11 (R : RS m x len g h a ft) (j : Nat) (v : Int32) : RS m x len g (sI h (m + 11) j v) a ft := by
  obtain ⟨⟨f1, f2, f3⟩, ⟨t1, t2⟩, q, q2⟩ := R
  refine ⟨⟨f1, fun z z1 z2 => ?_, fun k k1 k2 => ?_⟩, ⟨?_, fun i hi => ?_⟩, ?_, ?_⟩
  · rw [sI1 h j _ z2]; exact f2 z z1 z2
  · rw [hI_sIb h j k _ (by omega)]; exact f3 k k1 k2
  · rw [hI_sIb h j _ _ (by omega)]; exact t1
  · rw [hI_sIb h j i _ (by omega)]; exact t2 i hi
  · rw [hI_sIb h j _ _ (by omega)]; exact q
  · rw [hI_sIb h j _ _ (by omega)]; exact q2
theorem at_t {lo hi : Int32} (hl : len ≤ 120) (R : RS m x len g h a ft) (ha : a < len) (hr : inr (x a) lo hi) : f_X6_isAt h m lo hi = some 1 := by
  unfold f_X6_isAt
  rw [R.2.1.1, R.2.2.1, if_neg (nI_ge ha (by omega)), if_pos (inb_nI (by omega) (by decide)), nI_clamp (by omega), R.2.1.2 a ha, x6_in_t hr, bn1_some, if_neg one_ne_zero32]
theorem at_f {lo hi : Int32} (hl : len ≤ 120) (R : RS m x len g h a ft) (ha : a ≤ len) (hr : ¬ (a < len ∧ inr (x a) lo hi)) : f_X6_isAt h m lo hi = some 0 := by
  unfold f_X6_isAt f_X6_isAt_j32
  rw [R.2.1.1, R.2.2.1]
  by_cases q : a < len
  · rw [if_neg (nI_ge q (by omega)), if_pos (inb_nI (by omega) (by decide)), nI_clamp (by omega), R.2.1.2 a q, x6_in_f (fun z => hr ⟨q, z⟩), bn1_some, if_pos rfl]
  · rw [if_pos (nI_le (by omega) (by omega))]
theorem inr_one {v c : Int32} : inr v c c ↔ v = c := by
  constructor
  · intro h
    exact Int32.le_antisymm (Int32.not_lt.mp h.2) (Int32.not_lt.mp h.1)
  · rintro rfl
    exact ⟨Int32.lt_irrefl, Int32.lt_irrefl⟩
theorem r_bla (hl : len ≤ 120) : ∀ (r a a2 fuel : Nat) (h : Hp), a + r = a2 → r < fuel → bla x len a a2 → RS m x len g h a ft → ∃ h2, f_X6_blanks_l0 m fuel h = some h2 ∧ RS m x len g h2 a2 ft ∧ h2.1 (m + 11) = h.1 (m + 11) := by
  intro r
  induction r with
  | zero =>
    intro a a2 fuel h e hf B R
    obtain ⟨fuel, rfl⟩ : ∃ z, fuel = z + 1 := ⟨fuel - 1, by omega⟩
    have : a2 = a := by omega
    subst this
    refine ⟨h, ?_, R, rfl⟩
    rw [f_X6_blanks_l0_s, at_f hl R B.2.1 (fun z => B.2.2.2 z.1 (inr_one.mp z.2)), bn1_some, if_pos rfl]
  | succ r ih =>
    intro a a2 fuel h e hf B R
    obtain ⟨fuel, rfl⟩ : ∃ z, fuel = z + 1 := ⟨fuel - 1, by omega⟩
    have b2 := B.2.1
    have e32 : x a = 32 := B.2.2.1 a (Nat.le_refl _) (by omega)
    rw [f_X6_blanks_l0_s, at_t hl R (by omega) (inr_one.mpr e32), bn1_some, if_neg one_ne_zero32, R.2.2.1, nI_1]
    obtain ⟨h2, q1, q2, q3⟩ := ih (a + 1) a2 fuel _ (by omega) (by omega) ⟨by omega, b2, fun j g1 g2 => B.2.2.1 j (by omega) g2, B.2.2.2⟩ (RS_13 R (a + 1))
    exact ⟨h2, q1, q2, by rw [q3, sI1 h 13 _ (by omega)]⟩
theorem r_blanks {a2 : Nat} (hl : len ≤ 120) (B : bla x len a a2) (R : RS m x len g h a ft) : ∃ h2, f_X6_blanks h m = some h2 ∧ RS m x len g h2 a2 ft ∧ h2.1 (m + 11) = h.1 (m + 11) := by
  have b1 := B.1
  have b2 := B.2.1
  obtain ⟨h2, q1, q2, q3⟩ := r_bla hl (a2 - a) a a2 fu h (by omega) (by show a2 - a < 5000; omega) B R
  refine ⟨h2, ?_, q2, q3⟩
  unfold f_X6_blanks
  rw [q1, bn1_some]
theorem nl_e {fuel : Nat} {v w : Int32} (hl : len ≤ 120) (ha : a ≤ len) (R : RS m x len g h a 0) (D : ¬ dgt x len a) : f_X6_number_l35 m (fuel + 1) v w h = some (v, h) := by
  rw [f_X6_number_l35_s, if_pos R.2.2.2, at_f hl R ha D, bn1_some, if_pos rfl]
theorem nl_x {fuel : Nat} {v w : Int32} (R : RS m x len g h a 1) : f_X6_number_l35 m (fuel + 1) v w h = some (v, h) := by
  rw [f_X6_number_l35_s, if_neg (by rw [R.2.2.2]; decide)]
theorem nl_d {fuel z : Nat} {v : Int32} (hl : len ≤ 120) (hz : z < 2) (R : RS m x len g h a 0) (D : dgt x len a) : f_X6_number_l35 m (fuel + 1) v (nI z) h = f_X6_number_l35 m fuel (10 * v + x a - 48) (nI (z + 1)) (sI (sI h m 14 0) m 13 (nI (a + 1))) := by
  have R2 := RS_14 R 0
  have hd := D.1
  rw [f_X6_number_l35_s, if_pos R.2.2.2, at_t hl R D.1 D.2, bn1_some, if_neg one_ne_zero32, nI_1, if_pos (show nI (z + 1) ≤ 2 from nI_le (b := 2) (by omega) (by decide))]
  unfold f_X6_number_j67 f_X6_number_j98 f_X6_number_j116
  rw [if_pos (by decide), if_pos R2.2.2.2, R2.2.2.1, if_pos (inb_nI (by omega) (by decide)), if_pos R2.2.2.2, nI_clamp (by omega), R2.2.1.2 a hd, nI_1]
theorem nl_d0 {fuel : Nat} {v : Int32} (hl : len ≤ 120) (R : RS m x len g h a 0) (D : dgt x len a) : f_X6_number_l35 m (fuel + 1) v 0 h = f_X6_number_l35 m fuel (10 * v + x a - 48) (nI 1) (sI (sI h m 14 0) m 13 (nI (a + 1))) := nl_d (z := 0) hl (by decide) R D
theorem nl_3 {fuel : Nat} {v : Int32} (hl : len ≤ 120) (R : RS m x len g h a 0) (D : dgt x len a) : f_X6_number_l35 m (fuel + 1) v (nI 2) h = f_X6_number_l35 m fuel v (nI 3) (sI (sI h m 14 1) m 13 (nI a)) := by
  have R2 := RS_14 R 1
  rw [f_X6_number_l35_s, if_pos R.2.2.2, at_t hl R D.1 D.2, bn1_some, if_neg one_ne_zero32, nI_1, if_neg (show ¬ nI (2 + 1) ≤ 2 by decide)]
  unfold f_X6_number_j67 f_X6_number_j98 f_X6_number_j116
  rw [if_pos (by decide), if_neg (by rw [R2.2.2.2]; decide), if_neg (by rw [R2.2.2.2]; decide), R2.2.2.1, Int32.add_zero]
theorem ten_0 (y : Int32) : 10 * (0 : Int32) + y - 48 = y - 48 := by rw [Int32.mul_zero, Int32.zero_add]
theorem ten_1 (y z : Int32) : 10 * y + z - 48 = y * 10 + (z - 48) := by rw [Int32.mul_comm, Int32.sub_eq_add_neg, Int32.sub_eq_add_neg, Int32.add_assoc]
theorem r_num {e : Nat} {v : Int32} (hl : len ≤ 120) (N : nmO x len a v e) (R : RS m x len g h a 0) : ∃ h2, f_X6_number h m = some (v, h2) ∧ RS m x len g h2 e 0 ∧ h2.1 (m + 11) = h.1 (m + 11) := by
  have ne := nmO_le N
  obtain ⟨a2, B, D, q, nd⟩ := N
  obtain ⟨h1, q1, R1, q3⟩ := r_blanks hl B R
  have R2 := RS_14 R1 0
  have R3 := RS_13 (RS_14 R2 0) (a2 + 1)
  have s3 : (sI (sI (sI h1 m 14 0) m 14 0) m 13 (nI (a2 + 1))).1 (m + 11) = h.1 (m + 11) := by rw [sI1 _ 13 _ (by omega), sI1 _ 14 _ (by omega), sI1 _ 14 _ (by omega)]; exact q3
  unfold f_X6_number f_X6_number_j32 f_X6_number_j123
  rw [q1, bn1_some, if_pos R1.2.2.2, at_t hl R1 D.1 D.2, bn1_some, if_neg one_ne_zero32, if_pos (by decide), show fu = 4997 + 1 + 1 + 1 from rfl, nl_d0 hl R2 D]
  rcases q with ⟨rfl, rfl⟩ | ⟨rfl, D1, rfl⟩
  · rw [nl_e hl ne.2 R3 nd, bn2_some]
    exact ⟨_, by rw [ten_0], R3, s3⟩
  · have R4 := RS_13 (RS_14 R3 0) (a2 + 1 + 1)
    rw [nl_d (z := 1) hl (by decide) R3 D1, nl_e hl ne.2 R4 nd, bn2_some]
    refine ⟨_, by rw [ten_0, ten_1], R4, ?_⟩
    rw [sI1 _ 13 _ (by omega), sI1 _ 14 _ (by omega)]
    exact s3
theorem r_numF {f : Nat} (hl : len ≤ 120) (N : nmF x len a f) (R : RS m x len g h a 0) : ∃ v h2, f_X6_number h m = some (v, h2) ∧ RS m x len g h2 f 1 ∧ h2.1 (m + 11) = h.1 (m + 11) := by
  obtain ⟨a2, B, q⟩ := N
  obtain ⟨h1, q1, R1, q3⟩ := r_blanks hl B R
  unfold f_X6_number f_X6_number_j27 f_X6_number_j32 f_X6_number_j123
  rw [q1, bn1_some, if_pos R1.2.2.2]
  rcases q with ⟨D, rfl⟩ | ⟨D, D1, D2, rfl⟩
  · have R2 := RS_14 R1 1
    rw [at_f hl R1 B.2.1 D, bn1_some, if_pos rfl, if_pos (by decide), show fu = 4999 + 1 from rfl, nl_x R2, bn2_some]
    exact ⟨_, _, rfl, R2, by rw [sI1 _ 14 _ (by omega)]; exact q3⟩
  · have R2 := RS_14 R1 0
    have R3 := RS_13 (RS_14 R2 0) (a2 + 1)
    have R4 := RS_13 (RS_14 R3 0) (a2 + 1 + 1)
    have R5 := RS_13 (RS_14 R4 1) (a2 + 1 + 1)
    rw [at_t hl R1 D.1 D.2, bn1_some, if_neg one_ne_zero32, if_pos (by decide), show fu = 4996 + 1 + 1 + 1 + 1 from rfl, nl_d0 hl R2 D, nl_d (z := 1) hl (by decide) R3 D1, nl_3 hl R4 D2, nl_x R5, bn2_some]
    refine ⟨_, _, rfl, R5, ?_⟩
    rw [sI1 _ 13 _ (by omega), sI1 _ 14 _ (by omega), sI1 _ 13 _ (by omega), sI1 _ 14 _ (by omega), sI1 _ 13 _ (by omega), sI1 _ 14 _ (by omega), sI1 _ 14 _ (by omega)]
    exact q3
end
/-- what is done at the end of an order -/
def tlO (kk : Int32 → Hp → Option (Int32 × Hp)) (m : Nat) (d cnt l : Int32) (h : Hp) : Option (Int32 × Hp) := if d = 0 then kk (cnt + 0) h else bn2 (f_X6_isDone h m l) (fun v14 h15 => if v14 = 0 then kk (cnt + 0) h15 else kk (cnt + 1) h15)
section
variable {m len : Nat} {x : Nat → Int32} {g h : Hp} {a : Nat} {d cnt l : Int32} {kk : Int32 → Hp → Option (Int32 × Hp)}
theorem j218F (R : RS m x len g h a 1) : f_X6_reads_j218 kk h m d cnt l = kk cnt h := by
  unfold f_X6_reads_j218 f_X6_reads_j249
  rw [if_neg (by rw [R.2.2.2]; decide)]
theorem j165F {w : Int32} (R : RS m x len g h a 1) : ∃ H, f_X6_reads_j165 kk h (m + 11) 1 w m d cnt l = kk cnt H ∧ RS m x len g H a 1 := by
  have R2 := RS_11 R 1 w
  refine ⟨_, ?_, R2⟩
  unfold f_X6_reads_j165
  rw [if_pos (by decide), show ((1 : Int32).toNatClampNeg) = 1 from rfl, if_neg (by rw [R2.2.2.2]; decide), j218F R2]
theorem j138F {w : Int32} (R : RS m x len g h a 1) : ∃ H, f_X6_reads_j138 kk h (m + 11) 0 w m d cnt l = kk cnt H ∧ RS m x len g H a 1 := by
  have R2 := RS_11 R 0 w
  unfold f_X6_reads_j138 f_X6_reads_j157
  rw [if_pos (by decide), show ((0 : Int32).toNatClampNeg) = 0 from rfl, if_neg (by rw [R2.2.2.2]; decide)]
  exact j165F R2
theorem j165G {f : Nat} {v : Int32} (hl : len ≤ 120) (R : RS m x len g h a 0) (B : bla x len a f) (nf : ¬ (f < len ∧ x f = 59)) : ∃ H, f_X6_reads_j165 kk h (m + 11) 1 v m d cnt l = kk cnt H ∧ RS m x len g H f 1 := by
  have R2 := RS_11 R 1 v
  obtain ⟨h1, q1, R3, -⟩ := r_blanks hl B R2
  have R4 := RS_14 R3 1
  have R5 := RS_13 R4 f
  unfold f_X6_reads_j165 f_X6_reads_j194 f_X6_reads_j214
  rw [if_pos (by decide), show ((1 : Int32).toNatClampNeg) = 1 from rfl, if_pos R2.2.2.2, q1, bn1_some, at_f hl R3 B.2.1 (fun z => nf ⟨z.1, inr_one.mp z.2⟩), bn1_some, if_pos rfl, if_pos (by decide), if_neg (by rw [R4.2.2.2]; decide), R4.2.2.1, Int32.add_zero, j218F R5]
  exact ⟨_, rfl, R5⟩
theorem j165O {a3 e : Nat} {u v : Int32} (hl : len ≤ 120) (R : RS m x len g h a 0) (hu : hI h (m + 11) 0 = u) (B : bla x len a a3) (h3 : a3 < len) (h59 : x a3 = 59) (B4 : bla x len (a3 + 1) e) : ∃ H, f_X6_reads_j165 kk h (m + 11) 1 v m d cnt l = tlO kk m d cnt l H ∧ RS m x len g H e 0 ∧ hI H (m + 11) 0 = u ∧ hI H (m + 11) 1 = v := by
  have R2 := RS_11 R 1 v
  obtain ⟨h1, q1, R3, s3⟩ := r_blanks hl B R2
  have R4 := RS_14 R3 0
  have R5 := RS_13 R4 (a3 + 1)
  obtain ⟨h6, q6, R6, s6⟩ := r_blanks hl B4 R5
  have s : h6.1 (m + 11) = (sI h (m + 11) 1 v).1 (m + 11) := by rw [s6, sI1 _ 13 _ (by omega), sI1 _ 14 _ (by omega), s3]
  refine ⟨h6, ?_, R6, ?_, ?_⟩
  · unfold f_X6_reads_j165 f_X6_reads_j194 f_X6_reads_j214 f_X6_reads_j218 f_X6_reads_j246 f_X6_reads_j247 f_X6_reads_j249 tlO
    rw [if_pos (by decide), show ((1 : Int32).toNatClampNeg) = 1 from rfl, if_pos R2.2.2.2, q1, bn1_some, at_t hl R3 h3 (inr_one.mpr h59), bn1_some, if_neg one_ne_zero32, if_pos (by decide), if_pos R4.2.2.2, R4.2.2.1, nI_1, if_pos R5.2.2.2, q6, bn1_some]
  · rw [hI_eq s, hI_sIj _ _ _ (by decide)]; exact hu
  · rw [hI_eq s, hI_sI]
theorem j138O {e1 e2 a3 e : Nat} {u v : Int32} (hl : len ≤ 120) (R : RS m x len g h e1 0) (S : sec x len l e1 v e2) (B : bla x len e2 a3) (h3 : a3 < len) (h59 : x a3 = 59) (B4 : bla x len (a3 + 1) e) : ∃ H, f_X6_reads_j138 kk h (m + 11) 0 u m d cnt l = tlO kk m d cnt l H ∧ RS m x len g H e 0 ∧ hI H (m + 11) 0 = u ∧ hI H (m + 11) 1 = v := by
  have R2 := RS_11 R 0 u
  unfold f_X6_reads_j138 f_X6_reads_j157
  rw [if_pos (by decide), show ((0 : Int32).toNatClampNeg) = 0 from rfl, if_pos R2.2.2.2]
  rcases S with ⟨l4, rfl, rfl⟩ | ⟨ln, N2⟩
  · rw [if_pos l4]
    exact j165O hl R2 (hI_sI _ _ _ _) B h3 h59 B4
  · obtain ⟨h1, q1, R3, s3⟩ := r_num hl N2 R2
    rw [if_neg ln, q1, bn2_some]
    exact j165O hl R3 (by rw [hI_eq s3, hI_sI]) B h3 h59 B4
theorem j138G {e1 f : Nat} {u : Int32} (hl : len ≤ 120) (R : RS m x len g h e1 0) (q : (l ≠ 114 ∧ nmF x len e1 f) ∨ ∃ v e2, sec x len l e1 v e2 ∧ bla x len e2 f ∧ ¬ (f < len ∧ x f = 59)) : ∃ H, f_X6_reads_j138 kk h (m + 11) 0 u m d cnt l = kk cnt H ∧ RS m x len g H f 1 := by
  have R2 := RS_11 R 0 u
  unfold f_X6_reads_j138 f_X6_reads_j157
  rw [if_pos (by decide), show ((0 : Int32).toNatClampNeg) = 0 from rfl, if_pos R2.2.2.2]
  rcases q with ⟨ln, F⟩ | ⟨v, e2, S, B, nf⟩
  · obtain ⟨w, h1, q1, R3, -⟩ := r_numF hl F R2
    rw [if_neg ln, q1, bn2_some]
    exact j165F R3
  · rcases S with ⟨l4, rfl, rfl⟩ | ⟨ln, N2⟩
    · rw [if_pos l4]
      exact j165G hl R2 B nf
    · obtain ⟨h1, q1, R3, s3⟩ := r_num hl N2 R2
      rw [if_neg ln, q1, bn2_some]
      exact j165G hl R3 B nf
theorem l36_l {fuel : Nat} (hl : len ≤ 120) (ha : a < len) (hc : ltr (x a)) (R : RS m x len g h a 0) : f_X6_reads_l36 m d (fuel + 1) cnt h = f_X6_reads_j93 (f_X6_reads_l36 m d fuel) h m m d cnt (x a) := by
  rw [f_X6_reads_l36_s, if_pos R.2.2.2, R.2.1.1, R.2.2.1, if_neg (nI_ge ha (by omega)), if_pos (inb_nI (by omega) (by decide)), nI_clamp (by omega), R.2.1.2 a ha]
  rcases hc with q | q | q | q <;> rw [q]
  · rw [if_pos rfl]
  · rw [if_neg (by decide), if_pos rfl]
  · rw [if_neg (by decide), if_neg (by decide), if_pos rfl]
  · rw [if_neg (by decide), if_neg (by decide), if_neg (by decide), if_pos rfl]
theorem r_ord {fuel e : Nat} {u v : Int32} (hl : len ≤ 120) (R : RS m x len g h a 0) (O : orO x len a l u v e) : ∃ H, f_X6_reads_l36 m d (fuel + 1) cnt h = tlO (f_X6_reads_l36 m d fuel) m d cnt l H ∧ RS m x len g H e 0 ∧ hI H (m + 11) 0 = u ∧ hI H (m + 11) 1 = v := by
  obtain ⟨ha, hxl, hlt, e1, e2, a3, N1, S, B3, h3, h59, B4⟩ := O
  have R2 := RS_14 R 0
  have R3 := RS_13 R2 (a + 1)
  obtain ⟨h1, q1, R4, -⟩ := r_num hl N1 R3
  rw [l36_l hl ha (by rw [hxl]; exact hlt) R, hxl]
  unfold f_X6_reads_j93 f_X6_reads_j94 f_X6_reads_j114
  rw [if_pos (by decide), if_pos R2.2.2.2, R2.2.2.1, nI_1, if_pos R3.2.2.2, q1, bn2_some]
  exact j138O hl R4 S B3 h3 h59 B4
theorem r_ordF {fuel f : Nat} (hl : len ≤ 120) (R : RS m x len g h a 0) (O : orF x len a f) : ∃ H, f_X6_reads_l36 m d (fuel + 1) cnt h = f_X6_reads_l36 m d fuel cnt H ∧ RS m x len g H f 1 := by
  obtain ⟨ha, q⟩ := O
  rcases q with ⟨nl, rfl⟩ | ⟨hlt, q⟩
  · have R2 := RS_14 R 1
    have R3 := RS_13 R2 f
    rw [f_X6_reads_l36_s, if_pos R.2.2.2, R.2.1.1, R.2.2.1, if_neg (nI_ge ha (by omega)), if_pos (inb_nI (by omega) (by decide)), nI_clamp (by omega), R.2.1.2 f ha, if_neg (fun q => nl (Or.inl q)), if_neg (fun q => nl (Or.inr (Or.inl q))), if_neg (fun q => nl (Or.inr (Or.inr (Or.inl q)))), if_neg (fun q => nl (Or.inr (Or.inr (Or.inr q))))]
    unfold f_X6_reads_j94 f_X6_reads_j114
    rw [if_pos (by decide), if_neg (by rw [R2.2.2.2]; decide), R2.2.2.1, Int32.add_zero, if_neg (by rw [R3.2.2.2]; decide)]
    exact j138F R3
  · have R2 := RS_14 R 0
    have R3 := RS_13 R2 (a + 1)
    rw [l36_l hl ha hlt R]
    unfold f_X6_reads_j93 f_X6_reads_j94 f_X6_reads_j114
    rw [if_pos (by decide), if_pos R2.2.2.2, R2.2.2.1, nI_1, if_pos R3.2.2.2]
    rcases q with F1 | ⟨u, e1, N1, q⟩
    · obtain ⟨w, h1, q1, R4, -⟩ := r_numF hl F1 R3
      rw [q1, bn2_some]
      exact j138F R4
    · obtain ⟨h1, q1, R4, -⟩ := r_num hl N1 R3
      rw [q1, bn2_some]
      exact j138G hl R4 q
theorem r_x {fuel : Nat} (R : RS m x len g h a 1) : f_X6_reads_l36 m d (fuel + 1) cnt h = some (cnt, h) := by
  rw [f_X6_reads_l36_s, if_neg (by rw [R.2.2.2]; decide)]
theorem r_e {fuel : Nat} (hl : len ≤ 120) (R : RS m x len g h len 0) : f_X6_reads_l36 m d (fuel + 1) cnt h = some (cnt, h) := by
  rw [f_X6_reads_l36_s, if_pos R.2.2.2, R.2.1.1, R.2.2.1, if_pos (nI_le (Nat.le_refl _) (by omega))]
theorem RS_start (e0 : hI h m 12 = nI len) (e1 : ∀ j, j < len → hI h (m + 10) j = x j) : RS m x len h (sI (sI h m 13 0) m 14 0) 0 0 := by
  refine ⟨⟨rfl, fun z z1 z2 => ?_, fun k k1 k2 => ?_⟩, ⟨?_, fun j hj => ?_⟩, ?_, hI_sI _ _ _ _⟩
  · rw [sI1 _ 14 _ z1, sI1 _ 13 _ z1]
  · rw [hI_sIj _ _ _ k2, hI_sIj _ _ _ k1]
  · rw [hI_sIj _ _ _ (by omega), hI_sIj _ _ _ (by omega)]; exact e0
  · rw [hI_sIb _ 14 j _ (by omega), hI_sIb _ 13 j _ (by omega)]; exact e1 j hj
  · rw [hI_sIj _ _ _ (by omega), hI_sI]; rfl
end
