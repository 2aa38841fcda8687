/-! THE CLASS READS A TEXT; T: its Text (T + 1 bytes, T + 2 letters, T + 3 firsts, T + 4 seconds) -/
theorem hI_if (h : Hp) (a j : Nat) (v : Int32) (b k : Nat) : hI (sI h a j v) b k = if b = a ∧ k = j then v else hI h b k := by
  by_cases hb : b = a
  · by_cases hk : k = j
    · rw [if_pos ⟨hb, hk⟩, hI_s2 h a b j k v hb hk]
    · rw [if_neg (fun q => hk q.2), hI_s3 h a b j k v hb hk]
  · rw [if_neg (fun q => hb q.1), hI_s1 h a b j k v hb]
theorem nI_n0 {a : Nat} (h0 : a ≠ 0) (ha : a < 2 ^ 31) : ¬ nI a = 0 := fun w => h0 ((nI_eq (b := 0) ha (by decide)).mp w)
def XS (T : Nat) (x : Nat → Int32) (len : Nat) (g : Hp) (ls us vs : Nat → Int32) (k : Nat) (io : Int32) (h : Hp) : Prop :=
  (∀ z, z < T ∨ T + 5 ≤ z → same g h z) ∧ h.1 (T + 1) = g.1 (T + 1) ∧ hI h T 0 = nI len ∧ (∀ j, j < len → hI h (T + 1) j = x j) ∧ hI h T 1 = nI k ∧ hI h T 8 = io ∧ (∀ j, j < k → hI h (T + 2) j = ls j ∧ hI h (T + 3) j = us j ∧ hI h (T + 4) j = vs j)
section
variable {T len k : Nat} {x ls us vs : Nat → Int32} {g h : Hp} {io : Int32}
theorem XS_67 (X : XS T x len g ls us vs k io h) {f : Nat} (hf : f = 6 ∨ f = 7) (v : Int32) : XS T x len g ls us vs k io (sI h T f v) := by
  obtain ⟨a1, a2, a3, a4, a5, a6, a7⟩ := X
  refine ⟨fun z hz => same_tr (a1 z hz) (same_sI (by omega)), ?_, ?_, fun j hj => ?_, ?_, ?_, fun j hj => ?_⟩
  · rw [sI1 h f v (by omega)]; exact a2
  · rw [hI_sIj h T v (by omega)]; exact a3
  · rw [hI_sIb h f j v (by omega)]; exact a4 j hj
  · rw [hI_sIj h T v (by omega)]; exact a5
  · rw [hI_sIj h T v (by omega)]; exact a6
  · rw [hI_sIb h f j v (by omega), hI_sIb h f j v (by omega), hI_sIb h f j v (by omega)]; exact a7 j hj
theorem XS_row (X : XS T x len g ls us vs k io h) {r : Nat} (hr : r = T + 2 ∨ r = T + 3 ∨ r = T + 4) (v : Int32) : XS T x len g ls us vs k io (sI h r k v) := by
  obtain ⟨a1, a2, a3, a4, a5, a6, a7⟩ := X
  refine ⟨fun z hz => same_tr (a1 z hz) (same_sI (by omega)), ?_, ?_, fun j hj => ?_, ?_, ?_, fun j hj => ?_⟩
  · rw [sI1 h k v (by omega)]; exact a2
  · rw [hI_sIb h k _ v (by omega)]; exact a3
  · rw [hI_sIb h k j v (by omega)]; exact a4 j hj
  · rw [hI_sIb h k _ v (by omega)]; exact a5
  · rw [hI_sIb h k _ v (by omega)]; exact a6
  · rw [hI_if, hI_if, hI_if, if_neg (by omega), if_neg (by omega), if_neg (by omega)]; exact a7 j hj
theorem XS_8 (X : XS T x len g ls us vs k io h) (v : Int32) : XS T x len g ls us vs k v (sI h T 8 v) := by
  obtain ⟨a1, a2, a3, a4, a5, a6, a7⟩ := X
  refine ⟨fun z hz => same_tr (a1 z hz) (same_sI (by omega)), ?_, ?_, fun j hj => ?_, ?_, ?_, fun j hj => ?_⟩
  · rw [sI1 h 8 v (by omega)]; exact a2
  · rw [hI_sIj h T v (by omega)]; exact a3
  · rw [hI_sIb h 8 j v (by omega)]; exact a4 j hj
  · rw [hI_sIj h T v (by omega)]; exact a5
  · rw [hI_sI]
  · rw [hI_sIb h 8 j v (by omega), hI_sIb h 8 j v (by omega), hI_sIb h 8 j v (by omega)]; exact a7 j hj
theorem XS_1 (X : XS T x len g ls us vs k io h) (e1 : hI h (T + 2) k = ls k) (e2 : hI h (T + 3) k = us k) (e3 : hI h (T + 4) k = vs k) : XS T x len g ls us vs (k + 1) io (sI h T 1 (nI (k + 1))) := by
  obtain ⟨a1, a2, a3, a4, a5, a6, a7⟩ := X
  refine ⟨fun z hz => same_tr (a1 z hz) (same_sI (by omega)), ?_, ?_, fun j hj => ?_, ?_, ?_, fun j hj => ?_⟩
  · rw [sI1 h 1 _ (by omega)]; exact a2
  · rw [hI_sIj h T _ (by omega)]; exact a3
  · rw [hI_sIb h 1 j _ (by omega)]; exact a4 j hj
  · rw [hI_sI]
  · rw [hI_sIj h T _ (by omega)]; exact a6
  · rw [hI_sIb h 1 j _ (by omega), hI_sIb h 1 j _ (by omega), hI_sIb h 1 j _ (by omega)]
    by_cases q : j = k
    · rw [q]; exact ⟨e1, e2, e3⟩
    · exact a7 j (by omega)
def Rn (T a : Nat) (h : Hp) (a2 : Nat) (h2 : Hp) : Prop := a ≤ a2 ∧ ∀ fuel, f_X4_read_l12 T (fuel + (a2 - a)) (nI a) h = f_X4_read_l12 T fuel (nI a2) h2
theorem Rn_rfl (T a : Nat) (h : Hp) : Rn T a h a h := ⟨Nat.le_refl _, fun fuel => by rw [Nat.sub_self, Nat.add_zero]⟩
theorem Rn_tr {a b c : Nat} {h1 h2 : Hp} (A : Rn T a h b h1) (B : Rn T b h1 c h2) : Rn T a h c h2 := by
  refine ⟨Nat.le_trans A.1 B.1, fun fuel => ?_⟩
  have a1 := A.1
  have b1 := B.1
  rw [show fuel + (c - a) = fuel + (c - b) + (b - a) by omega, A.2, B.2]
theorem rn_1 {a : Nat} {h2 : Hp} (X : XS T x len g ls us vs k io h) (hl : len ≤ 120) (ha : a < len) (ht : f_X4_takes h T (x a) = some (1, h2)) : Rn T a h (a + 1) h2 := by
  refine ⟨Nat.le_succ _, fun fuel => ?_⟩
  rw [Nat.add_sub_cancel_left, f_X4_read_l12_s, X.2.2.1, if_neg (nI_ge ha (by omega)), if_pos (inb_nI (by omega) (by decide)), nI_clamp (by omega), X.2.2.2.1 a ha, ht, bn2_some, if_neg (by decide), nI_1]
def Fl (T len : Nat) (g : Hp) (a : Nat) (h : Hp) (f : Nat) : Prop := a ≤ f ∧ ∃ h2, (∀ z, z < T ∨ T + 5 ≤ z → same g h2 z) ∧ h2.1 (T + 1) = g.1 (T + 1) ∧ hI h2 T 0 = nI len ∧ ((∀ fuel, f_X4_read_l12 T (fuel + 1 + (f - a)) (nI a) h = some (0, nI f, h2)) ∨ (f = len ∧ ¬ hI h2 T 8 = 0 ∧ ∀ fuel, f_X4_read_l12 T (fuel + 1 + (f - a)) (nI a) h = some (1, 0, h2)))
theorem Fl_tr {a b f : Nat} {h1 : Hp} (A : Rn T a h b h1) (B : Fl T len g b h1 f) : Fl T len g a h f := by
  obtain ⟨b0, h2, b1, b2, b3, b4⟩ := B
  have a1 := A.1
  refine ⟨Nat.le_trans A.1 b0, h2, b1, b2, b3, ?_⟩
  have e : ∀ fuel, f_X4_read_l12 T (fuel + 1 + (f - a)) (nI a) h = f_X4_read_l12 T (fuel + 1 + (f - b)) (nI b) h1 := fun fuel => by
    rw [show fuel + 1 + (f - a) = fuel + 1 + (f - b) + (b - a) by omega, A.2]
  rcases b4 with b4 | ⟨b4, b5, b6⟩
  · exact Or.inl (fun fuel => by rw [e]; exact b4 fuel)
  · exact Or.inr ⟨b4, b5, fun fuel => by rw [e]; exact b6 fuel⟩
theorem Fl_0 {f : Nat} (X : XS T x len g ls us vs k io h) (hl : len ≤ 120) (hf : f < len) (ht : f_X4_takes h T (x f) = some (0, h)) : Fl T len g f h f := by
  refine ⟨Nat.le_refl _, h, X.1, X.2.1, X.2.2.1, Or.inl (fun fuel => ?_)⟩
  rw [Nat.sub_self, Nat.add_zero, f_X4_read_l12_s, X.2.2.1, if_neg (nI_ge hf (by omega)), if_pos (inb_nI (by omega) (by decide)), nI_clamp (by omega), X.2.2.2.1 f hf, ht, bn2_some, if_pos rfl]
theorem Fl_len (X : XS T x len g ls us vs k 1 h) (hl : len ≤ 120) : Fl T len g len h len := by
  refine ⟨Nat.le_refl _, h, X.1, X.2.1, X.2.2.1, Or.inr ⟨rfl, by rw [X.2.2.2.2.2.1]; decide, fun fuel => ?_⟩⟩
  rw [Nat.sub_self, Nat.add_zero, f_X4_read_l12_s, X.2.2.1, if_pos (nI_le (Nat.le_refl _) (by omega))]
theorem c_bla (hl : len ≤ 120) : ∀ (r a a2 : Nat) (h : Hp), a + r = a2 → bla x len a a2 → XS T x len g ls us vs k io h → ∃ h2, Rn T a h a2 h2 ∧ XS T x len g ls us vs k io h2 ∧ hI h2 T 6 = hI h T 6 ∧ (∀ d, 2 ≤ d → h2.1 (T + d) = h.1 (T + d)) ∧ (hI h2 T 7 = 0 ∨ (a2 = a ∧ hI h2 T 7 = hI h T 7)) := by
  intro r
  induction r with
  | zero =>
    intro a a2 h e B X
    have : a2 = a := by omega
    subst this
    exact ⟨h, Rn_rfl _ _ _, X, rfl, fun _ _ => rfl, Or.inr ⟨rfl, rfl⟩⟩
  | succ r ih =>
    intro a a2 h e B X
    have e32 : x a = 32 := B.2.2.1 a (Nat.le_refl _) (by omega)
    have b2 := B.2.1
    have ht : f_X4_takes h T (x a) = some (1, sI h T 7 0) := by
      unfold f_X4_takes
      rw [if_pos e32]
    obtain ⟨h2, q1, q2, q3, q4, q5⟩ := ih (a + 1) a2 (sI h T 7 0) (by omega) ⟨by omega, B.2.1, fun j g1 g2 => B.2.2.1 j (by omega) g2, B.2.2.2⟩ (XS_67 X (Or.inr rfl) 0)
    refine ⟨h2, Rn_tr (rn_1 X hl (by omega) ht) q1, q2, by rw [q3, hI_sIj h T _ (by omega)], fun d hd => by rw [q4 d hd, sI1 h 7 0 (by omega)], Or.inl ?_⟩
    rcases q5 with q | ⟨-, q⟩
    · exact q
    · rw [q, hI_sI]
theorem tl_24 {c : Int32} (hc : ltr c) : f_X4_takesLetter h T c = f_X4_takesLetter_j24 h T c := by
  unfold f_X4_takesLetter
  rcases hc with rfl | rfl | rfl | rfl
  · rw [if_pos rfl]
  · rw [if_neg (by decide), if_pos rfl]
  · rw [if_neg (by decide), if_neg (by decide), if_pos rfl]
  · rw [if_neg (by decide), if_neg (by decide), if_neg (by decide), if_pos rfl]
theorem tl_33 {c : Int32} (hc : ¬ ltr c) : f_X4_takesLetter h T c = some (0, h) := by
  unfold f_X4_takesLetter f_X4_takesLetter_j33
  rw [if_neg (fun q => hc (Or.inl q)), if_neg (fun q => hc (Or.inr (Or.inl q))), if_neg (fun q => hc (Or.inr (Or.inr (Or.inl q)))), if_neg (fun q => hc (Or.inr (Or.inr (Or.inr q))))]
theorem ltr_32 {c : Int32} (hc : ltr c) : c ≠ 32 := by
  rcases hc with rfl | rfl | rfl | rfl <;> decide
/-- how many numbers an order wants -/
def lkN (l : Int32) : Nat := if l = 114 then 1 else 2
theorem c_let {a : Nat} (hl : len ≤ 120) (hk : k < 40) (ha : a < len) (hc : ltr (x a)) (X : XS T x len g ls us vs k 0 h) : ∃ h2, Rn T a h (a + 1) h2 ∧ XS T x len g ls us vs k 1 h2 ∧ hI h2 (T + 2) k = x a ∧ hI h2 (T + 3) k = 0 ∧ hI h2 (T + 4) k = 0 ∧ hI h2 T 6 = nI (lkN (x a)) ∧ hI h2 T 7 = 0 := by
  have e1 : hI h T 1 = nI k := X.2.2.2.2.1
  have e2 : hI (sI h (T + 2) k (x a)) T 1 = nI k := by rw [hI_sIb h k 1 _ (by omega)]; exact e1
  have e3 : hI (sI (sI h (T + 2) k (x a)) (T + 3) k 0) T 1 = nI k := by rw [hI_sIb _ k 1 _ (by omega)]; exact e2
  have ht : f_X4_takes h T (x a) = some (1, sI (sI (sI (sI (sI (sI h (T + 2) k (x a)) (T + 3) k 0) (T + 4) k 0) T 6 (nI (lkN (x a)))) T 7 0) T 8 1) := by
    unfold f_X4_takes
    rw [if_neg (ltr_32 hc), if_pos X.2.2.2.2.2.1, tl_24 hc]
    unfold f_X4_takesLetter_j24
    rw [e1, if_pos (show nI k < 40 from nI_lt (b := 40) hk (by decide)), if_pos (inb_nI hk (by decide)), nI_clamp (by omega), e2, if_pos (inb_nI hk (by decide)), nI_clamp (by omega), e3, if_pos (inb_nI hk (by decide)), nI_clamp (by omega)]
    unfold f_X4_takesLetter_j77 lkN
    by_cases q : x a = 114
    · rw [if_pos q, if_pos q, if_pos (by decide), bn2_some, if_pos (by decide)]
      rfl
    · rw [if_neg q, if_neg q, if_pos (by decide), bn2_some, if_pos (by decide)]
      rfl
  refine ⟨_, rn_1 X hl ha ht, XS_8 (XS_67 (XS_67 (XS_row (XS_row (XS_row X (Or.inl rfl) _) (Or.inr (Or.inl rfl)) _) (Or.inr (Or.inr rfl)) _) (Or.inl rfl) _) (Or.inr rfl) _) _, ?_, ?_, ?_, ?_, ?_⟩
  · rw [hI_if, if_neg (by omega), hI_if, if_neg (by omega), hI_if, if_neg (by omega), hI_if, if_neg (by omega), hI_if, if_neg (by omega), hI_if, if_pos ⟨rfl, rfl⟩]
  · rw [hI_if, if_neg (by omega), hI_if, if_neg (by omega), hI_if, if_neg (by omega), hI_if, if_neg (by omega), hI_if, if_pos ⟨rfl, rfl⟩]
  · rw [hI_if, if_neg (by omega), hI_if, if_neg (by omega), hI_if, if_neg (by omega), hI_if, if_pos ⟨rfl, rfl⟩]
  · rw [hI_if, if_neg (by omega), hI_if, if_neg (by omega), hI_if, if_pos ⟨rfl, rfl⟩]
  · rw [hI_if, if_neg (by omega), hI_if, if_pos ⟨rfl, rfl⟩]
/-- the row that the next number goes to -/
def rwT (T : Nat) (l : Int32) (L : Nat) : Nat := if l ≠ 114 ∧ L = 0 then T + 4 else T + 3
theorem rwT_or (T : Nat) (l : Int32) (L : Nat) : rwT T l L = T + 3 ∨ rwT T l L = T + 4 := by
  unfold rwT
  split
  · exact Or.inr rfl
  · exact Or.inl rfl
theorem tf_39 {L : Nat} {l d : Int32} (hk : k < 40) (hL : L < 3) (e1 : hI h T 1 = nI k) (e2 : hI h (T + 2) k = l) (e6 : hI h T 6 = nI L) : f_X4_takesFigure_j39 h T d = some (1, sI (sI h T 7 (hI h T 7 + 1)) (rwT T l L) k (hI h (rwT T l L) k * 10 + d)) := by
  have g1 : hI (sI h T 7 (hI h T 7 + 1)) T 1 = nI k := by rw [hI_sIj h T _ (by omega)]; exact e1
  have g2 : hI (sI h T 7 (hI h T 7 + 1)) (T + 2) k = l := by rw [hI_sIb h 7 k _ (by omega)]; exact e2
  have g6 : hI (sI h T 7 (hI h T 7 + 1)) T 6 = nI L := by rw [hI_sIj h T _ (by omega)]; exact e6
  have gr : ∀ d, 1 ≤ d → hI (sI h T 7 (hI h T 7 + 1)) (T + d) k = hI h (T + d) k := fun d hd => hI_sIb h 7 k _ (by omega)
  unfold f_X4_takesFigure_j39 f_X4_takesFigure_j74 f_X4_takesFigure_j75 f_X4_takesFigure_j91 rwT
  rw [g1, if_pos (inb_nI hk (by decide)), nI_clamp (by omega), g2, g6]
  by_cases q : l = 114
  · rw [if_pos q, if_pos rfl, if_pos (inb_nI hk (by decide)), if_pos (inb_nI hk (by decide)), gr 3 (by decide), if_neg (fun z => z.1 q)]
  · rw [if_neg q]
    by_cases z : L = 0
    · subst z
      rw [if_pos (show nI 0 = 0 from rfl), if_neg (by decide), if_pos (inb_nI hk (by decide)), if_pos (inb_nI hk (by decide)), gr 4 (by decide), if_pos ⟨q, rfl⟩]
    · rw [if_neg (nI_n0 z (by omega)), if_pos rfl, if_pos (inb_nI hk (by decide)), if_pos (inb_nI hk (by decide)), gr 3 (by decide), if_neg (fun w => z w.2)]
theorem tk_d {a : Nat} (h8 : hI h T 8 = 1) (D : dgt x len a) : f_X4_takes h T (x a) = bn2 (f_X4_takesFigure h T (x a - 48)) (fun v2 h3 => (if isBb v2 = true then (some (v2, h3)) else none)) := by
  unfold f_X4_takes
  rw [if_neg (dgt_32 D), if_neg (by rw [h8]; decide), if_neg D.2.1, if_neg D.2.2]
theorem tk_n {a : Nat} (h8 : hI h T 8 = 1) (ha : a < len) (h32 : x a ≠ 32) (D : ¬ dgt x len a) : f_X4_takes h T (x a) = f_X4_takes_j47 h T (x a) := by
  unfold f_X4_takes
  rw [if_neg h32, if_neg (by rw [h8]; decide)]
  by_cases q : x a < 48
  · rw [if_pos q]
  · rw [if_neg q]
    by_cases z : 57 < x a
    · rw [if_pos z]
    · exact absurd ⟨ha, q, z⟩ D
theorem c_num {a e L : Nat} {l v : Int32} (hl : len ≤ 120) (hk : k < 40) (X : XS T x len g ls us vs k 1 h) (e2 : hI h (T + 2) k = l) (e6 : hI h T 6 = nI (L + 1)) (hL : L < 2) (e0 : hI h (rwT T l L) k = 0) (e7 : hI h T 7 = 0 ∨ ¬ dgt x len a) (N : nmO x len a v e) : ∃ h2, Rn T a h e h2 ∧ XS T x len g ls us vs k 1 h2 ∧ hI h2 (T + 2) k = l ∧ hI h2 T 6 = nI L ∧ hI h2 (rwT T l L) k = v ∧ (∀ d, 3 ≤ d → T + d ≠ rwT T l L → hI h2 (T + d) k = hI h (T + d) k) := by
  obtain ⟨a2, B, D, q, nd⟩ := N
  have b1 := B.1
  obtain ⟨h1, R1, X1, s6, sd, s7⟩ := c_bla hl (a2 - a) a a2 h (by omega) B X
  have z7 : hI h1 T 7 = 0 := by
    rcases s7 with s | ⟨s, t⟩
    · exact s
    · rcases e7 with e | e
      · rw [t]; exact e
      · rw [s] at D; exact absurd D e
  have z2 : hI h1 (T + 2) k = l := by rw [hI_eq (sd 2 (by decide))]; exact e2
  have ro := rwT_or T l L
  have z0 : hI h1 (rwT T l L) k = 0 := by
    rw [← e0]
    rcases ro with r | r <;> rw [r]
    · exact hI_eq (sd 3 (by decide)) k
    · exact hI_eq (sd 4 (by decide)) k
  have z6 : hI h1 T 6 = nI (L + 1) := s6.trans e6
  have f6 : nI (L + 1) - 1 = nI L := by
    have := nI_subE (a := L + 1) (b := 1) (by omega)
    exact this
  have t1 : f_X4_takes h1 T (x a2) = some (1, sI (sI (sI h1 T 6 (nI L)) T 7 1) (rwT T l L) k (x a2 - 48)) := by
    rw [tk_d X1.2.2.2.2.2.1 D]
    unfold f_X4_takesFigure
    rw [if_pos z7, z6, if_neg (nI_n0 (a := L + 1) (by omega) (by omega)), f6, tf_39 (k := k) (l := l) (L := L) hk (by omega) (by rw [hI_sIj h1 T _ (by omega)]; exact X1.2.2.2.2.1) (by rw [hI_sIb h1 6 k _ (by omega)]; exact z2) (hI_sI _ _ _ _), bn2_some, if_pos (by decide), hI_sIj h1 T _ (by omega), z7, hI_sIb h1 6 k _ (by omega), z0, Int32.zero_mul, Int32.zero_add, Int32.zero_add]
  have X2 : XS T x len g ls us vs k 1 (sI (sI (sI h1 T 6 (nI L)) T 7 1) (rwT T l L) k (x a2 - 48)) := XS_row (XS_67 (XS_67 X1 (Or.inl rfl) _) (Or.inr rfl) _) (by omega) _
  have R2 := Rn_tr R1 (rn_1 X1 hl D.1 t1)
  have y2 : hI (sI (sI (sI h1 T 6 (nI L)) T 7 1) (rwT T l L) k (x a2 - 48)) (T + 2) k = l := by rw [hI_if, if_neg (by omega), hI_if, if_neg (by omega), hI_if, if_neg (by omega)]; exact z2
  have y6 : hI (sI (sI (sI h1 T 6 (nI L)) T 7 1) (rwT T l L) k (x a2 - 48)) T 6 = nI L := by rw [hI_if, if_neg (by omega), hI_if, if_neg (by omega), hI_if, if_pos ⟨rfl, rfl⟩]
  have y7 : hI (sI (sI (sI h1 T 6 (nI L)) T 7 1) (rwT T l L) k (x a2 - 48)) T 7 = 1 := by rw [hI_if, if_neg (by omega), hI_if, if_pos ⟨rfl, rfl⟩]
  have yr : hI (sI (sI (sI h1 T 6 (nI L)) T 7 1) (rwT T l L) k (x a2 - 48)) (rwT T l L) k = x a2 - 48 := hI_sI _ _ _ _
  have yd : ∀ d, 3 ≤ d → T + d ≠ rwT T l L → hI (sI (sI (sI h1 T 6 (nI L)) T 7 1) (rwT T l L) k (x a2 - 48)) (T + d) k = hI h (T + d) k := fun d hd hne => by
    rw [hI_if, if_neg (fun z => hne z.1), hI_if, if_neg (by omega), hI_if, if_neg (by omega)]
    exact hI_eq (sd d (by omega)) k
  rcases q with ⟨rfl, rfl⟩ | ⟨rfl, D1, rfl⟩
  · exact ⟨_, R2, X2, y2, y6, yr, yd⟩
  · generalize sI (sI (sI h1 T 6 (nI L)) T 7 1) (rwT T l L) k (x a2 - 48) = H at *
    have t2 : f_X4_takes H T (x (a2 + 1)) = some (1, sI (sI H T 7 2) (rwT T l L) k ((x a2 - 48) * 10 + (x (a2 + 1) - 48))) := by
      rw [tk_d X2.2.2.2.2.2.1 D1]
      unfold f_X4_takesFigure
      rw [y7, if_neg (by decide), if_neg (by decide), tf_39 (k := k) (l := l) (L := L) hk (by omega) X2.2.2.2.2.1 y2 y6, bn2_some, if_pos (by decide), y7, yr]
      rfl
    refine ⟨_, Rn_tr R2 (rn_1 X2 hl D1.1 t2), XS_row (XS_67 X2 (Or.inr rfl) _) (by omega) _, ?_, ?_, hI_sI _ _ _ _, fun d hd hne => ?_⟩
    · rw [hI_if, if_neg (by omega), hI_if, if_neg (by omega)]; exact y2
    · rw [hI_if, if_neg (by omega), hI_if, if_neg (by omega)]; exact y6
    · rw [hI_if, if_neg (fun z => hne z.1), hI_if, if_neg (by omega)]; exact yd d hd hne
theorem j47_0 {c : Int32} {L : Nat} (hL : L < 2) (e6 : hI h T 6 = nI (L + 1)) : f_X4_takes_j47 h T c = some (0, h) := by
  unfold f_X4_takes_j47 f_X4_takes_j60
  by_cases q : c = 59
  · rw [if_pos q, if_neg (by rw [e6]; exact nI_ge (a := 0) (by omega) (by omega))]
  · rw [if_neg q]
theorem c_numF {a f L : Nat} {l : Int32} (hl : len ≤ 120) (hk : k < 40) (X : XS T x len g ls us vs k 1 h) (e2 : hI h (T + 2) k = l) (e6 : hI h T 6 = nI (L + 1)) (hL : L < 2) (e7 : hI h T 7 = 0 ∨ ¬ dgt x len a) (N : nmF x len a f) : Fl T len g a h f := by
  obtain ⟨a2, B, q⟩ := N
  have b1 := B.1
  obtain ⟨h1, R1, X1, s6, sd, s7⟩ := c_bla hl (a2 - a) a a2 h (by omega) B X
  have z6 : hI h1 T 6 = nI (L + 1) := s6.trans e6
  rcases q with ⟨D, rfl⟩ | ⟨D, D1, D2, rfl⟩
  · refine Fl_tr R1 ?_
    by_cases hlt : f < len
    · exact Fl_0 X1 hl hlt (by rw [tk_n X1.2.2.2.2.2.1 hlt (B.2.2.2 hlt) D, j47_0 hL z6])
    · have : f = len := by have := B.2.1; omega
      subst this
      exact Fl_len X1 hl
  · have z7 : hI h1 T 7 = 0 := by
      rcases s7 with s | ⟨s, t⟩
      · exact s
      · rcases e7 with e | e
        · rw [t]; exact e
        · rw [s] at D; exact absurd D e
    have z2 : hI h1 (T + 2) k = l := by rw [hI_eq (sd 2 (by decide))]; exact e2
    have ro := rwT_or T l L
    have f6 : nI (L + 1) - 1 = nI L := by
      have := nI_subE (a := L + 1) (b := 1) (by omega)
      exact this
    have t1 : ∃ w, f_X4_takes h1 T (x a2) = some (1, sI (sI (sI h1 T 6 (nI L)) T 7 1) (rwT T l L) k w) := by
      rw [tk_d X1.2.2.2.2.2.1 D]
      unfold f_X4_takesFigure
      rw [if_pos z7, z6, if_neg (nI_n0 (a := L + 1) (by omega) (by omega)), f6, tf_39 (k := k) (l := l) (L := L) hk (by omega) (by rw [hI_sIj h1 T _ (by omega)]; exact X1.2.2.2.2.1) (by rw [hI_sIb h1 6 k _ (by omega)]; exact z2) (hI_sI _ _ _ _), bn2_some, if_pos (by decide), hI_sIj h1 T _ (by omega), z7, Int32.zero_add]
      exact ⟨_, rfl⟩
    obtain ⟨w1, t1⟩ := t1
    have X2 : XS T x len g ls us vs k 1 (sI (sI (sI h1 T 6 (nI L)) T 7 1) (rwT T l L) k w1) := XS_row (XS_67 (XS_67 X1 (Or.inl rfl) _) (Or.inr rfl) _) (by omega) _
    have R2 := Rn_tr R1 (rn_1 X1 hl D.1 t1)
    have y2 : hI (sI (sI (sI h1 T 6 (nI L)) T 7 1) (rwT T l L) k w1) (T + 2) k = l := by rw [hI_if, if_neg (by omega), hI_if, if_neg (by omega), hI_if, if_neg (by omega)]; exact z2
    have y6 : hI (sI (sI (sI h1 T 6 (nI L)) T 7 1) (rwT T l L) k w1) T 6 = nI L := by rw [hI_if, if_neg (by omega), hI_if, if_neg (by omega), hI_if, if_pos ⟨rfl, rfl⟩]
    have y7 : hI (sI (sI (sI h1 T 6 (nI L)) T 7 1) (rwT T l L) k w1) T 7 = 1 := by rw [hI_if, if_neg (by omega), hI_if, if_pos ⟨rfl, rfl⟩]
    generalize sI (sI (sI h1 T 6 (nI L)) T 7 1) (rwT T l L) k w1 = H at *
    have t2 : ∃ w, f_X4_takes H T (x (a2 + 1)) = some (1, sI (sI H T 7 2) (rwT T l L) k w) := by
      rw [tk_d X2.2.2.2.2.2.1 D1]
      unfold f_X4_takesFigure
      rw [y7, if_neg (by decide), if_neg (by decide), tf_39 (k := k) (l := l) (L := L) hk (by omega) X2.2.2.2.2.1 y2 y6, bn2_some, if_pos (by decide), y7]
      exact ⟨_, rfl⟩
    obtain ⟨w2, t2⟩ := t2
    have X3 : XS T x len g ls us vs k 1 (sI (sI H T 7 2) (rwT T l L) k w2) := XS_row (XS_67 X2 (Or.inr rfl) _) (by omega) _
    refine Fl_tr (Rn_tr R2 (rn_1 X2 hl D1.1 t2)) (Fl_0 X3 hl D2.1 ?_)
    have w7 : hI (sI (sI H T 7 2) (rwT T l L) k w2) T 7 = 2 := by rw [hI_if, if_neg (by omega), hI_if, if_pos ⟨rfl, rfl⟩]
    rw [tk_d X3.2.2.2.2.2.1 D2]
    unfold f_X4_takesFigure
    rw [w7, if_neg (by decide), if_pos rfl, bn2_some, if_pos (by decide)]
end
