/-! DOES -/
theorem Inv_txt {o c : Nat} {h h2 : Hp} (e : ∀ z, (z < o + 169 ∨ (o + 174 < z ∧ z < o + 185)) → same h h2 z) (e1 : h2.1 (o + 170) = h.1 (o + 170)) (e0 : hI h2 (o + 169) 0 = hI h (o + 169) 0) (ek : ∀ k, k ≠ 13 → k ≠ 14 → hI h2 (o + 174) k = hI h (o + 174) k) (eL : h2.2.1 (o + 174) = h.2.1 (o + 174)) (H : Inv o c h) : Inv o c h2 := by
  refine ⟨Ia_congr (Nat.le_refl _) (fun a g1 g2 => (e a (by omega)).1) (e _ (by omega)).2.1 (fun a g1 g2 => (e a (by omega)).2.2) (e _ (by omega)).1 (e _ (by omega)).2.2 (hL_eq eL 3) H.1, Ib_congr (Nat.le_refl _) (fun a g1 g2 => (e a (by omega)).1) (fun a g1 g2 => (e a (by omega)).2.1) (fun a g1 g2 => (e a (by omega)).2.2) (hI_eq (e o (by omega)).1 5) (hI_eq (e o (by omega)).1 4) (ek 4 (by decide) (by decide)) (e _ (by omega)).1 (e _ (by omega)).2.2 (e _ (by omega)).2.1 H.2.1, Ic_congr e0 (ek 12 (by decide) (by decide)) e1 (e _ (by omega)).1 H.2.2.1, ?_⟩
  obtain ⟨q0, q1, q2⟩ := H.2.2.2
  have a := hI_eq (e o (by omega)).1
  have b := hI_eq (e (o + 175) (by omega)).1
  exact ⟨by rw [a, b]; exact q0, by rw [a, b]; exact q1, by rw [a, b]; exact q2⟩
theorem Inv_mut2 {o c K e : Nat} {h h1 h2 h3 h4 : Hp} {M : MS} (H : Inv o c h) (hM : rv h (o + 174) = M)
    (hK : K ≤ 5) (he : e < 5) (k1 : hI h o 5 = nI K) (k2 : hI h (o + 174) 4 = nI K) (k3 : hI h o 4 = nI e) (hst : ∀ t, t < K → Sim h (o + 29 + 27 * ((e + 5 - t) % 5)) (kv h (o + 174) (K - 1 - t)) (1200 * c))
    (a1 : ∀ b, b ≠ o → (b < o + 29 + 27 * ((e + 1) % 5) ∨ o + 29 + 27 * ((e + 1) % 5) + 27 ≤ b) → same h h1 b) (a2 : hI h1 o 5 = nI (if K < 5 then K + 1 else 5)) (a3 : hI h1 o 4 = nI ((e + 1) % 5)) (a4 : ∀ k, 5 < k → hI h1 o k = hI h o k) (a5 : Sim h1 (o + 29 + 27 * ((e + 1) % 5)) M (1200 * c))
    (b1 : ∀ b, (b < o + 1 ∨ o + 28 ≤ b) → (b < o + 164 ∨ o + 169 ≤ b) → b ≠ o + 174 → b ≠ o + 185 → same h1 h2 b) (b2 : ∀ k, k ≠ 13 → k ≠ 14 → hI h2 (o + 174) k = hI h1 (o + 174) k) (b3 : h2.2.1 (o + 174) = h1.2.1 (o + 174))
    (c1 : ∀ b, b ≠ o + 174 → b ≠ o + 178 → b ≠ o + 179 → b ≠ o + 180 → same h2 h3 b) (c2 : hI h3 (o + 174) 4 = nI (if K < 5 then K + 1 else 5)) (c3 : ∀ k, k ≠ 4 → hI h3 (o + 174) k = hI h2 (o + 174) k) (c4 : eqv (rv h2 (o + 174)) (kv h3 (o + 174) ((if K < 5 then K + 1 else 5) - 1))) (c5 : ∀ t, t + 1 < (if K < 5 then K + 1 else 5) → eqv (kv h2 (o + 174) (if K < 5 then t else t + 1)) (kv h3 (o + 174) t))
    (d1 : ∀ b, b ≠ o + 174 → b ≠ o + 176 → b ≠ o + 177 → b ≠ o + 181 → b ≠ o + 182 → b ≠ o + 183 → b ≠ o + 185 → same h3 h4 b) (d2 : ∀ k, k ≠ 13 → k ≠ 14 → hI h4 (o + 174) k = hI h3 (o + 174) k)
    (fin : Sim h2 (o + 1) (rv h4 (o + 174)) (1200 * (c + 1))) : Inv o (c + 1) h4 := by
  have hm : (e + 1) % 5 < 5 := Nat.mod_lt _ (by decide)
  have up : ∀ b, b < o + 174 → same h2 h4 b := fun b hb => same_tr (c1 b (by omega) (by omega) (by omega) (by omega)) (d1 b (by omega) (by omega) (by omega) (by omega) (by omega) (by omega) (by omega))
  have bb : ∀ b, (b < o + 1 ∨ o + 28 ≤ b) → (b < o + 164 ∨ o + 169 ≤ b) → b ≠ o + 174 → b < o + 185 → same h1 h2 b := fun b g1 g2 g3 g4 => b1 b g1 g2 g3 (by omega)
  have m2 : hI h4 (o + 174) 12 = hI h (o + 174) 12 := by
    rw [d2 12 (by decide) (by decide), c3 12 (by decide), b2 12 (by decide) (by decide), hI_eq (a1 _ (by omega) (by omega)).1]
  have kv2 : ∀ s, s < 5 → kv h2 (o + 174) s = kv h (o + 174) s := by
    intro s hs
    have x : ∀ b, o + 174 < b → b < o + 185 → same h h2 b := fun b hb hb2 => same_tr (a1 b (by omega) (by omega)) (bb b (by omega) (by omega) (by omega) hb2)
    unfold kv hI hF hL
    rw [(x (o + 174 + 4) (by omega) (by omega)).1, (x (o + 174 + 5) (by omega) (by omega)).2.2, (x (o + 174 + 6) (by omega) (by omega)).2.1]
  have kv4 : ∀ s, kv h4 (o + 174) s = kv h3 (o + 174) s := by
    intro s
    unfold kv hI hF hL
    rw [(d1 (o + 174 + 4) (by omega) (by omega) (by omega) (by omega) (by omega) (by omega) (by omega)).1, (d1 (o + 174 + 5) (by omega) (by omega) (by omega) (by omega) (by omega) (by omega) (by omega)).2.2, (d1 (o + 174 + 6) (by omega) (by omega) (by omega) (by omega) (by omega) (by omega) (by omega)).2.1]
  have rv2 : rv h2 (o + 174) = M := by
    rw [← hM]
    have x : ∀ b, o + 174 < b → b < o + 185 → same h h2 b := fun b hb hb2 => same_tr (a1 b (by omega) (by omega)) (bb b (by omega) (by omega) (by omega) hb2)
    unfold rv hI hF hL
    rw [(x (o + 174 + 2) (by omega) (by omega)).1, (x (o + 174 + 3) (by omega) (by omega)).2.2, b3, (a1 (o + 174) (by omega) (by omega)).2.1]
  refine ⟨?_, ⟨if K < 5 then K + 1 else 5, (e + 1) % 5, ?_, hm, ?_, ?_, ?_, fun t ht => ?_⟩, ?_, ?_⟩
  · exact Sim_congr (Nat.le_refl _) rfl (fun a g1 g2 => (up a (by omega)).1) (up _ (by omega)).2.1 (fun a g1 g2 => (up a (by omega)).2.2) fin
  · by_cases q : K < 5
    · rw [if_pos q]; omega
    · rw [if_neg q]; exact Nat.le_refl _
  · rw [hI_eq (up o (by omega)).1, hI_eq (bb o (by omega) (by omega) (by omega) (by omega)).1, a2]
  · rw [d2 4 (by decide) (by decide), c2]
  · rw [hI_eq (up o (by omega)).1, hI_eq (bb o (by omega) (by omega) (by omega) (by omega)).1, a3]
  · rw [kv4]
    have to4 : ∀ (q : Nat) (Mx : MS) (t : Nat), o + 29 ≤ q → q + 27 ≤ o + 164 → Sim h1 q Mx t → Sim h4 q Mx t := fun q Mx t g1 g2 S => Sim_congr (Nat.le_refl _) rfl (fun a x1 x2 => (same_tr (bb a (by omega) (by omega) (by omega) (by omega)) (up a (by omega))).1) (same_tr (bb q (by omega) (by omega) (by omega) (by omega)) (up q (by omega))).2.1 (fun a x1 x2 => (same_tr (bb a (by omega) (by omega) (by omega) (by omega)) (up a (by omega))).2.2) S
    have up1 : ∀ (q : Nat) (Mx : MS), Sim h4 q Mx (1200 * c) → Sim h4 q Mx (1200 * (c + 1)) := fun q Mx S => Sim_congr (by omega) rfl (fun _ _ _ => rfl) rfl (fun _ _ _ => rfl) S
    by_cases t0 : t = 0
    · subst t0
      rw [Nat.sub_zero, Nat.sub_zero, show ((e + 1) % 5 + 5) % 5 = (e + 1) % 5 by omega]
      refine up1 _ _ (Sim_eqv c4 ?_)
      rw [rv2]
      exact to4 _ _ _ (by omega) (by omega) a5
    · have hlt : t - 1 < K := by
        by_cases q : K < 5
        · rw [if_pos q] at ht; omega
        · rw [if_neg q] at ht; omega
      have hr : (e + 5 - (t - 1)) % 5 < 5 := Nat.mod_lt _ (by decide)
      have ht5 : t < 5 := by
        by_cases q : K < 5
        · rw [if_pos q] at ht; omega
        · rw [if_neg q] at ht; omega
      rw [show ((e + 1) % 5 + 5 - t) % 5 = (e + 5 - (t - 1)) % 5 by omega]
      refine up1 _ _ (Sim_eqv (c5 ((if K < 5 then K + 1 else 5) - 1 - t) (by omega)) ?_)
      have es : (if K < 5 then (if K < 5 then K + 1 else 5) - 1 - t else (if K < 5 then K + 1 else 5) - 1 - t + 1) = K - 1 - (t - 1) := by
        by_cases q : K < 5
        · rw [if_pos q, if_pos q]; omega
        · rw [if_neg q, if_neg q]; omega
      rw [es, kv2 _ (by omega)]
      refine to4 _ _ _ (by omega) (by omega) ?_
      refine Sim_congr (Nat.le_refl _) rfl (fun a x1 x2 => (a1 a (by omega) (by omega)).1) (a1 _ (by omega) (by omega)).2.1 (fun a x1 x2 => (a1 a (by omega) (by omega)).2.2) (hst (t - 1) hlt)
  · refine Ic_congr ?_ m2 ?_ ?_ H.2.2.1
    · rw [hI_eq (up _ (by omega)).1, hI_eq (bb _ (by omega) (by omega) (by omega) (by omega)).1, hI_eq (a1 _ (by omega) (by omega)).1]
    · rw [(up _ (by omega)).1, (bb _ (by omega) (by omega) (by omega) (by omega)).1, (a1 _ (by omega) (by omega)).1]
    · rw [(d1 _ (by omega) (by omega) (by omega) (by omega) (by omega) (by omega) (by omega)).1, (c1 _ (by omega) (by omega) (by omega) (by omega)).1, (bb _ (by omega) (by omega) (by omega) (by omega)).1, (a1 _ (by omega) (by omega)).1]
  · have x : h4.1 (o + 175) = h.1 (o + 175) := by
      rw [(d1 _ (by omega) (by omega) (by omega) (by omega) (by omega) (by omega) (by omega)).1, (c1 _ (by omega) (by omega) (by omega) (by omega)).1, (bb _ (by omega) (by omega) (by omega) (by omega)).1, (a1 _ (by omega) (by omega)).1]
    have y : ∀ k, 5 < k → hI h4 o k = hI h o k := fun k hk => by rw [hI_eq (up o (by omega)).1, hI_eq (bb o (by omega) (by omega) (by omega) (by omega)).1, a4 k hk]
    obtain ⟨q0, q1, q2⟩ := H.2.2.2
    exact ⟨by rw [y 6 (by decide), hI_eq x]; exact q0, by rw [y 7 (by decide), hI_eq x]; exact q1, by rw [y 8 (by decide), hI_eq x]; exact q2⟩
def FrG (m : Nat) (g g2 : Hp) : Prop := (∀ z, z ≠ m → z ≠ m + 2 → z ≠ m + 3 → z ≠ m + 7 → z ≠ m + 8 → z ≠ m + 9 → z ≠ m + 11 → same g g2 z) ∧ ∀ k, k ≠ 13 → k ≠ 14 → hI g2 m k = hI g m k
theorem FrG_tr {m : Nat} {h h1 h2 : Hp} (a : FrG m h h1) (b : FrG m h1 h2) : FrG m h h2 := ⟨fun z g1 g2 g3 g4 g5 g6 g7 => same_tr (a.1 z g1 g2 g3 g4 g5 g6 g7) (b.1 z g1 g2 g3 g4 g5 g6 g7), fun k k1 k2 => (b.2 k k1 k2).trans (a.2 k k1 k2)⟩
theorem FrG_T {m : Nat} {g h : Hp} (F : FrT m g h) : FrG m g h := ⟨fun z g1 _ _ _ _ _ g7 => ⟨F.2.1 z g1 g7, by rw [F.1], by rw [F.1]⟩, F.2.2⟩
theorem FrG_R {m : Nat} {g h : Hp} (F : FrR m g h) : FrG m g h := ⟨fun z g1 g2 g3 g4 g5 g6 _ => F.1 z g1 g2 g3 g4 g5 g6, fun k _ _ => F.2 k⟩
theorem rv_T {m : Nat} {g h : Hp} (F : FrT m g h) : rv h m = rv g m := by
  unfold rv hI hF hL
  rw [F.2.1 (m + 2) (by omega) (by omega), F.1]
section
variable {m len N : Nat} {x ls us vs : Nat → Int32} {ps : Nat → Nat} {g : Hp}
theorem r_rd0 {cnt : Int32} (hl : len ≤ 120) (C : chn x len N ls us vs ps) (hN : ps N = len) : ∀ (r k fuel : Nat) (h : Hp), k + r = N → r < fuel → RS m x len g h (ps k) 0 → ∃ H, f_X6_reads_l36 m 0 fuel cnt h = some (cnt, H) ∧ RS m x len g H len 0 := by
  intro r
  induction r with
  | zero =>
    intro k fuel h e hf R
    obtain ⟨fuel, rfl⟩ : ∃ z, fuel = z + 1 := ⟨fuel - 1, by omega⟩
    have : k = N := by omega
    subst this
    rw [hN] at R
    exact ⟨h, r_e hl R, R⟩
  | succ r ih =>
    intro k fuel h e hf R
    obtain ⟨fuel, rfl⟩ : ∃ z, fuel = z + 1 := ⟨fuel - 1, by omega⟩
    obtain ⟨H, q1, R2, -⟩ := r_ord (d := 0) (cnt := cnt) (fuel := fuel) hl R (C.2 k (by omega))
    rw [q1]
    unfold tlO
    rw [if_pos rfl, Int32.add_zero]
    exact ih (k + 1) fuel H (by omega) (by omega) R2
theorem r_rd0F {cnt : Int32} {f : Nat} (hl : len ≤ 120) (C : chn x len N ls us vs ps) (F : orF x len (ps N) f) : ∀ (r k fuel : Nat) (h : Hp), k + r = N → r + 1 < fuel → RS m x len g h (ps k) 0 → ∃ H, f_X6_reads_l36 m 0 fuel cnt h = some (cnt, H) ∧ RS m x len g H f 1 := by
  intro r
  induction r with
  | zero =>
    intro k fuel h e hf R
    obtain ⟨fuel, rfl⟩ : ∃ z, fuel = z + 1 + 1 := ⟨fuel - 2, by omega⟩
    have : k = N := by omega
    subst this
    obtain ⟨H, q1, R2⟩ := r_ordF (d := 0) (cnt := cnt) (fuel := fuel + 1) hl R F
    exact ⟨H, by rw [q1, r_x R2], R2⟩
  | succ r ih =>
    intro k fuel h e hf R
    obtain ⟨fuel, rfl⟩ : ∃ z, fuel = z + 1 := ⟨fuel - 1, by omega⟩
    obtain ⟨H, q1, R2, -⟩ := r_ord (d := 0) (cnt := cnt) (fuel := fuel) hl R (C.2 k (by omega))
    rw [q1]
    unfold tlO
    rw [if_pos rfl, Int32.add_zero]
    exact ih (k + 1) fuel H (by omega) (by omega) R2
theorem r_head {d : Int32} {h : Hp} (hl : len ≤ 120) (C : chn x len N ls us vs ps) (hlt : ps 0 < len) (e0 : hI h m 12 = nI len) (e1 : ∀ j, j < len → hI h (m + 10) j = x j) : ∃ G, RS m x len h G (ps 0) 0 ∧ f_X6_reads h m d = bn2 (f_X6_reads_l36 m d fu 0 G) (fun w h26 => f_X6_reads_j252 h26 m w) := by
  obtain ⟨h1, q1, R1, -⟩ := r_blanks hl C.1 (RS_start (x := x) e0 e1)
  refine ⟨_, RS_14 R1 0, ?_⟩
  unfold f_X6_reads f_X6_reads_j33
  rw [if_pos (by decide), q1, bn1_some, R1.2.2.1, R1.2.1.1, if_neg (fun z => absurd ((nI_eq (by omega) (by omega)).mp z) (by omega)), if_pos (by decide)]
theorem r_reads0 {h : Hp} (hl : len ≤ 120) (C : chn x len N ls us vs ps) (hN : ps N = len) (h1 : 1 ≤ N) (e0 : hI h m 12 = nI len) (e1 : ∀ j, j < len → hI h (m + 10) j = x j) : ∃ H, f_X6_reads h m 0 = some (0, H) ∧ RS m x len h H len 0 := by
  have b := chn_le C N (Nat.le_refl _)
  obtain ⟨G, R, q⟩ := r_head (d := 0) hl C (C.2 0 (by omega)).1 e0 e1
  obtain ⟨H, q2, R2⟩ := r_rd0 (cnt := 0) hl C hN N 0 fu G (by omega) (by show N < 5000; omega) R
  refine ⟨H, ?_, R2⟩
  unfold f_X6_reads_j252 at q
  rw [q, q2, bn2_some, if_pos R2.2.2.2]
theorem r_reads0F {h : Hp} {f : Nat} (hl : len ≤ 120) (C : chn x len N ls us vs ps) (F : orF x len (ps N) f ∨ (N = 0 ∧ ps N = len ∧ f = len)) (e0 : hI h m 12 = nI len) (e1 : ∀ j, j < len → hI h (m + 10) j = x j) : ∃ H, f_X6_reads h m 0 = some (-1, H) ∧ RS m x len h H f 1 := by
  have b := chn_le C N (Nat.le_refl _)
  rcases F with F | ⟨rfl, hN, rfl⟩
  · have hlt : ps 0 < len := by
      by_cases z : N = 0
      · subst z; exact F.1
      · exact (C.2 0 (by omega)).1
    obtain ⟨G, R, q⟩ := r_head (d := 0) hl C hlt e0 e1
    obtain ⟨H, q2, R2⟩ := r_rd0F (cnt := 0) hl C F N 0 fu G (by omega) (by show N + 1 < 5000; omega) R
    refine ⟨H, ?_, R2⟩
    unfold f_X6_reads_j252 at q
    rw [q, q2, bn2_some, if_neg (by rw [R2.2.2.2]; decide)]
  · obtain ⟨h1, q1, R1, -⟩ := r_blanks hl C.1 (RS_start (x := x) e0 e1)
    rw [hN] at R1
    have R2 := RS_14 R1 1
    refine ⟨_, ?_, R2⟩
    unfold f_X6_reads f_X6_reads_j33 f_X6_reads_j252
    rw [if_pos (by decide), q1, bn1_some, R1.2.2.1, R1.2.1.1, if_pos rfl, if_pos (by decide), show fu = 4999 + 1 from rfl, r_x R2, bn2_some, if_neg (by rw [R2.2.2.2]; decide)]
theorem RS_R {h : Hp} {a : Nat} {ft : Int32} (R : RS m x len g h a ft) {g2 : Hp} (F : FrR m h g2) : RS m x len g2 g2 a ft := by
  refine ⟨FrT_rfl _ _, ⟨by rw [F.2]; exact R.2.1.1, fun j hj => ?_⟩, by rw [F.2]; exact R.2.2.1, by rw [F.2]; exact R.2.2.2⟩
  rw [hI_eq (F.1 (m + 10) (by omega) (by omega) (by omega) (by omega) (by omega) (by omega)).1]
  exact R.2.1.2 j hj
end
theorem do_all {o len N p b : Nat} {x ls us vs : Nat → Int32} {ps : Nat → Nat} (hl : len ≤ 120) (C : chn x len N ls us vs ps) (hN : ps N = len) : ∀ (r k : Nat) (cnt : Int32) (M : MS) (n t : Nat) (h : Hp), k + r = N → SwR h (o + 1) M n → WFn M n p b t → t + 30 * r ≤ 1000000 → hI h (o + 169) 1 = nI N → (∀ j, j < N → hI h (o + 169 + 2) j = ls j ∧ hI h (o + 169 + 3) j = us j ∧ hI h (o + 169 + 4) j = vs j) →
    ∃ res M2 n2 h2, (∀ fuel, r < fuel → f_X5_does_l26 o fuel cnt (nI k) h = some (res, h2)) ∧ FrC (o + 1) (o + 164) h h2 ∧ SwR h2 (o + 1) M2 n2 ∧ WFn M2 n2 p b (t + 30 * r) ∧
      (∀ fuel g, r < fuel → RS (o + 174) x len g g (ps k) 0 → rv g (o + 174) = M → ∃ g2, f_X6_reads_l36 (o + 174) 1 fuel cnt g = some (res, g2) ∧ FrG (o + 174) g g2 ∧ rv g2 (o + 174) = M2 ∧ hI g2 (o + 174) 14 = 0) := by
  have bN := chn_le C N (Nat.le_refl _)
  intro r
  induction r with
  | zero =>
    intro k cnt M n t h e S W ht e1 er
    have : k = N := by omega
    subst this
    refine ⟨cnt, M, n, h, fun fuel hf => ?_, FrC_rfl _ _ _, S, WFn_up (by omega) W, fun fuel g hf R hg => ?_⟩
    · obtain ⟨fuel, rfl⟩ : ∃ z, fuel = z + 1 := ⟨fuel - 1, by omega⟩
      rw [f_X5_does_l26_s, e1, if_pos (nI_le (Nat.le_refl _) (by omega))]
    · obtain ⟨fuel, rfl⟩ : ∃ z, fuel = z + 1 := ⟨fuel - 1, by omega⟩
      rw [hN] at R
      exact ⟨g, r_e hl R, FrG_R (FrR_rfl _ _), hg, R.2.2.2⟩
  | succ r ih =>
    intro k cnt M n t h e S W ht e1 er
    have O := C.2 k (by omega)
    obtain ⟨ok, M1, n1, h1, s1, s2, s3, s4, s5⟩ := ors_ex (u := us k) (v := vs k) O.2.2.1 S W (by omega)
    have fr : ∀ z, o + 169 ≤ z → same h h1 z := fun z hz => s2 z (by omega) (by omega)
    obtain ⟨res, M2, n2, h2, t1, t2, t3, t4, t5⟩ := ih (k + 1) (if ok = true then cnt + 1 else cnt) M1 n1 (t + 30) h1 (by omega) s3 s4 (by omega) (by rw [hI_eq (fr _ (by omega)).1]; exact e1) (fun j hj => by rw [hI_eq (fr _ (by omega)).1, hI_eq (fr _ (by omega)).1, hI_eq (fr _ (by omega)).1]; exact er j hj)
    refine ⟨res, M2, n2, h2, fun fuel hf => ?_, FrC_tr s2 t2, t3, WFn_up (by omega) t4, fun fuel g hf R hg => ?_⟩
    · obtain ⟨fuel, rfl⟩ : ∃ z, fuel = z + 1 := ⟨fuel - 1, by omega⟩
      have w := t1 fuel (by omega)
      have q := er k (by omega)
      rw [f_X5_does_l26_s, e1, if_neg (nI_ge (by omega) (by omega)), if_pos (inb_nI (by omega) (by decide)), if_pos (inb_nI (by omega) (by decide)), if_pos (inb_nI (by omega) (by decide)), nI_clamp (by omega), q.1, q.2.1, q.2.2, s1, bn2_some]
      unfold f_X5_does_j74
      rw [nI_1]
      cases ok
      · rw [if_pos (show b01 false = 0 from rfl)]
        exact w
      · rw [if_neg (show ¬ b01 true = 0 by decide)]
        exact w
    · obtain ⟨fuel, rfl⟩ : ∃ z, fuel = z + 1 := ⟨fuel - 1, by omega⟩
      obtain ⟨H, q1, R2, hu, hv⟩ := r_ord (d := 1) (cnt := cnt) (fuel := fuel) hl R O
      obtain ⟨g1, q3, q4, q5⟩ := s5 H (by rw [rv_T R2.1]; exact hg) hu hv
      obtain ⟨g2, w1, w2, w3, w4⟩ := t5 fuel g1 (by omega) (RS_R R2 q4) q5
      refine ⟨g2, ?_, FrG_tr (FrG_T R2.1) (FrG_tr (FrG_R q4) w2), w3, w4⟩
      rw [q1]
      unfold tlO
      rw [if_neg (by decide), q3, bn2_some]
      cases ok
      · rw [if_pos (show b01 false = 0 from rfl), Int32.add_zero]
        exact w1
      · rw [if_neg (show ¬ b01 true = 0 by decide)]
        exact w1
