/-! RATES FADE -/
def fdM (M : MS) (s : Nat) (C : Nat → Int32) : MS := (M.1, fun c => if c < 36 then nrF (M.2.1 c) s (C c) else M.2.1 c, M.2.2)
theorem r_fade_l {h : Hp} {m s : Nat} (hs : s ≤ 9) (hr : ∀ c, c < 36 → rOK (hF h (m + 3) c)) (hc : ∀ c, c < 36 → hI h (m + 9) c = 0 ∨ hI h (m + 9) c = 1) : ∀ (r k fuel : Nat), k + r = 36 → r < fuel → f_X6_round_l126 m (fdF s) fuel (nI k) (mxF h (m + 3) (pre k (fun c => nrF (hF h (m + 3) c) s (hI h (m + 9) c)) (h.2.2 (m + 3)))) = some (mxF h (m + 3) (pre 36 (fun c => nrF (hF h (m + 3) c) s (hI h (m + 9) c)) (h.2.2 (m + 3)))) := by
  intro r
  induction r with
  | zero =>
    intro k fuel hk hf
    obtain ⟨fuel, rfl⟩ : ∃ z, fuel = z + 1 := ⟨fuel - 1, by omega⟩
    have : k = 36 := by omega
    subst this
    rw [f_X6_round_l126_s, if_pos (by decide)]
  | succ r ih =>
    intro k fuel hk hf
    obtain ⟨fuel, rfl⟩ : ∃ z, fuel = z + 1 := ⟨fuel - 1, by omega⟩
    have ih1 := ih (k + 1) fuel (by omega) (by omega)
    rw [← preF_s] at ih1
    have rd : hF (mxF h (m + 3) (pre k (fun c => nrF (hF h (m + 3) c) s (hI h (m + 9) c)) (h.2.2 (m + 3)))) (m + 3) k = hF h (m + 3) k := by rw [hF_mx, pre_hi (Nat.le_refl _)]; rfl
    have rc : hI (mxF h (m + 3) (pre k (fun c => nrF (hF h (m + 3) c) s (hI h (m + 9) c)) (h.2.2 (m + 3)))) (m + 9) k = hI h (m + 9) k := rfl
    obtain ⟨n1, n2, -⟩ := nrF_ok (hr k (by omega)) hs (hc k (by omega))
    have gk : inb (nI k) 36 = true := inb_nI (by omega) (by decide)
    rw [f_X6_round_l126_s, if_neg (show ¬ (36 : Int32) ≤ nI k from nI_ge (b := 36) (by omega) (by decide)), if_pos gk, nI_clamp (by omega), rd, rc, if_pos n1, if_pos gk, if_pos (show nn32 (FP.fadd (FP.fmul (hF h (m + 3) k) (fdF s)) (FP.i2f (hI h (m + 9) k))) = true from n2), if_pos gk, sF_mxF, nI_1]
    exact ih1
theorem r_fade {h : Hp} {m s : Nat} (hs : s ≤ 9) (hr : ∀ c, c < 36 → rOK ((rv h m).2.1 c)) (hc : ∀ c, c < 36 → hI h (m + 9) c = 0 ∨ hI h (m + 9) c = 1) : ∃ h2, f_X6_round_l126 m (fdF s) fu 0 h = some h2 ∧ (∀ z, z ≠ m + 3 → same h h2 z) ∧ rv h2 m = fdM (rv h m) s (hI h (m + 9)) := by
  have L := r_fade_l (h := h) (m := m) hs hr hc 36 0 fu (by omega) (by decide)
  rw [pre_0, mxF_id] at L
  refine ⟨_, L, fun z hz => same_mxF hz, ?_⟩
  unfold rv fdM
  refine Prod.ext rfl (Prod.ext ?_ rfl)
  funext c
  show hF (mxF h (m + 3) _) (m + 3) c = _
  rw [hF_mx]
  unfold pre
  rfl
theorem c_fade_i {h : Hp} {w q n j s a : Nat} (hn : n ≤ 6) (hj : j < n) (hs : s ≤ 9) (ha : a = q + 3 + 4 * j + 3) (h4 : hI h q 4 = nI n) (hr : ∀ c, c < n → c ≠ j → rOK (hF h a c)) (hc : ∀ c, c < n → hI h (w + 4) (6 * j + c) = 0 ∨ hI h (w + 4) (6 * j + c) = 1) : ∀ (r i fuel : Nat) (hh : Hp), i + r = n → r < fuel → hh.1 = h.1 → hh.2.1 = h.2.1 → (∀ z, z ≠ a → hh.2.2 z = h.2.2 z) → (∀ x, hF hh a x = if x < i ∧ x ≠ j then nrF (hF h a x) s (hI h (w + 4) (6 * j + x)) else hF h a x) → ∃ h2, f_X2_fadeRates_l35 w q (fdF s) (nI j) a fuel (nI i) hh = some h2 ∧ h2.1 = h.1 ∧ h2.2.1 = h.2.1 ∧ (∀ z, z ≠ a → h2.2.2 z = h.2.2 z) ∧ (∀ x, hF h2 a x = if x < n ∧ x ≠ j then nrF (hF h a x) s (hI h (w + 4) (6 * j + x)) else hF h a x) := by
  intro r
  induction r with
  | zero =>
    intro i fuel hh hi hf e1 e2 e3 e4
    obtain ⟨fuel, rfl⟩ : ∃ z, fuel = z + 1 := ⟨fuel - 1, by omega⟩
    have : i = n := by omega
    subst this
    have h4' : hI hh q 4 = nI i := (hI_eq (congrFun e1 q) 4).trans h4
    exact ⟨hh, by rw [f_X2_fadeRates_l35_s, h4', if_pos (Int32.le_refl _)], e1, e2, e3, e4⟩
  | succ r ih =>
    intro i fuel hh hi hf e1 e2 e3 e4
    obtain ⟨fuel, rfl⟩ : ∃ z, fuel = z + 1 := ⟨fuel - 1, by omega⟩
    have h4' : hI hh q 4 = nI n := (hI_eq (congrFun e1 q) 4).trans h4
    rw [f_X2_fadeRates_l35_s, h4', if_neg (nI_ge (by omega) (by omega))]
    unfold f_X2_fadeRates_j76
    rw [nI_1]
    by_cases eij : i = j
    · rw [if_pos (by rw [eij])]
      refine ih (i + 1) fuel hh (by omega) (by omega) e1 e2 e3 (fun x => ?_)
      rw [e4 x]
      by_cases c1 : x < i ∧ x ≠ j
      · rw [if_pos c1, if_pos (by omega)]
      · rw [if_neg c1, if_neg (by omega)]
    · have rd : hF hh a i = hF h a i := by rw [e4 i, if_neg (by omega)]
      have rc : hI hh (w + 4) (6 * j + i) = hI h (w + 4) (6 * j + i) := hI_eq (by rw [e1]) _
      obtain ⟨n1, n2, -⟩ := nrF_ok (hr i (by omega) eij) hs (hc i (by omega))
      have gi : inb (nI i) 6 = true := inb_nI (by omega) (by decide)
      have ix : nI j * (6 : Int32) + nI i = nI (6 * j + i) := by rw [show (6 : Int32) = nI 6 from rfl, nI_mulE, nI_add, Nat.mul_comm]
      rw [if_neg (fun z => eij ((nI_eq (by omega) (by omega)).mp z)), if_pos gi, nI_clamp (show i < 2 ^ 31 by omega), rd, if_pos n1, ix, if_pos (inb_nI (by omega) (by decide)), nI_clamp (show 6 * j + i < 2 ^ 31 by omega), rc, if_pos (show nn32 (FP.fadd (FP.fmul (hF h a i) (fdF s)) (FP.i2f (hI h (w + 4) (6 * j + i)))) = true from n2), if_pos gi]
      refine ih (i + 1) fuel _ (by omega) (by omega) e1 e2 (fun z hz => ?_) (fun x => ?_)
      · exact ((same_sF hz).2.2).trans (e3 z hz)
      · by_cases c0 : x = i
        · subst c0
          rw [hF_sF, if_pos (by omega)]; rfl
        · rw [hF_sFj _ _ _ c0, e4 x]
          by_cases c1 : x < i ∧ x ≠ j
          · rw [if_pos c1, if_pos (by omega)]
          · rw [if_neg c1, if_neg (by omega)]
theorem c_fade_j {h : Hp} {w q n s : Nat} (hn : n ≤ 6) (hs : s ≤ 9) (h4 : hI h q 4 = nI n) (hr : ∀ j c, j < n → c < n → c ≠ j → rOK (hF h (q + 3 + 4 * j + 3) c)) (hc : ∀ j c, j < n → c < n → hI h (w + 4) (6 * j + c) = 0 ∨ hI h (w + 4) (6 * j + c) = 1) : ∀ (r j fuel : Nat) (hh : Hp), j + r = n → r < fuel → hh.1 = h.1 → hh.2.1 = h.2.1 → (∀ z, z < q ∨ q + 27 ≤ z → hh.2.2 z = h.2.2 z) → (∀ j' x, j' < n → hF hh (q + 3 + 4 * j' + 3) x = if j' < j ∧ x < n ∧ x ≠ j' then nrF (hF h (q + 3 + 4 * j' + 3) x) s (hI h (w + 4) (6 * j' + x)) else hF h (q + 3 + 4 * j' + 3) x) → ∃ h2, f_X2_fadeRates_l13 w q (fdF s) fuel (nI j) hh = some h2 ∧ h2.1 = h.1 ∧ h2.2.1 = h.2.1 ∧ (∀ z, z < q ∨ q + 27 ≤ z → h2.2.2 z = h.2.2 z) ∧ (∀ j' x, j' < n → hF h2 (q + 3 + 4 * j' + 3) x = if x < n ∧ x ≠ j' then nrF (hF h (q + 3 + 4 * j' + 3) x) s (hI h (w + 4) (6 * j' + x)) else hF h (q + 3 + 4 * j' + 3) x) := by
  intro r
  induction r with
  | zero =>
    intro j fuel hh hi hf e1 e2 e3 e4
    obtain ⟨fuel, rfl⟩ : ∃ z, fuel = z + 1 := ⟨fuel - 1, by omega⟩
    have : j = n := by omega
    subst this
    have h4' : hI hh q 4 = nI j := (hI_eq (congrFun e1 q) 4).trans h4
    refine ⟨hh, by rw [f_X2_fadeRates_l13_s, h4', if_pos (Int32.le_refl _)], e1, e2, e3, fun j' x hj' => ?_⟩
    rw [e4 j' x hj']
    by_cases c1 : x < j ∧ x ≠ j'
    · rw [if_pos c1, if_pos ⟨hj', c1⟩]
    · rw [if_neg c1, if_neg (fun z => c1 z.2)]
  | succ r ih =>
    intro j fuel hh hi hf e1 e2 e3 e4
    obtain ⟨fuel, rfl⟩ : ∃ z, fuel = z + 1 := ⟨fuel - 1, by omega⟩
    have h4' : hI hh q 4 = nI n := (hI_eq (congrFun e1 q) 4).trans h4
    have old : ∀ x, hF hh (q + 3 + 4 * j + 3) x = hF h (q + 3 + 4 * j + 3) x := fun x => by rw [e4 j x (by omega), if_neg (by omega)]
    have hw : ∀ x, hI hh (w + 4) x = hI h (w + 4) x := fun x => hI_eq (by rw [e1]) x
    obtain ⟨h2, d1, d2, d3, d4, d5⟩ := c_fade_i (h := hh) (w := w) (q := q) (j := j) (a := q + 3 + 4 * j + 3) hn (by omega) hs rfl h4' (fun c g1 g2 => by rw [old]; exact hr j c (by omega) g1 g2) (fun c g1 => by rw [hw]; exact hc j c (by omega) g1) n 0 fu hh (by omega) (by show n < 5000; omega) rfl rfl (fun _ _ => rfl) (fun x => by rw [if_neg (by omega)])
    rw [f_X2_fadeRates_l13_s, h4', if_neg (nI_ge (by omega) (by omega)), if_pos (inb_nI (by omega) (by decide)), nI_clamp (by omega), show q + 2 + 1 + 4 * j + 3 = q + 3 + 4 * j + 3 by omega, show f_X2_fadeRates_l35 w q (fdF s) (nI j) (q + 3 + 4 * j + 3) fu 0 hh = _ from d1, bn1_some, nI_1]
    refine ih (j + 1) fuel h2 (by omega) (by omega) (d2.trans e1) (d3.trans e2) (fun z hz => (d4 z (by omega)).trans (e3 z hz)) (fun j' x hj' => ?_)
    by_cases c0 : j' = j
    · subst c0
      rw [d5 x, old, hw]
      by_cases c1 : x < n ∧ x ≠ j'
      · rw [if_pos c1, if_pos ⟨by omega, c1⟩]
      · rw [if_neg c1, if_neg (fun z => c1 z.2)]
    · rw [hF_eq (d4 _ (by omega)), e4 j' x hj']
      by_cases c1 : j' < j ∧ x < n ∧ x ≠ j'
      · rw [if_pos c1, if_pos (by omega)]
      · rw [if_neg c1, if_neg (by omega)]
theorem c_fade {h : Hp} {w q n p b s : Nat} {M : MS} {C : Nat → Int32} (hd : q + 27 ≤ w) (S : SwR h q M n) (W : WFs M n p b) (h9 : M.1 9 = nI s) (hs : s ≤ 9) (hC : ∀ c, c < 36 → hI h (w + 4) c = C c) (hc : ∀ c, c < 36 → C c = 0 ∨ C c = 1) (h0 : ∀ i j, i < 6 → j < 6 → (n ≤ i ∨ n ≤ j) → C (6 * i + j) = 0) : ∃ h2, f_X2_fadeRates h w q = some h2 ∧ (∀ z, z < q ∨ q + 27 ≤ z → same h h2 z) ∧ SwR h2 q (fdM M s C) n := by
  have hn := W.1.2
  have e9 : hI h (q + 1) (1 : Int32).toNatClampNeg = nI s := (S.2.2.1 1 (by decide)).trans h9
  have h4 : hI h q 4 = nI n := S.1.2.2.2.2.1.trans W.1.1
  have nf : nn32 (fdF s) = true := nn32_le (by have := (fdF_ok s (by omega)).1; omega)
  have rt : ∀ j c, j < n → c < 6 → c ≠ j → hF h (q + 3 + 4 * j + 3) c = M.2.1 (6 * j + c) := fun j c g1 g2 g3 => (S.2.2.2 j g1).2.2.2 c g2 g3
  obtain ⟨h2, d1, d2, d3, d4, d5⟩ := c_fade_j (h := h) (w := w) (q := q) hn hs h4 (fun j c g1 g2 g3 => by rw [rt j c g1 (by omega) g3]; exact W.2.2.2.2.2.2.2 _ (by omega)) (fun j c g1 g2 => by rw [hC _ (by omega)]; exact hc _ (by omega)) n 0 fu h (by omega) (by show n < 5000; omega) rfl rfl (fun _ _ => rfl) (fun j' x _ => by rw [if_neg (by omega)])
  refine ⟨h2, ?_, fun z hz => ⟨by rw [d2], by rw [d3], d4 z hz⟩, ?_⟩
  · unfold f_X2_fadeRates
    rw [e9, if_pos (show nn32 (FP.fdiv (FP.i2f (nI s)) 1092616192) = true from nf), show f_X2_fadeRates_l13 w q (FP.fdiv (FP.i2f (nI s)) 1092616192) fu 0 h = _ from d1]; rfl
  · obtain ⟨a, a9, b1, b2⟩ := S
    have x : ∀ z k, hI h2 z k = hI h z k := fun z k => hI_eq (by rw [d2]) k
    refine ⟨by simp only [x]; exact a, (hL_eq (congrFun d3 q) 9).trans a9, fun j hj => by rw [x]; exact b1 j hj, fun j hj => ?_⟩
    have P := b2 j hj
    rw [PeR_iff] at P ⊢
    obtain ⟨c1, c2, c3, c4⟩ := P
    refine ⟨fun f hf g3 => by rw [x]; exact c1 f hf g3, fun k hk => by rw [x]; exact c2 k hk, fun k hk => by rw [x, x]; exact c3 k hk, fun k hk hne => ?_⟩
    show _ = (if 6 * j + k < 36 then nrF (M.2.1 (6 * j + k)) s (C (6 * j + k)) else M.2.1 (6 * j + k))
    rw [d5 j k hj, c4 k hk hne, hC _ (by omega), if_pos (show 6 * j + k < 36 by omega)]
    by_cases hkn : k < n
    · rw [if_pos ⟨hkn, hne⟩]
    · rw [if_neg (fun z => hkn z.1), h0 j k (by omega) hk (by omega), W.2.2.2.2.2.2.1 j k (by omega) hk (by omega)]
      exact ((fdF_ok s (by omega)).2).symm
