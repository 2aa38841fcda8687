/-! what the reference asks for -/
section RAsk
variable {h : Hp} {m n p b j : Nat} {A : Int32}
theorem x6_isFree {k z : Nat} (hj : j < 6) (hk : k < 8) (hz : z < 4) (hA : ∀ k, k < 32 → hI h (m + 8) k = b01 (bitb A k)) : f_X6_isFree h m (nI j) (nI k) (nI z) = some (b01 (!tkM (rv h m) j A (4 * k + z))) := by
  unfold f_X6_isFree f_X6_isFree_j28 tkM hdM
  rw [x6_source hj hk hz, bn1_some, show (4 : Int32) * nI k + nI z = nI (4 * k + z) by rw [show (4 : Int32) = nI 4 from rfl, nI_mulE, nI_add], if_pos (inb_nI (by omega) (by decide)), nI_clamp (by omega), hA _ (by omega)]
  by_cases e : pc (rv h m) j (15 + (4 * k + z)) = -1
  · rw [if_pos e]
    cases bitb A (4 * k + z)
    · rw [if_pos (show b01 false = 0 from rfl)]; simp [e, b01]
    · rw [if_neg (show ¬ b01 true = 0 by decide)]; simp [e, b01]
  · rw [if_neg e]; simp [e, b01]
theorem x6_free_l {k : Nat} (hj : j < 6) (hk : k < 8) (hb : b ≤ 4) (hA : ∀ k, k < 32 → hI h (m + 8) k = b01 (bitb A k)) : ∀ (z fuel : Nat), z ≤ b → z < fuel → f_X6_freeBlock_l12 h m (nI j) (nI k) fuel (oI (lsF (fun z => !tkM (rv h m) j A (4 * k + z)) (b - z) z)) (nI z - 1) = some (oI (fbT (tkM (rv h m) j A) b k)) := by
  intro z
  induction z with
  | zero =>
    intro fuel hz hf
    obtain ⟨fuel, rfl⟩ : ∃ z, fuel = z + 1 := ⟨fuel - 1, by omega⟩
    rw [f_X6_freeBlock_l12_s, if_pos (show nI 0 - 1 < 0 by decide)]; rfl
  | succ z ih =>
    intro fuel hz hf
    obtain ⟨fuel, rfl⟩ : ∃ z, fuel = z + 1 := ⟨fuel - 1, by omega⟩
    have ih1 := ih fuel (by omega) (by omega)
    rw [show b - z = b - (z + 1) + 1 by omega] at ih1
    rw [show nI (z + 1) - 1 = nI z from nI_subE (a := z + 1) (b := 1) (by omega), f_X6_freeBlock_l12_s, if_neg (nI_pos (by omega)), x6_isFree hj hk (by omega) hA, bn1_some]
    unfold f_X6_freeBlock_j34
    rw [show nI z + (-1) = nI z - 1 by rw [Int32.sub_eq_add_neg]]
    cases hT : tkM (rv h m) j A (4 * k + z)
    · rw [if_neg (show ¬ b01 (!false) = 0 by decide)]
      rw [lsF_t (by show (!tkM (rv h m) j A (4 * k + z)) = true; rw [hT]; rfl)] at ih1
      exact ih1
    · rw [if_pos (show b01 (!true) = 0 from rfl)]
      rw [lsF_f (by show (!tkM (rv h m) j A (4 * k + z)) = false; rw [hT]; rfl)] at ih1
      exact ih1
theorem x6_free {k : Nat} (hj : j < 6) (hk : k < 8) (hb : b ≤ 4) (h2 : (rv h m).1 2 = nI b) (hA : ∀ k, k < 32 → hI h (m + 8) k = b01 (bitb A k)) : f_X6_freeBlock h m (nI j) (nI k) = some (oI (fbT (tkM (rv h m) j A) b k)) := by
  have L := x6_free_l (b := b) hj hk hb hA b fu (Nat.le_refl _) (by show b < 5000; omega)
  rw [Nat.sub_self] at L
  unfold f_X6_freeBlock
  rw [show hI h (m + 2) (2 : Int32).toNatClampNeg = nI b from h2, show f_X6_freeBlock_l12 h m (nI j) (nI k) fu (-1) (nI b - 1) = _ from L]; rfl
theorem x6_started_l {k : Nat} (hj : j < 6) (hk : k < 8) (hb : b ≤ 4) (h2 : (rv h m).1 2 = nI b) (hA : ∀ k, k < 32 → hI h (m + 8) k = b01 (bitb A k)) : ∀ (r z fuel : Nat), z + r = b → r < fuel → f_X6_isStarted_l5 h m (nI j) (nI k) fuel (b01 (anyN (fun z => tkM (rv h m) j A (4 * k + z)) z)) (nI z) = some (b01 (stT (tkM (rv h m) j A) b k)) := by
  have e2 : hI h (m + 2) (2 : Int32).toNatClampNeg = nI b := h2
  intro r
  induction r with
  | zero =>
    intro z fuel hz hf
    obtain ⟨fuel, rfl⟩ : ∃ z, fuel = z + 1 := ⟨fuel - 1, by omega⟩
    have : z = b := by omega
    subst this
    rw [f_X6_isStarted_l5_s, e2, if_pos (Int32.le_refl _)]; rfl
  | succ r ih =>
    intro z fuel hz hf
    obtain ⟨fuel, rfl⟩ : ∃ z, fuel = z + 1 := ⟨fuel - 1, by omega⟩
    have ih1 := ih (z + 1) fuel (by omega) (by omega)
    rw [show anyN (fun z => tkM (rv h m) j A (4 * k + z)) (z + 1) = (anyN (fun z => tkM (rv h m) j A (4 * k + z)) z || tkM (rv h m) j A (4 * k + z)) from rfl] at ih1
    rw [f_X6_isStarted_l5_s, e2, if_neg (nI_ge (by omega) (by omega)), x6_source hj hk (by omega), bn1_some, show (4 : Int32) * nI k + nI z = nI (4 * k + z) by rw [show (4 : Int32) = nI 4 from rfl, nI_mulE, nI_add], if_pos (inb_nI (by omega) (by decide)), nI_clamp (by omega), hA _ (by omega)]
    unfold f_X6_isStarted_j46 f_X6_isStarted_j51
    rw [nI_1]
    generalize anyN (fun z => tkM (rv h m) j A (4 * k + z)) z = X at ih1 ⊢
    unfold tkM hdM at ih1
    cases X
    · rw [if_pos (show b01 false = 0 from rfl)]
      rw [Bool.false_or] at ih1
      by_cases e : pc (rv h m) j (15 + (4 * k + z)) = -1
      · rw [if_pos e]
        rw [show decide (pc (rv h m) j (15 + (4 * k + z)) ≠ -1) = false by simp [e], Bool.false_or] at ih1
        cases hB : bitb A (4 * k + z)
        · rw [if_pos (show b01 false = 0 from rfl)]
          rw [hB] at ih1
          exact ih1
        · rw [if_neg (show ¬ b01 true = 0 by decide)]
          rw [hB] at ih1
          exact ih1
      · rw [if_neg e]
        rw [show decide (pc (rv h m) j (15 + (4 * k + z)) ≠ -1) = true by simp [e], Bool.true_or] at ih1
        exact ih1
    · rw [if_neg (show ¬ b01 true = 0 by decide)]
      rw [Bool.true_or] at ih1
      exact ih1
theorem x6_started {k : Nat} (hj : j < 6) (hk : k < 8) (hb : b ≤ 4) (h2 : (rv h m).1 2 = nI b) (hA : ∀ k, k < 32 → hI h (m + 8) k = b01 (bitb A k)) : f_X6_isStarted h m (nI j) (nI k) = some (b01 (stT (tkM (rv h m) j A) b k)) := by
  unfold f_X6_isStarted
  rw [show f_X6_isStarted_l5 h m (nI j) (nI k) fu 0 0 = _ from x6_started_l hj hk hb h2 hA b 0 fu (by omega) (by show b < 5000; omega), bn1_some, if_pos (isBb_b01 _)]
theorem b01_inj {x y : Bool} : b01 x = b01 y ↔ x = y := by cases x <;> cases y <;> decide
theorem x6_sooner {k x : Nat} (hj : j < 6) (hk : k < 8) (hx : x < 8) (hb : b ≤ 4) (hn : n ≤ 6) (h0 : (rv h m).1 0 = nI n) (h2 : (rv h m).1 2 = nI b) (hA : ∀ k, k < 32 → hI h (m + 8) k = b01 (bitb A k)) : f_X6_isSooner h m (nI j) (nI k) (nI x) = some (b01 (snT (tkM (rv h m) j A) b (fun k => cpM (rv h m) n k) k x)) := by
  unfold f_X6_isSooner snT
  rw [x6_started hj hk hb h2 hA, bn1_some, x6_started hj hx hb h2 hA, bn1_some, x6_copies hn h0, bn1_some, x6_copies hn h0, bn1_some]
  by_cases e : stT (tkM (rv h m) j A) b k = stT (tkM (rv h m) j A) b x
  · rw [if_pos (b01_inj.mpr e), if_pos e]
    by_cases e2 : cpM (rv h m) n x ≤ cpM (rv h m) n k
    · rw [if_pos e2]; simp [e2, b01]
    · rw [if_neg e2]; simp [e2, b01]
  · rw [if_neg (fun z => e (b01_inj.mp z)), if_neg e, if_pos (isBb_b01 _)]
theorem opn_t {M : MS} {j i k : Nat} (hk : k < 32) : opn M j i k = true ↔ bt (clM M i) k = 1 ∧ bt (pc M j 2) k = 0 := by
  unfold opn
  rw [bt1 _ hk, bt0 _ hk]
  cases bitb (clM M i) k <;> cases bitb (pc M j 2) k <;> decide
theorem x6_best_p {i : Nat} (hj : j < 6) (hi : i < 6) (hp : p ≤ 8) (hb : b ≤ 4) (hn : n ≤ 6) (h0 : (rv h m).1 0 = nI n) (h1 : (rv h m).1 1 = nI p) (h2 : (rv h m).1 2 = nI b) (hA : ∀ k, k < 32 → hI h (m + 8) k = b01 (bitb A k)) : ∀ (r k fuel : Nat), k + r = p → r < fuel → f_X6_askedOf_l5 h m (nI j) (nI i) fuel (oI (bpT (opn (rv h m) j i) (tkM (rv h m) j A) b (fun k => cpM (rv h m) n k) k)) (nI k) = some (oI (bpT (opn (rv h m) j i) (tkM (rv h m) j A) b (fun k => cpM (rv h m) n k) p)) := by
  have e1 : hI h (m + 2) (1 : Int32).toNatClampNeg = nI p := h1
  intro r
  induction r with
  | zero =>
    intro k fuel hz hf
    obtain ⟨fuel, rfl⟩ : ∃ z, fuel = z + 1 := ⟨fuel - 1, by omega⟩
    have : k = p := by omega
    subst this
    rw [f_X6_askedOf_l5_s, e1, if_pos (Int32.le_refl _)]
  | succ r ih =>
    intro k fuel hz hf
    obtain ⟨fuel, rfl⟩ : ∃ z, fuel = z + 1 := ⟨fuel - 1, by omega⟩
    have ih1 := ih (k + 1) fuel (by omega) (by omega)
    have skip : mayT (opn (rv h m) j i) (tkM (rv h m) j A) b k = false → f_X6_askedOf_l5 h m (nI j) (nI i) fuel (oI (bpT (opn (rv h m) j i) (tkM (rv h m) j A) b (fun k => cpM (rv h m) n k) k)) (nI (k + 1)) = some (oI (bpT (opn (rv h m) j i) (tkM (rv h m) j A) b (fun k => cpM (rv h m) n k) p)) := by
      intro hm
      cases hb : bpT (opn (rv h m) j i) (tkM (rv h m) j A) b (fun k => cpM (rv h m) n k) k with
      | none => rw [bpT_none hb, hm, if_neg (by decide)] at ih1; exact ih1
      | some x => rw [bpT_some hb, hm, Bool.false_and, if_neg (by decide)] at ih1; exact ih1
    rw [f_X6_askedOf_l5_s, e1, if_neg (nI_ge (by omega) (by omega)), x6_claims hi, bn1_some, x6_has hj, bn1_some, x6_free hj (by omega) hb h2 hA, bn1_some]
    unfold f_X6_askedOf_j55 f_X6_askedOf_j56 f_X6_askedOf_j79 f_X6_askedOf_j82
    rw [nI_1, if_pos (show (0 : Int32) = 0 from rfl), if_neg (show ¬ (1 : Int32) = 0 by decide)]
    show (if bt (clM (rv h m) i) k = 1 then _ else _) = _
    by_cases c1 : bt (clM (rv h m) i) k = 1
    · rw [if_pos c1]
      by_cases c2 : bt (pc (rv h m) j 2) k = 0
      · rw [if_pos c2]
        have ho : opn (rv h m) j i k = true := (opn_t (by omega)).mpr ⟨c1, c2⟩
        cases hf2 : fbT (tkM (rv h m) j A) b k with
        | none =>
          rw [oI_none, if_pos (show (-1 : Int32) = -1 from rfl)]
          exact skip (by unfold mayT; rw [hf2, ho]; rfl)
        | some z =>
          have hz4 := fb_lt hf2
          have hm : mayT (opn (rv h m) j i) (tkM (rv h m) j A) b k = true := by unfold mayT; rw [hf2, ho]; rfl
          rw [oI_some, if_neg (nI_nm1 (by omega))]
          cases hb2 : bpT (opn (rv h m) j i) (tkM (rv h m) j A) b (fun k => cpM (rv h m) n k) k with
          | none =>
            rw [bpT_none hb2, hm, if_pos rfl] at ih1
            rw [oI_none, if_pos (show (-1 : Int32) = -1 from rfl)]
            exact ih1
          | some x =>
            have hlt : x < k := bst_lt hb2
            rw [bpT_some hb2, hm, Bool.true_and] at ih1
            rw [oI_some, if_neg (nI_nm1 (by omega)), x6_sooner hj (by omega) (by omega) hb hn h0 h2 hA, bn1_some]
            cases hsn : snT (tkM (rv h m) j A) b (fun k => cpM (rv h m) n k) k x
            · rw [if_pos (show b01 false = 0 from rfl)]
              rw [hsn, if_neg (by decide)] at ih1
              exact ih1
            · rw [if_neg (show ¬ b01 true = 0 by decide)]
              rw [hsn, if_pos rfl] at ih1
              exact ih1
      · rw [if_neg c2]
        exact skip (by
          have : opn (rv h m) j i k = false := Bool.not_eq_true _ |>.mp (fun z => c2 ((opn_t (by omega)).mp z).2)
          unfold mayT; rw [this]; rfl)
    · rw [if_neg c1]
      exact skip (by
        have : opn (rv h m) j i k = false := Bool.not_eq_true _ |>.mp (fun z => c1 ((opn_t (by omega)).mp z).1)
        unfold mayT; rw [this]; rfl)
/-- block k may be asked for at the end -/
def laM (M : MS) (j i b k : Nat) : Bool := opn M j i (k / 4) && (decide (k % 4 < b) && !hdM M j k)
theorem x6_last_l {i : Nat} (hj : j < 6) (hi : i < 6) (hp : p ≤ 8) (hb : b ≤ 4) (h2 : (rv h m).1 2 = nI b) : ∀ (k fuel : Nat), k ≤ 4 * p → k < fuel → f_X6_lastBlock_l14 h m (nI j) (nI i) fuel (oI (lsF (laM (rv h m) j i b) (4 * p - k) k)) (nI k - 1) = some (oI (lsF (laM (rv h m) j i b) (4 * p) 0)) := by
  have e2 : hI h (m + 2) (2 : Int32).toNatClampNeg = nI b := h2
  intro k
  induction k with
  | zero =>
    intro fuel hz hf
    obtain ⟨fuel, rfl⟩ : ∃ z, fuel = z + 1 := ⟨fuel - 1, by omega⟩
    rw [f_X6_lastBlock_l14_s, if_pos (show nI 0 - 1 < 0 by decide)]; rfl
  | succ k ih =>
    intro fuel hz hf
    obtain ⟨fuel, rfl⟩ : ∃ z, fuel = z + 1 := ⟨fuel - 1, by omega⟩
    have ih1 := ih fuel (by omega) (by omega)
    obtain ⟨d1, d2⟩ := div4 k (by omega)
    rw [show 4 * p - k = 4 * p - (k + 1) + 1 by omega] at ih1
    have no : laM (rv h m) j i b k = false → f_X6_lastBlock_l14 h m (nI j) (nI i) fuel (oI (lsF (laM (rv h m) j i b) (4 * p - (k + 1)) (k + 1))) (nI k - 1) = some (oI (lsF (laM (rv h m) j i b) (4 * p) 0)) := fun hf => by
      rw [lsF_f hf] at ih1; exact ih1
    rw [show nI (k + 1) - 1 = nI k from nI_subE (a := k + 1) (b := 1) (by omega), f_X6_lastBlock_l14_s, if_neg (nI_pos (by omega)), x6_claims hi, bn1_some, d2, d1, x6_has hj, bn1_some, e2, x6_source hj (by omega) (by omega), bn1_some]
    unfold f_X6_lastBlock_j83 f_X6_lastBlock_j84 f_X6_lastBlock_j97
    rw [show nI k + (-1) = nI k - 1 by rw [Int32.sub_eq_add_neg], if_pos (show (0 : Int32) = 0 from rfl), if_neg (show ¬ (1 : Int32) = 0 by decide), show 4 * (k / 4) + k % 4 = k by omega]
    show (if bt (clM (rv h m) i) (k / 4) = 1 then _ else _) = _
    by_cases c1 : bt (clM (rv h m) i) (k / 4) = 1
    · rw [if_pos c1]
      by_cases c2 : bt (pc (rv h m) j 2) (k / 4) = 0
      · rw [if_pos c2]
        have ho : opn (rv h m) j i (k / 4) = true := (opn_t (by omega)).mpr ⟨c1, c2⟩
        by_cases c3 : k % 4 < b
        · rw [if_neg (nI_ge c3 (by omega))]
          by_cases c4 : pc (rv h m) j (15 + k) = -1
          · rw [if_pos c4]
            rw [lsF_t (by unfold laM hdM; rw [ho]; simp [c3, c4])] at ih1
            exact ih1
          · rw [if_neg c4]
            exact no (by unfold laM hdM; rw [ho]; simp [c3, c4])
        · rw [if_pos (nI_le (by omega) (by omega))]
          exact no (by unfold laM hdM; simp [c3])
      · rw [if_neg c2]
        exact no (by
          have : opn (rv h m) j i (k / 4) = false := Bool.not_eq_true _ |>.mp (fun z => c2 ((opn_t (by omega)).mp z).2)
          unfold laM; rw [this]; rfl)
    · rw [if_neg c1]
      exact no (by
        have : opn (rv h m) j i (k / 4) = false := Bool.not_eq_true _ |>.mp (fun z => c1 ((opn_t (by omega)).mp z).1)
        unfold laM; rw [this]; rfl)
theorem x6_last {i : Nat} (hj : j < 6) (hi : i < 6) (hp : p ≤ 8) (hb : b ≤ 4) (h1 : (rv h m).1 1 = nI p) (h2 : (rv h m).1 2 = nI b) : f_X6_lastBlock h m (nI j) (nI i) = some (oI (lsF (laM (rv h m) j i b) (4 * p) 0)) := by
  have L := x6_last_l (i := i) (p := p) hj hi hp hb h2 (4 * p) fu (Nat.le_refl _) (by show 4 * p < 5000; omega)
  rw [Nat.sub_self] at L
  unfold f_X6_lastBlock
  rw [show hI h (m + 2) (1 : Int32).toNatClampNeg = nI p from h1, show (4 : Int32) * nI p = nI (4 * p) by rw [show (4 : Int32) = nI 4 from rfl, nI_mulE], show f_X6_lastBlock_l14 h m (nI j) (nI i) fu (-1) (nI (4 * p) - 1) = _ from L]; rfl
end RAsk
/-- row by row, or block by block: the same -/
theorem flat4 {o T g : Nat → Bool} {b : Nat} (hb : b ≤ 4) (hg : ∀ k z, z < 4 → g (4 * k + z) = (o k && (decide (z < b) && !T (4 * k + z)))) : ∀ r k, lsF g (4 * r) (4 * k) = (match lsF (mayT o T b) r k with | none => none | some x => (fbT T b x).map (fun z => 4 * x + z))
  | 0, _ => rfl
  | r + 1, k => by
    have ih := flat4 (o := o) (T := T) (g := g) hb hg r (k + 1)
    have g0 := hg k 0 (by decide)
    have g1 := hg k 1 (by decide)
    have g2 := hg k 2 (by decide)
    have g3 := hg k 3 (by decide)
    rw [Nat.add_zero] at g0
    have e4 : lsF g (4 * (r + 1)) (4 * k) = (if g (4 * k) then some (4 * k) else if g (4 * k + 1) then some (4 * k + 1) else if g (4 * k + 2) then some (4 * k + 2) else if g (4 * k + 3) then some (4 * k + 3) else lsF g (4 * r) (4 * (k + 1))) := rfl
    have eb : fbT T b k = (if 0 < b ∧ T (4 * k) = false then some 0 else if 1 < b ∧ T (4 * k + 1) = false then some 1 else if 2 < b ∧ T (4 * k + 2) = false then some 2 else if 3 < b ∧ T (4 * k + 3) = false then some 3 else none) := by
      unfold fbT
      rcases (show b = 0 ∨ b = 1 ∨ b = 2 ∨ b = 3 ∨ b = 4 by omega) with rfl | rfl | rfl | rfl | rfl <;> simp [lsF]
    rw [e4, ih, g0, g1, g2, g3]
    cases ho : o k
    · rw [lsF_f (by unfold mayT; rw [ho]; rfl)]
      simp
    · by_cases hm : (fbT T b k).isSome = true
      · rw [lsF_t (by unfold mayT; rw [ho, hm]; rfl)]
        dsimp only
        rw [eb] at hm ⊢
        by_cases c0 : 0 < b ∧ T (4 * k) = false
        · rw [if_pos c0]; simp [c0.1, c0.2]
        rw [if_neg c0] at hm ⊢
        have d0 : (decide (0 < b) && !T (4 * k)) = false := by
          by_cases z : 0 < b
          · have : T (4 * k) = true := by simpa [z] using c0
            simp [this]
          · simp [z]
        by_cases c1 : 1 < b ∧ T (4 * k + 1) = false
        · rw [if_pos c1, d0]; simp [c1.1, c1.2]
        rw [if_neg c1] at hm ⊢
        have d1 : (decide (1 < b) && !T (4 * k + 1)) = false := by
          by_cases z : 1 < b
          · have : T (4 * k + 1) = true := by simpa [z] using c1
            simp [this]
          · simp [z]
        by_cases c2 : 2 < b ∧ T (4 * k + 2) = false
        · rw [if_pos c2, d0, d1]; simp [c2.1, c2.2]
        rw [if_neg c2] at hm ⊢
        have d2 : (decide (2 < b) && !T (4 * k + 2)) = false := by
          by_cases z : 2 < b
          · have : T (4 * k + 2) = true := by simpa [z] using c2
            simp [this]
          · simp [z]
        by_cases c3 : 3 < b ∧ T (4 * k + 3) = false
        · rw [if_pos c3, d0, d1, d2]; simp [c3.1, c3.2]
        rw [if_neg c3] at hm
        cases hm
      · rw [lsF_f (by unfold mayT; rw [ho, Bool.not_eq_true _ |>.mp hm]; rfl)]
        have hnone : fbT T b k = none := Option.not_isSome_iff_eq_none.mp hm
        unfold fbT at hnone
        rw [lsF_none] at hnone
        have dz : ∀ z, z < 4 → (true && (decide (z < b) && !T (4 * k + z))) = false := by
          intro z hz
          by_cases hzb : z < b
          · have := hnone z (by omega) (by omega)
            simp [hzb]
            simpa using this
          · simp [hzb]
        have z0 := dz 0 (by decide)
        rw [Nat.add_zero] at z0
        rw [z0, dz 1 (by decide), dz 2 (by decide), dz 3 (by decide)]
        rfl
theorem x6_askedOf {h : Hp} {m n p b j i : Nat} {A : Int32} (W : WFs (rv h m) n p b) (hj : j < 6) (hi : i < 6) (hA : ∀ k, k < 32 → hI h (m + 8) k = b01 (bitb A k)) : f_X6_askedOf h m (nI j) (nI i) = some (oI (asM (rv h m) n p b j i A)) := by
  obtain ⟨w0, w1, w2, ws, -⟩ := id W
  unfold f_X6_askedOf asM
  rw [show f_X6_askedOf_l5 h m (nI j) (nI i) fu (-1) 0 = _ from x6_best_p hj hi w1.2.2 w2.2.2 w0.2 w0.1 w1.1 w2.1 hA p 0 fu (by omega) (by show p < 5000; omega), bn1_some, x6_left hj w1.2.2 w2.2.2 w1.1 w2.1, bn1_some, x6_last hj hi w1.2.2 w2.2.2 w1.1 w2.1, bn1_some]
  cases hb : bpT (opn (rv h m) j i) (tkM (rv h m) j A) b (fun k => cpM (rv h m) n k) p with
  | some k =>
    have hk : k < p := bst_lt hb
    obtain ⟨z, e1, ez⟩ := may_fb (bst_ok hb)
    rw [oI_some, if_neg (nI_nm1 (by omega)), x6_free hj (by omega) w2.2.2 w2.1 hA, bn1_some, e1]
    dsimp only
    rw [e1, oI_some, show (4 : Int32) * nI k + nI z = nI (4 * k + z) by rw [show (4 : Int32) = nI 4 from rfl, nI_mulE, nI_add]]; rfl
  | none =>
    rw [oI_none, if_pos (show (-1 : Int32) = -1 from rfl)]
    dsimp only
    show (if (rv h m).1 10 < lfM (rv h m) j p b then _ else _) = _
    by_cases hle : lfM (rv h m) j p b ≤ (rv h m).1 10
    · rw [if_neg (Int32.not_lt.mpr hle), if_pos hle]
      congr 2
      have F := flat4 (o := opn (rv h m) j i) (T := hdM (rv h m) j) (g := laM (rv h m) j i b) (b := b) w2.2.2 (fun k z hz => by
        unfold laM
        rw [show (4 * k + z) / 4 = k by omega, show (4 * k + z) % 4 = z by omega]) p 0
      rw [Nat.mul_zero] at F
      exact F
    · rw [if_pos (Int32.not_le.mp hle), if_neg hle]; rfl
