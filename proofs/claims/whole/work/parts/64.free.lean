/-! FREE blocks, rarest pieces -/
def lsF (f : Nat → Bool) : Nat → Nat → Option Nat
  | 0, _ => none
  | r + 1, k => if f k then some k else lsF f r (k + 1)
theorem lsF_t {f : Nat → Bool} {r k : Nat} (h : f k = true) : lsF f (r + 1) k = some k := by show (if f k then _ else _) = _; rw [if_pos h]
theorem lsF_f {f : Nat → Bool} {r k : Nat} (h : f k = false) : lsF f (r + 1) k = lsF f r (k + 1) := by show (if f k then _ else _) = _; rw [h, if_neg (by decide)]
theorem lsF_some {f : Nat → Bool} : ∀ {r k z : Nat}, lsF f r k = some z → k ≤ z ∧ z < k + r ∧ f z = true
  | 0, _, _, h => by cases h
  | r + 1, k, z, h => by
    by_cases q : f k = true
    · rw [lsF_t q] at h; cases h; exact ⟨Nat.le_refl _, by omega, q⟩
    · rw [lsF_f (Bool.not_eq_true _ |>.mp q)] at h
      obtain ⟨a, b, c⟩ := lsF_some h
      exact ⟨by omega, by omega, c⟩
theorem lsF_none {f : Nat → Bool} : ∀ {r k : Nat}, lsF f r k = none ↔ ∀ z, k ≤ z → z < k + r → f z = false
  | 0, k => ⟨fun _ z h1 h2 => by omega, fun _ => rfl⟩
  | r + 1, k => by
    by_cases q : f k = true
    · rw [lsF_t q]
      constructor
      · intro h; cases h
      · intro h; have := h k (Nat.le_refl _) (by omega); rw [q] at this; cases this
    · have q := Bool.not_eq_true _ |>.mp q
      rw [lsF_f q, lsF_none (r := r) (k := k + 1)]
      constructor
      · intro h z h1 h2
        by_cases e : z = k
        · rw [e]; exact q
        · exact h z (by omega) (by omega)
      · intro h z h1 h2; exact h z (by omega) (by omega)
theorem lsF_congr {f g : Nat → Bool} : ∀ {r k : Nat}, (∀ z, k ≤ z → z < k + r → f z = g z) → lsF f r k = lsF g r k
  | 0, _, _ => rfl
  | r + 1, k, h => by
    have e := h k (Nat.le_refl _) (by omega)
    show (if f k then _ else _) = (if g k then _ else _)
    rw [e, lsF_congr (r := r) (k := k + 1) (fun z h1 h2 => h z (by omega) (by omega))]
def anyN (f : Nat → Bool) : Nat → Bool
  | 0 => false
  | z + 1 => anyN f z || f z
theorem anyN_false {f : Nat → Bool} : ∀ {n : Nat}, anyN f n = false ↔ ∀ z, z < n → f z = false
  | 0 => ⟨fun _ z h => by omega, fun _ => rfl⟩
  | n + 1 => by
    show (anyN f n || f n) = false ↔ _
    rw [Bool.or_eq_false_iff, anyN_false]
    constructor
    · rintro ⟨h1, h2⟩ z hz
      by_cases e : z = n
      · rw [e]; exact h2
      · exact h1 z (by omega)
    · intro h; exact ⟨fun z hz => h z (by omega), h n (by omega)⟩
theorem bst_ok {ok : Nat → Bool} {bet : Nat → Nat → Bool} : ∀ {k b : Nat}, bst ok bet k = some b → ok b = true
  | 0, b, h => by cases h
  | k + 1, b, h => by
    unfold bst at h
    cases hb : bst ok bet k with
    | none =>
      rw [hb] at h
      dsimp only at h
      by_cases q : ok k
      · rw [if_pos q] at h; cases h; exact q
      · rw [if_neg q] at h; cases h
    | some a =>
      rw [hb] at h
      have := bst_ok hb
      dsimp only at h
      by_cases q : (ok k && bet k a) = true
      · rw [if_pos q] at h; cases h
        exact (Bool.and_eq_true_iff.mp q).1
      · rw [if_neg q] at h; cases h; exact this
def fbT (T : Nat → Bool) (b n : Nat) : Option Nat := lsF (fun z => !T (4 * n + z)) b 0
def stT (T : Nat → Bool) (b n : Nat) : Bool := anyN (fun z => T (4 * n + z)) b
def mayT (o T : Nat → Bool) (b n : Nat) : Bool := o n && (fbT T b n).isSome
def snT (T : Nat → Bool) (b : Nat) (c : Nat → Int32) (n k : Nat) : Bool := if stT T b n = stT T b k then decide (¬ c k ≤ c n) else stT T b n
def bpT (o T : Nat → Bool) (b : Nat) (c : Nat → Int32) : Nat → Option Nat := bst (mayT o T b) (snT T b c)
theorem bpT_none {o T : Nat → Bool} {b k : Nat} {c : Nat → Int32} (e : bpT o T b c k = none) : bpT o T b c (k + 1) = if mayT o T b k then some k else none := by
  unfold bpT at e ⊢
  show (match bst _ _ k with | none => _ | some b => _) = _
  rw [e]
theorem bpT_some {o T : Nat → Bool} {b k x : Nat} {c : Nat → Int32} (e : bpT o T b c k = some x) : bpT o T b c (k + 1) = if (mayT o T b k && snT T b c k x) = true then some k else some x := by
  unfold bpT at e ⊢
  show (match bst _ _ k with | none => _ | some b => _) = _
  rw [e]
theorem q4_0 {X : Int32} {T : Nat → Bool} {n b : Nat} (hX : ∀ k, k < 32 → bitb X k = T k) (hn : n < 8) (h1 : 1 ≤ b) (h4 : b ≤ 4) : q4 X n b = 0 ↔ stT T b n = false := by
  unfold stT
  rw [anyN_false]
  constructor
  · intro h z hz
    have := q4_bit (x := X) hn h1 h4 (j := z) (by omega)
    rw [h, bitb_0 (by omega), hX _ (by omega)] at this
    simp [hz] at this
    exact this
  · intro h
    apply bit_ext
    intro j hj
    rw [q4_bit hn h1 h4 hj, bitb_0 hj]
    by_cases hb : j < b
    · rw [hX _ (by omega), h j hb]; rfl
    · simp [hb]
theorem q4_all {X : Int32} {T : Nat → Bool} {n b : Nat} (hX : ∀ k, k < 32 → bitb X k = T k) (hn : n < 8) (h1 : 1 ≤ b) (h4 : b ≤ 4) : q4 X n b = (1 <<< (nI b &&& 31)) - 1 ↔ fbT T b n = none := by
  unfold fbT
  rw [lsF_none]
  constructor
  · intro h z _ hz
    have := q4_bit (x := X) hn h1 h4 (j := z) (by omega)
    rw [h, allB_t b h1 h4 z (by omega), hX _ (by omega)] at this
    simp [show z < b by omega] at this
    simp [this]
  · intro h
    apply bit_ext
    intro j hj
    rw [q4_bit hn h1 h4 hj, allB_t b h1 h4 j hj]
    by_cases hb : j < b
    · have := h j (by omega) (by omega)
      simp at this
      rw [hX _ (by omega), this]; rfl
    · simp [hb]
theorem nI_x4 (n : Nat) : nI n * (4 : Int32) = nI (4 * n) := by rw [show (4 : Int32) = nI 4 from rfl, nI_mulE, Nat.mul_comm]
section CAsk
variable {h : Hp} {q n p b : Nat} {M : MS}
theorem x2_missing {X : Int32} {T : Nat → Bool} {k : Nat} (S : SwR h q M n) (h2 : M.1 2 = nI b) (hb1 : 1 ≤ b) (hb4 : b ≤ 4) (hX : ∀ k, k < 32 → bitb X k = T k) (hk : k < 8) : f_X2_hasMissing h q (nI k) X = some (b01 (fbT T b k).isSome) := by
  have e3 : hI h q 3 = (1 <<< (nI b &&& 31)) - 1 := by rw [← h2]; exact S.1.2.2.2.1
  unfold f_X2_hasMissing
  rw [nI_x4, e3]
  show (if q4 X k b = _ then _ else _) = _
  cases hf : fbT T b k with
  | none => rw [if_pos ((q4_all hX hk hb1 hb4).mpr hf)]; rfl
  | some z => rw [if_neg (fun y => by have := (q4_all hX hk hb1 hb4).mp y; rw [hf] at this; cases this)]; rfl
theorem x2_least_l {X : Int32} {T : Nat → Bool} {k : Nat} (S : SwR h q M n) (h2 : M.1 2 = nI b) (hb4 : b ≤ 4) (hX : ∀ k, k < 32 → bitb X k = T k) (hk : k < 8) : ∀ (r z fuel : Nat), z + r = b → r < fuel → bn2 (f_X2_leastMissing_l2 h q (nI k) X fuel (nI z)) (fun tg2 w4_1 => (if tg2 = 0 then (some w4_1) else (some (-1 : Int32)))) = some (match lsF (fun z => !T (4 * k + z)) r z with | none => -1 | some z => nI (4 * k + z)) := by
  have e1 : hI h q 1 = nI b := S.1.2.1.trans h2
  intro r
  induction r with
  | zero =>
    intro z fuel hz hf
    obtain ⟨fuel, rfl⟩ : ∃ z, fuel = z + 1 := ⟨fuel - 1, by omega⟩
    have : z = b := by omega
    subst this
    rw [f_X2_leastMissing_l2_s, e1, if_pos (Int32.le_refl _)]; rfl
  | succ r ih =>
    intro z fuel hz hf
    obtain ⟨fuel, rfl⟩ : ∃ z, fuel = z + 1 := ⟨fuel - 1, by omega⟩
    rw [f_X2_leastMissing_l2_s, e1, if_neg (nI_ge (by omega) (by omega)), nI_x4, nI_add, nI_1]
    show bn2 (if ush X (4 * k + z) &&& 1 = 0 then _ else _) _ = _
    rw [ush_and1 _ (by omega), hX _ (by omega)]
    cases hT : T (4 * k + z)
    · rw [show (if false = true then (1 : Int32) else 0) = 0 from rfl, if_pos rfl, lsF_t (by show (!T (4 * k + z)) = true; rw [hT]; rfl)]; rfl
    · rw [show (if true = true then (1 : Int32) else 0) = 1 from rfl, if_neg (show ¬ (1 : Int32) = 0 by decide), lsF_f (by show (!T (4 * k + z)) = false; rw [hT]; rfl)]
      exact ih (z + 1) fuel (by omega) (by omega)
theorem x2_least {X : Int32} {T : Nat → Bool} {k : Nat} (S : SwR h q M n) (h2 : M.1 2 = nI b) (hb4 : b ≤ 4) (hX : ∀ k, k < 32 → bitb X k = T k) (hk : k < 8) : f_X2_leastMissing h q (nI k) X = some (match fbT T b k with | none => -1 | some z => nI (4 * k + z)) := by
  unfold f_X2_leastMissing
  exact x2_least_l S h2 hb4 hX hk b 0 fu (by omega) (by show b < 5000; omega)
theorem x2_rare_l {w : Nat} {O X : Int32} {o T : Nat → Bool} {c : Nat → Int32} (S : SwR h q M n) (h1 : M.1 1 = nI p) (hp : p ≤ 8) (h2 : M.1 2 = nI b) (hb1 : 1 ≤ b) (hb4 : b ≤ 4) (hX : ∀ k, k < 32 → bitb X k = T k) (hO : ∀ k, k < 8 → bitb O k = o k) (hc : ∀ k, k < p → hI h (w + 2) k = c k) : ∀ (r k fuel : Nat), k + r = p → r < fuel → f_X2_rarestFree_l9 h w q O X fuel (oI (bpT o T b c k)) (match bpT o T b c k with | none => 0 | some x => b01 (stT T b x)) (nI k) = some (oI (bpT o T b c p)) := by
  have e1 : hI h q 0 = nI p := S.1.1.trans h1
  have e3 : hI h q 3 = (1 <<< (nI b &&& 31)) - 1 := by rw [← h2]; exact S.1.2.2.2.1
  intro r
  induction r with
  | zero =>
    intro k fuel hz hf
    obtain ⟨fuel, rfl⟩ : ∃ z, fuel = z + 1 := ⟨fuel - 1, by omega⟩
    have : k = p := by omega
    subst this
    rw [f_X2_rarestFree_l9_s, e1, if_pos (Int32.le_refl _)]
  | succ r ih =>
    intro k fuel hz hf
    obtain ⟨fuel, rfl⟩ : ∃ z, fuel = z + 1 := ⟨fuel - 1, by omega⟩
    have ih1 := ih (k + 1) fuel (by omega) (by omega)
    have skip : mayT o T b k = false → f_X2_rarestFree_l9 h w q O X fuel (oI (bpT o T b c k)) (match bpT o T b c k with | none => 0 | some x => b01 (stT T b x)) (nI (k + 1)) = some (oI (bpT o T b c p)) := by
      intro hm
      cases hb : bpT o T b c k with
      | none => rw [bpT_none hb, hm, if_neg (by decide)] at ih1; exact ih1
      | some x => rw [bpT_some hb, hm, Bool.false_and, if_neg (by decide)] at ih1; exact ih1
    rw [f_X2_rarestFree_l9_s, e1, if_neg (nI_ge (by omega) (by omega)), x2_missing S h2 hb1 hb4 hX (by omega), bn1_some]
    unfold f_X2_rarestFree_j56 f_X2_rarestFree_j73 f_X2_rarestFree_j97 f_X2_rarestFree_j105
    rw [nI_1, nI_x4, e3]
    show (if bt O k = 0 then _ else if b01 (fbT T b k).isSome = 0 then _ else if q4 X k b = 0 then _ else _) = _
    cases ho : o k
    · rw [if_pos ((bt0 O (by omega)).mpr ((hO k (by omega)).trans ho))]
      exact skip (by unfold mayT; rw [ho]; rfl)
    · rw [if_neg (fun z => by have := (bt0 O (by omega)).mp z; rw [hO k (by omega), ho] at this; cases this)]
      cases hfb : (fbT T b k).isSome
      · rw [if_pos (show b01 false = 0 from rfl)]
        exact skip (by unfold mayT; rw [hfb, ho]; rfl)
      · rw [if_neg (show ¬ b01 true = 0 by decide)]
        have hm : mayT o T b k = true := by unfold mayT; rw [hfb, ho]; rfl
        have b1 : b01 true = 1 := rfl
        have b0 : b01 false = 0 := rfl
        cases hb : bpT o T b c k with
        | none =>
          rw [bpT_none hb, hm, if_pos rfl] at ih1
          rw [oI_none, if_pos (show (-1 : Int32) < 0 by decide), if_pos (show (-1 : Int32) < 0 by decide)]
          dsimp only at ih1
          cases hst : stT T b k
          · rw [if_pos ((q4_0 hX (by omega) hb1 hb4).mpr hst)]
            rw [hst, b0] at ih1
            exact ih1
          · rw [if_neg (fun z => by have := (q4_0 hX (by omega) hb1 hb4).mp z; rw [hst] at this; cases this)]
            rw [hst, b1] at ih1
            exact ih1
        | some x =>
          have hlt : x < k := bst_lt hb
          have gx : inb (nI x) 8 = true := inb_nI (by omega) (by decide)
          have gk : inb (nI k) 8 = true := inb_nI (by omega) (by decide)
          rw [bpT_some hb, hm, Bool.true_and] at ih1
          rw [oI_some, if_neg (nI_pos (by omega)), if_neg (nI_pos (by omega))]
          simp only [gx, gk, eq_self, if_true]
          rw [nI_clamp (by omega), nI_clamp (by omega), hc x (by omega), hc k (by omega)]
          unfold snT at ih1
          rcases Bool.eq_false_or_eq_true (stT T b k) with hst | hst
          · rw [if_neg (fun z => by have := (q4_0 hX (by omega) hb1 hb4).mp z; rw [hst] at this; cases this), if_neg (show ¬ (1 : Int32) = 0 by decide)]
            rcases Bool.eq_false_or_eq_true (stT T b x) with hsx | hsx
            · rw [hsx, b1, if_neg (show ¬ (1 : Int32) = 0 by decide), if_pos (show (1 : Int32) = 1 from rfl)]
              rw [hst, hsx, if_pos rfl] at ih1
              by_cases hle : c x ≤ c k
              · rw [if_pos hle]
                rw [if_neg (by simp [hle])] at ih1
                dsimp only at ih1
                rw [hsx] at ih1
                exact ih1
              · rw [if_neg hle]
                rw [if_pos (by simp [hle])] at ih1
                dsimp only at ih1
                rw [hst] at ih1
                exact ih1
            · rw [hsx, b0, if_pos (show (0 : Int32) = 0 from rfl)]
              rw [hst, hsx, if_neg (show ¬ true = false by decide), if_pos rfl] at ih1
              dsimp only at ih1
              rw [hst] at ih1
              exact ih1
          · rw [if_pos ((q4_0 hX (by omega) hb1 hb4).mpr hst)]
            rcases Bool.eq_false_or_eq_true (stT T b x) with hsx | hsx
            · rw [hsx, b1, if_neg (show ¬ (0 : Int32) = 1 by decide)]
              rw [hst, hsx, if_neg (show ¬ false = true by decide), if_neg (show ¬ false = true by decide)] at ih1
              dsimp only at ih1
              rw [hsx] at ih1
              exact ih1
            · rw [hsx, b0, if_pos (show (0 : Int32) = 0 from rfl)]
              rw [hst, hsx, if_pos rfl] at ih1
              by_cases hle : c x ≤ c k
              · rw [if_pos hle]
                rw [if_neg (by simp [hle])] at ih1
                dsimp only at ih1
                rw [hsx] at ih1
                exact ih1
              · rw [if_neg hle]
                rw [if_pos (by simp [hle])] at ih1
                dsimp only at ih1
                rw [hst] at ih1
                exact ih1
theorem x2_rare {w : Nat} {O X : Int32} {o T : Nat → Bool} {c : Nat → Int32} (S : SwR h q M n) (h1 : M.1 1 = nI p) (hp : p ≤ 8) (h2 : M.1 2 = nI b) (hb1 : 1 ≤ b) (hb4 : b ≤ 4) (hX : ∀ k, k < 32 → bitb X k = T k) (hO : ∀ k, k < 8 → bitb O k = o k) (hc : ∀ k, k < p → hI h (w + 2) k = c k) : f_X2_rarestFree h w q O X = some (oI (bpT o T b c p)) := by
  unfold f_X2_rarestFree
  rw [show f_X2_rarestFree_l9 h w q O X fu (-1) 0 0 = _ from x2_rare_l S h1 hp h2 hb1 hb4 hX hO hc p 0 fu (by omega) (by show p < 5000; omega)]; rfl
theorem x2_lfree_l {O X : Int32} {o T : Nat → Bool} (S : SwR h q M n) (h1 : M.1 1 = nI p) (hp : p ≤ 8) (h2 : M.1 2 = nI b) (hb1 : 1 ≤ b) (hb4 : b ≤ 4) (hX : ∀ k, k < 32 → bitb X k = T k) (hO : ∀ k, k < 8 → bitb O k = o k) : ∀ (r k fuel : Nat), k + r = p → r < fuel → bn2 (f_X2_leastFree_l2 h q O X fuel (nI k)) (fun tg2 w3_3 => (if tg2 = 0 then (some w3_3) else (some (-1 : Int32)))) = some (oI (lsF (mayT o T b) r k)) := by
  have e1 : hI h q 0 = nI p := S.1.1.trans h1
  intro r
  induction r with
  | zero =>
    intro k fuel hz hf
    obtain ⟨fuel, rfl⟩ : ∃ z, fuel = z + 1 := ⟨fuel - 1, by omega⟩
    have : k = p := by omega
    subst this
    rw [f_X2_leastFree_l2_s, e1, if_pos (Int32.le_refl _)]; rfl
  | succ r ih =>
    intro k fuel hz hf
    obtain ⟨fuel, rfl⟩ : ∃ z, fuel = z + 1 := ⟨fuel - 1, by omega⟩
    have ih1 := ih (k + 1) fuel (by omega) (by omega)
    rw [f_X2_leastFree_l2_s, e1, if_neg (nI_ge (by omega) (by omega)), x2_missing S h2 hb1 hb4 hX (by omega), bn1_some]
    unfold f_X2_leastFree_j29
    rw [nI_1]
    show bn2 (if bt O k = 0 then _ else if b01 (fbT T b k).isSome = 0 then _ else _) _ = _
    cases ho : o k
    · rw [if_pos ((bt0 O (by omega)).mpr ((hO k (by omega)).trans ho)), lsF_f (by unfold mayT; rw [ho]; rfl)]
      exact ih1
    · rw [if_neg (fun z => by have := (bt0 O (by omega)).mp z; rw [hO k (by omega), ho] at this; cases this)]
      cases hfb : (fbT T b k).isSome
      · rw [if_pos (show b01 false = 0 from rfl), lsF_f (by unfold mayT; rw [hfb, ho]; rfl)]
        exact ih1
      · rw [if_neg (show ¬ b01 true = 0 by decide), lsF_t (by unfold mayT; rw [hfb, ho]; rfl)]; rfl
theorem x2_lfree {O X : Int32} {o T : Nat → Bool} (S : SwR h q M n) (h1 : M.1 1 = nI p) (hp : p ≤ 8) (h2 : M.1 2 = nI b) (hb1 : 1 ≤ b) (hb4 : b ≤ 4) (hX : ∀ k, k < 32 → bitb X k = T k) (hO : ∀ k, k < 8 → bitb O k = o k) : f_X2_leastFree h q O X = some (oI (lsF (mayT o T b) p 0)) := by
  unfold f_X2_leastFree
  exact x2_lfree_l S h1 hp h2 hb1 hb4 hX hO p 0 fu (by omega) (by show p < 5000; omega)
end CAsk
/-- whether piece k of i is open to j -/
def opn (M : MS) (j i : Nat) (k : Nat) : Bool := bitb (clM M i) k && !bitb (pc M j 2) k
def hdM (M : MS) (j : Nat) (k : Nat) : Bool := decide (pc M j (15 + k) ≠ -1)
def tkM (M : MS) (j : Nat) (A : Int32) (k : Nat) : Bool := hdM M j k || bitb A k
/-- what j asks i for, asked A of others before -/
def asM (M : MS) (n p b j i : Nat) (A : Int32) : Option Nat := match bpT (opn M j i) (tkM M j A) b (fun k => cpM M n k) p with
  | some k => (fbT (tkM M j A) b k).map (fun z => 4 * k + z)
  | none => if lfM M j p b ≤ M.1 10 then (match lsF (mayT (opn M j i) (hdM M j) b) p 0 with
    | none => none
    | some k => (fbT (hdM M j) b k).map (fun z => 4 * k + z)) else none
theorem fb_lt {T : Nat → Bool} {b k z : Nat} (h : fbT T b k = some z) : z < b := by
  have := (lsF_some h).2.1; omega
theorem may_fb {o T : Nat → Bool} {b k : Nat} (h : mayT o T b k = true) : ∃ z, fbT T b k = some z ∧ z < b := by
  unfold mayT at h
  have h2 := (Bool.and_eq_true_iff.mp h).2
  obtain ⟨z, hz⟩ := Option.isSome_iff_exists.mp h2
  exact ⟨z, hz, fb_lt hz⟩
theorem asM_lt {M : MS} {n p b j i k : Nat} {A : Int32} (hb4 : b ≤ 4) (h : asM M n p b j i A = some k) : k / 4 < p ∧ k % 4 < b := by
  unfold asM at h
  cases hb : bpT (opn M j i) (tkM M j A) b (fun k => cpM M n k) p with
  | some x =>
    rw [hb] at h
    have hx : x < p := bst_lt hb
    dsimp only at h
    obtain ⟨z, e1, e2⟩ := Option.map_eq_some_iff.mp h
    have := fb_lt e1
    omega
  | none =>
    rw [hb] at h
    dsimp only at h
    by_cases q : lfM M j p b ≤ M.1 10
    · rw [if_pos q] at h
      cases hl : lsF (mayT (opn M j i) (hdM M j) b) p 0 with
      | none => rw [hl] at h; cases h
      | some x =>
        rw [hl] at h
        dsimp only at h
        have hx := (lsF_some hl).2.1
        obtain ⟨z, e1, e2⟩ := Option.map_eq_some_iff.mp h
        have := fb_lt e1
        omega
    · rw [if_neg q] at h; cases h
theorem opn_bits {M : MS} {j i k : Nat} (hk : k < 32) : bitb (clM M i &&& (pc M j 2 ^^^ (-1))) k = opn M j i k := by rw [bitb_and, bitb_not _ hk]; rfl
theorem x2_choose {h : Hp} {w q n p b t j i : Nat} {M : MS} {A : Int32} (S : SwR h q M n) (W : WFs M n p b) (hj : j < n) (hi : i < n) (hc : ∀ k, k < p → hI h (w + 2) k = cpM M n k) : f_X2_chooseSpot h w q (nI j) (nI i) A = some (oI (asM M n p b j i A)) := by
  obtain ⟨w0, w1, w2, ws, -⟩ := id W
  have Pj : PeR h (q + 2 + 1 + 4 * j) j M := S.2.2.2 j hj
  have e10 : hI h (q + 1) (2 : Int32).toNatClampNeg = M.1 10 := S.2.2.1 2 (by decide)
  have hX : ∀ k, k < 32 → bitb (hI h (q + 2 + 1 + 4 * j) 3 ||| A) k = tkM M j A k := fun k hk => by rw [bitb_or, (Pj.2.2.1 k hk).1]; rfl
  have hY : ∀ k, k < 32 → bitb (hI h (q + 2 + 1 + 4 * j) 3) k = hdM M j k := fun k hk => (Pj.2.2.1 k hk).1
  have hO : ∀ k, k < 8 → bitb (clM M i &&& (pc M j 2 ^^^ (-1))) k = opn M j i k := fun k hk => opn_bits (by omega)
  unfold f_X2_chooseSpot asM
  rw [if_pos (inb_nI (by omega) (by decide)), nI_clamp (by omega), x3_claims S w0.2 hi, bn1_some, Pj.1.2.2.1, x2_rare S w1.1 w1.2.2 w2.1 w2.2.1 w2.2.2 hX hO hc, bn1_some, x3_left S Pj w1.2.2 w2.2.1 w2.2.2 w1.1 w2.1, bn1_some, e10, x2_lfree S w1.1 w1.2.2 w2.1 w2.2.1 w2.2.2 hY hO, bn1_some]
  cases hb : bpT (opn M j i) (tkM M j A) b (fun k => cpM M n k) p with
  | some k =>
    have hk : k < p := bst_lt hb
    obtain ⟨z, e1, -⟩ := may_fb (bst_ok hb)
    rw [oI_some, if_neg (nI_pos (by omega)), x2_least S w2.1 w2.2.2 hX (by omega), e1]
    dsimp only
    rw [e1]; rfl
  | none =>
    rw [oI_none, if_pos (show (-1 : Int32) < 0 by decide)]
    dsimp only
    by_cases hle : lfM M j p b ≤ M.1 10
    · rw [if_pos hle, if_pos hle]
      cases hl : lsF (mayT (opn M j i) (hdM M j) b) p 0 with
      | none => rw [oI_none, if_pos (show (-1 : Int32) < 0 by decide)]
      | some k =>
        have hk := (lsF_some hl).2.1
        obtain ⟨z, e1, -⟩ := may_fb (lsF_some hl).2.2
        rw [oI_some, if_neg (nI_pos (by omega)), x2_least S w2.1 w2.2.2 hY (by omega), e1]
        dsimp only
        rw [e1]; rfl
    · rw [if_neg hle, if_neg hle]; rfl
