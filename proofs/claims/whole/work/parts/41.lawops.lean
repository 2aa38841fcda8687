/-! THE LAW'S LOOP over any invariant that each pair of calls keeps, with like answers -/
theorem lg_cmp_self (x : Int64) : lg_cmp x x = 0 := by
  unfold lg_cmp
  rw [if_neg (Int64.lt_irrefl), if_pos rfl]
theorem nI_k (a k : Nat) : nI a + Int32.ofNat k = nI (a + k) := nI_add a k
theorem law_head {L c : Nat} (hL : L ≤ 2048) (hc : c ≤ 512) : ((Int32.ofNat L) - (4 : Int32)) < nI (4 * c) ↔ L < 4 * c + 4 := by
  have e1 : (nI L).toInt = L := nI_toInt (by omega)
  have e2 : (nI (4 * c)).toInt = (4 * c : Nat) := nI_toInt (by omega)
  have e3 : (Int32.ofNat L - 4).toInt = (L : Int) - 4 := by
    show (nI L - 4).toInt = _
    rw [Int32.toInt_sub, e1]
    show ((L : Int) - 4).bmod (2 ^ 32) = _
    rw [Int.bmod_eq_of_le (by omega) (by omega)]
  rw [Int32.lt_iff_toInt_lt, e3, e2]
  omega
def Op_begins (o : Nat) (I : Nat → Hp → Prop) : Prop := ∀ (c : Nat) (h : Hp), c < 512 → I c h → ∀ a1 a2 : Int32, ∃ v h1 h2, f_X5_begins h o a1 a2 = some (v, h1) ∧ f_X6_begins h1 (o + 174) a1 a2 = some (v, h2) ∧ I (c + 1) h2
def Op_peer (o : Nat) (I : Nat → Hp → Prop) : Prop := ∀ (c : Nat) (h : Hp), c < 512 → I c h → ∀ a1 a2 : Int32, ∃ v h1 h2, f_X5_peer h o a1 a2 = some (v, h1) ∧ f_X6_peer h1 (o + 174) a1 a2 = some (v, h2) ∧ I (c + 1) h2
def Op_gives (o : Nat) (I : Nat → Hp → Prop) : Prop := ∀ (c : Nat) (h : Hp), c < 512 → I c h → ∀ a1 a2 : Int32, ∃ v h1 h2, f_X5_gives h o a1 a2 = some (v, h1) ∧ f_X6_gives h1 (o + 174) a1 a2 = some (v, h2) ∧ I (c + 1) h2
def Op_sets (o : Nat) (I : Nat → Hp → Prop) : Prop := ∀ (c : Nat) (h : Hp), c < 512 → I c h → ∀ a1 a2 : Int32, ∃ v h1 h2, f_X5_sets h o a1 a2 = some (v, h1) ∧ f_X6_sets h1 (o + 174) a1 a2 = some (v, h2) ∧ I (c + 1) h2
def Op_rounds (o : Nat) (I : Nat → Hp → Prop) : Prop := ∀ (c : Nat) (h : Hp), c < 512 → I c h → ∀ a1 : Int32, ∃ v h1 h2, f_X5_rounds h o a1 = some (v, h1) ∧ f_X6_rounds h1 (o + 174) a1 = some (v, h2) ∧ I (c + 1) h2
def Op_finishes (o : Nat) (I : Nat → Hp → Prop) : Prop := ∀ (c : Nat) (h : Hp), c < 512 → I c h → ∀ a1 : Int32, ∃ v h1 h2, f_X5_finishes h o a1 = some (v, h1) ∧ f_X6_finishes h1 (o + 174) a1 = some (v, h2) ∧ I (c + 1) h2
def Op_of (o : Nat) (I : Nat → Hp → Prop) : Prop := ∀ (c : Nat) (h : Hp), c < 512 → I c h → ∀ a1 a2 : Int32, ∃ v h1 h2, f_X5_of h o a1 a2 = some (v, h1) ∧ f_X6_of h1 (o + 174) a1 a2 = some (v, h2) ∧ I (c + 1) h2
def Op_block (o : Nat) (I : Nat → Hp → Prop) : Prop := ∀ (c : Nat) (h : Hp), c < 512 → I c h → ∀ a1 a2 a3 : Int32, ∃ v h1 h2, f_X5_block h o a1 a2 a3 = some (v, h1) ∧ f_X6_block h1 (o + 174) a1 a2 a3 = some (v, h2) ∧ I (c + 1) h2
def Op_rate (o : Nat) (I : Nat → Hp → Prop) : Prop := ∀ (c : Nat) (h : Hp), c < 512 → I c h → ∀ a1 a2 : Int32, ∃ v h1 h2, f_X5_rate h o a1 a2 = some (v, h1) ∧ f_X6_rate h1 (o + 174) a1 a2 = some (v, h2) ∧ I (c + 1) h2
def Op_suspects (o : Nat) (I : Nat → Hp → Prop) : Prop := ∀ (c : Nat) (h : Hp), c < 512 → I c h → ∀ a1 a2 : Int32, ∃ v h1 h2, f_X5_suspects h o a1 a2 = some (v, h1) ∧ f_X6_suspects h1 (o + 174) a1 a2 = some (v, h2) ∧ I (c + 1) h2
def Op_copies (o : Nat) (I : Nat → Hp → Prop) : Prop := ∀ (c : Nat) (h : Hp), c < 512 → I c h → ∀ a1 : Int32, ∃ v h1 h2, f_X5_copies h o a1 = some (v, h1) ∧ f_X6_copies h1 (o + 174) a1 = some (v, h2) ∧ I (c + 1) h2
def Op_rarest (o : Nat) (I : Nat → Hp → Prop) : Prop := ∀ (c : Nat) (h : Hp), c < 512 → I c h → ∃ v, f_X5_rarest h o = some v ∧ f_X6_rarest h (o + 174) = some v ∧ I (c + 1) h
def Op_ratio (o : Nat) (I : Nat → Hp → Prop) : Prop := ∀ (c : Nat) (h : Hp), c < 512 → I c h → ∀ a1 : Int32, ∃ v h1 h2, f_X5_ratio h o a1 = some (v, h1) ∧ f_X6_ratio h1 (o + 174) a1 = some (v, h2) ∧ I (c + 1) h2
def Op_spread (o : Nat) (I : Nat → Hp → Prop) : Prop := ∀ (c : Nat) (h : Hp), c < 512 → I c h → ∃ v, f_X5_spread h o = some v ∧ f_X6_spread h (o + 174) = some v ∧ I (c + 1) h
def Op_fairness (o : Nat) (I : Nat → Hp → Prop) : Prop := ∀ (c : Nat) (h : Hp), c < 512 → I c h → ∃ v, f_X5_fairness h o = some v ∧ f_X6_fairness h (o + 174) = some v ∧ I (c + 1) h
def Op_count (o : Nat) (I : Nat → Hp → Prop) : Prop := ∀ (c : Nat) (h : Hp), c < 512 → I c h → ∀ a1 : Int32, ∃ v h1 h2, f_X5_count h o a1 = some (v, h1) ∧ f_X6_count h1 (o + 174) a1 = some (v, h2) ∧ I (c + 1) h2
def Op_type (o : Nat) (I : Nat → Hp → Prop) : Prop := ∀ (c : Nat) (h : Hp), c < 512 → I c h → ∀ a1 : Int32, ∃ v h1 h2, f_X5_type h o a1 = some (v, h1) ∧ f_X6_type h1 (o + 174) a1 = some (v, h2) ∧ I (c + 1) h2
def Op_clear (o : Nat) (I : Nat → Hp → Prop) : Prop := ∀ (c : Nat) (h : Hp), c < 512 → I c h → ∃ v h1 h2, f_X5_clear h o = some (v, h1) ∧ f_X6_clear h1 (o + 174) = some (v, h2) ∧ I (c + 1) h2
def Op_does (o : Nat) (I : Nat → Hp → Prop) : Prop := ∀ (c : Nat) (h : Hp), c < 512 → I c h → ∃ v h1 h2, f_X5_does h o = some (v, h1) ∧ f_X6_does h1 (o + 174) = some (v, h2) ∧ I (c + 1) h2
def Op_back (o : Nat) (I : Nat → Hp → Prop) : Prop := ∀ (c : Nat) (h : Hp), c < 512 → I c h → ∃ v h1 h2, f_X5_back h o = some (v, h1) ∧ f_X6_back h1 (o + 174) = some (v, h2) ∧ I (c + 1) h2
def Op_told (o : Nat) (I : Nat → Hp → Prop) : Prop := ∀ (c : Nat) (h : Hp), c < 512 → I c h → ∀ a1 : Int32, ∃ v h1 h2, f_X5_told h o a1 = some (v, h1) ∧ f_X6_told h1 (o + 174) a1 = some (v, h2) ∧ I (c + 1) h2
def Op_digest (o : Nat) (I : Nat → Hp → Prop) : Prop := ∀ (c : Nat) (h : Hp), c < 512 → I c h → ∃ v h1, f_X5_digest h o = some (v, h1) ∧ f_X6_digest h1 (o + 174) = some v ∧ I (c + 1) h1
def Ops (o : Nat) (I : Nat → Hp → Prop) : Prop := Op_begins o I ∧ Op_peer o I ∧ Op_gives o I ∧ Op_sets o I ∧ Op_rounds o I ∧ Op_finishes o I ∧ Op_of o I ∧ Op_block o I ∧ Op_rate o I ∧ Op_suspects o I ∧ Op_copies o I ∧ Op_rarest o I ∧ Op_ratio o I ∧ Op_spread o I ∧ Op_fairness o I ∧ Op_count o I ∧ Op_type o I ∧ Op_clear o I ∧ Op_does o I ∧ Op_back o I ∧ Op_told o I ∧ Op_digest o I ∧ (∀ (c : Nat) (h : Hp), c < 512 → I c h → I (c + 1) h)
set_option maxRecDepth 100000 in
set_option maxHeartbeats 8000000 in
theorem law_loop {o : Nat} {I : Nat → Hp → Prop} (ops : Ops o I) {L : Nat} {xs : Nat → Int32} (hL : L ≤ 2048) : ∀ (r c fuel : Nat) (h : Hp), c + r = L / 4 → r < fuel → I c h → ∃ h2, f_L_law_l18 L xs o (o + 174) fuel (nI (4 * c)) h = some (22, h2) := by
  intro r
  induction r with
  | zero =>
    intro c fuel h hc hf hI
    obtain ⟨fuel, rfl⟩ : ∃ z, fuel = z + 1 := ⟨fuel - 1, by omega⟩
    rw [f_L_law_l18_s, if_pos ((law_head hL (by omega)).mpr (by omega))]
    exact ⟨h, rfl⟩
  | succ r ih =>
    intro c fuel h hc hf hI
    obtain ⟨fuel, rfl⟩ : ∃ z, fuel = z + 1 := ⟨fuel - 1, by omega⟩
    have hc5 : c < 512 := by omega
    have e1 : nI (4 * c) + (1 : Int32) = nI (4 * c + 1) := nI_add _ 1
    have e2 : nI (4 * c) + (2 : Int32) = nI (4 * c + 2) := nI_add _ 2
    have e3 : nI (4 * c) + (3 : Int32) = nI (4 * c + 3) := nI_add _ 3
    have e4 : nI (4 * c) + 4 = nI (4 * (c + 1)) := nI_add _ 4
    have g0 : inb (nI (4 * c)) L = true := inb_nI (by omega) (by omega)
    have g1 : inb (nI (4 * c + 1)) L = true := inb_nI (by omega) (by omega)
    have g2 : inb (nI (4 * c + 2)) L = true := inb_nI (by omega) (by omega)
    have g3 : inb (nI (4 * c + 3)) L = true := inb_nI (by omega) (by omega)
    have next : ∀ h2, I (c + 1) h2 → ∃ h3, f_L_law_j664 L xs (f_L_law_l18 L xs o (o + 174) fuel) h2 o (o + 174) (nI (4 * c)) = some (22, h3) := by
      intro h2 hI2
      unfold f_L_law_j664
      rw [e4]
      exact ih (c + 1) fuel h2 (by omega) (by omega) hI2
    rw [f_L_law_l18_s, if_neg (fun q => absurd ((law_head hL (by omega)).mp q) (by omega)), if_pos g0]
    simp only [e1, e2, e3]
    generalize xs (nI (4 * c)).toNatClampNeg &&& (31 : Int32) = code
    obtain ⟨p0, p1, p2, p3, p4, p5, p6, p7, p8, p9, p10, p11, p12, p13, p14, p15, p16, p17, p18, p19, p20, p21, pn⟩ := ops
    by_cases s0 : code = 0
    · obtain ⟨v, h1, h2, q1, q2, q3⟩ := p0 c h hc5 hI (xs (nI (4 * c + 1)).toNatClampNeg) (xs (nI (4 * c + 2)).toNatClampNeg)
      rw [if_pos s0, if_pos g1, if_pos g2, q1, bn2_some, if_pos g1, if_pos g2, q2, bn2_some, if_pos rfl]
      exact next h2 q3
    rw [if_neg s0]
    by_cases s1 : code = 1
    · obtain ⟨v, h1, h2, q1, q2, q3⟩ := p1 c h hc5 hI (xs (nI (4 * c + 1)).toNatClampNeg) (xs (nI (4 * c + 2)).toNatClampNeg)
      rw [if_pos s1, if_pos g1, if_pos g2, q1, bn2_some, if_pos g1, if_pos g2, q2, bn2_some, if_pos rfl]
      exact next h2 q3
    rw [if_neg s1]
    by_cases s2 : code = 2
    · obtain ⟨v, h1, h2, q1, q2, q3⟩ := p2 c h hc5 hI (xs (nI (4 * c + 1)).toNatClampNeg) (xs (nI (4 * c + 2)).toNatClampNeg)
      rw [if_pos s2, if_pos g1, if_pos g2, q1, bn2_some, if_pos g1, if_pos g2, q2, bn2_some, if_pos rfl]
      exact next h2 q3
    rw [if_neg s2]
    by_cases s3 : code = 3
    · obtain ⟨v, h1, h2, q1, q2, q3⟩ := p3 c h hc5 hI (xs (nI (4 * c + 1)).toNatClampNeg) (xs (nI (4 * c + 2)).toNatClampNeg)
      rw [if_pos s3, if_pos g1, if_pos g2, q1, bn2_some, if_pos g1, if_pos g2, q2, bn2_some, if_pos rfl]
      exact next h2 q3
    rw [if_neg s3]
    by_cases s4 : code = 4
    · obtain ⟨v, h1, h2, q1, q2, q3⟩ := p4 c h hc5 hI (xs (nI (4 * c + 1)).toNatClampNeg)
      rw [if_pos s4, if_pos g1, q1, bn2_some, if_pos g1, q2, bn2_some, if_pos rfl]
      exact next h2 q3
    rw [if_neg s4]
    by_cases s5 : code = 5
    · obtain ⟨v, h1, h2, q1, q2, q3⟩ := p5 c h hc5 hI (xs (nI (4 * c + 1)).toNatClampNeg)
      rw [if_pos s5, if_pos g1, q1, bn2_some, if_pos g1, q2, bn2_some, if_pos rfl]
      exact next h2 q3
    rw [if_neg s5]
    by_cases s6 : code = 6
    · obtain ⟨v, h1, h2, q1, q2, q3⟩ := p6 c h hc5 hI (xs (nI (4 * c + 1)).toNatClampNeg) (xs (nI (4 * c + 2)).toNatClampNeg)
      rw [if_pos s6, if_pos g1, if_pos g2, q1, bn2_some, if_pos g1, if_pos g2, q2, bn2_some, if_pos rfl]
      exact next h2 q3
    rw [if_neg s6]
    by_cases s7 : code = 7
    · obtain ⟨v, h1, h2, q1, q2, q3⟩ := p7 c h hc5 hI (xs (nI (4 * c + 1)).toNatClampNeg) (xs (nI (4 * c + 2)).toNatClampNeg) (xs (nI (4 * c + 3)).toNatClampNeg)
      rw [if_pos s7, if_pos g1, if_pos g2, if_pos g3, q1, bn2_some, if_pos g1, if_pos g2, if_pos g3, q2, bn2_some, if_pos rfl]
      exact next h2 q3
    rw [if_neg s7]
    by_cases s8 : code = 8
    · obtain ⟨v, h1, h2, q1, q2, q3⟩ := p8 c h hc5 hI (xs (nI (4 * c + 1)).toNatClampNeg) (xs (nI (4 * c + 2)).toNatClampNeg)
      rw [if_pos s8, if_pos g1, if_pos g2, q1, bn2_some, if_pos g1, if_pos g2, q2, bn2_some, if_pos rfl]
      exact next h2 q3
    rw [if_neg s8]
    by_cases s9 : code = 9
    · obtain ⟨v, h1, h2, q1, q2, q3⟩ := p9 c h hc5 hI (xs (nI (4 * c + 1)).toNatClampNeg) (xs (nI (4 * c + 2)).toNatClampNeg)
      rw [if_pos s9, if_pos g1, if_pos g2, q1, bn2_some, if_pos g1, if_pos g2, q2, bn2_some, if_pos rfl]
      exact next h2 q3
    rw [if_neg s9]
    by_cases s10 : code = 10
    · obtain ⟨v, h1, h2, q1, q2, q3⟩ := p10 c h hc5 hI (xs (nI (4 * c + 1)).toNatClampNeg)
      rw [if_pos s10, if_pos g1, q1, bn2_some, if_pos g1, q2, bn2_some, if_pos rfl]
      exact next h2 q3
    rw [if_neg s10]
    by_cases s11 : code = 11
    · obtain ⟨v, q1, q2, q3⟩ := p11 c h hc5 hI 
      rw [if_pos s11, q1, bn1_some, q2, bn1_some, if_pos rfl]
      exact next h q3
    rw [if_neg s11]
    by_cases s12 : code = 12
    · obtain ⟨v, h1, h2, q1, q2, q3⟩ := p12 c h hc5 hI (xs (nI (4 * c + 1)).toNatClampNeg)
      rw [if_pos s12, if_pos g1, q1, bn2_some, if_pos g1, q2, bn2_some, if_pos rfl]
      exact next h2 q3
    rw [if_neg s12]
    by_cases s13 : code = 13
    · obtain ⟨v, q1, q2, q3⟩ := p13 c h hc5 hI 
      rw [if_pos s13, q1, bn1_some, q2, bn1_some, if_pos rfl]
      exact next h q3
    rw [if_neg s13]
    by_cases s14 : code = 14
    · obtain ⟨v, q1, q2, q3⟩ := p14 c h hc5 hI 
      rw [if_pos s14, q1, bn1_some, q2, bn1_some, if_pos (lg_cmp_self v)]
      exact next h q3
    rw [if_neg s14]
    by_cases s15 : code = 15
    · obtain ⟨v, h1, h2, q1, q2, q3⟩ := p15 c h hc5 hI (xs (nI (4 * c + 1)).toNatClampNeg)
      rw [if_pos s15, if_pos g1, q1, bn2_some, if_pos g1, q2, bn2_some, if_pos rfl]
      exact next h2 q3
    rw [if_neg s15]
    by_cases s16 : code = 16
    · obtain ⟨v, h1, h2, q1, q2, q3⟩ := p16 c h hc5 hI (xs (nI (4 * c + 1)).toNatClampNeg)
      rw [if_pos s16, if_pos g1, q1, bn2_some, if_pos g1, q2, bn2_some, if_pos rfl]
      exact next h2 q3
    rw [if_neg s16]
    by_cases s17 : code = 17
    · obtain ⟨v, h1, h2, q1, q2, q3⟩ := p17 c h hc5 hI 
      rw [if_pos s17, q1, bn2_some, q2, bn2_some, if_pos rfl]
      exact next h2 q3
    rw [if_neg s17]
    by_cases s18 : code = 18
    · obtain ⟨v, h1, h2, q1, q2, q3⟩ := p18 c h hc5 hI 
      rw [if_pos s18, q1, bn2_some, q2, bn2_some, if_pos rfl]
      exact next h2 q3
    rw [if_neg s18]
    by_cases s19 : code = 19
    · obtain ⟨v, h1, h2, q1, q2, q3⟩ := p19 c h hc5 hI 
      rw [if_pos s19, q1, bn2_some, q2, bn2_some, if_pos rfl]
      exact next h2 q3
    rw [if_neg s19]
    by_cases s20 : code = 20
    · obtain ⟨v, h1, h2, q1, q2, q3⟩ := p20 c h hc5 hI (xs (nI (4 * c + 1)).toNatClampNeg)
      rw [if_pos s20, if_pos g1, q1, bn2_some, if_pos g1, q2, bn2_some, if_pos rfl]
      exact next h2 q3
    rw [if_neg s20]
    by_cases s21 : code = 21
    · obtain ⟨v, h1, q1, q2, q3⟩ := p21 c h hc5 hI 
      rw [if_pos s21, q1, bn2_some, q2, bn1_some, if_pos (lg_cmp_self v)]
      exact next h1 q3
    rw [if_neg s21]
    exact next h (pn c h hc5 hI)
theorem law_of_ops {o : Nat} {I : Nat → Hp → Prop} (ops : Ops o I) (h00 : I 0 (h0 o)) (L : Nat) (xs : Nat → Int32) (hL : L ≤ 2048) : ∃ h2, f_L_law L xs (h0 o) o (o + 174) 0 = some (1, h2) := by
  obtain ⟨h2, e⟩ := law_loop ops (xs := xs) hL (L / 4) 0 fu (h0 o) (by omega) (by show L / 4 < 5000; omega) h00
  refine ⟨h2, ?_⟩
  unfold f_L_law
  rw [show (0 : Int32) = nI (4 * 0) from rfl, e, bn2_some]
  rfl
