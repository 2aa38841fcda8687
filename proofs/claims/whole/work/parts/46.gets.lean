theorem rv_o {h : Hp} {o k : Nat} {v : Int32} : rv (sI h o k v) (o + 174) = rv h (o + 174) := by
  unfold rv
  rw [show hI (sI h o k v) (o + 174 + 2) = hI h (o + 174 + 2) from funext fun j => hI_sIb _ _ _ _ (by omega)]
  rfl
/-- a pair of calls that both refuse as BAD -/
theorem bad_pair {o c : Nat} {h : Hp} (H : Inv o c h) {F : Option (Int32 × Hp)} {G : Hp → Option (Int32 × Hp)} (e1 : F = bn2 (f_X5_refuse h o (-2)) (fun v h => some (v, h))) (e2 : ∀ q, rv q (o + 174) = rv h (o + 174) → G q = bn2 (f_X6_bad q (o + 174)) (fun v h => some (v, h))) : ∃ v h1 h2, F = some (v, h1) ∧ G h1 = some (v, h2) ∧ Inv o (c + 1) h2 := by
  refine ⟨-2, sI h o 6 (hI h o 6 + 1), _, ?_, ?_, Inv_ref (k := 0) (by decide) H⟩
  · rw [e1, x5_bad]; rfl
  · rw [e2 _ rv_o, x6_bad]; rfl
theorem no_pair {o c : Nat} {h : Hp} (H : Inv o c h) {F : Option (Int32 × Hp)} {G : Hp → Option (Int32 × Hp)} (e1 : F = bn2 (f_X5_refuse h o (-3)) (fun v h => some (v, h))) (e2 : ∀ q, rv q (o + 174) = rv h (o + 174) → G q = bn2 (f_X6_no q (o + 174)) (fun v h => some (v, h))) : ∃ v h1 h2, F = some (v, h1) ∧ G h1 = some (v, h2) ∧ Inv o (c + 1) h2 := by
  refine ⟨-3, sI h o 7 (hI h o 7 + 1), _, ?_, ?_, Inv_ref (k := 1) (by decide) H⟩
  · rw [e1, x5_no]; rfl
  · rw [e2 _ rv_o, x6_no]; rfl
theorem full_pair {o c : Nat} {h : Hp} (H : Inv o c h) {F : Option (Int32 × Hp)} {G : Hp → Option (Int32 × Hp)} (e1 : F = bn2 (f_X5_refuse h o (-4)) (fun v h => some (v, h))) (e2 : ∀ q, rv q (o + 174) = rv h (o + 174) → G q = bn2 (f_X6_full q (o + 174)) (fun v h => some (v, h))) : ∃ v h1 h2, F = some (v, h1) ∧ G h1 = some (v, h2) ∧ Inv o (c + 1) h2 := by
  refine ⟨-4, sI h o 8 (hI h o 8 + 1), _, ?_, ?_, Inv_ref (k := 2) (by decide) H⟩
  · rw [e1, x5_full]; rfl
  · rw [e2 _ rv_o, x6_full]; rfl
/-- a pair of reads -/
theorem read_pair {o c : Nat} {h : Hp} (H : Inv o c h) {F : Option (Int32 × Hp)} {G : Hp → Option (Int32 × Hp)} {v : Int32} (e1 : F = some (v, h)) (e2 : G h = some (v, h)) : ∃ v h1 h2, F = some (v, h1) ∧ G h1 = some (v, h2) ∧ Inv o (c + 1) h2 := ⟨v, h, h, e1, e2, Inv_same H⟩
theorem x6_areTwo_t {h : Hp} {m n i j : Nat} (hn : n ≤ 6) (h0 : (rv h m).1 0 = nI n) (hi : i < n) (hj : j < n) (hne : i ≠ j) : f_X6_areTwo h m (nI i) (nI j) = some 1 := by
  unfold f_X6_areTwo
  rw [x6_isPeer_t hn h0 hi, bn1_some, if_neg (by decide), x6_isPeer_t hn h0 hj, bn1_some, if_neg (by decide), if_neg (fun q => hne ((nI_eq (by omega) (by omega)).mp q))]
theorem x6_areTwo_f {h : Hp} {m n : Nat} {u v : Int32} (hn : n ≤ 6) (h0 : (rv h m).1 0 = nI n) (H : ¬ ∃ i j, i < n ∧ j < n ∧ i ≠ j ∧ u = nI i ∧ v = nI j) : f_X6_areTwo h m u v = some 0 := by
  unfold f_X6_areTwo
  rcases idx_or u (n := n) (by omega) with ⟨i, hi, rfl⟩ | hu
  · rw [x6_isPeer_t hn h0 hi, bn1_some, if_neg (by decide)]
    rcases idx_or v (n := n) (by omega) with ⟨j, hj, rfl⟩ | hv
    · rw [x6_isPeer_t hn h0 hj, bn1_some, if_neg (by decide)]
      by_cases hij : i = j
      · subst hij; rw [if_pos rfl]; rfl
      · exact absurd ⟨i, j, hi, hj, hij, rfl, rfl⟩ H
    · rw [x6_isPeer_f hn h0 hv, bn1_some, if_pos rfl]; rfl
  · rw [x6_isPeer_f hn h0 hu, bn1_some, if_pos rfl]; rfl
theorem x3_isPair_t {h : Hp} {q n i j : Nat} (hn : n ≤ 6) (h0 : hI h q 4 = nI n) (hi : i < n) (hj : j < n) (hne : i ≠ j) : f_X3_isPair h q (nI i) (nI j) = some 1 := by
  unfold f_X3_isPair
  rw [x3_isPeer_t h0 hn hi, bn1_some, if_neg (by decide), x3_isPeer_t h0 hn hj, bn1_some, if_neg (by decide), if_neg (fun q => hne ((nI_eq (by omega) (by omega)).mp q))]
theorem x3_isPair_f {h : Hp} {q n : Nat} {u v : Int32} (hn : n ≤ 6) (h0 : hI h q 4 = nI n) (H : ¬ ∃ i j, i < n ∧ j < n ∧ i ≠ j ∧ u = nI i ∧ v = nI j) : f_X3_isPair h q u v = some 0 := by
  unfold f_X3_isPair
  rcases idx_or u (n := n) (by omega) with ⟨i, hi, rfl⟩ | hu
  · rw [x3_isPeer_t h0 hn hi, bn1_some, if_neg (by decide)]
    rcases idx_or v (n := n) (by omega) with ⟨j, hj, rfl⟩ | hv
    · rw [x3_isPeer_t h0 hn hj, bn1_some, if_neg (by decide)]
      by_cases hij : i = j
      · subst hij; rw [if_pos rfl]; rfl
      · exact absurd ⟨i, j, hi, hj, hij, rfl, rfl⟩ H
    · rw [x3_isPeer_f h0 hv, bn1_some, if_pos rfl]; rfl
  · rw [x3_isPeer_f h0 hu, bn1_some, if_pos rfl]; rfl
theorem op_suspects (o : Nat) : Op_suspects o (Inv o) := by
  intro c h _ H u v
  obtain ⟨n, p, b, S, w0, w1, w2, -⟩ := id H.1
  have hs : hI h (o + 1) 4 = nI n := S.1.2.2.2.2.1.trans w0.1
  by_cases hp : ∃ i j, i < n ∧ j < n ∧ i ≠ j ∧ u = nI i ∧ v = nI j
  · obtain ⟨i, j, hi, hj, hne, rfl, rfl⟩ := hp
    refine read_pair H (v := pc (rv h (o + 174)) i (8 + j)) ?_ ?_
    · unfold f_X5_suspects
      rw [x3_isPair_t w0.2 hs hi hj hne, bn1_some, if_neg (by decide), if_pos (inb_nI (by omega) (by decide)), if_pos (inb_nI (by omega) (by decide)), nI_clamp (by omega), nI_clamp (by omega)]
      have := (S.2.2.2 i hi).2.1 j (by omega)
      rw [show o + 1 + 2 + 1 + 4 * i + 2 = o + 1 + 3 + 4 * i + 2 by omega, this]
    · unfold f_X6_suspects
      rw [x6_areTwo_t w0.2 w0.1 hi hj hne, bn1_some, if_neg (by decide), show (8 : Int32) + nI j = nI (8 + j) from nI_add 8 j, x6_cell (by omega) (by omega)]; rfl
  · refine bad_pair H ?_ (fun q hq => ?_)
    · unfold f_X5_suspects
      rw [x3_isPair_f w0.2 hs hp, bn1_some, if_pos rfl]
    · unfold f_X6_suspects
      rw [x6_areTwo_f w0.2 (by rw [hq]; exact w0.1) hp, bn1_some, if_pos rfl]
theorem op_told (o : Nat) : Op_told o (Inv o) := by
  intro c h _ H v
  obtain ⟨n, p, b, S, w0, w1, w2, -⟩ := id H.1
  obtain ⟨K, e, -, -, k1, k2, -⟩ := id H.2.1
  obtain ⟨len, -, t1, t2, -⟩ := id H.2.2.1
  obtain ⟨d0, d1, d2⟩ := id H.2.2.2
  rcases idx_or v (n := 9) (by decide) with ⟨k, hk, rfl⟩ | hv
  · have g1 : ¬ nI k < 0 := nI_pos (by omega)
    have g2 : nI k ≤ 8 := nI_le (b := 8) (by omega) (by decide)
    have g3 : inr (nI k) 0 8 := inr_t (n := 9) hk (by decide)
    have st := S.2.2.1
    rcases (show k = 0 ∨ k = 1 ∨ k = 2 ∨ k = 3 ∨ k = 4 ∨ k = 5 ∨ k = 6 ∨ k = 7 ∨ k = 8 by omega) with rfl | rfl | rfl | rfl | rfl | rfl | rfl | rfl | rfl
    · refine read_pair H (v := hI h o 6) ?_ ?_
      · unfold f_X5_told; rw [if_neg g1, if_pos g2]; rfl
      · unfold f_X6_told; rw [x6_in_t g3, d0]; rfl
    · refine read_pair H (v := hI h o 7) ?_ ?_
      · unfold f_X5_told; rw [if_neg g1, if_pos g2]; rfl
      · unfold f_X6_told; rw [x6_in_t g3, d1]; rfl
    · refine read_pair H (v := hI h o 8) ?_ ?_
      · unfold f_X5_told; rw [if_neg g1, if_pos g2]; rfl
      · unfold f_X6_told; rw [x6_in_t g3, d2]; rfl
    · refine read_pair H (v := hI h (o + 1 + 1) 0) ?_ ?_
      · unfold f_X5_told; rw [if_neg g1, if_pos g2]; rfl
      · unfold f_X6_told; rw [x6_in_t g3, st 0 (by decide)]; rfl
    · refine read_pair H (v := hI h (o + 1 + 1) 1) ?_ ?_
      · unfold f_X5_told; rw [if_neg g1, if_pos g2]; rfl
      · unfold f_X6_told; rw [x6_in_t g3, st 1 (by decide)]; rfl
    · refine read_pair H (v := hI h (o + 1 + 1) 2) ?_ ?_
      · unfold f_X5_told; rw [if_neg g1, if_pos g2]; rfl
      · unfold f_X6_told; rw [x6_in_t g3, st 2 (by decide)]; rfl
    · refine read_pair H (v := hI h (o + 1 + 1) 3) ?_ ?_
      · unfold f_X5_told; rw [if_neg g1, if_pos g2]; rfl
      · unfold f_X6_told; rw [x6_in_t g3, st 3 (by decide)]; rfl
    · refine read_pair H (v := nI len) ?_ ?_
      · unfold f_X5_told; rw [if_neg g1, if_pos g2, ← t1]; rfl
      · unfold f_X6_told; rw [x6_in_t g3, ← t2]; rfl
    · refine read_pair H (v := nI K) ?_ ?_
      · unfold f_X5_told; rw [if_neg g1, if_pos g2, ← k1]; rfl
      · unfold f_X6_told; rw [x6_in_t g3, ← k2]; rfl
  · refine bad_pair H ?_ (fun q hq => ?_)
    · unfold f_X5_told f_X5_told_j10
      by_cases h1 : v < 0
      · rw [if_pos h1]
      · rw [if_neg h1, if_neg]
        intro h2
        rcases hv with h3 | h3
        · exact h1 h3
        · exact absurd (Int32.le_trans h3 h2) (by decide)
    · unfold f_X6_told
      rw [x6_in_f (show ¬ inr v 0 8 from inr_f (n := 9) (by decide) hv), bn1_some, if_pos rfl]
/-- the best of those that may be, the least of like ones -/
def bst (ok : Nat → Bool) (bet : Nat → Nat → Bool) : Nat → Option Nat
  | 0 => none
  | k + 1 => match bst ok bet k with
    | none => if ok k then some k else none
    | some b => if ok k && bet k b then some k else some b
def oI (x : Option Nat) : Int32 := match x with
  | none => -1
  | some k => nI k
theorem bst_lt {ok : Nat → Bool} {bet : Nat → Nat → Bool} : ∀ {k b : Nat}, bst ok bet k = some b → b < k
  | 0, b, h => by cases h
  | k + 1, b, h => by
    unfold bst at h
    cases hb : bst ok bet k with
    | none =>
      rw [hb] at h
      dsimp only at h
      by_cases q : ok k
      · rw [if_pos q] at h; cases h; omega
      · rw [if_neg q] at h; cases h
    | some a =>
      rw [hb] at h
      have := bst_lt hb
      dsimp only at h
      by_cases q : (ok k && bet k a) = true
      · rw [if_pos q] at h; cases h; omega
      · rw [if_neg q] at h; cases h; omega
theorem sum_bits (f : Nat → Int32) (hf : ∀ i, f i = 0 ∨ f i = 1) : ∀ n, ∃ c, c ≤ n ∧ sumN f n = nI c
  | 0 => ⟨0, Nat.le_refl _, rfl⟩
  | n + 1 => by
    obtain ⟨c, h1, h2⟩ := sum_bits f hf n
    rcases hf n with q | q
    · exact ⟨c, by omega, by show sumN f n + f n = _; rw [h2, q]; exact Int32.add_zero _⟩
    · exact ⟨c + 1, by omega, by show sumN f n + f n = _; rw [h2, q, nI_1]⟩
theorem cp_nat (M : MS) (n k : Nat) : ∃ c, c ≤ n ∧ cpM M n k = nI c := sum_bits _ (fun i => bt_01 _ _) n
