/-! DIGEST -/
def tdH (h : Hp) (o k : Nat) : Int32 := if k < 3 then hI h o (6 + k) else if k < 7 then hI h (o + 1 + 1) (k - 3) else if k = 7 then hI h (o + 169) 0 else hI h o 5
theorem td_ok {o c k : Nat} {h : Hp} (H : Inv o c h) (hk : k < 9) : f_X5_told h o (nI k) = some (tdH h o k, h) ∧ f_X6_toldOf h (o + 174) (nI k) = some (tdH h o k) := by
  obtain ⟨n, p, b, S, w0, w1, w2, -⟩ := id H.1
  obtain ⟨K, e, -, -, k1, k2, -⟩ := id H.2.1
  obtain ⟨len, -, t1, t2, -⟩ := id H.2.2.1
  obtain ⟨d0, d1, d2⟩ := id H.2.2.2
  have g1 : ¬ nI k < 0 := nI_pos (by omega)
  have g2 : nI k ≤ 8 := nI_le (b := 8) (by omega) (by decide)
  have st := S.2.2.1
  unfold f_X5_told
  rw [if_neg g1, if_pos g2]
  rcases (show k = 0 ∨ k = 1 ∨ k = 2 ∨ k = 3 ∨ k = 4 ∨ k = 5 ∨ k = 6 ∨ k = 7 ∨ k = 8 by omega) with rfl | rfl | rfl | rfl | rfl | rfl | rfl | rfl | rfl
  · refine ⟨rfl, ?_⟩; show _ = some (hI h o 6); rw [d0]; rfl
  · refine ⟨rfl, ?_⟩; show _ = some (hI h o 7); rw [d1]; rfl
  · refine ⟨rfl, ?_⟩; show _ = some (hI h o 8); rw [d2]; rfl
  · refine ⟨rfl, ?_⟩; show _ = some (hI h (o + 1 + 1) 0); rw [st 0 (by decide)]; rfl
  · refine ⟨rfl, ?_⟩; show _ = some (hI h (o + 1 + 1) 1); rw [st 1 (by decide)]; rfl
  · refine ⟨rfl, ?_⟩; show _ = some (hI h (o + 1 + 1) 2); rw [st 2 (by decide)]; rfl
  · refine ⟨rfl, ?_⟩; show _ = some (hI h (o + 1 + 1) 3); rw [st 3 (by decide)]; rfl
  · refine ⟨rfl, ?_⟩; show _ = some (hI h (o + 169) 0); rw [t1, ← t2]; rfl
  · refine ⟨rfl, ?_⟩; show _ = some (hI h o 5); rw [k1, ← k2]; rfl
def dgF (f : Nat → Int32) (s : Int64) : Nat → Int64
  | 0 => s
  | k + 1 => 31 * dgF f s k + (f k).toInt64
def dgR (M : MS) (i : Nat) (s : Int64) : Nat → Int64
  | 0 => s
  | k + 1 => if k = i then dgR M i s k else 31 * (31 * dgR M i s k + (M.2.1 (6 * i + k)).toInt32.toInt64) + (pc M i (8 + k)).toInt64
theorem dgR_s (M : MS) (i : Nat) (s : Int64) (k : Nat) : dgR M i s (k + 1) = if k = i then dgR M i s k else 31 * (31 * dgR M i s k + (M.2.1 (6 * i + k)).toInt32.toInt64) + (pc M i (8 + k)).toInt64 := rfl
theorem dg_td5 {o c : Nat} {h : Hp} {s : Int64} (H : Inv o c h) : ∀ (r k fuel : Nat), k + r = 9 → r < fuel → f_X5_digest_l6 o fuel (dgF (tdH h o) s k) (nI k) h = some (dgF (tdH h o) s 9, h) := by
  intro r
  induction r with
  | zero =>
    intro k fuel hk hf
    obtain ⟨fuel, rfl⟩ : ∃ z, fuel = z + 1 := ⟨fuel - 1, by omega⟩
    have : k = 9 := by omega
    subst this
    rw [f_X5_digest_l6_s, if_pos (by decide)]
  | succ r ih =>
    intro k fuel hk hf
    obtain ⟨fuel, rfl⟩ : ∃ z, fuel = z + 1 := ⟨fuel - 1, by omega⟩
    rw [f_X5_digest_l6_s, if_neg (Int32.not_lt.mpr (show nI k ≤ 8 from nI_le (b := 8) (by omega) (by decide))), (td_ok H (by omega)).1, bn2_some, nI_1]
    exact ih (k + 1) fuel (by omega) (by omega)
theorem dg_td6 {o c : Nat} {h : Hp} {s : Int64} (H : Inv o c h) : ∀ (r k fuel : Nat), k + r = 9 → r < fuel → f_X6_digest_l6 h (o + 174) fuel (dgF (tdH h o) s k) (nI k) = some (dgF (tdH h o) s 9) := by
  intro r
  induction r with
  | zero =>
    intro k fuel hk hf
    obtain ⟨fuel, rfl⟩ : ∃ z, fuel = z + 1 := ⟨fuel - 1, by omega⟩
    have : k = 9 := by omega
    subst this
    rw [f_X6_digest_l6_s, if_pos (by decide)]
  | succ r ih =>
    intro k fuel hk hf
    obtain ⟨fuel, rfl⟩ : ∃ z, fuel = z + 1 := ⟨fuel - 1, by omega⟩
    rw [f_X6_digest_l6_s, if_neg (show ¬ (9 : Int32) ≤ nI k from nI_ge (b := 9) (by omega) (by decide)), (td_ok H (by omega)).2, bn1_some, nI_1]
    exact ih (k + 1) fuel (by omega) (by omega)
section
variable {h : Hp} {o m n p b t i : Nat} {M : MS} {s : Int64}
theorem dg_ct5 (S : SwR h (o + 1) M n) (W : WFn M n p b t) : ∀ (r k fuel : Nat), k + r = 10 → r < fuel → f_X5_digest_l33 o fuel (dgF (ctM M n) s k) (nI k) h = some (dgF (ctM M n) s 10, h) := by
  intro r
  induction r with
  | zero =>
    intro k fuel hk hf
    obtain ⟨fuel, rfl⟩ : ∃ z, fuel = z + 1 := ⟨fuel - 1, by omega⟩
    have : k = 10 := by omega
    subst this
    rw [f_X5_digest_l33_s, if_pos (by decide)]
  | succ r ih =>
    intro k fuel hk hf
    obtain ⟨fuel, rfl⟩ : ∃ z, fuel = z + 1 := ⟨fuel - 1, by omega⟩
    have e : f_X5_count h o (nI k) = some (ctM M n k, h) := by
      unfold f_X5_count
      rw [if_neg (nI_pos (by omega)), if_pos (show nI k ≤ 9 from nI_le (b := 9) (by omega) (by decide)), x3_tellCount S W (by omega)]; rfl
    rw [f_X5_digest_l33_s, if_neg (Int32.not_lt.mpr (show nI k ≤ 9 from nI_le (b := 9) (by omega) (by decide))), e, bn2_some, nI_1]
    exact ih (k + 1) fuel (by omega) (by omega)
theorem dg_ct6 (W : WFn (rv h m) n p b t) : ∀ (r k fuel : Nat), k + r = 10 → r < fuel → f_X6_digest_l33 h m fuel (dgF (ctM (rv h m) n) s k) (nI k) = some (dgF (ctM (rv h m) n) s 10) := by
  intro r
  induction r with
  | zero =>
    intro k fuel hk hf
    obtain ⟨fuel, rfl⟩ : ∃ z, fuel = z + 1 := ⟨fuel - 1, by omega⟩
    have : k = 10 := by omega
    subst this
    rw [f_X6_digest_l33_s, if_pos (by decide)]
  | succ r ih =>
    intro k fuel hk hf
    obtain ⟨fuel, rfl⟩ : ∃ z, fuel = z + 1 := ⟨fuel - 1, by omega⟩
    rw [f_X6_digest_l33_s, if_neg (show ¬ (10 : Int32) ≤ nI k from nI_ge (b := 10) (by omega) (by decide)), x6_countOf W.1.2 W.1.1 (by omega), bn1_some, nI_1]
    exact ih (k + 1) fuel (by omega) (by omega)
theorem dg_of5 (S : SwR h (o + 1) M n) (W : WFn M n p b t) (hi : i < n) : ∀ (r k fuel : Nat), k + r = 10 → r < fuel → f_X5_digestPeer_l6 o (nI i) fuel (dgF (ofM M i p b) s k) (nI k) h = some (dgF (ofM M i p b) s 10, h) := by
  intro r
  induction r with
  | zero =>
    intro k fuel hk hf
    obtain ⟨fuel, rfl⟩ : ∃ z, fuel = z + 1 := ⟨fuel - 1, by omega⟩
    have : k = 10 := by omega
    subst this
    rw [f_X5_digestPeer_l6_s, if_pos (by decide)]
  | succ r ih =>
    intro k fuel hk hf
    obtain ⟨fuel, rfl⟩ : ∃ z, fuel = z + 1 := ⟨fuel - 1, by omega⟩
    rw [f_X5_digestPeer_l6_s, if_neg (Int32.not_lt.mpr (show nI k ≤ 9 from nI_le (b := 9) (by omega) (by decide))), x5_of S W hi (by omega), bn2_some, nI_1]
    exact ih (k + 1) fuel (by omega) (by omega)
theorem dg_of6 (W : WFn (rv h m) n p b t) (hi : i < n) : ∀ (r k fuel : Nat), k + r = 10 → r < fuel → f_X6_digest_l73 h m (nI i) fuel (dgF (ofM (rv h m) i p b) s k) (nI k) = some (dgF (ofM (rv h m) i p b) s 10) := by
  have hn := W.1.2
  intro r
  induction r with
  | zero =>
    intro k fuel hk hf
    obtain ⟨fuel, rfl⟩ : ∃ z, fuel = z + 1 := ⟨fuel - 1, by omega⟩
    have : k = 10 := by omega
    subst this
    rw [f_X6_digest_l73_s, if_pos (by decide)]
  | succ r ih =>
    intro k fuel hk hf
    obtain ⟨fuel, rfl⟩ : ∃ z, fuel = z + 1 := ⟨fuel - 1, by omega⟩
    rw [f_X6_digest_l73_s, if_neg (show ¬ (10 : Int32) ≤ nI k from nI_ge (b := 10) (by omega) (by decide)), x6_ofPeer (by omega) W.2.1.2.2 W.2.2.1.2.2 W.2.1.1 W.2.2.1.1 (by omega), bn1_some, nI_1]
    exact ih (k + 1) fuel (by omega) (by omega)
def bfM (M : MS) (i b k : Nat) : Int32 := bkM M i (k / b) (k % b)
theorem bf_in {j z : Nat} (hz : z < b) : bfM M i b (j * b + z) = bkM M i j z := by
  unfold bfM
  rw [Nat.mul_comm j b, Nat.mul_add_div (by omega), Nat.div_eq_of_lt hz, Nat.add_zero, Nat.mul_add_mod, Nat.mod_eq_of_lt hz]
theorem x5_block {j z : Nat} (S : SwR h (o + 1) M n) (W : WFn M n p b t) (hi : i < n) (hj : j < p) (hz : z < b) : f_X5_block h o (nI i) (nI j) (nI z) = some (bkM M i j z, h) := by
  have w0 := W.1
  have w1 := W.2.1
  have w2 := W.2.2.1
  have hs : hI h (o + 1) 4 = nI n := S.1.2.2.2.2.1.trans w0.1
  have hp : hI h (o + 1) 0 = nI p := S.1.1.trans w1.1
  have hb : hI h (o + 1) 1 = nI b := S.1.2.1.trans w2.1
  unfold f_X5_block
  rw [x3_isPeer_t hs w0.2 hi, bn1_some, if_neg (by decide), x3_isPiece_t hp w1.2.2 hj, bn1_some, if_neg (by decide), if_neg (nI_pos (by omega)), hb, if_pos (nI_lt hz (by omega)), if_pos (inb_nI (by omega) (by decide)), nI_clamp (by omega), x1_source (S.2.2.2 i hi) (by omega) (by omega)]; rfl
theorem dg_b5i {j : Nat} (S : SwR h (o + 1) M n) (W : WFn M n p b t) (hi : i < n) (hj : j < p) : ∀ (r z fuel : Nat), z + r = b → r < fuel → f_X5_digestPeer_l54 o (nI i) (nI j) fuel (dgF (bfM M i b) s (j * b + z)) (nI z) h = some (dgF (bfM M i b) s (j * b + b), h) := by
  have w2 := W.2.2.1
  have hb : hI h (o + 1) 1 = nI b := S.1.2.1.trans w2.1
  intro r
  induction r with
  | zero =>
    intro z fuel hz hf
    obtain ⟨fuel, rfl⟩ : ∃ z, fuel = z + 1 := ⟨fuel - 1, by omega⟩
    have : z = b := by omega
    subst this
    rw [f_X5_digestPeer_l54_s, hb, if_pos (nI_le (Nat.le_refl _) (by omega))]
  | succ r ih =>
    intro z fuel hz hf
    obtain ⟨fuel, rfl⟩ : ∃ z, fuel = z + 1 := ⟨fuel - 1, by omega⟩
    rw [f_X5_digestPeer_l54_s, hb, if_neg (nI_ge (by omega) (by omega)), x5_block S W hi hj (by omega), bn2_some, nI_1, ← bf_in (M := M) (i := i) (b := b) (j := j) (z := z) (by omega)]
    exact ih (z + 1) fuel (by omega) (by omega)
theorem dg_b5 (S : SwR h (o + 1) M n) (W : WFn M n p b t) (hi : i < n) : ∀ (r j fuel : Nat), j + r = p → r < fuel → f_X5_digestPeer_l39 o (nI i) fuel (dgF (bfM M i b) s (j * b)) (nI j) h = some (dgF (bfM M i b) s (p * b), h) := by
  have w1 := W.2.1
  have w2 := W.2.2.1
  have hp : hI h (o + 1) 0 = nI p := S.1.1.trans w1.1
  intro r
  induction r with
  | zero =>
    intro j fuel hz hf
    obtain ⟨fuel, rfl⟩ : ∃ z, fuel = z + 1 := ⟨fuel - 1, by omega⟩
    have : j = p := by omega
    subst this
    rw [f_X5_digestPeer_l39_s, hp, if_pos (nI_le (Nat.le_refl _) (by omega))]
  | succ r ih =>
    intro j fuel hz hf
    obtain ⟨fuel, rfl⟩ : ∃ z, fuel = z + 1 := ⟨fuel - 1, by omega⟩
    rw [f_X5_digestPeer_l39_s, hp, if_neg (nI_ge (by omega) (by omega)), show f_X5_digestPeer_l54 o (nI i) (nI j) fu (dgF (bfM M i b) s (j * b)) 0 h = _ from dg_b5i (s := s) (j := j) S W hi (by omega) b 0 fu (by omega) (by show b < 5000; omega), bn2_some, nI_1, ← Nat.succ_mul]
    exact ih (j + 1) fuel (by omega) (by omega)
theorem divb : ∀ b, b < 5 → 1 ≤ b → ∀ k, k < 40 → nI k / nI b = nI (k / b) ∧ nI k - nI (k / b) * nI b = nI (k % b) := by decide +kernel
theorem dg_b6 (W : WFn (rv h m) n p b t) (hi : i < n) : ∀ (r k fuel : Nat), k + r = p * b → r < fuel → f_X6_digest_l104 h m (nI i) fuel (dgF (bfM (rv h m) i b) s k) (nI k) = some (dgF (bfM (rv h m) i b) s (p * b)) := by
  have w0 := W.1
  have w1 := W.2.1
  have w2 := W.2.2.1
  have e1 : hI h (m + 2) (1 : Int32).toNatClampNeg = nI p := w1.1
  have e2 : hI h (m + 2) (2 : Int32).toNatClampNeg = nI b := w2.1
  have hpb : p * b ≤ 8 * 4 := Nat.mul_le_mul w1.2.2 w2.2.2
  intro r
  induction r with
  | zero =>
    intro k fuel hz hf
    obtain ⟨fuel, rfl⟩ : ∃ z, fuel = z + 1 := ⟨fuel - 1, by omega⟩
    have : k = p * b := by omega
    subst this
    rw [f_X6_digest_l104_s, e1, e2, nI_mulE, if_pos (nI_le (Nat.le_refl _) (by omega))]
  | succ r ih =>
    intro k fuel hz hf
    obtain ⟨fuel, rfl⟩ : ∃ z, fuel = z + 1 := ⟨fuel - 1, by omega⟩
    obtain ⟨d1, d2⟩ := divb b (by omega) w2.2.1 k (by omega)
    have hd : k / b < p := (Nat.div_lt_iff_lt_mul (by omega)).mpr (by omega)
    have hm : k % b < b := Nat.mod_lt _ (by omega)
    rw [f_X6_digest_l104_s, e1, e2, nI_mulE, if_neg (nI_ge (by omega) (by omega)), if_pos (nI_n0 (by omega) (by omega)), if_pos (nI_n0 (by omega) (by omega)), d1, d2, x6_blockOf (by omega) (by omega) (by omega), bn1_some, nI_1]
    exact ih (k + 1) fuel (by omega) (by omega)
theorem x5_suspects {j : Nat} (S : SwR h (o + 1) M n) (W : WFn M n p b t) (hi : i < n) (hj : j < n) (hne : i ≠ j) : f_X5_suspects h o (nI i) (nI j) = some (pc M i (8 + j), h) := by
  have w0 := W.1
  have hs : hI h (o + 1) 4 = nI n := S.1.2.2.2.2.1.trans w0.1
  unfold f_X5_suspects
  rw [x3_isPair_t w0.2 hs hi hj hne, bn1_some, if_neg (by decide), if_pos (inb_nI (by omega) (by decide)), if_pos (inb_nI (by omega) (by decide)), nI_clamp (by omega), nI_clamp (by omega)]
  have := (S.2.2.2 i hi).2.1 j (by omega)
  rw [show o + 1 + 2 + 1 + 4 * i + 2 = o + 1 + 3 + 4 * i + 2 by omega, this]
theorem dg_r5 (S : SwR h (o + 1) M n) (W : WFn M n p b t) (hi : i < n) : ∀ (r k fuel : Nat), k + r = n → r < fuel → f_X5_digestPeer_l100 o (nI i) fuel (dgR M i s k) (nI k) h = some (dgR M i s n, h) := by
  have w0 := W.1
  have hs : hI h (o + 1) 4 = nI n := S.1.2.2.2.2.1.trans w0.1
  intro r
  induction r with
  | zero =>
    intro k fuel hz hf
    obtain ⟨fuel, rfl⟩ : ∃ z, fuel = z + 1 := ⟨fuel - 1, by omega⟩
    have : k = n := by omega
    subst this
    rw [f_X5_digestPeer_l100_s, hs, if_pos (nI_le (Nat.le_refl _) (by omega))]
  | succ r ih =>
    intro k fuel hz hf
    obtain ⟨fuel, rfl⟩ : ∃ z, fuel = z + 1 := ⟨fuel - 1, by omega⟩
    have e := ih (k + 1) fuel (by omega) (by omega)
    rw [f_X5_digestPeer_l100_s, hs, if_neg (nI_ge (by omega) (by omega))]
    unfold f_X5_digestPeer_j152
    rw [dgR_s] at e
    by_cases q : k = i
    · rw [if_pos q] at e
      rw [if_pos (by rw [q]), nI_1]
      exact e
    · rw [if_neg q] at e
      rw [if_neg (fun w => q ((nI_eq (by omega) (by omega)).mp w)), x5_rate S W hi (by omega) (fun w => q w.symm), bn2_some, x5_suspects S W hi (by omega) (fun w => q w.symm), bn2_some, nI_1]
      exact e
theorem dg_r6 (W : WFn (rv h m) n p b t) (hi : i < n) : ∀ (r k fuel : Nat), k + r = n → r < fuel → f_X6_digest_l162 h m (nI i) fuel (dgR (rv h m) i s k) (nI k) = some (dgR (rv h m) i s n) := by
  have w0 := W.1
  have e0 : hI h (m + 2) (0 : Int32).toNatClampNeg = nI n := w0.1
  intro r
  induction r with
  | zero =>
    intro k fuel hz hf
    obtain ⟨fuel, rfl⟩ : ∃ z, fuel = z + 1 := ⟨fuel - 1, by omega⟩
    have : k = n := by omega
    subst this
    rw [f_X6_digest_l162_s, e0, if_pos (nI_le (Nat.le_refl _) (by omega))]
  | succ r ih =>
    intro k fuel hz hf
    obtain ⟨fuel, rfl⟩ : ∃ z, fuel = z + 1 := ⟨fuel - 1, by omega⟩
    have e := ih (k + 1) fuel (by omega) (by omega)
    rw [f_X6_digest_l162_s, e0, if_neg (nI_ge (by omega) (by omega))]
    unfold f_X6_digest_j210
    rw [dgR_s] at e
    by_cases q : k = i
    · rw [if_pos q] at e
      rw [if_pos (by rw [q]), nI_1]
      exact e
    · rw [if_neg q] at e
      rw [if_neg (fun w => q ((nI_eq (by omega) (by omega)).mp w)), x6_rateOf W hi (by omega), bn1_some, show (8 : Int32) + nI k = nI (8 + k) from nI_add 8 k, x6_cell (by omega) (by omega), bn1_some, nI_1]
      exact e
def dgP (M : MS) (n p b : Nat) (s : Int64) (i : Nat) : Int64 := dgR M i (dgF (bfM M i b) (dgF (ofM M i p b) s 10) (p * b)) n
def dgA (M : MS) (n p b : Nat) (s : Int64) : Nat → Int64
  | 0 => s
  | i + 1 => dgP M n p b (dgA M n p b s i) i
theorem dg_p5 (S : SwR h (o + 1) M n) (W : WFn M n p b t) (hi : i < n) : f_X5_digestPeer h o s (nI i) = some (dgP M n p b s i, h) := by
  have w0 := W.1
  have w1 := W.2.1
  have q1 : f_X5_digestPeer_l6 o (nI i) fu s 0 h = some (dgF (ofM M i p b) s 10, h) := dg_of5 (s := s) S W hi 10 0 fu (by decide) (by decide)
  have q2 : ∀ s, f_X5_digestPeer_l39 o (nI i) fu s 0 h = some (dgF (bfM M i b) s (p * b), h) := fun s => by
    have := dg_b5 (s := s) S W hi p 0 fu (by omega) (by show p < 5000; omega)
    rw [Nat.zero_mul] at this
    exact this
  have q3 : ∀ s, f_X5_digestPeer_l100 o (nI i) fu s 0 h = some (dgR M i s n, h) := fun s => dg_r5 (s := s) S W hi n 0 fu (by omega) (by show n < 5000; omega)
  unfold f_X5_digestPeer dgP
  rw [q1, bn2_some, q2, bn2_some, q3, bn2_some]
theorem dg_a5 (S : SwR h (o + 1) M n) (W : WFn M n p b t) : ∀ (r i fuel : Nat), i + r = n → r < fuel → f_X5_digest_l60 o fuel (dgA M n p b s i) (nI i) h = some (dgA M n p b s n, h) := by
  have w0 := W.1
  have hs : hI h (o + 1) 4 = nI n := S.1.2.2.2.2.1.trans w0.1
  intro r
  induction r with
  | zero =>
    intro i fuel hz hf
    obtain ⟨fuel, rfl⟩ : ∃ z, fuel = z + 1 := ⟨fuel - 1, by omega⟩
    have : i = n := by omega
    subst this
    rw [f_X5_digest_l60_s, hs, if_pos (nI_le (Nat.le_refl _) (by omega))]
  | succ r ih =>
    intro i fuel hz hf
    obtain ⟨fuel, rfl⟩ : ∃ z, fuel = z + 1 := ⟨fuel - 1, by omega⟩
    rw [f_X5_digest_l60_s, hs, if_neg (nI_ge (by omega) (by omega)), dg_p5 S W (by omega), bn2_some, nI_1]
    exact ih (i + 1) fuel (by omega) (by omega)
theorem dg_a6 (W : WFn (rv h m) n p b t) : ∀ (r i fuel : Nat), i + r = n → r < fuel → f_X6_digest_l60 h m fuel (dgA (rv h m) n p b s i) (nI i) = some (dgA (rv h m) n p b s n) := by
  have w0 := W.1
  have w1 := W.2.1
  have w2 := W.2.2.1
  have e0 : hI h (m + 2) (0 : Int32).toNatClampNeg = nI n := w0.1
  have hpb : p * b ≤ 8 * 4 := Nat.mul_le_mul w1.2.2 w2.2.2
  intro r
  induction r with
  | zero =>
    intro i fuel hz hf
    obtain ⟨fuel, rfl⟩ : ∃ z, fuel = z + 1 := ⟨fuel - 1, by omega⟩
    have : i = n := by omega
    subst this
    rw [f_X6_digest_l60_s, e0, if_pos (nI_le (Nat.le_refl _) (by omega))]
  | succ r ih =>
    intro i fuel hz hf
    obtain ⟨fuel, rfl⟩ : ∃ z, fuel = z + 1 := ⟨fuel - 1, by omega⟩
    have hi : i < n := by omega
    have q1 : ∀ s, f_X6_digest_l73 h m (nI i) fu s 0 = some (dgF (ofM (rv h m) i p b) s 10) := fun s => dg_of6 (s := s) W hi 10 0 fu (by decide) (by decide)
    have q2 : ∀ s, f_X6_digest_l104 h m (nI i) fu s 0 = some (dgF (bfM (rv h m) i b) s (p * b)) := fun s => dg_b6 (s := s) W hi (p * b) 0 fu (by omega) (by show p * b < 5000; omega)
    have q3 : ∀ s, f_X6_digest_l162 h m (nI i) fu s 0 = some (dgR (rv h m) i s n) := fun s => dg_r6 (s := s) W hi n 0 fu (by omega) (by show n < 5000; omega)
    rw [f_X6_digest_l60_s, e0, if_neg (nI_ge (by omega) (by omega)), q1, bn1_some, q2, bn1_some, q3, bn1_some, nI_1]
    exact ih (i + 1) fuel (by omega) (by omega)
end
theorem op_digest (o : Nat) : Op_digest o (Inv o) := by
  intro c h hc H
  obtain ⟨n, p, b, S, W⟩ := id H.1
  have hn := W.1.2
  have ht : 1200 * c ≤ 620000 := by omega
  refine ⟨31 * (31 * dgA (rv h (o + 174)) n p b (dgF (ctM (rv h (o + 174)) n) (dgF (tdH h o) 2559 9) 10) n + (spV (rv h (o + 174)) n p).toInt32.toInt64) + (frV (rv h (o + 174)) n).toInt64, h, ?_, ?_, Inv_same H⟩
  · unfold f_X5_digest
    rw [show f_X5_digest_l6 o fu 2559 0 h = _ from dg_td5 (s := 2559) H 9 0 fu (by decide) (by decide), bn2_some, show f_X5_digest_l33 o fu (dgF (tdH h o) 2559 9) 0 h = _ from dg_ct5 (s := dgF (tdH h o) 2559 9) S W 10 0 fu (by decide) (by decide), bn2_some, show f_X5_digest_l60 o fu (dgF (ctM (rv h (o + 174)) n) (dgF (tdH h o) 2559 9) 10) 0 h = _ from dg_a5 (s := dgF (ctM (rv h (o + 174)) n) (dgF (tdH h o) 2559 9) 10) S W n 0 fu (by omega) (by show n < 5000; omega), bn2_some, x5_spread S W, bn1_some, x5_fairness S W ht, bn1_some]
  · unfold f_X6_digest
    rw [show f_X6_digest_l6 h (o + 174) fu 2559 0 = _ from dg_td6 (s := 2559) H 9 0 fu (by decide) (by decide), bn1_some, show f_X6_digest_l33 h (o + 174) fu (dgF (tdH h o) 2559 9) 0 = _ from dg_ct6 (s := dgF (tdH h o) 2559 9) W 10 0 fu (by decide) (by decide), bn1_some, show f_X6_digest_l60 h (o + 174) fu (dgF (ctM (rv h (o + 174)) n) (dgF (tdH h o) 2559 9) 10) 0 = _ from dg_a6 (s := dgF (ctM (rv h (o + 174)) n) (dgF (tdH h o) 2559 9) 10) W n 0 fu (by omega) (by show n < 5000; omega), bn1_some, x6_spread W, bn1_some, x6_fairness W ht, bn1_some]
