/-! BLOCKS ARE SENT: what becomes of the state -/
theorem ms_ext {M M2 : MS} (h1 : ∀ x, M.1 x = M2.1 x) (h2 : M.2 = M2.2) : M = M2 := Prod.ext (funext h1) h2
theorem clr_setP {M : MS} {i c k : Nat} {v : Int32} (hc : c < 15) : ∀ z, clrP (setP M i c v) i k z = setP (clrP M i k z) i c v
  | 0 => rfl
  | z + 1 => by
    show setP (clrP (setP M i c v) i k z) i (15 + (4 * k + z)) (-1) = setP (setP (clrP M i k z) i (15 + (4 * k + z)) (-1)) i c v
    rw [clr_setP hc z]
    refine ms_ext (fun x => ?_) rfl
    show (if x = 14 + 48 * i + (15 + (4 * k + z)) then (-1 : Int32) else if x = 14 + 48 * i + c then v else (clrP M i k z).1 x) = (if x = 14 + 48 * i + c then v else if x = 14 + 48 * i + (15 + (4 * k + z)) then (-1 : Int32) else (clrP M i k z).1 x)
    by_cases e1 : x = 14 + 48 * i + (15 + (4 * k + z))
    · rw [if_pos e1, if_neg (by omega), if_pos e1]
    · rw [if_neg e1, if_neg e1]
theorem clr_updN {M : MS} {i k y : Nat} {v : Int32} (hy : y < 14) : ∀ z, clrP (updN M y v) i k z = updN (clrP M i k z) y v
  | 0 => rfl
  | z + 1 => by
    show setP (clrP (updN M y v) i k z) i (15 + (4 * k + z)) (-1) = updN (setP (clrP M i k z) i (15 + (4 * k + z)) (-1)) y v
    rw [clr_updN hy z]
    refine ms_ext (fun x => ?_) rfl
    show (if x = 14 + 48 * i + (15 + (4 * k + z)) then (-1 : Int32) else if x = y then v else (clrP M i k z).1 x) = (if x = y then v else if x = 14 + 48 * i + (15 + (4 * k + z)) then (-1 : Int32) else (clrP M i k z).1 x)
    by_cases e1 : x = 14 + 48 * i + (15 + (4 * k + z))
    · rw [if_pos e1, if_neg (by omega), if_pos e1]
    · rw [if_neg e1, if_neg e1]
/-- the senders of a piece -/
def seM (M : MS) (j k : Nat) : Nat → Int32
  | 0 => 0
  | z + 1 => seM M j k z ||| ((1 : Int32) <<< (pc M j (15 + (4 * k + z)) &&& 31))
def wlM (M : MS) (j k : Nat) : Nat → Bool
  | 0 => true
  | z + 1 => wlM M j k z && decide (pc M (pc M j (15 + (4 * k + z))).toNatClampNeg 0 ≠ 2)
/-- all of a set are suspected -/
def suM (M : MS) (j : Nat) (S : Int32) : Nat → MS
  | 0 => M
  | i + 1 => if bt S i = 1 then
      (if S &&& (S - 1) = 0 ∨ ¬ pc (suM M j S i) j (8 + i) + 1 ≤ 1 then setP (setP (suM M j S i) j (8 + i) (pc (suM M j S i) j (8 + i) + 1)) j 5 (pc (suM M j S i) j 5 ||| ((1 : Int32) <<< (nI i &&& 31))) else setP (suM M j S i) j (8 + i) (pc (suM M j S i) j (8 + i) + 1))
      else suM M j S i
theorem suM_s (M : MS) (j : Nat) (S : Int32) (i : Nat) : suM M j S (i + 1) = if bt S i = 1 then
      (if S &&& (S - 1) = 0 ∨ ¬ pc (suM M j S i) j (8 + i) + 1 ≤ 1 then setP (setP (suM M j S i) j (8 + i) (pc (suM M j S i) j (8 + i) + 1)) j 5 (pc (suM M j S i) j 5 ||| ((1 : Int32) <<< (nI i &&& 31))) else setP (suM M j S i) j (8 + i) (pc (suM M j S i) j (8 + i) + 1))
      else suM M j S i := rfl
theorem suM_c {M : MS} {j i2 c : Nat} {S : Int32} (hc : c < 48) (h : i2 ≠ j ∨ (c ≠ 5 ∧ (c < 8 ∨ 14 ≤ c))) : ∀ i, i ≤ 6 → pc (suM M j S i) i2 c = pc M i2 c
  | 0, _ => rfl
  | i + 1, hi => by
    have ih := suM_c (M := M) (S := S) hc h i (by omega)
    show pc (if _ then _ else _) i2 c = _
    split
    · split
      · rw [setP_c _ _ (by omega) hc (by omega), setP_c _ _ (by omega) hc (by omega), ih]
      · rw [setP_c _ _ (by omega) hc (by omega), ih]
    · exact ih
theorem suM_N {M : MS} {j k : Nat} {S : Int32} (hk : k < 14) : ∀ i, (suM M j S i).1 k = M.1 k
  | 0 => rfl
  | i + 1 => by
    have ih := suM_N (M := M) (j := j) (S := S) hk i
    show (if _ then _ else _ : MS).1 k = _
    split
    · split
      · rw [setP_N _ _ _ _ hk, setP_N _ _ _ _ hk, ih]
      · rw [setP_N _ _ _ _ hk, ih]
    · exact ih
theorem suM_2 {M : MS} {j : Nat} {S : Int32} : ∀ i, (suM M j S i).2 = M.2
  | 0 => rfl
  | i + 1 => by
    have ih := suM_2 (M := M) (j := j) (S := S) i
    show (if _ then _ else _ : MS).2 = _
    split
    · split
      · exact ih
      · exact ih
    · exact ih
theorem su_clr {M : MS} {j k : Nat} {S : Int32} (hk : k < 8) : ∀ i, i ≤ 6 → suM (clrP M j k 4) j S i = clrP (suM M j S i) j k 4
  | 0, _ => rfl
  | i + 1, hi => by
    have ih := su_clr (M := M) (j := j) (S := S) hk i (by omega)
    have e8 : pc (clrP (suM M j S i) j k 4) j (8 + i) = pc (suM M j S i) j (8 + i) := by rw [clrP_c _ hk (by omega) 4 (by omega), if_neg (by omega)]
    have e5 : pc (clrP (suM M j S i) j k 4) j 5 = pc (suM M j S i) j 5 := by rw [clrP_c _ hk (by omega) 4 (by omega), if_neg (by omega)]
    show (if _ then _ else _) = clrP (if _ then _ else _) j k 4
    rw [ih, e8, e5]
    by_cases c1 : bt S i = 1
    · rw [if_pos c1, if_pos c1]
      by_cases c2 : S &&& (S - 1) = 0 ∨ ¬ pc (suM M j S i) j (8 + i) + 1 ≤ 1
      · rw [if_pos c2, if_pos c2, clr_setP (by omega), clr_setP (by omega)]
      · rw [if_neg c2, if_neg c2, clr_setP (by omega)]
    · rw [if_neg c1, if_neg c1]
/-- a whole piece is looked at -/
def lkM (M : MS) (n b j k : Nat) : MS := if wlM M j k b then gvM M j k else clrP (suM (updN M 7 (M.1 7 + 1)) j (seM M j k b) n) j k 4
/-- block k goes from i to j -/
def snM (M : MS) (i j k : Nat) : MS :=
  updN (setP (setP (if pc M i 0 = 2 then updN (setP M i 6 (pc M i 6 + 1)) 5 (M.1 5 + 1) else setP M i 6 (pc M i 6 + 1)) j 7 (pc M j 7 + 1)) j (15 + k) (nI i)) 4 (M.1 4 + 1)
def sdM (M : MS) (n b i j k : Nat) : MS := if fbT (hdM (snM M i j k) j) b (k / 4) = none then lkM (snM M i j k) n b j (k / 4) else snM M i j k
theorem snM_c {M : MS} {i j k i2 c : Nat} (hk : k < 32) (hc : c < 48) (h1 : i2 = i → c ≠ 6) (h2 : i2 = j → c ≠ 7 ∧ c ≠ 15 + k) : pc (snM M i j k) i2 c = pc M i2 c := by
  unfold snM
  rw [pc_updN (by decide), setP_c _ _ (by omega) hc (by omega), setP_c _ _ (by omega) hc (by omega)]
  split
  · rw [pc_updN (by decide), setP_c _ _ (by omega) hc (by omega)]
  · rw [setP_c _ _ (by omega) hc (by omega)]
theorem snM_6 {M : MS} {i j k : Nat} (hk : k < 32) : pc (snM M i j k) i 6 = pc M i 6 + 1 := by
  unfold snM
  rw [pc_updN (by decide), setP_c _ _ (by omega) (by decide) (by omega), setP_c _ _ (by omega) (by decide) (by omega)]
  split
  · rw [pc_updN (by decide), setP_same]
  · rw [setP_same]
theorem snM_7 {M : MS} {i j k : Nat} (hk : k < 32) : pc (snM M i j k) j 7 = pc M j 7 + 1 := by
  unfold snM
  rw [pc_updN (by decide), setP_c _ _ (by omega) (by decide) (by omega), setP_same]
theorem snM_k {M : MS} {i j k : Nat} (hk : k < 32) : pc (snM M i j k) j (15 + k) = nI i := by
  unfold snM
  rw [pc_updN (by decide), setP_same]
theorem snM_N {M : MS} {i j k x : Nat} (hx : x < 14) (h4 : x ≠ 4) (h5 : x ≠ 5) : (snM M i j k).1 x = M.1 x := by
  unfold snM
  rw [updN_ne _ _ h4, setP_N _ _ _ _ hx, setP_N _ _ _ _ hx]
  split
  · rw [updN_ne _ _ h5, setP_N _ _ _ _ hx]
  · rw [setP_N _ _ _ _ hx]
theorem snM_4 {M : MS} {i j k : Nat} : (snM M i j k).1 4 = M.1 4 + 1 := by unfold snM; rw [updN_same]
theorem snM_2 {M : MS} {i j k : Nat} : (snM M i j k).2 = M.2 := by
  unfold snM
  show (if _ then _ else _ : MS).2 = _
  split <;> rfl
/-- in the reference's order -/
theorem snM_ref {M : MS} {i j k : Nat} (hi : i < 6) (hj : j < 6) (hk : k < 32) : updN (updN (setP (setP (setP M j (15 + k) (nI i)) j 7 (pc M j 7 + 1)) i 6 (pc M i 6 + 1)) 4 (M.1 4 + 1)) 5 (M.1 5 + (if pc M i 0 = 2 then 1 else 0)) = snM M i j k := by
  unfold snM
  by_cases e : pc M i 0 = 2
  · rw [if_pos e, if_pos e]
    refine ms_ext (fun x => ?_) rfl
    show (if x = 5 then M.1 5 + 1 else if x = 4 then M.1 4 + 1 else if x = 14 + 48 * i + 6 then pc M i 6 + 1 else if x = 14 + 48 * j + 7 then pc M j 7 + 1 else if x = 14 + 48 * j + (15 + k) then nI i else M.1 x) = (if x = 4 then M.1 4 + 1 else if x = 14 + 48 * j + (15 + k) then nI i else if x = 14 + 48 * j + 7 then pc M j 7 + 1 else if x = 5 then M.1 5 + 1 else if x = 14 + 48 * i + 6 then pc M i 6 + 1 else M.1 x)
    by_cases x5 : x = 5
    · rw [if_pos x5, if_neg (by omega), if_neg (by omega), if_neg (by omega), if_pos x5]
    by_cases x4 : x = 4
    · rw [if_neg x5, if_pos x4, if_pos x4]
    by_cases x6 : x = 14 + 48 * i + 6
    · rw [if_neg x5, if_neg x4, if_pos x6, if_neg x4, if_neg (by omega), if_neg (by omega), if_neg x5, if_pos x6]
    by_cases x7 : x = 14 + 48 * j + 7
    · rw [if_neg x5, if_neg x4, if_neg x6, if_pos x7, if_neg x4, if_neg (by omega), if_pos x7]
    rw [if_neg x5, if_neg x4, if_neg x6, if_neg x7, if_neg x4, if_neg x7, if_neg x5, if_neg x6]
  · rw [if_neg e, if_neg e]
    refine ms_ext (fun x => ?_) rfl
    show (if x = 5 then M.1 5 + 0 else if x = 4 then M.1 4 + 1 else if x = 14 + 48 * i + 6 then pc M i 6 + 1 else if x = 14 + 48 * j + 7 then pc M j 7 + 1 else if x = 14 + 48 * j + (15 + k) then nI i else M.1 x) = (if x = 4 then M.1 4 + 1 else if x = 14 + 48 * j + (15 + k) then nI i else if x = 14 + 48 * j + 7 then pc M j 7 + 1 else if x = 14 + 48 * i + 6 then pc M i 6 + 1 else M.1 x)
    by_cases x5 : x = 5
    · rw [if_pos x5, if_neg (by omega), if_neg (by omega), if_neg (by omega), if_neg (by omega), x5, Int32.add_zero]
    by_cases x4 : x = 4
    · rw [if_neg x5, if_pos x4, if_pos x4]
    by_cases x6 : x = 14 + 48 * i + 6
    · rw [if_neg x5, if_neg x4, if_pos x6, if_neg x4, if_neg (by omega), if_neg (by omega), if_pos x6]
    by_cases x7 : x = 14 + 48 * j + 7
    · rw [if_neg x5, if_neg x4, if_neg x6, if_pos x7, if_neg x4, if_neg (by omega), if_pos x7]
    rw [if_neg x5, if_neg x4, if_neg x6, if_neg x7, if_neg x4, if_neg x7, if_neg x6]
theorem sum_up {f g : Nat → Int32} {i : Nat} (hg : ∀ z, z ≠ i → g z = f z) (hi : g i = f i + 1) : ∀ n, i < n → sumN g n = sumN f n + 1
  | 0, h => absurd h (Nat.not_lt_zero i)
  | n + 1, h => by
    show sumN g n + g n = sumN f n + f n + 1
    by_cases e : i = n
    · subst e
      rw [hi, eqv_sum (fun z hz => hg z (by omega)), Int32.add_assoc]
    · rw [sum_up hg hi n (by omega), hg n (Ne.symm e), Int32.add_assoc, Int32.add_assoc, Int32.add_comm 1]
theorem snM_WFs {M : MS} {n p b i j k : Nat} (hi : i < n) (hj : j < n) (hk1 : k / 4 < p) (hk2 : k % 4 < b) (H : WFs M n p b) : WFs (snM M i j k) n p b := by
  obtain ⟨w0, w1, w2, ws, wt, wP, wR, wr⟩ := H
  have hk : k < 32 := by omega
  have e : ∀ x, x < 14 → x ≠ 4 → x ≠ 5 → (snM M i j k).1 x = M.1 x := fun x h1 h2 h3 => snM_N h1 h2 h3
  refine ⟨by rw [e 0 (by decide) (by decide) (by decide)]; exact w0, by rw [e 1 (by decide) (by decide) (by decide)]; exact w1, by rw [e 2 (by decide) (by decide) (by decide)]; exact w2, by rw [e 8 (by decide) (by decide) (by decide), e 9 (by decide) (by decide) (by decide), e 10 (by decide) (by decide) (by decide), e 11 (by decide) (by decide) (by decide)]; exact ws, ?_, fun z hz => ?_, by rw [snM_2]; exact wR, by rw [snM_2]; exact wr⟩
  · rw [snM_4, wt]
    exact (sum_up (fun z hz => snM_c hk (by decide) (fun q => absurd q hz) (fun _ => ⟨by decide, by omega⟩)) (snM_6 hk) n hi).symm
  · obtain ⟨a1, a2, a3, a5, a6, a7, a9⟩ := wP z hz
    have u : ∀ c, c < 6 → pc (snM M i j k) z c = pc M z c := fun c hc => snM_c hk (by omega) (fun _ => by omega) (fun _ => by omega)
    refine ⟨by rw [u 0 (by decide), u 3 (by decide)]; exact a1, by rw [u 1 (by decide)]; exact a2, by rw [u 2 (by decide)]; exact a3, by rw [u 3 (by decide)]; exact a5, by rw [u 4 (by decide)]; exact a6, by rw [u 5 (by decide)]; exact a7, fun x hx => ?_⟩
    by_cases q : z = j ∧ x = k
    · obtain ⟨q1, q2⟩ := q
      subst q1; subst q2
      rw [snM_k hk]
      exact Or.inr ⟨⟨i, hi, rfl⟩, hk1, hk2⟩
    · rw [snM_c hk (by omega) (fun _ => by omega) (fun _ => by omega)]
      exact a9 x hx
theorem clr_WFs {M : MS} {n p b j k : Nat} (hk : k < 8) (H : WFs M n p b) : WFs (clrP M j k 4) n p b := by
  obtain ⟨w0, w1, w2, ws, wt, wP, wR, wr⟩ := H
  have e : ∀ x, x < 14 → (clrP M j k 4).1 x = M.1 x := fun x hx => clrP_N M j k hx 4
  have u : ∀ z c, c < 15 → pc (clrP M j k 4) z c = pc M z c := fun z c hc => by rw [clrP_c M hk (by omega) 4 (by omega), if_neg (by omega)]
  refine ⟨by rw [e 0 (by decide)]; exact w0, by rw [e 1 (by decide)]; exact w1, by rw [e 2 (by decide)]; exact w2, by rw [e 8 (by decide), e 9 (by decide), e 10 (by decide), e 11 (by decide)]; exact ws, ?_, fun z hz => ?_, by rw [clrP_2]; exact wR, by rw [clrP_2]; exact wr⟩
  · rw [e 4 (by decide), wt]
    exact (eqv_sum (fun z hz => u z 6 (by decide))).symm
  · obtain ⟨a1, a2, a3, a5, a6, a7, a9⟩ := wP z hz
    refine ⟨by rw [u z 0 (by decide), u z 3 (by decide)]; exact a1, by rw [u z 1 (by decide)]; exact a2, by rw [u z 2 (by decide)]; exact a3, by rw [u z 3 (by decide)]; exact a5, by rw [u z 4 (by decide)]; exact a6, by rw [u z 5 (by decide)]; exact a7, fun x hx => ?_⟩
    rw [clrP_c M hk (by omega) 4 (by omega)]
    split
    · exact Or.inl rfl
    · exact a9 x hx
theorem suM_5 {M : MS} {j : Nat} {S : Int32} (h : ∃ a, a < 64 ∧ pc M j 5 = nI a) : ∀ i, i ≤ 6 → ∃ a, a < 64 ∧ pc (suM M j S i) j 5 = nI a
  | 0, _ => h
  | i + 1, hi => by
    obtain ⟨a, ha, e⟩ := suM_5 (S := S) h i (by omega)
    rw [suM_s]
    split
    · split
      · refine ⟨a ||| 2 ^ i, Nat.or_lt_two_pow (n := 6) ha (Nat.pow_lt_pow_right (by decide) (by omega)), ?_⟩
        rw [setP_same, e, or_nI a (by omega)]
      · exact ⟨a, ha, by rw [setP_c _ _ (by omega) (by decide) (by omega), e]⟩
    · exact ⟨a, ha, e⟩
theorem su_WFs {M : MS} {n p b j i : Nat} {S : Int32} (hi : i ≤ 6) (H : WFs M n p b) : WFs (suM M j S i) n p b := by
  obtain ⟨w0, w1, w2, ws, wt, wP, wR, wr⟩ := H
  have e : ∀ x, x < 14 → (suM M j S i).1 x = M.1 x := fun x hx => suM_N hx i
  have u : ∀ z c, c < 48 → c ≠ 5 → (c < 8 ∨ 14 ≤ c) → pc (suM M j S i) z c = pc M z c := fun z c h1 h2 h3 => suM_c h1 (Or.inr ⟨h2, h3⟩) i hi
  refine ⟨by rw [e 0 (by decide)]; exact w0, by rw [e 1 (by decide)]; exact w1, by rw [e 2 (by decide)]; exact w2, by rw [e 8 (by decide), e 9 (by decide), e 10 (by decide), e 11 (by decide)]; exact ws, ?_, fun z hz => ?_, by rw [suM_2]; exact wR, by rw [suM_2]; exact wr⟩
  · rw [e 4 (by decide), wt]
    exact (eqv_sum (fun z hz => u z 6 (by decide) (by decide) (by decide))).symm
  · obtain ⟨a1, a2, a3, a5, a6, a7, a9⟩ := wP z hz
    refine ⟨by rw [u z 0 (by decide) (by decide) (by decide), u z 3 (by decide) (by decide) (by decide)]; exact a1, by rw [u z 1 (by decide) (by decide) (by decide)]; exact a2, by rw [u z 2 (by decide) (by decide) (by decide)]; exact a3, by rw [u z 3 (by decide) (by decide) (by decide)]; exact a5, by rw [u z 4 (by decide) (by decide) (by decide)]; exact a6, ?_, fun x hx => by rw [u z (15 + x) (by omega) (by omega) (by omega)]; exact a9 x hx⟩
    by_cases q : z = j
    · subst q; exact suM_5 a7 i hi
    · rw [suM_c (by decide) (Or.inl q) i hi]; exact a7
theorem up_WFs {M : MS} {n p b y : Nat} {v : Int32} (hy : 5 ≤ y ∧ y ≤ 7) (H : WFs M n p b) : WFs (updN M y v) n p b := by
  obtain ⟨w0, w1, w2, ws, wt, wP, wR, wr⟩ := H
  have e : ∀ x, x ≠ y → (updN M y v).1 x = M.1 x := fun x hx => updN_ne M v hx
  have u : ∀ z c, pc (updN M y v) z c = pc M z c := fun z c => pc_updN (by omega)
  refine ⟨by rw [e 0 (by omega)]; exact w0, by rw [e 1 (by omega)]; exact w1, by rw [e 2 (by omega)]; exact w2, by rw [e 8 (by omega), e 9 (by omega), e 10 (by omega), e 11 (by omega)]; exact ws, ?_, fun z hz => wP z hz |> fun q => ?_, wR, wr⟩
  · rw [e 4 (by omega), wt]
    exact (eqv_sum (fun z hz => u z 6)).symm
  · obtain ⟨a1, a2, a3, a5, a6, a7, a9⟩ := q
    exact ⟨by rw [u z 0, u z 3]; exact a1, by rw [u z 1]; exact a2, by rw [u z 2]; exact a3, by rw [u z 3]; exact a5, by rw [u z 4]; exact a6, by rw [u z 5]; exact a7, fun x hx => by rw [u z (15 + x)]; exact a9 x hx⟩
theorem lk_WFs {M : MS} {n p b j k : Nat} (hj : j < n) (hk : k < p) (H : WFs M n p b) : WFs (lkM M n b j k) n p b := by
  have hp := H.2.1.2.2
  have hn := H.1.2
  unfold lkM
  split
  · exact gvM_WFs hj hk H
  · exact clr_WFs (by omega) (su_WFs hn (up_WFs (by omega) H))
theorem sd_WFs {M : MS} {n p b i j k : Nat} (hi : i < n) (hj : j < n) (hk1 : k / 4 < p) (hk2 : k % 4 < b) (H : WFs M n p b) : WFs (sdM M n b i j k) n p b := by
  have := snM_WFs hi hj hk1 hk2 H
  unfold sdM
  split
  · exact lk_WFs hj hk1 this
  · exact this
theorem lk_c {M : MS} {n b j k i c : Nat} (hk : k < 8) (hn : n ≤ 6) (hc : c = 6 ∨ c = 7) : pc (lkM M n b j k) i c = pc M i c := by
  unfold lkM
  split
  · rw [gvM_c M hk (by omega), if_neg (by omega), if_neg (by omega)]
  · rw [clrP_c _ hk (by omega) 4 (by omega), if_neg (by omega), suM_c (by omega) (Or.inr (by omega)) n hn, pc_updN (by decide)]
theorem lkM_3 {M : MS} {n b j k : Nat} : (lkM M n b j k).1 3 = M.1 3 := by
  unfold lkM
  split
  · exact gvM_N _ _ _ (by decide)
  · rw [clrP_N _ _ _ (by decide), suM_N (by decide), updN_ne _ _ (by decide)]
theorem lkM_2 {M : MS} {n b j k : Nat} : (lkM M n b j k).2 = M.2 := by
  unfold lkM
  split
  · exact gvM_2 _ _ _
  · rw [clrP_2, suM_2]; rfl
theorem sd_67 {M : MS} {n b i j k z : Nat} (hn : n ≤ 6) (hk : k < 32) : pc (sdM M n b i j k) z 6 = (if z = i then pc M z 6 + 1 else pc M z 6) ∧ pc (sdM M n b i j k) z 7 = (if z = j then pc M z 7 + 1 else pc M z 7) := by
  have a : pc (sdM M n b i j k) z 6 = pc (snM M i j k) z 6 ∧ pc (sdM M n b i j k) z 7 = pc (snM M i j k) z 7 := by
    unfold sdM
    split
    · exact ⟨lk_c (by omega) hn (Or.inl rfl), lk_c (by omega) hn (Or.inr rfl)⟩
    · exact ⟨rfl, rfl⟩
  rw [a.1, a.2]
  constructor
  · by_cases e : z = i
    · rw [if_pos e, e, snM_6 hk]
    · rw [if_neg e, snM_c hk (by decide) (fun q => absurd q e) (fun _ => ⟨by decide, by omega⟩)]
  · by_cases e : z = j
    · rw [if_pos e, e, snM_7 hk]
    · rw [if_neg e, snM_c hk (by decide) (fun _ => by decide) (fun q => absurd q e)]
theorem sd_3 {M : MS} {n b i j k : Nat} : (sdM M n b i j k).1 3 = M.1 3 := by
  unfold sdM
  split
  · rw [lkM_3, snM_N (by decide) (by decide) (by decide)]
  · rw [snM_N (by decide) (by decide) (by decide)]
theorem sd_2 {M : MS} {n b i j k : Nat} : (sdM M n b i j k).2 = M.2 := by
  unfold sdM
  split
  · rw [lkM_2, snM_2]
  · rw [snM_2]
