/-! SLOTS are opened, on both sides -/
def eqW (M M2 : MS) : Prop := (∀ k, k < 14 → M2.1 k = M.1 k) ∧ (∀ i c, c < 48 → c ≠ 3 → c ≠ 4 → pc M2 i c = pc M i c) ∧ M2.2.1 = M.2.1
theorem eqW_tr {M M2 M3 : MS} (a : eqW M M2) (b : eqW M2 M3) : eqW M M3 := ⟨fun k hk => (b.1 k hk).trans (a.1 k hk), fun i c h1 h2 h3 => (b.2.1 i c h1 h2 h3).trans (a.2.1 i c h1 h2 h3), b.2.2.trans a.2.2⟩
theorem clM_W {M M2 : MS} (E : eqW M M2) (i : Nat) : clM M2 i = clM M i := by
  unfold clM
  rw [E.1 1 (by decide), E.2.1 i 0 (by decide) (by decide) (by decide), E.2.1 i 2 (by decide) (by decide) (by decide)]
theorem wnM_W {M M2 : MS} (E : eqW M M2) (j i : Nat) : wnM M2 j i = wnM M j i := by
  unfold wnM
  rw [clM_W E, E.2.1 j 0 (by decide) (by decide) (by decide), E.2.1 j 5 (by decide) (by decide) (by decide), E.2.1 i 5 (by decide) (by decide) (by decide), E.2.1 j 2 (by decide) (by decide) (by decide)]
theorem wgM_W {M M2 : MS} (E : eqW M M2) (n i : Nat) : wgM M2 n i = wgM M n i := by
  unfold wgM
  rw [show (fun j => wnM M2 j i) = (fun j => wnM M j i) from funext fun j => wnM_W E j i]
theorem woM_W {M M2 : MS} (E : eqW M M2) (i j : Nat) : woM M2 i j = woM M i j := by
  unfold woM
  rw [E.1 1 (by decide), E.2.1 i 0 (by decide) (by decide) (by decide), E.2.1 i 2 (by decide) (by decide) (by decide), E.2.2]
theorem beM_W {M M2 : MS} (E : eqW M M2) (i : Nat) (s : Int32) (n : Nat) : beM M2 i s n = beM M i s n := by
  unfold beM
  rw [show woM M2 i = woM M i from funext fun j => woM_W E i j]
theorem reM_W {M M2 : MS} (E : eqW M M2) (n i : Nat) (w : Int32) : ∀ k, reM M2 n i w k = reM M n i w k
  | 0 => rfl
  | k + 1 => by
    have ih := reM_W E n i w k
    show (match beM M2 i (w &&& (reM M2 n i w k ^^^ (-1))) n with | none => _ | some j => _) = (match beM M i (w &&& (reM M n i w k ^^^ (-1))) n with | none => _ | some j => _)
    rw [ih, beM_W E]
theorem eqW_set {M : MS} {i c : Nat} {v : Int32} (hc : c = 3 ∨ c = 4) : eqW M (setP M i c v) :=
  ⟨fun k hk => setP_N M i c v hk, fun i2 c2 h1 h2 h3 => setP_c M v (by omega) h1 (Or.inr (by omega)), rfl⟩
theorem eqW_D {M : MS} {D : Int64} : eqW M (M.1, M.2.1, D) := ⟨fun _ _ => rfl, fun _ _ _ _ _ => rfl, rfl⟩
theorem eqW_rfl (M : MS) : eqW M M := ⟨fun _ _ => rfl, fun _ _ _ _ _ => rfl, rfl⟩
theorem eqW_opM (M : MS) (n i s : Nat) : eqW M (opM M n i s) := by
  unfold opM
  by_cases h : pc M i 0 = 1
  · rw [if_pos h]; exact eqW_rfl M
  · rw [if_neg h]; exact eqW_tr eqW_D (eqW_tr (eqW_set (Or.inr rfl)) (eqW_set (Or.inl rfl)))
def opsM (M : MS) (n s : Nat) : Nat → MS
  | 0 => M
  | i + 1 => opM (opsM M n s i) n i s
theorem eqW_ops (M : MS) (n s : Nat) : ∀ i, eqW M (opsM M n s i)
  | 0 => eqW_rfl M
  | i + 1 => eqW_tr (eqW_ops M n s i) (eqW_opM _ n i s)
theorem wg_hi {M : MS} {n i j : Nat} (hn : n ≤ 6) (hj : 6 ≤ j) (h32 : j < 32) : bitb (wgM M n i) j = false := by
  unfold wgM
  rw [orN_bit (by omega) j h32]
  simp; omega
theorem re_hi {M : MS} {n i : Nat} {w : Int32} (hn : n ≤ 6) : ∀ k j, 6 ≤ j → j < 32 → bitb (reM M n i w k) j = false
  | 0, j, _, h32 => bitb_0 h32
  | k + 1, j, h6, h32 => by
    have ih := re_hi (M := M) (i := i) (w := w) hn k j h6 h32
    cases hb : beM M i (w &&& (reM M n i w k ^^^ (-1))) n with
    | none => rw [reM_none hb]; exact ih
    | some b =>
      have hlt : b < n := bst_lt hb
      rw [reM_some hb, bitb_or1 (by omega) h32, ih]
      simp; omega
theorem wg_self {M : MS} {n i : Nat} (hn : n ≤ 6) (hi : i < n) : bitb (wgM M n i) i = false := by
  unfold wgM
  rw [orN_bit (by omega) i (by omega)]
  simp [wnM]
theorem ot_nI {M : MS} {n i k : Nat} (x : Int32) (hn : n ≤ 6) : ∃ a, a < 64 ∧ wgM M n i &&& x = nI a :=
  low_nI (k := 6) (fun j h6 h32 => by rw [bitb_and, wg_hi hn h6 h32]; rfl)
theorem opM_c {M : MS} {n i s i2 c : Nat} (hc : c < 48) (h : i2 ≠ i ∨ (c ≠ 3 ∧ c ≠ 4)) : pc (opM M n i s) i2 c = pc M i2 c := by
  unfold opM
  by_cases e : pc M i 0 = 1
  · rw [if_pos e]
  · rw [if_neg e, setP_c _ _ (by decide) hc (by omega), setP_c _ _ (by decide) hc (by omega)]; rfl
theorem opM_WFs {M : MS} {n p b i s : Nat} (hi : i < n) (H : WFs M n p b) : WFs (opM M n i s) n p b := by
  obtain ⟨w0, w1, w2, ws, wt, wP, wR, wr⟩ := H
  have E := eqW_opM M n i s
  have e : ∀ j, j < 14 → (opM M n i s).1 j = M.1 j := E.1
  refine ⟨by rw [e 0 (by decide)]; exact w0, by rw [e 1 (by decide)]; exact w1, by rw [e 2 (by decide)]; exact w2, by rw [e 8 (by decide), e 9 (by decide), e 10 (by decide), e 11 (by decide)]; exact ws, ?_, fun z hz => ?_, by rw [E.2.2]; exact wR, by rw [E.2.2]; exact wr⟩
  · rw [e 4 (by decide), wt]
    exact (eqv_sum (fun z hz => E.2.1 z 6 (by decide) (by decide) (by decide))).symm
  · have u : ∀ c, c < 48 → c ≠ 3 → c ≠ 4 → pc (opM M n i s) z c = pc M z c := fun c h1 h2 h3 => E.2.1 z c h1 h2 h3
    obtain ⟨a1, a2, a3, a5, a6, a7, a9⟩ := wP z hz
    have rest : ∀ x, x < 32 → pc (opM M n i s) z (15 + x) = -1 ∨ (∃ j, j < n ∧ pc (opM M n i s) z (15 + x) = nI j) ∧ x / 4 < p ∧ x % 4 < b := fun x hx => by rw [u (15 + x) (by omega) (by omega) (by omega)]; exact a9 x hx
    by_cases q : z = i
    · subst q
      by_cases k1 : pc M z 0 = 1
      · have : opM M n z s = M := by unfold opM; rw [if_pos k1]
        rw [this]
        exact wP z hz
      · have hl := luM_r (M := M) (i := z) (s := wgM M n z &&& (reM M n z (wgM M n z) (s - 1) ^^^ (-1))) a6
        have c4 : pc (opM M n z s) z 4 = (luM M z (wgM M n z &&& (reM M n z (wgM M n z) (s - 1) ^^^ (-1)))).1 := by
          unfold opM
          rw [if_neg k1, setP_c _ _ (by decide) (by decide) (Or.inr (by decide)), setP_same]
        have c3 : pc (opM M n z s) z 3 = (if (luM M z (wgM M n z &&& (reM M n z (wgM M n z) (s - 1) ^^^ (-1)))).1 = -1 then reM M n z (wgM M n z) (s - 1) else reM M n z (wgM M n z) (s - 1) ||| ((1 : Int32) <<< ((luM M z (wgM M n z &&& (reM M n z (wgM M n z) (s - 1) ^^^ (-1)))).1 &&& 31))) := by
          unfold opM
          rw [if_neg k1, setP_same]
        refine ⟨?_, by rw [u 1 (by decide) (by decide) (by decide)]; exact a2, by rw [u 2 (by decide) (by decide) (by decide)]; exact a3, ?_, ?_, by rw [u 5 (by decide) (by decide) (by decide)]; exact a7, rest⟩
        · rw [u 0 (by decide) (by decide) (by decide)]
          rcases a1 with a1 | a1 | a1
          · exact Or.inl a1
          · exact absurd a1.1 k1
          · exact Or.inr (Or.inr a1)
        · rw [c3]
          rcases hl with hl | ⟨j, hj, hl⟩
          · rw [hl, if_pos rfl]
            exact low_nI (k := 6) (fun j h6 h32 => re_hi w0.2 _ j h6 h32)
          · rw [hl, if_neg (nI_nm1 (by omega))]
            refine low_nI (k := 6) (fun x h6 h32 => ?_)
            rw [bitb_or1 (by omega) h32, re_hi w0.2 _ x h6 h32]
            simp; omega
        · rw [c4]; exact hl
    · have u2 : ∀ c, c < 48 → pc (opM M n i s) z c = pc M z c := fun c hc => opM_c hc (Or.inl q)
      exact ⟨by rw [u2 0 (by decide), u2 3 (by decide)]; exact a1, by rw [u2 1 (by decide)]; exact a2, by rw [u2 2 (by decide)]; exact a3, by rw [u2 3 (by decide)]; exact a5, by rw [u2 4 (by decide)]; exact a6, by rw [u2 5 (by decide)]; exact a7, rest⟩
theorem opsM_WFs {M : MS} {n p b s : Nat} (H : WFs M n p b) : ∀ i, i ≤ n → WFs (opsM M n s i) n p b
  | 0, _ => H
  | i + 1, hi => opM_WFs (by omega) (opsM_WFs H i (by omega))
theorem c_open1 {h : Hp} {w q n p b i s : Nat} {M : MS} (S : SwR h q M n) (W : WFs M n p b) (hi : i < n) (h8 : M.1 8 = nI s) (hs1 : 1 ≤ s) (hs4 : s ≤ 4) (hw : hI h (w + 1) i = wgM M n i) (kk : Int32 → Hp → Option Hp) : ∃ h2, (if inb (nI i) 6 = true then (if (hI h ((q + 2) + 1 + 4 * (nI i).toNatClampNeg) 0) = (1 : Int32) then (f_X2_openSlots_j78 kk h w q (nI i)) else (bn1 (f_X2_pickRegular h w q (nI i)) (fun v2 => (if inb (nI i) 6 = true then (bn2 (f_X2_pickLucky h q ((q + 2) + 1 + 4 * (nI i).toNatClampNeg) ((hI h (w + 1) (nI i).toNatClampNeg) &&& (v2 ^^^ (-1 : Int32)))) (fun v5 h6 => (if 0 ≤ (hI (sI h6 ((q + 2) + 1 + 4 * (nI i).toNatClampNeg) 5 v5) ((q + 2) + 1 + 4 * (nI i).toNatClampNeg) 5) then (f_X2_openSlots_j75 kk (sI h6 ((q + 2) + 1 + 4 * (nI i).toNatClampNeg) 5 v5) ((q + 2) + 1 + 4 * (nI i).toNatClampNeg) (v2 ||| ((1 : Int32) <<< ((hI (sI h6 ((q + 2) + 1 + 4 * (nI i).toNatClampNeg) 5 v5) ((q + 2) + 1 + 4 * (nI i).toNatClampNeg) 5) &&& 31))) w q (nI i)) else (f_X2_openSlots_j75 kk (sI h6 ((q + 2) + 1 + 4 * (nI i).toNatClampNeg) 5 v5) ((q + 2) + 1 + 4 * (nI i).toNatClampNeg) v2 w q (nI i))))) else none)))) else none) = kk (nI (i + 1)) h2 ∧ (∀ z, z < q ∨ q + 27 ≤ z → same h h2 z) ∧ SwR h2 q (opM M n i s) n := by
  have hn := W.1.2
  obtain ⟨P, hP, hP1, hP9⟩ := W.2.2.2.1.2.2.2
  have hl := (W.2.2.2.2.2.1 i hi).2.2.2.2.1
  have Pi : PeR h (q + 2 + 1 + 4 * i) i M := S.2.2.2 i hi
  have gi : inb (nI i) 6 = true := inb_nI (by omega) (by decide)
  rw [if_pos gi, nI_clamp (by omega), Pi.1.1]
  unfold f_X2_openSlots_j75 f_X2_openSlots_j78
  rw [nI_1]
  by_cases k1 : pc M i 0 = 1
  · rw [if_pos k1]
    have : opM M n i s = M := by unfold opM; rw [if_pos k1]
    rw [this]
    exact ⟨h, rfl, fun _ _ => same_rfl _ _, S⟩
  · rw [if_neg k1]
    have e1 : f_X2_pickRegular h w q (nI i) = some (reM M n i (wgM M n i) (s - 1)) := by
      unfold f_X2_pickRegular
      rw [show f_X2_pickRegular_l5 h w q (nI i) fu 0 1 = _ from x2_reg_l S hn W.1.1 hi hw (wg_self hn hi) h8 hs4 (s - 1) 0 fu (by omega) (by show s - 1 < 5000; omega)]; rfl
    obtain ⟨a, ha, ea⟩ := ot_nI (M := M) (i := i) (k := 0) (reM M n i (wgM M n i) (s - 1) ^^^ (-1)) hn
    obtain ⟨h2, e2, e3, e4⟩ := x2_lucky2 S hn hi hP hP1 hP9 hl ha
    have hlr := luM_r (M := M) (i := i) (s := nI a) hl
    rw [e1, bn1_some, if_pos gi, hw, ea, show q + 2 + 1 + 4 * i = q + 3 + 4 * i by omega, e2, bn2_some, hI_sI]
    have op : opM M n i s = setP (setP (M.1, M.2.1, (luM M i (nI a)).2) i 4 (luM M i (nI a)).1) i 3 (if (luM M i (nI a)).1 = -1 then reM M n i (wgM M n i) (s - 1) else reM M n i (wgM M n i) (s - 1) ||| ((1 : Int32) <<< ((luM M i (nI a)).1 &&& 31))) := by
      unfold opM
      rw [if_neg k1, ea]
    rw [op]
    have S1 := SwR_f (f := 5) (luM M i (nI a)).1 hi hn (by decide) (by decide) e4
    rcases hlr with z | ⟨j, hj, z⟩
    · rw [z, if_neg (by decide), if_pos rfl]
      rw [z] at S1
      exact ⟨_, rfl, fun x hx => same_tr (e3 x (by omega)) (same_tr (same_sI (by omega)) (same_sI (by omega))), SwR_f (f := 4) _ hi hn (by decide) (by decide) S1⟩
    · rw [z, if_pos (show 0 ≤ nI j from nI_le (a := 0) (by omega) (by omega)), if_neg (nI_nm1 (by omega))]
      rw [z] at S1
      exact ⟨_, rfl, fun x hx => same_tr (e3 x (by omega)) (same_tr (same_sI (by omega)) (same_sI (by omega))), SwR_f (f := 4) _ hi hn (by decide) (by decide) S1⟩
theorem c_opens_l {h : Hp} {w q n p b s : Nat} {M : MS} (hd : q + 27 ≤ w) (W : WFs M n p b) (h8 : M.1 8 = nI s) (hs1 : 1 ≤ s) (hs4 : s ≤ 4) (hw : ∀ k, k < n → hI h (w + 1) k = wgM M n k) : ∀ (r i fuel : Nat) (hh : Hp), i + r = n → r < fuel → (∀ z, z < q ∨ q + 27 ≤ z → same h hh z) → SwR hh q (opsM M n s i) n → ∃ h2, f_X2_openSlots_l2 w q fuel (nI i) hh = some h2 ∧ (∀ z, z < q ∨ q + 27 ≤ z → same h h2 z) ∧ SwR h2 q (opsM M n s n) n := by
  intro r
  induction r with
  | zero =>
    intro i fuel hh hi hf e1 e2
    obtain ⟨fuel, rfl⟩ : ∃ z, fuel = z + 1 := ⟨fuel - 1, by omega⟩
    have : i = n := by omega
    subst this
    have Wi := opsM_WFs (s := s) W i (by omega)
    have hs : hI hh q 4 = nI i := e2.1.2.2.2.2.1.trans Wi.1.1
    exact ⟨hh, by rw [f_X2_openSlots_l2_s, hs, if_pos (Int32.le_refl _)], e1, e2⟩
  | succ r ih =>
    intro i fuel hh hi hf e1 e2
    obtain ⟨fuel, rfl⟩ : ∃ z, fuel = z + 1 := ⟨fuel - 1, by omega⟩
    have hn := W.1.2
    have Wi := opsM_WFs (s := s) W i (by omega)
    have hs : hI hh q 4 = nI n := e2.1.2.2.2.2.1.trans Wi.1.1
    have E := eqW_ops M n s i
    obtain ⟨h2, c1, c2, c3⟩ := c_open1 (w := w) e2 Wi (i := i) (s := s) (by omega) ((E.1 8 (by decide)).trans h8) hs1 hs4 (by rw [hI_eq (e1 _ (by omega)).1, wgM_W E]; exact hw i (by omega)) (f_X2_openSlots_l2 w q fuel)
    rw [f_X2_openSlots_l2_s, hs, if_neg (nI_ge (by omega) (by omega)), c1]
    exact ih (i + 1) fuel h2 (by omega) (by omega) (fun z hz => same_tr (e1 z hz) (c2 z hz)) c3
theorem c_opens {h : Hp} {w q n p b s : Nat} {M : MS} (hd : q + 27 ≤ w) (W : WFs M n p b) (h8 : M.1 8 = nI s) (hs1 : 1 ≤ s) (hs4 : s ≤ 4) (hw : ∀ k, k < n → hI h (w + 1) k = wgM M n k) (S : SwR h q M n) : ∃ h2, f_X2_openSlots h w q = some h2 ∧ (∀ z, z < q ∨ q + 27 ≤ z → same h h2 z) ∧ SwR h2 q (opsM M n s n) n := by
  obtain ⟨h2, e1, e2, e3⟩ := c_opens_l hd W h8 hs1 hs4 hw n 0 fu h (by omega) (by show n < 5000; have := W.1.2; omega) (fun _ _ => same_rfl _ _) S
  refine ⟨h2, ?_, e2, e3⟩
  unfold f_X2_openSlots
  rw [show (0 : Int32) = nI 0 from rfl, e1]; rfl
/-- what the reference's rounds leave alone -/
def FrR (m : Nat) (h h2 : Hp) : Prop := (∀ z, z ≠ m → z ≠ m + 2 → z ≠ m + 3 → z ≠ m + 7 → z ≠ m + 8 → z ≠ m + 9 → same h h2 z) ∧ (∀ k, hI h2 m k = hI h m k)
theorem FrR_rfl (m : Nat) (h : Hp) : FrR m h h := ⟨fun _ _ _ _ _ _ _ => same_rfl _ _, fun _ => rfl⟩
theorem FrR_tr {m : Nat} {h h1 h2 : Hp} (a : FrR m h h1) (b : FrR m h1 h2) : FrR m h h2 := ⟨fun z g1 g2 g3 g4 g5 g6 => same_tr (a.1 z g1 g2 g3 g4 g5 g6) (b.1 z g1 g2 g3 g4 g5 g6), fun k => (b.2 k).trans (a.2 k)⟩
theorem FrR_sI {m a k : Nat} {h : Hp} {v : Int32} (ha : a = m + 2 ∨ a = m + 7 ∨ a = m + 8 ∨ a = m + 9) : FrR m h (sI h a k v) := ⟨fun z g1 g2 g3 g4 g5 g6 => same_sI (by omega), fun j => hI_sIb _ _ _ _ (by omega)⟩
theorem FrR_sF {m k : Nat} {h : Hp} {v : UInt32} : FrR m h (sF h (m + 3) k v) := ⟨fun z g1 g2 g3 g4 g5 g6 => same_sF g3, fun j => rfl⟩
theorem FrR_sL {m k : Nat} {h : Hp} {v : Int64} : FrR m h (sL h m k v) := ⟨fun z g1 g2 g3 g4 g5 g6 => same_sL g1, fun j => rfl⟩
theorem setP_id {M : MS} {i c : Nat} (v : Int32) (h : pc M i c = v) : setP M i c v = M := by
  unfold setP updN
  refine Prod.ext ?_ rfl
  funext j
  show (if j = 14 + 48 * i + c then v else M.1 j) = M.1 j
  by_cases e : j = 14 + 48 * i + c
  · rw [if_pos e, e]; exact h.symm
  · rw [if_neg e]
theorem luM_3 {M : MS} {i : Nat} {v s : Int32} : luM (setP M i 3 v) i s = luM M i s := by
  unfold luM
  rw [setP_N _ _ _ _ (by decide), setP_N _ _ _ _ (by decide), setP_c _ _ (by decide) (by decide) (Or.inr (by decide)), setP_2]
theorem setP_443 {M : MS} {i : Nat} {a l x : Int32} {D : Int64} : setP (setP ((setP M i 3 a).1, M.2.1, D) i 4 l) i 3 x = setP (setP (M.1, M.2.1, D) i 4 l) i 3 x := by
  unfold setP updN
  refine Prod.ext ?_ rfl
  funext j
  show (if j = 14 + 48 * i + 3 then x else if j = 14 + 48 * i + 4 then l else if j = 14 + 48 * i + 3 then a else M.1 j) = (if j = 14 + 48 * i + 3 then x else if j = 14 + 48 * i + 4 then l else M.1 j)
  by_cases e : j = 14 + 48 * i + 3
  · rw [if_pos e, if_pos e]
  · rw [if_neg e, if_neg e, if_neg e]
theorem r_open2 {h : Hp} {m i : Nat} {l x : Int32} (hi : i < 6) (hl : l = -1 ∨ ∃ j, j < 6 ∧ l = nI j) : ∃ h2, f_X6_opens_j177 h m (nI i) x l = some h2 ∧ FrR m h h2 ∧ rv h2 m = setP (setP (rv h m) i 4 l) i 3 (if l = -1 then x else x ||| ((1 : Int32) <<< (l &&& 31))) := by
  obtain ⟨c1, c2, -⟩ := rv_cell (h := h) (m := m) (v := l) hi (show 4 < 48 by decide) (nI (14 + 48 * i) + 4) (nI_add _ 4)
  unfold f_X6_opens_j177 f_X6_opens_j215
  rw [x6_at, bn1_some, if_pos c1, x6_at, bn1_some]
  generalize hg : sI h (m + 2) (nI (14 + 48 * i) + 4).toNatClampNeg l = g at c2
  have fg : FrR m h g := by rw [← hg]; exact FrR_sI (Or.inl rfl)
  by_cases e : l = -1
  · obtain ⟨d1, d2, -⟩ := rv_cell (h := g) (m := m) (v := x) hi (show 3 < 48 by decide) (nI (14 + 48 * i) + 3) (nI_add _ 3)
    rw [if_pos e, if_pos e, if_pos d1, or_0]
    exact ⟨_, rfl, FrR_tr fg (FrR_sI (Or.inl rfl)), by rw [d2, c2]⟩
  · obtain ⟨d1, d2, -⟩ := rv_cell (h := g) (m := m) (v := x ||| ((1 : Int32) <<< (l &&& 31))) hi (show 3 < 48 by decide) (nI (14 + 48 * i) + 3) (nI_add _ 3)
    rw [if_neg e, if_neg e, if_pos d1]
    exact ⟨_, rfl, FrR_tr fg (FrR_sI (Or.inl rfl)), by rw [d2, c2]⟩
theorem r_opens {h : Hp} {m n p b i s : Nat} {M : MS} (W : WFs M n p b) (hi : i < n) (h8 : M.1 8 = nI s) (hs1 : 1 ≤ s) (hs4 : s ≤ 4) (k1 : pc M i 0 ≠ 1) (hM : rv h m = setP M i 3 0) : ∃ h2, f_X6_opens h m (nI i) = some h2 ∧ FrR m h h2 ∧ rv h2 m = opM M n i s := by
  have hn := W.1.2
  have hi6 : i < 6 := by omega
  obtain ⟨P, hP, hP1, hP9⟩ := W.2.2.2.1.2.2.2
  have hl := (W.2.2.2.2.2.1 i hi).2.2.2.2.1
  have E : eqW M (rv h m) := by rw [hM]; exact eqW_set (Or.inl rfl)
  have h0 : (rv h m).1 0 = nI n := (E.1 0 (by decide)).trans W.1.1
  have h8' : (rv h m).1 8 = nI s := (E.1 8 (by decide)).trans h8
  have e1 : f_X6_opens_l4 h m (nI i) fu 0 0 = some (wgM M n i) := by
    rw [show f_X6_opens_l4 h m (nI i) fu 0 0 = _ from x6_wanting_l hn hi6 h0 n 0 fu (by omega) (by show n < 5000; omega), wgM_W E]
  have e2 : f_X6_opens_l44 h m (nI i) (wgM M n i) fu 0 1 = some (reM M n i (wgM M n i) (s - 1)) := by
    rw [show f_X6_opens_l44 h m (nI i) (wgM M n i) fu 0 1 = _ from x6_reg_l hn hi6 h0 h8' hs4 (s - 1) 0 fu (by omega) (by show s - 1 < 5000; omega), reM_W E]
  obtain ⟨a, ha, ea⟩ := ot_nI (M := M) (i := i) (k := 0) (reM M n i (wgM M n i) (s - 1) ^^^ (-1)) hn
  have e4 : f_X6_cellOf h m (nI i) 4 = some (pc M i 4) := by
    rw [show f_X6_cellOf h m (nI i) 4 = _ from x6_cell (c := 4) hi6 (by decide), hM, setP_c _ _ (by decide) (by decide) (Or.inr (by decide))]
  have e11 : hI h (m + 2) (11 : Int32).toNatClampNeg = nI P := (E.1 11 (by decide)).trans hP
  have e3 : hI h (m + 2) (3 : Int32).toNatClampNeg = M.1 3 := E.1 3 (by decide)
  have eD : hL h m 3 = M.2.2 := by
    have := congrArg (fun z : MS => z.2.2) hM
    exact this
  have hlr := luM_r (M := M) (i := i) (s := nI a) hl
  have op : opM M n i s = setP (setP (M.1, M.2.1, (luM M i (nI a)).2) i 4 (luM M i (nI a)).1) i 3 (if (luM M i (nI a)).1 = -1 then reM M n i (wgM M n i) (s - 1) else reM M n i (wgM M n i) (s - 1) ||| ((1 : Int32) <<< ((luM M i (nI a)).1 &&& 31))) := by
    unfold opM
    rw [if_neg k1, ea]
  have fin : ∀ g : Hp, FrR m h g → rv g m = ((setP M i 3 0).1, M.2.1, (luM M i (nI a)).2) → ∃ h2, f_X6_opens_j177 g m (nI i) (reM M n i (wgM M n i) (s - 1)) (luM M i (nI a)).1 = some h2 ∧ FrR m h h2 ∧ rv h2 m = opM M n i s := by
    intro g fg eg
    obtain ⟨h2, d1, d2, d3⟩ := r_open2 (h := g) (m := m) (x := reM M n i (wgM M n i) (s - 1)) hi6 hlr
    refine ⟨h2, d1, FrR_tr fg d2, ?_⟩
    rw [d3, eg, op, setP_443]
  have rvD : rv h m = ((setP M i 3 0).1, M.2.1, M.2.2) := hM
  have no : (¬ (pc M i 4 ≠ -1 ∧ M.1 3 - M.1 3 / M.1 11 * M.1 11 ≠ 0 ∧ (nI a >>> (pc M i 4 &&& 31)) &&& 1 = 1)) → ∀ v, ∃ h2, f_X6_opens_j144 h m (nI i) (reM M n i (wgM M n i) (s - 1)) (nI a) v = some h2 ∧ FrR m h h2 ∧ rv h2 m = opM M n i s := by
    intro hno v
    unfold f_X6_opens_j144 f_X6_opens_j145 f_X6_opens_j175
    rw [if_pos (show (0 : Int32) = 0 from rfl)]
    by_cases a0 : a = 0
    · rw [if_pos (show nI a = 0 by rw [a0]; rfl)]
      have l1 : luM M i (nI a) = (-1, M.2.2) := by unfold luM; rw [if_neg hno, if_pos (show nI a = 0 by rw [a0]; rfl)]
      have := fin h (FrR_rfl _ _) (by rw [l1]; exact rvD)
      rw [l1] at this
      exact this
    · have hne : ¬ nI a = 0 := fun z => a0 ((nI_eq (b := 0) (by omega) (by decide)).mp z)
      obtain ⟨b1, b2⟩ := bsM_pos a ha a0
      have l1 : luM M i (nI a) = (pkR (nI a) 6 0 (nbM (dsM M.2.2) (bsM (nI a))), dsM M.2.2) := by unfold luM; rw [if_neg hno, if_neg hne]
      rw [if_neg hne, x6_bits, bn1_some]
      unfold f_X6_drawBy
      rw [if_pos (show ¬ (sumN (fun k => bt (nI a) k) 6).toInt64 = 0 from b2), eD]
      show ∃ h2, bn2 (some (((hL (sL h m 3 (dsM M.2.2)) m 3) / 65536 - (hL (sL h m 3 (dsM M.2.2)) m 3) / 65536 / (bsM (nI a)).toInt64 * (bsM (nI a)).toInt64).toInt32, sL h m 3 (dsM M.2.2))) _ = _ ∧ _
      rw [bn2_some, hL_sLs, x6_bitAt, bn1_some]
      have := fin (sL h m 3 (dsM M.2.2)) FrR_sL (by rw [l1, rv_sL, rvD])
      rw [l1] at this
      exact this
  unfold f_X6_opens
  rw [e1, bn1_some, e2, bn1_some, e4, bn1_some, ea, e11, e3]
  rcases hl with hl | ⟨j, hj, hl⟩
  · rw [hl, if_pos rfl]
    exact no (fun z => z.1 hl) _
  · rw [hl, if_neg (nI_nm1 (by omega)), if_pos (show ¬ nI P = 0 from fun z => by have := (nI_eq (b := 0) (by omega) (by decide)).mp z; omega)]
    by_cases t0 : M.1 3 - M.1 3 / nI P * nI P = 0
    · rw [if_pos t0]
      exact no (fun z => z.2.1 (by rw [hP]; exact t0)) _
    · rw [if_neg t0]
      show ∃ h2, (if bt (nI a) j = 1 then _ else _) = _ ∧ _
      by_cases b1 : bt (nI a) j = 1
      · rw [if_pos b1]
        have yes : pc M i 4 ≠ -1 ∧ M.1 3 - M.1 3 / M.1 11 * M.1 11 ≠ 0 ∧ (nI a >>> (pc M i 4 &&& 31)) &&& 1 = 1 := ⟨by rw [hl]; exact nI_nm1 (by omega), by rw [hP]; exact t0, by rw [hl]; exact b1⟩
        have l1 : luM M i (nI a) = (pc M i 4, M.2.2) := by unfold luM; rw [if_pos yes]
        unfold f_X6_opens_j145
        rw [if_neg (show ¬ (1 : Int32) = 0 by decide)]
        have := fin h (FrR_rfl _ _) (by rw [l1]; exact rvD)
        rw [l1, hl] at this
        exact this
      · rw [if_neg b1]
        exact no (fun z => b1 (by have z2 := z.2.2; rw [hl] at z2; exact z2)) _
theorem r_ops_l {h : Hp} {m n p b s : Nat} {M : MS} (W : WFs M n p b) (h8 : M.1 8 = nI s) (hs1 : 1 ≤ s) (hs4 : s ≤ 4) : ∀ (r i fuel : Nat) (hh : Hp), i + r = n → r < fuel → FrR m h hh → rv hh m = opsM M n s i → ∃ h2, f_X6_round_l2 m fuel (nI i) hh = some h2 ∧ FrR m h h2 ∧ rv h2 m = opsM M n s n := by
  intro r
  induction r with
  | zero =>
    intro i fuel hh hi hf e1 e2
    obtain ⟨fuel, rfl⟩ : ∃ z, fuel = z + 1 := ⟨fuel - 1, by omega⟩
    have : i = n := by omega
    subst this
    have Wi := opsM_WFs (s := s) W i (by omega)
    have hs : hI hh (m + 2) (0 : Int32).toNatClampNeg = nI i := (congrArg (fun z : MS => z.1 0) e2).trans Wi.1.1
    exact ⟨hh, by rw [f_X6_round_l2_s, hs, if_pos (Int32.le_refl _)], e1, e2⟩
  | succ r ih =>
    intro i fuel hh hi hf e1 e2
    obtain ⟨fuel, rfl⟩ : ∃ z, fuel = z + 1 := ⟨fuel - 1, by omega⟩
    have Wi := opsM_WFs (s := s) W i (by omega)
    have hn := W.1.2
    have E := eqW_ops M n s i
    have hs : hI hh (m + 2) (0 : Int32).toNatClampNeg = nI n := (congrArg (fun z : MS => z.1 0) e2).trans Wi.1.1
    obtain ⟨c1, c2, -⟩ := rv_cell (h := hh) (m := m) (i := i) (v := 0) (by omega) (show 3 < 48 by decide) (nI (14 + 48 * i) + 3) (nI_add _ 3)
    rw [f_X6_round_l2_s, hs, if_neg (nI_ge (by omega) (by omega)), x6_at, bn1_some, if_pos c1]
    generalize hg : sI hh (m + 2) (nI (14 + 48 * i) + 3).toNatClampNeg 0 = g at c2
    have fg : FrR m h g := by rw [← hg]; exact FrR_tr e1 (FrR_sI (Or.inl rfl))
    rw [e2] at c2
    have ek : f_X6_cellOf g m (nI i) 0 = some (pc (opsM M n s i) i 0) := by
      rw [show f_X6_cellOf g m (nI i) 0 = _ from x6_cell (c := 0) (by omega) (by decide), c2, setP_c _ _ (by decide) (by decide) (Or.inr (by decide))]
    rw [ek, bn1_some]
    unfold f_X6_round_j39
    rw [nI_1]
    by_cases k1 : pc (opsM M n s i) i 0 = 1
    · rw [if_pos k1]
      refine ih (i + 1) fuel g (by omega) (by omega) fg ?_
      have op : opsM M n s (i + 1) = opsM M n s i := by show opM _ n i s = _; unfold opM; rw [if_pos k1]
      rw [op, c2]
      refine setP_id 0 ?_
      rcases (Wi.2.2.2.2.2.1 i (by omega)).1 with z | z | z
      · rw [z] at k1; exact absurd k1 (by decide)
      · exact z.2
      · rw [z] at k1; exact absurd k1 (by decide)
    · rw [if_neg k1]
      obtain ⟨h2, d1, d2, d3⟩ := r_opens (h := g) (m := m) Wi (show i < n by omega) ((E.1 8 (by decide)).trans h8) hs1 hs4 k1 c2
      rw [d1, bn1_some]
      exact ih (i + 1) fuel h2 (by omega) (by omega) (FrR_tr fg d2) d3
