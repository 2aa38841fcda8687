/-! THE INVARIANT between the class's object (at o) and the reference's (at m = o + 174). A state of the reference: its ints N, its rates, its drawing. -/
abbrev MS : Type := (Nat → Int32) × (Nat → UInt32) × Int64
def rv (h : Hp) (m : Nat) : MS := (hI h (m + 2), hF h (m + 3), hL h m 3)
def kv (h : Hp) (m s : Nat) : MS := (fun c => hI h (m + 4) (320 * s + c), fun c => hF h (m + 5) (36 * s + c), hL h (m + 6) s)
/-- cell c of peer i -/
def pc (M : MS) (i c : Nat) : Int32 := M.1 (14 + 48 * i + c)
def bitb (x : Int32) (k : Nat) : Bool := x.toBitVec.getLsbD k
/-- the peer at a of the class is peer i of the reference's state -/
def PeR (h : Hp) (a i : Nat) (M : MS) : Prop :=
  (hI h a 0 = pc M i 0 ∧ hI h a 1 = pc M i 1 ∧ hI h a 2 = pc M i 2 ∧ hI h a 4 = pc M i 3 ∧ hI h a 5 = pc M i 4 ∧ hI h a 6 = pc M i 5 ∧ hI h a 7 = pc M i 6 ∧ hI h a 8 = pc M i 7) ∧
  (∀ j, j < 6 → hI h (a + 2) j = pc M i (8 + j)) ∧
  (∀ k, k < 32 → bitb (hI h a 3) k = decide (pc M i (15 + k) ≠ -1) ∧ (pc M i (15 + k) ≠ -1 → hI h (a + 1) k = pc M i (15 + k))) ∧
  (∀ j, j < 6 → j ≠ i → hF h (a + 3) j = M.2.1 (6 * i + j))
/-- the swarm at q of the class is the reference's state M, of n peers -/
def SwR (h : Hp) (q : Nat) (M : MS) (n : Nat) : Prop :=
  (hI h q 0 = M.1 1 ∧ hI h q 1 = M.1 2 ∧ hI h q 2 = (1 <<< (M.1 1 &&& 31)) - 1 ∧ hI h q 3 = (1 <<< (M.1 2 &&& 31)) - 1 ∧ hI h q 4 = M.1 0 ∧ hI h q 5 = M.1 3 ∧ hI h q 6 = M.1 5 ∧ hI h q 7 = M.1 6 ∧ hI h q 8 = M.1 7) ∧
  hL h q 9 = M.2.2 ∧ (∀ j, j < 4 → hI h (q + 1) j = M.1 (8 + j)) ∧ (∀ i, i < n → PeR h (q + 3 + 4 * i) i M)
/-- what the reference's states are always like, t a bound of the rounds done -/
def PeW (M : MS) (i n p b t : Nat) : Prop :=
  (pc M i 0 = 0 ∨ (pc M i 0 = 1 ∧ pc M i 3 = 0) ∨ pc M i 0 = 2) ∧ (∃ c, 1 ≤ c ∧ c ≤ 4 ∧ pc M i 1 = nI c) ∧ (∃ a, a < 2 ^ p ∧ pc M i 2 = nI a) ∧ (∃ a, a < 64 ∧ pc M i 3 = nI a) ∧ (pc M i 4 = -1 ∨ ∃ j, j < 6 ∧ pc M i 4 = nI j) ∧ (∃ a, a < 64 ∧ pc M i 5 = nI a) ∧ (∃ a, a ≤ 4 * t ∧ pc M i 6 = nI a) ∧ (∃ a, a ≤ 6 * t ∧ pc M i 7 = nI a) ∧
  (∀ k, k < 32 → pc M i (15 + k) = -1 ∨ (∃ j, j < n ∧ pc M i (15 + k) = nI j) ∧ k / 4 < p ∧ k % 4 < b)
def sumN (f : Nat → Int32) : Nat → Int32
  | 0 => 0
  | k + 1 => sumN f k + f k
/-- a rate: a float from 0 to 16 -/
def rOK (r : UInt32) : Prop := r.toNat ≤ 1098907648
def WFn (M : MS) (n p b t : Nat) : Prop :=
  (M.1 0 = nI n ∧ n ≤ 6) ∧ (M.1 1 = nI p ∧ 1 ≤ p ∧ p ≤ 8) ∧ (M.1 2 = nI b ∧ 1 ≤ b ∧ b ≤ 4) ∧ (∃ T, M.1 3 = nI T ∧ T ≤ t) ∧
  (∃ s, M.1 8 = nI s ∧ 1 ≤ s ∧ s ≤ 4) ∧ (∃ s, M.1 9 = nI s ∧ s ≤ 9) ∧ (∃ s, M.1 10 = nI s ∧ s ≤ 8) ∧ (∃ s, M.1 11 = nI s ∧ 1 ≤ s ∧ s ≤ 9) ∧
  M.1 4 = sumN (fun i => pc M i 6) n ∧ (∀ i, i < n → PeW M i n p b t) ∧ (∀ i j, i < 6 → j < 6 → (n ≤ i ∨ n ≤ j) → M.2.1 (6 * i + j) = 0) ∧ (∀ c, c < 36 → rOK (M.2.1 c))
def Sim (h : Hp) (q : Nat) (M : MS) (t : Nat) : Prop := ∃ n p b, SwR h q M n ∧ WFn M n p b t
def Ia (o c : Nat) (h : Hp) : Prop := Sim h (o + 1) (rv h (o + 174)) (1200 * c)
def Ib (o c : Nat) (h : Hp) : Prop := ∃ K e, K ≤ 5 ∧ e < 5 ∧ hI h o 5 = nI K ∧ hI h (o + 174) 4 = nI K ∧ hI h o 4 = nI e ∧ ∀ t, t < K → Sim h (o + 29 + 27 * ((e + 5 - t) % 5)) (kv h (o + 174) (K - 1 - t)) (1200 * c)
def Ic (o : Nat) (h : Hp) : Prop := ∃ len, len ≤ 120 ∧ hI h (o + 169) 0 = nI len ∧ hI h (o + 174) 12 = nI len ∧ ∀ j, j < len → hI h (o + 170) j = hI h (o + 184) j
def Id (o : Nat) (h : Hp) : Prop := hI h o 6 = hI h (o + 175) 0 ∧ hI h o 7 = hI h (o + 175) 1 ∧ hI h o 8 = hI h (o + 175) 2
def Inv (o c : Nat) (h : Hp) : Prop := Ia o c h ∧ Ib o c h ∧ Ic o h ∧ Id o h
/-! what does not matter stays -/
theorem hI_eq {h h2 : Hp} {a : Nat} (e : h2.1 a = h.1 a) (j : Nat) : hI h2 a j = hI h a j := by unfold hI; rw [e]
theorem hL_eq {h h2 : Hp} {a : Nat} (e : h2.2.1 a = h.2.1 a) (j : Nat) : hL h2 a j = hL h a j := by unfold hL; rw [e]
theorem hF_eq {h h2 : Hp} {a : Nat} (e : h2.2.2 a = h.2.2 a) (j : Nat) : hF h2 a j = hF h a j := by unfold hF; rw [e]
theorem SwR_congr {h h2 : Hp} {q n : Nat} {M : MS} (hn : n ≤ 6) (e1 : ∀ a, q ≤ a → a < q + 27 → h2.1 a = h.1 a) (e2 : h2.2.1 q = h.2.1 q) (e3 : ∀ a, q ≤ a → a < q + 27 → h2.2.2 a = h.2.2 a) (H : SwR h q M n) : SwR h2 q M n := by
  obtain ⟨⟨a0, a1, a2, a3, a4, a5, a6, a7, a8⟩, a9, b1, b2⟩ := H
  have x := hI_eq (e1 q (Nat.le_refl _) (by omega))
  have x1 := hI_eq (e1 (q + 1) (by omega) (by omega))
  refine ⟨⟨by rw [x]; exact a0, by rw [x]; exact a1, by rw [x]; exact a2, by rw [x]; exact a3, by rw [x]; exact a4, by rw [x]; exact a5, by rw [x]; exact a6, by rw [x]; exact a7, by rw [x]; exact a8⟩, by rw [hL_eq e2]; exact a9, fun j hj => by rw [x1]; exact b1 j hj, fun i hi => ?_⟩
  obtain ⟨⟨c0, c1, c2, c3, c4, c5, c6, c7⟩, d1, d2, d3⟩ := b2 i hi
  have y := hI_eq (e1 (q + 3 + 4 * i) (by omega) (by omega))
  have y1 := hI_eq (e1 (q + 3 + 4 * i + 1) (by omega) (by omega))
  have y2 := hI_eq (e1 (q + 3 + 4 * i + 2) (by omega) (by omega))
  have y3 := hF_eq (e3 (q + 3 + 4 * i + 3) (by omega) (by omega))
  refine ⟨⟨by rw [y]; exact c0, by rw [y]; exact c1, by rw [y]; exact c2, by rw [y]; exact c3, by rw [y]; exact c4, by rw [y]; exact c5, by rw [y]; exact c6, by rw [y]; exact c7⟩, fun j hj => by rw [y2]; exact d1 j hj, fun k hk => ⟨by rw [y]; exact (d2 k hk).1, fun z => by rw [y1]; exact (d2 k hk).2 z⟩, fun j hj hne => by rw [y3]; exact d3 j hj hne⟩
theorem PeW_mono {M : MS} {i n p b t t2 : Nat} (h : t ≤ t2) (H : PeW M i n p b t) : PeW M i n p b t2 := by
  obtain ⟨a1, a2, a3, a4, a5, a6, ⟨g, g1, g2⟩, ⟨k, k1, k2⟩, a9⟩ := H
  exact ⟨a1, a2, a3, a4, a5, a6, ⟨g, by omega, g2⟩, ⟨k, by omega, k2⟩, a9⟩
theorem Sim_congr {h h2 : Hp} {q t t2 : Nat} {M M2 : MS} (ht : t ≤ t2) (hM : M2 = M) (e1 : ∀ a, q ≤ a → a < q + 27 → h2.1 a = h.1 a) (e2 : h2.2.1 q = h.2.1 q) (e3 : ∀ a, q ≤ a → a < q + 27 → h2.2.2 a = h.2.2 a) (H : Sim h q M t) : Sim h2 q M2 t2 := by
  subst hM
  obtain ⟨n, p, b, H1, a0, a1, a2, ⟨T, t1, t3⟩, a3, a4, a5, a6, a7, a8, a9, a10⟩ := H
  exact ⟨n, p, b, SwR_congr a0.2 e1 e2 e3 H1, a0, a1, a2, ⟨T, t1, by omega⟩, a3, a4, a5, a6, a7, fun i hi => PeW_mono ht (a8 i hi), a9, a10⟩
