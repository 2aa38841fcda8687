/-! TEXTS: what a text is, byte by byte, and where its fault lies. x: the bytes, len: how many. -/
def dgt (x : Nat → Int32) (len a : Nat) : Prop := a < len ∧ ¬ x a < 48 ∧ ¬ 57 < x a
def bla (x : Nat → Int32) (len a a2 : Nat) : Prop := a ≤ a2 ∧ a2 ≤ len ∧ (∀ j, a ≤ j → j < a2 → x j = 32) ∧ (a2 < len → x a2 ≠ 32)
theorem bla_ex (x : Nat → Int32) {len : Nat} : ∀ (r a : Nat), a + r = len → ∃ a2, bla x len a a2 := by
  intro r
  induction r with
  | zero =>
    intro a h
    exact ⟨a, Nat.le_refl _, by omega, fun j h1 h2 => by omega, fun h => by omega⟩
  | succ r ih =>
    intro a h
    by_cases q : x a = 32
    · obtain ⟨a2, h1, h2, h3, h4⟩ := ih (a + 1) (by omega)
      refine ⟨a2, by omega, h2, fun j g1 g2 => ?_, h4⟩
      by_cases e : j = a
      · rw [e]; exact q
      · exact h3 j (by omega) g2
    · exact ⟨a, Nat.le_refl _, by omega, fun j h1 h2 => by omega, fun _ => q⟩
theorem dgt_32 {x : Nat → Int32} {len a : Nat} (h : dgt x len a) : x a ≠ 32 := by
  intro e
  have := h.2.1
  rw [e] at this
  exact this (by decide)
def nmO (x : Nat → Int32) (len a : Nat) (v : Int32) (e : Nat) : Prop := ∃ a2, bla x len a a2 ∧ dgt x len a2 ∧ ((e = a2 + 1 ∧ v = x a2 - 48) ∨ (e = a2 + 2 ∧ dgt x len (a2 + 1) ∧ v = (x a2 - 48) * 10 + (x (a2 + 1) - 48))) ∧ ¬ dgt x len e
def nmF (x : Nat → Int32) (len a f : Nat) : Prop := ∃ a2, bla x len a a2 ∧ ((¬ dgt x len a2 ∧ f = a2) ∨ (dgt x len a2 ∧ dgt x len (a2 + 1) ∧ dgt x len (a2 + 2) ∧ f = a2 + 2))
theorem nm_ex (x : Nat → Int32) {len a : Nat} (ha : a ≤ len) : (∃ v e, nmO x len a v e) ∨ ∃ f, nmF x len a f := by
  obtain ⟨a2, B⟩ := bla_ex x (len := len) (len - a) a (by omega)
  by_cases d0 : dgt x len a2
  · by_cases d1 : dgt x len (a2 + 1)
    · by_cases d2 : dgt x len (a2 + 2)
      · exact Or.inr ⟨a2 + 2, a2, B, Or.inr ⟨d0, d1, d2, rfl⟩⟩
      · exact Or.inl ⟨_, a2 + 2, a2, B, d0, Or.inr ⟨rfl, d1, rfl⟩, d2⟩
    · exact Or.inl ⟨_, a2 + 1, a2, B, d0, Or.inl ⟨rfl, rfl⟩, d1⟩
  · exact Or.inr ⟨a2, a2, B, Or.inl ⟨d0, rfl⟩⟩
theorem nmO_le {x : Nat → Int32} {len a e : Nat} {v : Int32} (h : nmO x len a v e) : a + 1 ≤ e ∧ e ≤ len := by
  obtain ⟨a2, ⟨b1, b2, -, -⟩, d, q, -⟩ := h
  have := d.1
  rcases q with ⟨q, -⟩ | ⟨q, d1, -⟩
  · omega
  · have := d1.1
    omega
theorem nmF_le {x : Nat → Int32} {len a f : Nat} (h : nmF x len a f) : a ≤ f ∧ f ≤ len := by
  obtain ⟨a2, ⟨b1, b2, -, -⟩, q⟩ := h
  rcases q with ⟨-, q⟩ | ⟨-, -, d2, q⟩
  · omega
  · have := d2.1
    omega
def ltr (c : Int32) : Prop := c = 112 ∨ c = 103 ∨ c = 114 ∨ c = 115
def sec (x : Nat → Int32) (len : Nat) (l : Int32) (e1 : Nat) (v : Int32) (e2 : Nat) : Prop := (l = 114 ∧ v = 0 ∧ e2 = e1) ∨ (l ≠ 114 ∧ nmO x len e1 v e2)
/-- an order from a (its letter) to e (behind the blanks behind it) -/
def orO (x : Nat → Int32) (len a : Nat) (l u v : Int32) (e : Nat) : Prop := a < len ∧ x a = l ∧ ltr l ∧ ∃ e1 e2 a3, nmO x len (a + 1) u e1 ∧ sec x len l e1 v e2 ∧ bla x len e2 a3 ∧ a3 < len ∧ x a3 = 59 ∧ bla x len (a3 + 1) e
def orF (x : Nat → Int32) (len a f : Nat) : Prop := a < len ∧ ((¬ ltr (x a) ∧ f = a) ∨ (ltr (x a) ∧ (nmF x len (a + 1) f ∨ ∃ u e1, nmO x len (a + 1) u e1 ∧ ((x a ≠ 114 ∧ nmF x len e1 f) ∨ ∃ v e2, sec x len (x a) e1 v e2 ∧ bla x len e2 f ∧ ¬ (f < len ∧ x f = 59)))))
theorem or_ex (x : Nat → Int32) {len a : Nat} (ha : a < len) : (∃ l u v e, orO x len a l u v e) ∨ ∃ f, orF x len a f := by
  by_cases hl : ltr (x a)
  · rcases nm_ex x (a := a + 1) (len := len) (by omega) with ⟨u, e1, N1⟩ | ⟨f, F1⟩
    · have b1 := nmO_le N1
      have S : (∃ v e2, sec x len (x a) e1 v e2 ∧ e2 ≤ len) ∨ ∃ f, x a ≠ 114 ∧ nmF x len e1 f := by
        by_cases q : x a = 114
        · exact Or.inl ⟨0, e1, Or.inl ⟨q, rfl, rfl⟩, b1.2⟩
        · rcases nm_ex x (a := e1) (len := len) b1.2 with ⟨v, e2, N2⟩ | ⟨f, F2⟩
          · exact Or.inl ⟨v, e2, Or.inr ⟨q, N2⟩, (nmO_le N2).2⟩
          · exact Or.inr ⟨f, q, F2⟩
      rcases S with ⟨v, e2, S, l2⟩ | ⟨f, q, F2⟩
      · obtain ⟨a3, B3⟩ := bla_ex x (len := len) (len - e2) e2 (by omega)
        by_cases z : a3 < len ∧ x a3 = 59
        · obtain ⟨e, B4⟩ := bla_ex x (len := len) (len - (a3 + 1)) (a3 + 1) (by omega)
          exact Or.inl ⟨x a, u, v, e, ha, rfl, hl, e1, e2, a3, N1, S, B3, z.1, z.2, B4⟩
        · exact Or.inr ⟨a3, ha, Or.inr ⟨hl, Or.inr ⟨u, e1, N1, Or.inr ⟨v, e2, S, B3, z⟩⟩⟩⟩
      · exact Or.inr ⟨f, ha, Or.inr ⟨hl, Or.inr ⟨u, e1, N1, Or.inl ⟨q, F2⟩⟩⟩⟩
    · exact Or.inr ⟨f, ha, Or.inr ⟨hl, Or.inl F1⟩⟩
  · exact Or.inr ⟨a, ha, Or.inl ⟨hl, rfl⟩⟩
theorem orO_le {x : Nat → Int32} {len a e : Nat} {l u v : Int32} (h : orO x len a l u v e) : a + 3 ≤ e ∧ e ≤ len := by
  obtain ⟨-, -, -, e1, e2, a3, N1, S, B3, -, -, B4⟩ := h
  have b1 := nmO_le N1
  have b3 := B3.1
  have b4 := B4.1
  have b5 := B4.2.1
  have b2 : e1 ≤ e2 := by
    rcases S with ⟨-, -, q⟩ | ⟨-, q⟩
    · omega
    · have := nmO_le q; omega
  omega
/-- N orders, one behind the other -/
def chn (x : Nat → Int32) (len N : Nat) (ls us vs : Nat → Int32) (ps : Nat → Nat) : Prop := bla x len 0 (ps 0) ∧ ∀ k, k < N → orO x len (ps k) (ls k) (us k) (vs k) (ps (k + 1))
theorem chn_le {x : Nat → Int32} {len N : Nat} {ls us vs : Nat → Int32} {ps : Nat → Nat} (C : chn x len N ls us vs ps) : ∀ k, k ≤ N → 3 * k ≤ ps k ∧ ps k ≤ len := by
  intro k
  induction k with
  | zero => intro _; exact ⟨Nat.zero_le _, C.1.2.1⟩
  | succ k ih =>
    intro h
    have a := ih (by omega)
    have b := orO_le (C.2 k (by omega))
    omega
theorem chn_ex0 (x : Nat → Int32) (len : Nat) : ∀ (r N : Nat) (ls us vs : Nat → Int32) (ps : Nat → Nat), chn x len N ls us vs ps → len - ps N ≤ r → ∃ N ls us vs ps, chn x len N ls us vs ps ∧ (ps N = len ∨ ∃ f, orF x len (ps N) f) := by
  intro r
  induction r with
  | zero =>
    intro N ls us vs ps C h
    have := (chn_le C N (Nat.le_refl _)).2
    exact ⟨N, ls, us, vs, ps, C, Or.inl (by omega)⟩
  | succ r ih =>
    intro N ls us vs ps C h
    have hl := (chn_le C N (Nat.le_refl _)).2
    by_cases q : ps N = len
    · exact ⟨N, ls, us, vs, ps, C, Or.inl q⟩
    · rcases or_ex x (a := ps N) (len := len) (by omega) with ⟨l, u, v, e, O⟩ | F
      · refine ih (N + 1) (fun k => if k = N then l else ls k) (fun k => if k = N then u else us k) (fun k => if k = N then v else vs k) (fun k => if k = N + 1 then e else ps k) ⟨?_, fun k hk => ?_⟩ ?_
        · show bla x len 0 (if 0 = N + 1 then e else ps 0)
          rw [if_neg (by omega)]
          exact C.1
        · show orO x len (if k = N + 1 then e else ps k) (if k = N then l else ls k) (if k = N then u else us k) (if k = N then v else vs k) (if k + 1 = N + 1 then e else ps (k + 1))
          rw [if_neg (show ¬ k = N + 1 by omega)]
          by_cases z : k = N
          · rw [if_pos z, if_pos z, if_pos z, if_pos (by omega), z]
            exact O
          · rw [if_neg z, if_neg z, if_neg z, if_neg (by omega)]
            exact C.2 k (by omega)
        · show len - (if N + 1 = N + 1 then e else ps (N + 1)) ≤ r
          rw [if_pos rfl]
          have := orO_le O
          omega
      · exact ⟨N, ls, us, vs, ps, C, Or.inr F⟩
theorem chn_ex (x : Nat → Int32) (len : Nat) : ∃ N ls us vs ps, chn x len N ls us vs ps ∧ (ps N = len ∨ ∃ f, orF x len (ps N) f) := by
  obtain ⟨a, B⟩ := bla_ex x (len := len) len 0 (by omega)
  exact chn_ex0 x len len 0 (fun _ => 0) (fun _ => 0) (fun _ => 0) (fun _ => a) ⟨B, fun k h => absurd h (Nat.not_lt_zero _)⟩ (by omega)
