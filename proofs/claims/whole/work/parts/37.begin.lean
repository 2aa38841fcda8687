theorem tab_0 {b : Nat} {s : State} {A : Nat → Prop} (hgv : (Jvm.Cond.and given_1 narrow_1).before #[Value.ref b] s = true) (hA : ∀ a : Nat, a < s.heap.size → ¬ A a) : ∃ t : Nat, (Term.static "PieceSwarm" "FIRST_SETTING" "[I").eval #[Value.ref b] s none [] s = some (.ref t) ∧ va_T .int t 4 (fun j => .int (sa 0 j)) A s s.heap := by
  have hs := flat_of_before _ hgv
  refine va_Tof (by decide) (hs _ (by decide +kernel)) (va_eqt (z := 4) (hs (.eq (.length (.static "PieceSwarm" "FIRST_SETTING" "[I")) (.int 4)) (by decide +kernel))) (fun j hj => ?_) hA
  rcases (show j = 0 ∨ j = 1 ∨ j = 2 ∨ j = 3 by omega) with rfl | rfl | rfl | rfl
  · exact va_eqt (z := 2) (hs (.eq (.elem (.static "PieceSwarm" "FIRST_SETTING" "[I") (.int 0)) (.int 2)) (by decide +kernel))
  · exact va_eqt (z := 5) (hs (.eq (.elem (.static "PieceSwarm" "FIRST_SETTING" "[I") (.int 1)) (.int 5)) (by decide +kernel))
  · exact va_eqt (z := 2) (hs (.eq (.elem (.static "PieceSwarm" "FIRST_SETTING" "[I") (.int 2)) (.int 2)) (by decide +kernel))
  · exact va_eqt (z := 3) (hs (.eq (.elem (.static "PieceSwarm" "FIRST_SETTING" "[I") (.int 3)) (.int 3)) (by decide +kernel))
theorem tab_1 {b : Nat} {s : State} {A : Nat → Prop} (hgv : (Jvm.Cond.and given_1 narrow_1).before #[Value.ref b] s = true) (hA : ∀ a : Nat, a < s.heap.size → ¬ A a) : ∃ t : Nat, (Term.static "PieceSwarm" "LEAST_SETTING" "[I").eval #[Value.ref b] s none [] s = some (.ref t) ∧ va_T .int t 4 (fun j => .int (sa 1 j)) A s s.heap := by
  have hs := flat_of_before _ hgv
  refine va_Tof (by decide) (hs _ (by decide +kernel)) (va_eqt (z := 4) (hs (.eq (.length (.static "PieceSwarm" "LEAST_SETTING" "[I")) (.int 4)) (by decide +kernel))) (fun j hj => ?_) hA
  rcases (show j = 0 ∨ j = 1 ∨ j = 2 ∨ j = 3 by omega) with rfl | rfl | rfl | rfl
  · exact va_eqt (z := 1) (hs (.eq (.elem (.static "PieceSwarm" "LEAST_SETTING" "[I") (.int 0)) (.int 1)) (by decide +kernel))
  · exact va_eqt (z := 0) (hs (.eq (.elem (.static "PieceSwarm" "LEAST_SETTING" "[I") (.int 1)) (.int 0)) (by decide +kernel))
  · exact va_eqt (z := 0) (hs (.eq (.elem (.static "PieceSwarm" "LEAST_SETTING" "[I") (.int 2)) (.int 0)) (by decide +kernel))
  · exact va_eqt (z := 1) (hs (.eq (.elem (.static "PieceSwarm" "LEAST_SETTING" "[I") (.int 3)) (.int 1)) (by decide +kernel))
theorem tab_2 {b : Nat} {s : State} {A : Nat → Prop} (hgv : (Jvm.Cond.and given_1 narrow_1).before #[Value.ref b] s = true) (hA : ∀ a : Nat, a < s.heap.size → ¬ A a) : ∃ t : Nat, (Term.static "PieceSwarm" "MOST_SETTING" "[I").eval #[Value.ref b] s none [] s = some (.ref t) ∧ va_T .int t 4 (fun j => .int (sa 2 j)) A s s.heap := by
  have hs := flat_of_before _ hgv
  refine va_Tof (by decide) (hs _ (by decide +kernel)) (va_eqt (z := 4) (hs (.eq (.length (.static "PieceSwarm" "MOST_SETTING" "[I")) (.int 4)) (by decide +kernel))) (fun j hj => ?_) hA
  rcases (show j = 0 ∨ j = 1 ∨ j = 2 ∨ j = 3 by omega) with rfl | rfl | rfl | rfl
  · exact va_eqt (z := 4) (hs (.eq (.elem (.static "PieceSwarm" "MOST_SETTING" "[I") (.int 0)) (.int 4)) (by decide +kernel))
  · exact va_eqt (z := 9) (hs (.eq (.elem (.static "PieceSwarm" "MOST_SETTING" "[I") (.int 1)) (.int 9)) (by decide +kernel))
  · exact va_eqt (z := 8) (hs (.eq (.elem (.static "PieceSwarm" "MOST_SETTING" "[I") (.int 2)) (.int 8)) (by decide +kernel))
  · exact va_eqt (z := 9) (hs (.eq (.elem (.static "PieceSwarm" "MOST_SETTING" "[I") (.int 3)) (.int 9)) (by decide +kernel))
theorem tys_prim {s : State} {args : Array Value} {ty : FieldType} (h : (Cond.arrayClass ty).before args s = true) : ∃ cA : ClassId, ArrOfT s cA ty ∧ s.vm.findClass ("[" ++ ty.toString) = some cA := by
  obtain ⟨c, k, comp, h1, h2, h3⟩ := Cond.arrayClass_spec h
  exact ⟨c, fun N z => ⟨(fun k h => by cases h), k, h2, comp, h3⟩, h1⟩
theorem tys_obj {s : State} {C : String} (h : va_AO C s) : ∃ cA : ClassId, ArrOfT s cA (.object C) ∧ va_RA s cA (.object C) := by
  obtain ⟨comp, c, k, h1, -, h3, h4, h5⟩ := Cond.arrayOver_spec h
  exact ⟨c, fun N z => ⟨(fun k h => by cases h), k, h3, comp, h4⟩, k, comp, h3, h4, h1, h5⟩
def clsD (c0 c1 c2 c3 c4 c5 : ClassId) (k : Nat) : ClassId := match k with
  | 0 => c0
  | 1 => c1
  | 2 => c2
  | 3 => c3
  | 4 => c4
  | _ => c5
def slD (c0 c1 c2 c3 c4 c5 : Nat → Nat) (k : Nat) : Nat → Nat := match k with
  | 0 => c0
  | 1 => c1
  | 2 => c2
  | 3 => c3
  | 4 => c4
  | _ => c5
set_option maxRecDepth 100000 in
set_option maxHeartbeats 4000000 in
theorem start_K {s : State} {args : Array Value} (hts : ∀ w ∈ lw_tbl, w.before args s = true) : ∃ (D : va_G) (cy : Nat → ClassId), va_K D vcls (tysO cy) s ∧ va_AO "PieceSwarm$Peer" s ∧ va_AO "PieceSwarm$Swarm" s := by
  obtain ⟨c0, i0, k0⟩ := u_known (C := RX1) (T := TX1) (N := 12) (n := 12) hts inX1 (hts (.instantiable "PieceSwarm$Peer" 12) (List.mem_append_right _ (List.mem_of_getElem? (i := 30) (by decide +kernel))))
  obtain ⟨c1, i1, k1⟩ := u_known (C := RX2) (T := TX2) (N := 4) (n := 4) hts inX2 (hts (.instantiable "PieceSwarm$Round" 4) (List.mem_append_right _ (List.mem_of_getElem? (i := 159) (by decide +kernel))))
  obtain ⟨c2, i2, k2⟩ := u_known (C := RX3) (T := TX3) (N := 12) (n := 12) hts inX3 (hts (.instantiable "PieceSwarm$Swarm" 12) (List.mem_append_right _ (List.mem_of_getElem? (i := 21) (by decide +kernel))))
  obtain ⟨c3, i3, k3⟩ := u_known (C := RX4) (T := TX4) (N := 9) (n := 9) hts inX4 (hts (.instantiable "PieceSwarm$Text" 9) (List.mem_append_right _ (List.mem_of_getElem? (i := 178) (by decide +kernel))))
  obtain ⟨c4, i4, k4⟩ := u_known (C := RX5) (T := TX5) (N := 9) (n := 9) hts inX5 (hts (.instantiable "PieceSwarm" 9) (List.mem_append_right _ (List.mem_of_getElem? (i := 13) (by decide +kernel))))
  obtain ⟨c5, i5, k5⟩ := u_known (C := RX6) (T := TX6) (N := 16) (n := 16) hts inX6 (hts (.instantiable "PieceSwarmModel" 16) (List.mem_append_right _ (List.mem_of_getElem? (i := 597) (by decide +kernel))))
  have o1 : va_AO "PieceSwarm$Peer" s := va_AO.of (hts (.arrayOver (.object "PieceSwarm$Peer")) (List.mem_append_right _ (List.mem_of_getElem? (i := 29) (by decide +kernel))))
  have o2 : va_AO "PieceSwarm$Swarm" s := va_AO.of (hts (.arrayOver (.object "PieceSwarm$Swarm")) (List.mem_append_right _ (List.mem_of_getElem? (i := 157) (by decide +kernel))))
  obtain ⟨a0, p0, q0⟩ := tys_prim (hts _ (inUt ar_int))
  obtain ⟨a1, p1, q1⟩ := tys_prim (hts _ (inUt ar_float))
  obtain ⟨a2, p2, q2⟩ := tys_prim (hts _ (inUt ar_long))
  obtain ⟨a3, p3, q3⟩ := tys_prim (hts _ (inUt ar_bool))
  obtain ⟨a4, p4, q4⟩ := tys_obj o1
  obtain ⟨a5, p5, q5⟩ := tys_obj o2
  refine ⟨(clsD c0 c1 c2 c3 c4 c5, slD i0 i1 i2 i3 i4 i5), clsD a0 a1 a2 a3 a4 a5, ⟨?_, ?_⟩, o1, o2⟩
  · intro k q hq
    match k, hq with
    | 0, hq => cases hq; exact k0
    | 1, hq => cases hq; exact k1
    | 2, hq => cases hq; exact k2
    | 3, hq => cases hq; exact k3
    | 4, hq => cases hq; exact k4
    | 5, hq => cases hq; exact k5
    | k + 6, hq => simp [vcls] at hq
  · intro k q hq
    match k, hq with
    | 0, hq => cases hq; exact ⟨p0, q0⟩
    | 1, hq => cases hq; exact ⟨p1, q1⟩
    | 2, hq => cases hq; exact ⟨p2, q2⟩
    | 3, hq => cases hq; exact ⟨p3, q3⟩
    | 4, hq => cases hq; exact ⟨p4, q4⟩
    | 5, hq => cases hq; exact ⟨p5, q5⟩
    | k + 6, hq => simp [tysO] at hq
def tb4 (a b c d k : Nat) : Nat := match k with
  | 0 => a
  | 1 => b
  | 2 => c
  | _ => d
set_option maxRecDepth 100000 in
set_option maxHeartbeats 4000000 in
theorem start_St {b L : Nat} {xs : Nat → Int32} {s : State} (hts : ∀ w ∈ lw_tbl, w.before #[Value.ref b] s = true) (hX : va_X b L xs s s.heap) (hbl : b < s.heap.size) (hL : L ≤ 2048) (hgv : (Jvm.Cond.and given_1 narrow_1).before #[Value.ref b] s = true) : ∃ tabs : Nat → Nat, tabs 3 = b ∧ ∀ ob : Ob, St (ob, tabs, L, xs) (fun q => s.heap.size ≤ q) s := by
  have hA : ∀ a : Nat, a < s.heap.size → ¬ (fun q : Nat => s.heap.size ≤ q) a := fun a h => Nat.not_le.mpr h
  obtain ⟨t0, u0, v0⟩ := tab_0 hgv hA
  obtain ⟨t1, u1, v1⟩ := tab_1 hgv hA
  obtain ⟨t2, u2, v2⟩ := tab_2 hgv hA
  have v3 : va_T .int b L (fun j => .int (xs j)) (fun q => s.heap.size ≤ q) s s.heap := by
    obtain ⟨scr, h1, h2, h3, h4, h5⟩ := hX
    exact ⟨scr, h1, h2, h3, Nat.le_of_eq h4.symm, by rw [h4], h5, hA b hbl⟩
  refine ⟨tb4 t0 t1 t2 b, rfl, fun ob => ⟨fun k hk => ?_, fun k hk => ?_⟩⟩
  · rcases (show k = 0 ∨ k = 1 ∨ k = 2 ∨ k = 3 by omega) with rfl | rfl | rfl | rfl
    · exact v0
    · exact v1
    · exact v2
    · exact v3
  · have hi : (Cond.initialized "PieceSwarm").before #[Value.ref b] s = true := hts _ (List.mem_append_right _ (List.mem_of_getElem? (i := 1) (by decide +kernel)))
    rcases (show k = 0 ∨ k = 1 ∨ k = 2 by omega) with rfl | rfl | rfl
    · exact ⟨va_Zof (hts _ (List.mem_append_right _ (List.mem_of_getElem? (i := 27) (by decide +kernel)))) hi u0 hA, va_Nw.of rfl (hts (.fieldLinkNest "PieceSwarm$Swarm" 9 "PieceSwarm" "FIRST_SETTING" "[I" "PieceSwarm") (List.mem_append_right _ (List.mem_of_getElem? (i := 26) (by decide +kernel))))⟩
    · exact ⟨va_Zof (hts _ (List.mem_append_right _ (List.mem_of_getElem? (i := 328) (by decide +kernel)))) hi u1 hA, va_Nw.of rfl (hts (.fieldLinkNest "PieceSwarm$Swarm" 100 "PieceSwarm" "LEAST_SETTING" "[I" "PieceSwarm") (List.mem_append_right _ (List.mem_of_getElem? (i := 327) (by decide +kernel))))⟩
    · exact ⟨va_Zof (hts _ (List.mem_append_right _ (List.mem_of_getElem? (i := 330) (by decide +kernel)))) hi u2 hA, va_Nw.of rfl (hts (.fieldLinkNest "PieceSwarm$Swarm" 103 "PieceSwarm" "MOST_SETTING" "[I" "PieceSwarm") (List.mem_append_right _ (List.mem_of_getElem? (i := 329) (by decide +kernel))))⟩
