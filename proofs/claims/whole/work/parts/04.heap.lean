theorem ac_nat : Cond.native arraycopyName ∈ lw_u := by decide +kernel
theorem ac_stat : Cond.static arraycopyName ∈ lw_u := by decide +kernel
theorem ac_ini : Cond.initialized "java/lang/System" ∈ lw_u := by decide +kernel
theorem inUX1 : ∀ w ∈ wsX10, w ∈ lw_u := by decide +kernel
theorem inUX2 : ∀ w ∈ wsX20, w ∈ lw_u := by decide +kernel
theorem inUX3 : ∀ w ∈ wsX30, w ∈ lw_u := by decide +kernel
theorem inUX4 : ∀ w ∈ wsX40, w ∈ lw_u := by decide +kernel
theorem inUX5 : ∀ w ∈ wsX50, w ∈ lw_u := by decide +kernel
theorem inUX6 : ∀ w ∈ wsX60, w ∈ lw_u := by decide +kernel
theorem cls_in {c N : Nat} {C : String} {T : u_T} (hc : vcls[c]? = some (C, T, N)) : ∀ w ∈ u_ws C T N, w ∈ lw_u := by
  match c, hc with
  | 0, hc => cases hc; exact inUX1
  | 1, hc => cases hc; exact inUX2
  | 2, hc => cases hc; exact inUX3
  | 3, hc => cases hc; exact inUX4
  | 4, hc => cases hc; exact inUX5
  | 5, hc => cases hc; exact inUX6
  | k + 6, hc => simp [vcls] at hc
theorem cls_ok {c N : Nat} {C : String} {T : u_T} (hc : vcls[c]? = some (C, T, N)) : ∃ ty0 : Nat → FieldType, (∀ k, k < N → parseFieldDescriptor (T k).2.2.1 = some (ty0 k)) ∧ (∀ a, a < N → ∀ b, b < N → a ≠ b → (T a).2.1 ≠ (T b).2.1) := by
  match c, hc with
  | 0, hc => cases hc; exact ⟨tyX1, tyX1_ok, nmX1⟩
  | 1, hc => cases hc; exact ⟨tyX2, tyX2_ok, nmX2⟩
  | 2, hc => cases hc; exact ⟨tyX3, tyX3_ok, nmX3⟩
  | 3, hc => cases hc; exact ⟨tyX4, tyX4_ok, nmX4⟩
  | 4, hc => cases hc; exact ⟨tyX5, tyX5_ok, nmX5⟩
  | 5, hc => cases hc; exact ⟨tyX6, tyX6_ok, nmX6⟩
  | k + 6, hc => simp [vcls] at hc
theorem cls_lt {c N : Nat} {C : String} {T : u_T} (hc : vcls[c]? = some (C, T, N)) : c < 6 := (List.getElem?_eq_some_iff.mp hc).1
theorem celU_obj {cy : Nat → ClassId} {c n a : Nat} (hc : c < 6) (u : Nat → Int32) (w : Nat → Int64) (f : Nat → UInt32) : celU cy (c, n) a u w f = .inr (c, fl c a u w) := by
  rcases (show c = 0 ∨ c = 1 ∨ c = 2 ∨ c = 3 ∨ c = 4 ∨ c = 5 by omega) with rfl | rfl | rfl | rfl | rfl | rfl <;> rfl
def isB (x : Int32) : Prop := x = 0 ∨ x = 1
theorem isB_nar {x : Int32} (h : isB x) : narrow .boolean (.int x) = .int x := by rcases h with rfl | rfl <;> decide
theorem isB_vp {x : Int32} (h : isB x) : vp_nar .boolean x = x := by rcases h with rfl | rfl <;> decide
theorem isB_fit {x : Int32} (h : isB x) : fits .boolean (.int x) = true := by rcases h with rfl | rfl <;> decide
section EvHeap
variable {y : MethodName} {cc : ByteArray} {maxL fr lc : Nat} {ret : Option FieldType} {g : Gl} {pc : Nat} {st : List Value} {lv lv2 : List (Nat × Value)} {h h2 : Hp} {r : Option Value} {a c n : Nat}
theorem ev_get (z : Nat) {x N : Nat} {v : Value} {C : String} {T : u_T} (hkd : KD g.1 a c n) (hc : vcls[c]? = some (C, T, N)) (hk : z < N) (hv : (fl c a (h.1 a) (h.2.1 a))[z]? = some v) (hw : Cond.fieldLink y.cls x (T z).1 (T z).2.1 (T z).2.2.1 ∈ lw_u) (d : decode cc pc = .ok (.getfield x, 3)) (k : Ev y cc maxL ret fr lc g (pc + 3) (v :: st) lv h r h2) : Ev y cc maxL ret fr lc g pc (.ref a :: st) lv h r h2 := by
  intro p l e R s m args below meth co D cy A cells slots Q C hr H locs ls hP hD hS hl
  exact va_get (D := D) (ci := c) C.1 C.2.1 C.2.2.2.2.1 (cls_in hc) C.2.2.2.1 C.2.2.2.2.2.2.2.1 hP (a - (g.1.1 + g.1.2.1)) (wsO_obj hkd (cls_lt hc)) hc z hk (C.2.2.2.2.1 _ hw) (fun _ h9 => h9) hv d (k p l e R s m args below meth co D cy A cells slots Q C hr H locs ls hP hD hS hl)
theorem ev_putI (z : Nat) {x N : Nat} {v : Int32} {C : String} {T : u_T} (hkd : KD g.1 a c n) (hc : vcls[c]? = some (C, T, N)) (hk : z < N) (hf : (T z).2.2.2 = false) (hp : parseFieldDescriptor (T z).2.2.1 = some .int) (hset : fl c a (upd (h.1 a) z v) (h.2.1 a) = (fl c a (h.1 a) (h.2.1 a)).set z (.int v)) (hlen : z < (fl c a (h.1 a) (h.2.1 a)).length) (hw : Cond.fieldLink y.cls x (T z).1 (T z).2.1 (T z).2.2.1 ∈ lw_u) (d : decode cc pc = .ok (.putfield x, 3)) (k : Ev y cc maxL ret fr lc g (pc + 3) st lv (sI h a z v) r h2) : Ev y cc maxL ret fr lc g pc (.int v :: .ref a :: st) lv h r h2 := by
  intro p l e R s m args below meth co D cy A cells slots Q C hr H locs ls hP hD hS hl
  obtain ⟨ty0, o1, o2⟩ := cls_ok hc
  refine va_put (D := D) (ci := c) (v := .int v) (ty := .int) C.1 C.2.1 C.2.2.2.2.1 (cls_in hc) ty0 o1 o2 C.2.2.2.1 C.2.2.2.2.2.2.2.1 hP hD hS (a - (g.1.1 + g.1.2.1)) (wsO_obj hkd (cls_lt hc)) hc z hk (C.2.2.2.2.1 _ hw) (fun _ h9 => h9) hf hp rfl rfl hlen d (fun H locs hP hD hS => ?_)
  rw [wsO_set (h2 := sI h a z v) hkd (by show celU cy (c, n) a (ufn h.1 a (upd (h.1 a) z v) a) (h.2.1 a) (h.2.2 a) = _; rw [ufn_same, celU_obj (cls_lt hc), hset]) (sI_ne _ _ _ _)] at hP hD
  exact k p l e R s m args below meth co D cy A cells slots Q C hr H locs ls hP hD hS hl
theorem ev_putZ (z : Nat) {x N : Nat} {v : Int32} {C : String} {T : u_T} (hkd : KD g.1 a c n) (hc : vcls[c]? = some (C, T, N)) (hk : z < N) (hf : (T z).2.2.2 = false) (hp : parseFieldDescriptor (T z).2.2.1 = some .boolean) (hb : isB v) (hset : fl c a (upd (h.1 a) z v) (h.2.1 a) = (fl c a (h.1 a) (h.2.1 a)).set z (.int v)) (hlen : z < (fl c a (h.1 a) (h.2.1 a)).length) (hw : Cond.fieldLink y.cls x (T z).1 (T z).2.1 (T z).2.2.1 ∈ lw_u) (d : decode cc pc = .ok (.putfield x, 3)) (k : Ev y cc maxL ret fr lc g (pc + 3) st lv (sI h a z v) r h2) : Ev y cc maxL ret fr lc g pc (.int v :: .ref a :: st) lv h r h2 := by
  intro p l e R s m args below meth co D cy A cells slots Q C hr H locs ls hP hD hS hl
  obtain ⟨ty0, o1, o2⟩ := cls_ok hc
  refine va_put (D := D) (ci := c) (v := .int v) (ty := .boolean) C.1 C.2.1 C.2.2.2.2.1 (cls_in hc) ty0 o1 o2 C.2.2.2.1 C.2.2.2.2.2.2.2.1 hP hD hS (a - (g.1.1 + g.1.2.1)) (wsO_obj hkd (cls_lt hc)) hc z hk (C.2.2.2.2.1 _ hw) (fun _ h9 => h9) hf hp (isB_nar hb) (isB_fit hb) hlen d (fun H locs hP hD hS => ?_)
  rw [wsO_set (h2 := sI h a z v) hkd (by show celU cy (c, n) a (ufn h.1 a (upd (h.1 a) z v) a) (h.2.1 a) (h.2.2 a) = _; rw [ufn_same, celU_obj (cls_lt hc), hset]) (sI_ne _ _ _ _)] at hP hD
  exact k p l e R s m args below meth co D cy A cells slots Q C hr H locs ls hP hD hS hl
theorem ev_putL (z : Nat) {x N : Nat} {v : Int64} {C : String} {T : u_T} (hkd : KD g.1 a c n) (hc : vcls[c]? = some (C, T, N)) (hk : z < N) (hf : (T z).2.2.2 = false) (hp : parseFieldDescriptor (T z).2.2.1 = some .long) (hset : fl c a (h.1 a) (vp_updL (h.2.1 a) z v) = (fl c a (h.1 a) (h.2.1 a)).set z (.long v)) (hlen : z < (fl c a (h.1 a) (h.2.1 a)).length) (hw : Cond.fieldLink y.cls x (T z).1 (T z).2.1 (T z).2.2.1 ∈ lw_u) (d : decode cc pc = .ok (.putfield x, 3)) (k : Ev y cc maxL ret fr lc g (pc + 3) st lv (sL h a z v) r h2) : Ev y cc maxL ret fr lc g pc (.long v :: .ref a :: st) lv h r h2 := by
  intro p l e R s m args below meth co D cy A cells slots Q C hr H locs ls hP hD hS hl
  obtain ⟨ty0, o1, o2⟩ := cls_ok hc
  refine va_put (D := D) (ci := c) (v := .long v) (ty := .long) C.1 C.2.1 C.2.2.2.2.1 (cls_in hc) ty0 o1 o2 C.2.2.2.1 C.2.2.2.2.2.2.2.1 hP hD hS (a - (g.1.1 + g.1.2.1)) (wsO_obj hkd (cls_lt hc)) hc z hk (C.2.2.2.2.1 _ hw) (fun _ h9 => h9) hf hp rfl rfl hlen d (fun H locs hP hD hS => ?_)
  rw [wsO_set (h2 := sL h a z v) hkd (by show celU cy (c, n) a (h.1 a) (ufn h.2.1 a (vp_updL (h.2.1 a) z v) a) (h.2.2 a) = _; rw [ufn_same, celU_obj (cls_lt hc), hset]) (sL_ne _ _ _ _)] at hP hD
  exact k p l e R s m args below meth co D cy A cells slots Q C hr H locs ls hP hD hS hl
theorem ev_iald {i : Int32} (hkd : KD g.1 a 6 n) (hi : vp_in i n) (d : decode cc pc = .ok (.iaload, 1)) (k : Ev y cc maxL ret fr lc g (pc + 1) (.int (hI h a i.toNatClampNeg) :: st) lv h r h2) : Ev y cc maxL ret fr lc g pc (.int i :: .ref a :: st) lv h r h2 := by
  intro p l e R s m args below meth co D cy A cells slots Q C hr H locs ls hP hD hS hl
  exact va_iald (D := D) C.1 C.2.1 C.2.2.2.2.2.2.2.1 hP (a - (g.1.1 + g.1.2.1)) 0 (wsO_k hkd) rfl hi d (k p l e R s m args below meth co D cy A cells slots Q C hr H locs ls hP hD hS hl)
theorem ev_fald {i : Int32} (hkd : KD g.1 a 7 n) (hi : vp_in i n) (d : decode cc pc = .ok (.faload, 1)) (k : Ev y cc maxL ret fr lc g (pc + 1) (.float (hF h a i.toNatClampNeg) :: st) lv h r h2) : Ev y cc maxL ret fr lc g pc (.int i :: .ref a :: st) lv h r h2 := by
  intro p l e R s m args below meth co D cy A cells slots Q C hr H locs ls hP hD hS hl
  exact va_fald (D := D) C.1 C.2.1 C.2.2.2.2.2.2.2.1 hP (a - (g.1.1 + g.1.2.1)) 1 (wsO_k hkd) rfl hi d (k p l e R s m args below meth co D cy A cells slots Q C hr H locs ls hP hD hS hl)
theorem ev_lald {i : Int32} (hkd : KD g.1 a 8 n) (hi : vp_in i n) (d : decode cc pc = .ok (.laload, 1)) (k : Ev y cc maxL ret fr lc g (pc + 1) (.long (hL h a i.toNatClampNeg) :: st) lv h r h2) : Ev y cc maxL ret fr lc g pc (.int i :: .ref a :: st) lv h r h2 := by
  intro p l e R s m args below meth co D cy A cells slots Q C hr H locs ls hP hD hS hl
  exact va_lald (D := D) C.1 C.2.1 C.2.2.2.2.2.2.2.1 hP (a - (g.1.1 + g.1.2.1)) 2 (wsO_k hkd) rfl hi d (k p l e R s m args below meth co D cy A cells slots Q C hr H locs ls hP hD hS hl)
theorem ev_zald {i : Int32} (hkd : KD g.1 a 9 n) (hi : vp_in i n) (d : decode cc pc = .ok (.baload, 1)) (k : Ev y cc maxL ret fr lc g (pc + 1) (.int (hI h a i.toNatClampNeg) :: st) lv h r h2) : Ev y cc maxL ret fr lc g pc (.int i :: .ref a :: st) lv h r h2 := by
  intro p l e R s m args below meth co D cy A cells slots Q C hr H locs ls hP hD hS hl
  exact va_zald (D := D) C.1 C.2.1 C.2.2.2.2.2.2.2.1 hP (a - (g.1.1 + g.1.2.1)) 3 (wsO_k hkd) rfl hi d (k p l e R s m args below meth co D cy A cells slots Q C hr H locs ls hP hD hS hl)
theorem ev_iast {i : Int32} {v : Int32} (hkd : KD g.1 a 6 n) (hi : vp_in i n) (d : decode cc pc = .ok (.iastore, 1)) (k : Ev y cc maxL ret fr lc g (pc + 1) st lv (sI h a i.toNatClampNeg v) r h2) : Ev y cc maxL ret fr lc g pc (.int v :: .int i :: .ref a :: st) lv h r h2 := by
  intro p l e R s m args below meth co D cy A cells slots Q C hr H locs ls hP hD hS hl
  refine va_iast (D := D) C.1 C.2.1 C.2.2.2.2.2.2.2.1 hP hD hS (a - (g.1.1 + g.1.2.1)) 0 (wsO_k hkd) rfl hi d (fun H locs hP hD hS => ?_)
  rw [wsO_set (h2 := sI h a i.toNatClampNeg v) hkd (by show celU cy (6, n) a (ufn h.1 a _ a) _ _ = _; rw [ufn_same]; rfl) (sI_ne _ _ _ _)] at hP hD
  exact k p l e R s m args below meth co D cy A cells slots Q C hr H locs ls hP hD hS hl
theorem ev_fast {i : Int32} {v : UInt32} (hkd : KD g.1 a 7 n) (hi : vp_in i n) (d : decode cc pc = .ok (.fastore, 1)) (k : Ev y cc maxL ret fr lc g (pc + 1) st lv (sF h a i.toNatClampNeg v) r h2) : Ev y cc maxL ret fr lc g pc (.float v :: .int i :: .ref a :: st) lv h r h2 := by
  intro p l e R s m args below meth co D cy A cells slots Q C hr H locs ls hP hD hS hl
  refine va_fast (D := D) C.1 C.2.1 C.2.2.2.2.2.2.2.1 hP hD hS (a - (g.1.1 + g.1.2.1)) 1 (wsO_k hkd) rfl hi d (fun H locs hP hD hS => ?_)
  rw [wsO_set (h2 := sF h a i.toNatClampNeg v) hkd (by show celU cy (7, n) a _ _ (ufn h.2.2 a _ a) = _; rw [ufn_same]; rfl) (sF_ne _ _ _ _)] at hP hD
  exact k p l e R s m args below meth co D cy A cells slots Q C hr H locs ls hP hD hS hl
theorem ev_last {i : Int32} {v : Int64} (hkd : KD g.1 a 8 n) (hi : vp_in i n) (d : decode cc pc = .ok (.lastore, 1)) (k : Ev y cc maxL ret fr lc g (pc + 1) st lv (sL h a i.toNatClampNeg v) r h2) : Ev y cc maxL ret fr lc g pc (.long v :: .int i :: .ref a :: st) lv h r h2 := by
  intro p l e R s m args below meth co D cy A cells slots Q C hr H locs ls hP hD hS hl
  refine va_last (D := D) C.1 C.2.1 C.2.2.2.2.2.2.2.1 hP hD hS (a - (g.1.1 + g.1.2.1)) 2 (wsO_k hkd) rfl hi d (fun H locs hP hD hS => ?_)
  rw [wsO_set (h2 := sL h a i.toNatClampNeg v) hkd (by show celU cy (8, n) a _ (ufn h.2.1 a _ a) _ = _; rw [ufn_same]; rfl) (sL_ne _ _ _ _)] at hP hD
  exact k p l e R s m args below meth co D cy A cells slots Q C hr H locs ls hP hD hS hl
theorem ev_zast {i : Int32} {v : Int32} (hkd : KD g.1 a 9 n) (hi : vp_in i n) (hb : isB v) (d : decode cc pc = .ok (.bastore, 1)) (k : Ev y cc maxL ret fr lc g (pc + 1) st lv (sI h a i.toNatClampNeg v) r h2) : Ev y cc maxL ret fr lc g pc (.int v :: .int i :: .ref a :: st) lv h r h2 := by
  intro p l e R s m args below meth co D cy A cells slots Q C hr H locs ls hP hD hS hl
  refine va_zast (D := D) C.1 C.2.1 C.2.2.2.2.2.2.2.1 hP hD hS (a - (g.1.1 + g.1.2.1)) 3 (wsO_k hkd) rfl hi d (fun H locs hP hD hS => ?_)
  rw [isB_vp hb] at hP hD
  rw [wsO_set (h2 := sI h a i.toNatClampNeg v) hkd (by show celU cy (9, n) a (ufn h.1 a _ a) _ _ = _; rw [ufn_same]; rfl) (sI_ne _ _ _ _)] at hP hD
  exact k p l e R s m args below meth co D cy A cells slots Q C hr H locs ls hP hD hS hl
theorem ev_aaldP {i : Int32} (hkd : KD g.1 a 10 n) (hi : vp_in i n) (d : decode cc pc = .ok (.aaload, 1)) (k : Ev y cc maxL ret fr lc g (pc + 1) (.ref (a + 1 + 4 * i.toNatClampNeg) :: st) lv h r h2) : Ev y cc maxL ret fr lc g pc (.int i :: .ref a :: st) lv h r h2 := by
  intro p l e R s m args below meth co D cy A cells slots Q C hr H locs ls hP hD hS hl
  exact va_aldq (D := D) (C := "PieceSwarm$Peer") C.1 C.2.1 C.2.2.2.2.2.2.2.1 hP (a - (g.1.1 + g.1.2.1)) 4 (wsO_k hkd) rfl hi d (k p l e R s m args below meth co D cy A cells slots Q C hr H locs ls hP hD hS hl)
theorem ev_aaldS {i : Int32} (hkd : KD g.1 a 11 n) (hi : vp_in i n) (d : decode cc pc = .ok (.aaload, 1)) (k : Ev y cc maxL ret fr lc g (pc + 1) (.ref (a + 1 + 27 * i.toNatClampNeg) :: st) lv h r h2) : Ev y cc maxL ret fr lc g pc (.int i :: .ref a :: st) lv h r h2 := by
  intro p l e R s m args below meth co D cy A cells slots Q C hr H locs ls hP hD hS hl
  exact va_aldq (D := D) (C := "PieceSwarm$Swarm") C.1 C.2.1 C.2.2.2.2.2.2.2.1 hP (a - (g.1.1 + g.1.2.1)) 5 (wsO_k hkd) rfl hi d (k p l e R s m args below meth co D cy A cells slots Q C hr H locs ls hP hD hS hl)
theorem ev_alenI {v : Int32} (hkd : KD g.1 a 6 n) (hv : Int32.ofNat n = v) (d : decode cc pc = .ok (.arraylength, 1)) (k : Ev y cc maxL ret fr lc g (pc + 1) (.int v :: st) lv h r h2) : Ev y cc maxL ret fr lc g pc (.ref a :: st) lv h r h2 := by
  intro p l e R s m args below meth co D cy A cells slots Q C hr H locs ls hP hD hS hl
  exact va_alen (D := D) C.1 C.2.1 C.2.2.2.2.2.2.2.1 hP (a - (g.1.1 + g.1.2.1)) 0 (wsO_k hkd) rfl hv d (k p l e R s m args below meth co D cy A cells slots Q C hr H locs ls hP hD hS hl)
theorem ev_alenF {v : Int32} (hkd : KD g.1 a 7 n) (hv : Int32.ofNat n = v) (d : decode cc pc = .ok (.arraylength, 1)) (k : Ev y cc maxL ret fr lc g (pc + 1) (.int v :: st) lv h r h2) : Ev y cc maxL ret fr lc g pc (.ref a :: st) lv h r h2 := by
  intro p l e R s m args below meth co D cy A cells slots Q C hr H locs ls hP hD hS hl
  exact va_alen (D := D) C.1 C.2.1 C.2.2.2.2.2.2.2.1 hP (a - (g.1.1 + g.1.2.1)) 1 (wsO_k hkd) rfl hv d (k p l e R s m args below meth co D cy A cells slots Q C hr H locs ls hP hD hS hl)
theorem ev_tabld {i : Int32} (z : Nat) (hz : z < 4) (hi : vp_in i (tbN g z)) (d : decode cc pc = .ok (.iaload, 1)) (k : Ev y cc maxL ret fr lc g (pc + 1) (.int (tbF g z i.toNatClampNeg) :: st) lv h r h2) : Ev y cc maxL ret fr lc g pc (.int i :: .ref (g.2.1 z) :: st) lv h r h2 := by
  intro p l e R s m args below meth co D cy A cells slots Q C hr H locs ls hP hD hS hl
  exact va_ti C.1 C.2.1 (C.2.2.2.2.2.2.2.2.1.1 z hz) hS hi rfl d (k p l e R s m args below meth co D cy A cells slots Q C hr H locs ls hP hD hS hl)
theorem ev_tablen (z : Nat) {v : Int32} (hz : z < 4) (hv : Int32.ofNat (tbN g z) = v) (d : decode cc pc = .ok (.arraylength, 1)) (k : Ev y cc maxL ret fr lc g (pc + 1) (.int v :: st) lv h r h2) : Ev y cc maxL ret fr lc g pc (.ref (g.2.1 z) :: st) lv h r h2 := by
  intro p l e R s m args below meth co D cy A cells slots Q C hr H locs ls hP hD hS hl
  exact va_tlen C.1 C.2.1 (C.2.2.2.2.2.2.2.2.1.1 z hz) hS hv d (k p l e R s m args below meth co D cy A cells slots Q C hr H locs ls hP hD hS hl)
theorem ev_gets (z : Nat) {x : Nat} (hz : z < 3) (hx : saI z = x) (hy : y.cls = "PieceSwarm$Swarm") (d : decode cc pc = .ok (.getstatic x, 3)) (k : Ev y cc maxL ret fr lc g (pc + 3) (.ref (g.2.1 z) :: st) lv h r h2) : Ev y cc maxL ret fr lc g pc st lv h r h2 := by
  intro p l e R s m args below meth co D cy A cells slots Q C hr H locs ls hP hD hS hl
  subst hx
  have hZ := C.2.2.2.2.2.2.2.2.1.2 z hz
  exact va_getsN (own := "PieceSwarm$Swarm") (host := "PieceSwarm") C.1 C.2.1 hZ.1 hS (by rw [← hy]; exact C.2.2.2.1) (hZ.2.use rfl) (fun _ h9 => h9) d (k p l e R s m args below meth co D cy A cells slots Q C hr H locs ls hP hD hS hl)
theorem ev_copyI {a0 x : Nat} (hk0 : KD g.1 a0 6 n) (hkd : KD g.1 a 6 n) (hn : n < 2 ^ 31) (hfr : 1 ≤ fr) (hlc : (st.map fun v => v.category).sum + (nativeFrameWords "java/lang/System" "arraycopy" 5 + 11) ≤ lc) (hw : Cond.methodLink y.cls x arraycopyName ∈ lw_u) (d : decode cc pc = .ok (.invokestatic x, 3)) (k : Ev y cc maxL ret fr lc g (pc + 3) st lv (cpI h a0 a n) r h2) : Ev y cc maxL ret fr lc g pc (.int (nI n) :: .int 0 :: .ref a :: .int 0 :: .ref a0 :: st) lv h r h2 := by
  intro p l e R s m args below meth co D cy A cells slots Q C hr H locs ls hP hD hS hl
  have hz : ((0 : Int32)).toNatClampNeg = 0 := rfl
  have hnn : (nI n).toNatClampNeg = n := nI_clamp hn
  refine va_copyi (D := D) C.1 C.2.1 (C.2.2.1.trans hl.1.symm) C.2.2.2.1 (C.2.2.2.2.1 _ hw) (C.2.2.2.2.1 _ ac_nat) (C.2.2.2.2.1 _ ac_stat) (C.2.2.2.2.1 _ ac_ini) C.2.2.2.2.2.2.2.1 hP hD hS (a0 - (g.1.1 + g.1.2.1)) (a - (g.1.1 + g.1.2.1)) 0 0 (wsO_k hk0) (wsO_k hkd) rfl rfl rfl (by decide) (by decide) (nI_pos hn) (by rw [hz, hnn]; exact Nat.le_of_eq (Nat.zero_add n)) (by rw [hz, hnn]; exact Nat.le_of_eq (Nat.zero_add n)) (fun _ _ => rfl) (Nat.le_trans hfr C.2.2.2.2.2.1.1) (Nat.le_trans hlc C.2.2.2.2.2.1.2) d (fun H locs hP hD hS => ?_)
  rw [wsO_set (h2 := cpI h a0 a n) hkd (by show celU cy (6, n) a (ufn h.1 a _ a) _ _ = _; rw [ufn_same, hnn]; rfl) (cpI_ne _ _ _ _)] at hP hD
  exact k p l e R s m args below meth co D cy A cells slots Q C hr H locs ls hP hD hS hl
theorem ev_copyF {a0 x : Nat} (hk0 : KD g.1 a0 7 n) (hkd : KD g.1 a 7 n) (hn : n < 2 ^ 31) (hfr : 1 ≤ fr) (hlc : (st.map fun v => v.category).sum + (nativeFrameWords "java/lang/System" "arraycopy" 5 + 11) ≤ lc) (hw : Cond.methodLink y.cls x arraycopyName ∈ lw_u) (d : decode cc pc = .ok (.invokestatic x, 3)) (k : Ev y cc maxL ret fr lc g (pc + 3) st lv (cpF h a0 a n) r h2) : Ev y cc maxL ret fr lc g pc (.int (nI n) :: .int 0 :: .ref a :: .int 0 :: .ref a0 :: st) lv h r h2 := by
  intro p l e R s m args below meth co D cy A cells slots Q C hr H locs ls hP hD hS hl
  have hz : ((0 : Int32)).toNatClampNeg = 0 := rfl
  have hnn : (nI n).toNatClampNeg = n := nI_clamp hn
  refine va_copyf (D := D) C.1 C.2.1 (C.2.2.1.trans hl.1.symm) C.2.2.2.1 (C.2.2.2.2.1 _ hw) (C.2.2.2.2.1 _ ac_nat) (C.2.2.2.2.1 _ ac_stat) (C.2.2.2.2.1 _ ac_ini) C.2.2.2.2.2.2.2.1 hP hD hS (a0 - (g.1.1 + g.1.2.1)) (a - (g.1.1 + g.1.2.1)) 1 1 (wsO_k hk0) (wsO_k hkd) rfl rfl rfl (by decide) (by decide) (nI_pos hn) (by rw [hz, hnn]; exact Nat.le_of_eq (Nat.zero_add n)) (by rw [hz, hnn]; exact Nat.le_of_eq (Nat.zero_add n)) (fun _ _ => rfl) (Nat.le_trans hfr C.2.2.2.2.2.1.1) (Nat.le_trans hlc C.2.2.2.2.2.1.2) d (fun H locs hP hD hS => ?_)
  rw [wsO_set (h2 := cpF h a0 a n) hkd (by show celU cy (7, n) a _ _ (ufn h.2.2 a _ a) = _; rw [ufn_same, hnn]; rfl) (cpF_ne _ _ _ _)] at hP hD
  exact k p l e R s m args below meth co D cy A cells slots Q C hr H locs ls hP hD hS hl
end EvHeap
