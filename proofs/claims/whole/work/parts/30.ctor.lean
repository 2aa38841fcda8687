/-! THE CONSTRUCTORS: a window of cells that grows; all that they make lies in a row, from b on. -/
def wsN (b : Nat) (E : Nat → va_E) (n : Nat) : va_W := (List.range n).map (fun k => (b + k, E k))
theorem wsN_at {b n k : Nat} {E : Nat → va_E} (h : k < n) : (wsN b E n)[k]? = some (b + k, E k) := by
  unfold wsN
  rw [List.getElem?_map, List.getElem?_range h]; rfl
theorem wsN_none {b n k : Nat} {E : Nat → va_E} (h : n ≤ k) : (wsN b E n)[k]? = none := by
  unfold wsN
  rw [List.getElem?_map, List.getElem?_eq_none (by rw [List.length_range]; exact h)]; rfl
theorem wsN_len (b n : Nat) (E : Nat → va_E) : (wsN b E n).length = n := by unfold wsN; rw [List.length_map, List.length_range]
theorem wsN_lt {b n k : Nat} {E : Nat → va_E} {q : Nat × va_E} (h : (wsN b E n)[k]? = some q) : k < n ∧ q = (b + k, E k) := by
  by_cases hk : k < n
  · rw [wsN_at hk] at h; exact ⟨hk, (Option.some.inj h).symm⟩
  · rw [wsN_none (by omega)] at h; cases h
theorem wsN_ext {b n : Nat} {E F : Nat → va_E} (h : ∀ k, k < n → E k = F k) : wsN b E n = wsN b F n := by
  apply List.ext_getElem?
  intro i
  by_cases hi : i < n
  · rw [wsN_at hi, wsN_at hi, h i hi]
  · rw [wsN_none (by omega), wsN_none (by omega)]
theorem wsN_push {b n : Nat} {E : Nat → va_E} (e : va_E) : wsN b E n ++ [(b + n, e)] = wsN b (ufn E n e) (n + 1) := by
  apply List.ext_getElem?
  intro i
  by_cases hi : i < n
  · rw [List.getElem?_append_left (by rw [wsN_len]; exact hi), wsN_at hi, wsN_at (by omega), ufn_ne _ _ (by omega)]
  · by_cases h2 : i = n
    · subst h2
      rw [List.getElem?_append_right (by rw [wsN_len]; exact Nat.le_refl _), wsN_len, Nat.sub_self, wsN_at (by omega), ufn_same]; rfl
    · rw [wsN_none (by omega), List.getElem?_eq_none]
      rw [List.length_append, wsN_len]; show n + 1 ≤ i; omega
theorem wsN_set {b n k : Nat} {E : Nat → va_E} {e : va_E} (h : k < n) : (wsN b E n).set k (b + k, e) = wsN b (ufn E k e) n := by
  apply List.ext_getElem?
  intro i
  by_cases hi : i = k
  · subst hi
    rw [List.getElem?_set_self (by rw [wsN_len]; exact h), wsN_at h, ufn_same]
  · rw [List.getElem?_set_ne (Ne.symm hi)]
    by_cases h2 : i < n
    · rw [wsN_at h2, wsN_at h2, ufn_ne _ _ hi]
    · rw [wsN_none (by omega), wsN_none (by omega)]
theorem wsN_D {b n : Nat} {E : Nat → va_E} {A : Nat → Prop} (hA : ∀ q, b ≤ q → A q) : va_D A (wsN b E n) := by
  refine ⟨fun i j p q hi hj e => ?_, fun k q hk => ?_⟩
  · obtain ⟨-, rfl⟩ := wsN_lt hi
    obtain ⟨-, rfl⟩ := wsN_lt hj
    have : b + i = b + j := e
    omega
  · obtain ⟨-, rfl⟩ := wsN_lt hk
    exact hA _ (by show b ≤ b + k; omega)
theorem wsN_O {o k0 n : Nat} {cy : Nat → ClassId} {h : Hp} : wsO cy h (o, k0, k0 + n) = wsN (o + k0) (fun k => cel cy h o (o + k0 + k)) n := by
  unfold wsO wsN
  show (List.range (k0 + n - k0)).map _ = _
  rw [Nat.add_sub_cancel_left]
/-- the first n cells as they are, then others -/
def apE (n : Nat) (E F : Nat → va_E) : Nat → va_E := fun k => if k < n then E k else F (k - n)
theorem wsN_app {D : va_G} {b n m : Nat} {E F : Nat → va_E} {H : Heap} (h1 : va_P D vcls (wsN b E n) H) (h2 : va_P D vcls (wsN (b + n) F m) H) : va_P D vcls (wsN b (apE n E F) (n + m)) H := by
  intro k q hk
  obtain ⟨hlt, rfl⟩ := wsN_lt hk
  unfold apE
  by_cases hi : k < n
  · rw [if_pos hi]; exact h1 k _ (wsN_at hi)
  · rw [if_neg hi]
    have := h2 (k - n) _ (wsN_at (by omega))
    rw [show b + n + (k - n) = b + k by omega] at this
    exact this
theorem wsN_take {D : va_G} {b n m : Nat} {E : Nat → va_E} {H : Heap} (h : va_P D vcls (wsN b E n) H) (hm : m ≤ n) : va_P D vcls (wsN b E m) H := by
  intro k q hk
  obtain ⟨hlt, rfl⟩ := wsN_lt hk
  exact h k _ (wsN_at (by omega))
theorem wsN_drop {D : va_G} {b n m : Nat} {E : Nat → va_E} {H : Heap} (h : va_P D vcls (wsN b E (m + n)) H) : va_P D vcls (wsN (b + m) (fun k => E (m + k)) n) H := by
  intro k q hk
  obtain ⟨hlt, rfl⟩ := wsN_lt hk
  have := h (m + k) _ (wsN_at (by omega))
  rw [show b + (m + k) = b + m + k by omega] at this
  exact this
def CxN (y : MethodName) (cc : ByteArray) (maxL fr lc : Nat) (g : Gl) (D : va_G) (cy : Nat → ClassId) (A : Nat → Prop) (p : Program) (R : Room) (s : State) (m : MethodId) (args : Array Value) (c : Code) (mc ms b : Nat) : Prop :=
  Cx y cc maxL fr lc g D cy A p R s m args c mc ms ∧ va_AO "PieceSwarm$Peer" s ∧ va_AO "PieceSwarm$Swarm" s ∧ (∀ q, b ≤ q → A q) ∧ s.heap.size ≤ b + 1
theorem w_sized {p : Program} {l : Launch} {e : Env} {R : Room} {s : State} {m : MethodId} {args : Array Value} {below : List Frame} {meth : Method} {c : Code} {H : Heap} {locs : List Loc} {cells slots : Nat} {Q : State → Prop} {f : JFrame} (h : H.size ≤ s.heap.size + cells → W p l e R s m args below meth c H locs cells slots Q f) : W p l e R s m args below meth c H locs cells slots Q f := by
  intro T hT X
  exact h (by rw [← hT]; exact X.same.2.2.1) T hT X
/-- as Ev, of a constructor: c0 cells of s0 places are made so far; the object that is made lies at b, the rest behind it -/
def EvN (y : MethodName) (cc : ByteArray) (maxL fr lc : Nat) (g : Gl) (cy : Nat → ClassId) (b pc : Nat) (st : List Value) (lv : List (Nat × Value)) (E : Nat → va_E) (c0 s0 : Nat) (E2 : Nat → va_E) (mc ms : Nat) : Prop :=
  ∀ (p : Program) (l : Launch) (e : Env) (R : Room) (s : State) (m : MethodId) (args : Array Value) (below : List Frame) (meth : Method) (c : Code) (D : va_G) (A : Nat → Prop) (Q : State → Prop),
    CxN y cc maxL fr lc g D cy A p R s m args c mc ms b → meth.name = "<init>" →
    (∀ (H1 : Heap) (locs1 : List Loc) (ls1 : Array Slot) (pc1 : Nat), decode cc pc1 = .ok (.return_, 1) → va_P D vcls (wsN b E2 (mc + 1)) H1 → va_S A s.heap H1 locs1 → W p l e R s m args below meth c H1 locs1 mc ms Q (F0 m pc1 ls1 [])) →
    ∀ (H : Heap) (locs : List Loc) (ls : Array Slot), va_P D vcls (wsN b E (c0 + 1)) H → va_S A s.heap H locs → lv_has ls maxL lv →
      W p l e R s m args below meth c H locs c0 s0 Q (F0 m pc ls st)
theorem wsN_size {D : va_G} {b n : Nat} {E : Nat → va_E} {H : Heap} (h : va_P D vcls (wsN b E (n + 1)) H) : b + n < H.size := (h n _ (wsN_at (Nat.lt_succ_self n))).lt
section EvNRows
variable {y : MethodName} {cc : ByteArray} {maxL fr lc : Nat} {g : Gl} {cy : Nat → ClassId} {b pc : Nat} {st : List Value} {lv lv2 : List (Nat × Value)} {E E2 : Nat → va_E} {c0 s0 mc ms : Nat}
theorem nv_aload_n {q : Fin 4} {i z x : Nat} (d : decode cc pc = .ok (.aload_n q, 1)) (hi : (q : Nat) = i) (hn : lv[z]? = some (i, .ref x)) (k : EvN y cc maxL fr lc g cy b (pc + 1) (.ref x :: st) lv E c0 s0 E2 mc ms) : EvN y cc maxL fr lc g cy b pc (st) lv E c0 s0 E2 mc ms := by
  intro p l e R s m args below meth c D A Q C hin hr H locs ls hP hS hl
  exact lv_aload_n C.1.1 C.1.2.1 d hi (lv_at hl z hn) (k p l e R s m args below meth c D A Q C hin hr H locs ls hP hS hl)
theorem nv_iload_n {q : Fin 4} {i z : Nat} {x : Int32} (d : decode cc pc = .ok (.iload_n q, 1)) (hi : (q : Nat) = i) (hn : lv[z]? = some (i, .int x)) (k : EvN y cc maxL fr lc g cy b (pc + 1) (.int x :: st) lv E c0 s0 E2 mc ms) : EvN y cc maxL fr lc g cy b pc (st) lv E c0 s0 E2 mc ms := by
  intro p l e R s m args below meth c D A Q C hin hr H locs ls hP hS hl
  exact lv_iload_n C.1.1 C.1.2.1 d hi (lv_at hl z hn) (k p l e R s m args below meth c D A Q C hin hr H locs ls hP hS hl)
theorem nv_iconst {z : Int} {v : Int32} (d : decode cc pc = .ok (.iconst z, 1)) (hv : Int32.ofInt z = v) (k : EvN y cc maxL fr lc g cy b (pc + 1) (.int v :: st) lv E c0 s0 E2 mc ms) : EvN y cc maxL fr lc g cy b pc (st) lv E c0 s0 E2 mc ms := by
  intro p l e R s m args below meth c D A Q C hin hr H locs ls hP hS hl
  exact lv_iconst C.1.1 C.1.2.1 d hv (k p l e R s m args below meth c D A Q C hin hr H locs ls hP hS hl)
theorem nv_bipush {z : Int} {v : Int32} (d : decode cc pc = .ok (.bipush z, 2)) (hv : (Int8.ofInt z).toInt32 = v) (k : EvN y cc maxL fr lc g cy b (pc + 2) (.int v :: st) lv E c0 s0 E2 mc ms) : EvN y cc maxL fr lc g cy b pc (st) lv E c0 s0 E2 mc ms := by
  intro p l e R s m args below meth c D A Q C hin hr H locs ls hP hS hl
  exact lv_bipush C.1.1 C.1.2.1 d hv (k p l e R s m args below meth c D A Q C hin hr H locs ls hP hS hl)
theorem nv_sipush {z : Int} {v : Int32} (d : decode cc pc = .ok (.sipush z, 3)) (hv : (Int16.ofInt z).toInt32 = v) (k : EvN y cc maxL fr lc g cy b (pc + 3) (.int v :: st) lv E c0 s0 E2 mc ms) : EvN y cc maxL fr lc g cy b pc (st) lv E c0 s0 E2 mc ms := by
  intro p l e R s m args below meth c D A Q C hin hr H locs ls hP hS hl
  exact lv_sipush C.1.1 C.1.2.1 d hv (k p l e R s m args below meth c D A Q C hin hr H locs ls hP hS hl)
theorem nv_dup {v : Value} (d : decode cc pc = .ok (.dup, 1)) (hv : v.category = 1) (k : EvN y cc maxL fr lc g cy b (pc + 1) (v :: v :: st) lv E c0 s0 E2 mc ms) : EvN y cc maxL fr lc g cy b pc (v :: st) lv E c0 s0 E2 mc ms := by
  intro p l e R s m args below meth c D A Q C hin hr H locs ls hP hS hl
  exact lv_dup C.1.1 C.1.2.1 d hv (k p l e R s m args below meth c D A Q C hin hr H locs ls hP hS hl)
theorem nv_istore_n {q : Fin 4} {i : Nat} {x : Int32} (d : decode cc pc = .ok (.istore_n q, 1)) (hi : (q : Nat) = i) (hn : i < maxL) (hv : (i, Value.int x) :: lv.filter (fun q => !(q.1 == i) && !(q.1 + 1 == i && q.2.category == 2)) = lv2) (k : EvN y cc maxL fr lc g cy b (pc + 1) st lv2 E c0 s0 E2 mc ms) : EvN y cc maxL fr lc g cy b pc (.int x :: st) lv E c0 s0 E2 mc ms := by
  intro p l e R s m args below meth c D A Q C hin hr H locs ls hP hS hl
  exact lv_istore_n C.1.1 C.1.2.1 d hi hl hn hv (fun ls hl => k p l e R s m args below meth c D A Q C hin hr H locs ls hP hS hl)
theorem nv_iinc {i z : Nat} {w : Int} {x v : Int32} (d : decode cc pc = .ok (.iinc i w, 3)) (hk : lv[z]? = some (i, .int x)) (hx : x + Int32.ofInt w = v) (hn : i < maxL) (hv : (i, Value.int v) :: lv.filter (fun q => !(q.1 == i) && !(q.1 + 1 == i && q.2.category == 2)) = lv2) (k : EvN y cc maxL fr lc g cy b (pc + 3) st lv2 E c0 s0 E2 mc ms) : EvN y cc maxL fr lc g cy b pc st lv E c0 s0 E2 mc ms := by
  intro p l e R s m args below meth c D A Q C hin hr H locs ls hP hS hl
  exact lv_iinc C.1.1 C.1.2.1 d hl hk hx hn hv (fun ls hl => k p l e R s m args below meth c D A Q C hin hr H locs ls hP hS hl)
theorem nv_goto {off : Int} {tgt : Nat} (d : decode cc pc = .ok (.goto off, 3)) (ht : (pc : Int) + off = (tgt : Int)) (k : EvN y cc maxL fr lc g cy b tgt st lv E c0 s0 E2 mc ms) : EvN y cc maxL fr lc g cy b pc st lv E c0 s0 E2 mc ms := by
  intro p l e R s m args below meth c D A Q C hin hr H locs ls hP hS hl
  exact lv_goto C.1.1 C.1.2.1 d ht (k p l e R s m args below meth c D A Q C hin hr H locs ls hP hS hl)
theorem nv_icmp_ge {x y1 : Int32} {off : Int} {tgt : Nat} (d : decode cc pc = .ok (.if_icmp .ge off, 3)) (ht : (pc : Int) + off = (tgt : Int)) (kt : y1 ≤ x → EvN y cc maxL fr lc g cy b tgt st lv E c0 s0 E2 mc ms) (kf : ¬ y1 ≤ x → EvN y cc maxL fr lc g cy b (pc + 3) st lv E c0 s0 E2 mc ms) : EvN y cc maxL fr lc g cy b pc (.int y1 :: .int x :: st) lv E c0 s0 E2 mc ms := by
  intro p l e R s m args below meth c D A Q C hin hr H locs ls hP hS hl
  exact lv_icmp_ge C.1.1 C.1.2.1 d ht (fun c1 => kt c1 p l e R s m args below meth c D A Q C hin hr H locs ls hP hS hl) (fun c1 => kf c1 p l e R s m args below meth c D A Q C hin hr H locs ls hP hS hl)
theorem nv_sub (ks : List Nat) (hv : lv_pick lv ks = lv2) (k : EvN y cc maxL fr lc g cy b pc st lv2 E c0 s0 E2 mc ms) : EvN y cc maxL fr lc g cy b pc st lv E c0 s0 E2 mc ms := by
  intro p l e R s m args below meth c D A Q C hin hr H locs ls hP hS hl
  exact k p l e R s m args below meth c D A Q C hin hr H locs ls hP hS (lv_sub hl ks hv)
theorem nv_E {F : Nat → va_E} (he : ∀ k, k < c0 + 1 → E k = F k) (k : EvN y cc maxL fr lc g cy b pc st lv F c0 s0 E2 mc ms) : EvN y cc maxL fr lc g cy b pc st lv E c0 s0 E2 mc ms := by
  intro p l e R s m args below meth c D A Q C hin hr H locs ls hP hS hl
  rw [wsN_ext he] at hP
  exact k p l e R s m args below meth c D A Q C hin hr H locs ls hP hS hl
theorem nv_return (d : decode cc pc = .ok (.return_, 1)) (he : ∀ k, k < mc + 1 → E k = E2 k) : EvN y cc maxL fr lc g cy b pc [] lv E mc ms E2 mc ms := by
  intro p l e R s m args below meth c D A Q C hin hr H locs ls hP hS hl
  rw [wsN_ext he] at hP
  exact hr H locs ls pc d hP hS
theorem oi_inst : Cond.instanceMethod objectInit ∈ lw_u := by decide +kernel
theorem oi_code : Cond.code objectInit ⟨#[0xb1]⟩ 1 none ∈ lw_u := by decide +kernel
theorem ar_int : Cond.arrayClass .int ∈ lw_u := by decide +kernel
theorem ar_float : Cond.arrayClass .float ∈ lw_u := by decide +kernel
theorem ar_long : Cond.arrayClass .long ∈ lw_u := by decide +kernel
theorem ar_bool : Cond.arrayClass .boolean ∈ lw_u := by decide +kernel
theorem nv_objInit {a x : Nat} (hw : Cond.methodLink y.cls x objectInit ∈ lw_u) (hfr : 1 ≤ fr) (hlc : (st.map fun v => v.category).sum + 12 ≤ lc) (d : decode cc pc = .ok (.invokespecial x, 3)) (k : EvN y cc maxL fr lc g cy b (pc + 3) st lv E c0 s0 E2 mc ms) : EvN y cc maxL fr lc g cy b pc (.ref a :: st) lv E c0 s0 E2 mc ms := by
  intro p l e R s m args below meth c D A Q C hin hr H locs ls hP hS hl
  refine W.objInit C.1.1 C.1.2.1 C.1.2.2.2.1 (C.1.2.2.2.2.1 _ hw) (C.1.2.2.2.2.1 _ oi_inst) (C.1.2.2.2.2.1 _ oi_code) rfl (by rw [C.1.2.2.1]; exact hl.1) rfl d (Nat.le_trans hfr C.1.2.2.2.2.2.1.1) (by have := C.1.2.2.2.2.2.1.2; show 2 * 0 + _ + 12 ≤ _; omega) ?_
  exact k p l e R s m args below meth c D A Q C hin hr H locs ls hP hS hl
theorem nv_newI {v : Int32} {N : Nat} (hv : ¬ v < 0) (hN : v.toNatClampNeg = N) (hb : N * 8 ≤ 536870912) (hc : c0 + 1 ≤ mc) (hs : s0 + N ≤ ms) (d : decode cc pc = .ok (.newarray .int, 2)) (k : EvN y cc maxL fr lc g cy b (pc + 2) (.ref (b + (c0 + 1)) :: st) lv (ufn E (c0 + 1) (.inl (cy 0, N, .inl (fun _ => 0)))) (c0 + 1) (s0 + N) E2 mc ms) : EvN y cc maxL fr lc g cy b pc (.int v :: st) lv E c0 s0 E2 mc ms := by
  intro p l e R s m args below meth c D A Q C hin hr H locs ls hP hS hl
  refine w_sized (fun hzz => ?_)
  have hz : H.size = b + (c0 + 1) := by have h1 := wsN_size hP; have h2 := C.2.2.2.2; omega
  refine va_newaK (atype := .int) C.1.1 C.1.2.1 (C.1.2.2.2.2.1 _ ar_int) rfl d rfl hv hN (Nat.le_trans (Nat.mul_le_mul_left N (by decide)) hb) (Nat.le_trans hc C.1.2.2.2.2.2.2.1.1) (Nat.le_trans hs C.1.2.2.2.2.2.2.1.2) hz (fun H1 cA e1 z1 o1 hAr hNm => ?_)
  have hcA : cA = cy 0 := Option.some.inj (hNm.symm.trans (C.1.2.2.2.2.2.2.2.1.2 0 _ rfl).2)
  subst hcA
  have hP1 : va_P D vcls (wsN b (ufn E (c0 + 1) (.inl (cy 0, N, .inl (fun _ => 0)))) (c0 + 1 + 1)) H1 := by
    rw [← wsN_push]
    refine va_P.app (hP.kept (fun k q hk => o1 q.1 (by rw [← hz]; exact (hP k q hk).lt))) (fun k q hk => ?_)
    have hk1 : k < 1 := (List.getElem?_eq_some_iff.mp hk).1
    rw [show k = 0 by omega] at hk
    cases hk
    exact e1
  exact k p l e R s m args below meth c D A Q C hin hr H1 locs ls hP1 ⟨Nat.le_trans hS.1 (by omega), fun x h1 h2 => (o1 x (by rw [← hz]; exact Nat.lt_of_lt_of_le h1 hS.1)).trans (hS.2.1 x h1 h2), hS.2.2⟩ hl
theorem nv_newF {v : Int32} {N : Nat} (hv : ¬ v < 0) (hN : v.toNatClampNeg = N) (hb : N * 8 ≤ 536870912) (hc : c0 + 1 ≤ mc) (hs : s0 + N ≤ ms) (d : decode cc pc = .ok (.newarray .float, 2)) (k : EvN y cc maxL fr lc g cy b (pc + 2) (.ref (b + (c0 + 1)) :: st) lv (ufn E (c0 + 1) (.inl (cy 1, N, .inr (.inr (.inl (fun _ => 0)))))) (c0 + 1) (s0 + N) E2 mc ms) : EvN y cc maxL fr lc g cy b pc (.int v :: st) lv E c0 s0 E2 mc ms := by
  intro p l e R s m args below meth c D A Q C hin hr H locs ls hP hS hl
  refine w_sized (fun hzz => ?_)
  have hz : H.size = b + (c0 + 1) := by have h1 := wsN_size hP; have h2 := C.2.2.2.2; omega
  refine va_newaK (atype := .float) C.1.1 C.1.2.1 (C.1.2.2.2.2.1 _ ar_float) rfl d rfl hv hN (Nat.le_trans (Nat.mul_le_mul_left N (by decide)) hb) (Nat.le_trans hc C.1.2.2.2.2.2.2.1.1) (Nat.le_trans hs C.1.2.2.2.2.2.2.1.2) hz (fun H1 cA e1 z1 o1 hAr hNm => ?_)
  have hcA : cA = cy 1 := Option.some.inj (hNm.symm.trans (C.1.2.2.2.2.2.2.2.1.2 1 _ rfl).2)
  subst hcA
  have hP1 : va_P D vcls (wsN b (ufn E (c0 + 1) (.inl (cy 1, N, .inr (.inr (.inl (fun _ => 0)))))) (c0 + 1 + 1)) H1 := by
    rw [← wsN_push]
    refine va_P.app (hP.kept (fun k q hk => o1 q.1 (by rw [← hz]; exact (hP k q hk).lt))) (fun k q hk => ?_)
    have hk1 : k < 1 := (List.getElem?_eq_some_iff.mp hk).1
    rw [show k = 0 by omega] at hk
    cases hk
    exact e1
  exact k p l e R s m args below meth c D A Q C hin hr H1 locs ls hP1 ⟨Nat.le_trans hS.1 (by omega), fun x h1 h2 => (o1 x (by rw [← hz]; exact Nat.lt_of_lt_of_le h1 hS.1)).trans (hS.2.1 x h1 h2), hS.2.2⟩ hl
theorem nv_newJ {v : Int32} {N : Nat} (hv : ¬ v < 0) (hN : v.toNatClampNeg = N) (hb : N * 8 ≤ 536870912) (hc : c0 + 1 ≤ mc) (hs : s0 + N ≤ ms) (d : decode cc pc = .ok (.newarray .long, 2)) (k : EvN y cc maxL fr lc g cy b (pc + 2) (.ref (b + (c0 + 1)) :: st) lv (ufn E (c0 + 1) (.inl (cy 2, N, .inr (.inl (fun _ => 0))))) (c0 + 1) (s0 + N) E2 mc ms) : EvN y cc maxL fr lc g cy b pc (.int v :: st) lv E c0 s0 E2 mc ms := by
  intro p l e R s m args below meth c D A Q C hin hr H locs ls hP hS hl
  refine w_sized (fun hzz => ?_)
  have hz : H.size = b + (c0 + 1) := by have h1 := wsN_size hP; have h2 := C.2.2.2.2; omega
  refine va_newaK (atype := .long) C.1.1 C.1.2.1 (C.1.2.2.2.2.1 _ ar_long) rfl d rfl hv hN (Nat.le_trans (Nat.mul_le_mul_left N (by decide)) hb) (Nat.le_trans hc C.1.2.2.2.2.2.2.1.1) (Nat.le_trans hs C.1.2.2.2.2.2.2.1.2) hz (fun H1 cA e1 z1 o1 hAr hNm => ?_)
  have hcA : cA = cy 2 := Option.some.inj (hNm.symm.trans (C.1.2.2.2.2.2.2.2.1.2 2 _ rfl).2)
  subst hcA
  have hP1 : va_P D vcls (wsN b (ufn E (c0 + 1) (.inl (cy 2, N, .inr (.inl (fun _ => 0))))) (c0 + 1 + 1)) H1 := by
    rw [← wsN_push]
    refine va_P.app (hP.kept (fun k q hk => o1 q.1 (by rw [← hz]; exact (hP k q hk).lt))) (fun k q hk => ?_)
    have hk1 : k < 1 := (List.getElem?_eq_some_iff.mp hk).1
    rw [show k = 0 by omega] at hk
    cases hk
    exact e1
  exact k p l e R s m args below meth c D A Q C hin hr H1 locs ls hP1 ⟨Nat.le_trans hS.1 (by omega), fun x h1 h2 => (o1 x (by rw [← hz]; exact Nat.lt_of_lt_of_le h1 hS.1)).trans (hS.2.1 x h1 h2), hS.2.2⟩ hl
theorem nv_newZ {v : Int32} {N : Nat} (hv : ¬ v < 0) (hN : v.toNatClampNeg = N) (hb : N * 8 ≤ 536870912) (hc : c0 + 1 ≤ mc) (hs : s0 + N ≤ ms) (d : decode cc pc = .ok (.newarray .boolean, 2)) (k : EvN y cc maxL fr lc g cy b (pc + 2) (.ref (b + (c0 + 1)) :: st) lv (ufn E (c0 + 1) (.inl (cy 3, N, .inl (fun _ => 0)))) (c0 + 1) (s0 + N) E2 mc ms) : EvN y cc maxL fr lc g cy b pc (.int v :: st) lv E c0 s0 E2 mc ms := by
  intro p l e R s m args below meth c D A Q C hin hr H locs ls hP hS hl
  refine w_sized (fun hzz => ?_)
  have hz : H.size = b + (c0 + 1) := by have h1 := wsN_size hP; have h2 := C.2.2.2.2; omega
  refine va_newaK (atype := .boolean) C.1.1 C.1.2.1 (C.1.2.2.2.2.1 _ ar_bool) rfl d rfl hv hN (Nat.le_trans (Nat.mul_le_mul_left N (by decide)) hb) (Nat.le_trans hc C.1.2.2.2.2.2.2.1.1) (Nat.le_trans hs C.1.2.2.2.2.2.2.1.2) hz (fun H1 cA e1 z1 o1 hAr hNm => ?_)
  have hcA : cA = cy 3 := Option.some.inj (hNm.symm.trans (C.1.2.2.2.2.2.2.2.1.2 3 _ rfl).2)
  subst hcA
  have hP1 : va_P D vcls (wsN b (ufn E (c0 + 1) (.inl (cy 3, N, .inl (fun _ => 0)))) (c0 + 1 + 1)) H1 := by
    rw [← wsN_push]
    refine va_P.app (hP.kept (fun k q hk => o1 q.1 (by rw [← hz]; exact (hP k q hk).lt))) (fun k q hk => ?_)
    have hk1 : k < 1 := (List.getElem?_eq_some_iff.mp hk).1
    rw [show k = 0 by omega] at hk
    cases hk
    exact e1
  exact k p l e R s m args below meth c D A Q C hin hr H1 locs ls hP1 ⟨Nat.le_trans hS.1 (by omega), fun x h1 h2 => (o1 x (by rw [← hz]; exact Nat.lt_of_lt_of_le h1 hS.1)).trans (hS.2.1 x h1 h2), hS.2.2⟩ hl
theorem nv_anewP {v : Int32} {N x : Nat} (hw : Cond.classLink y.cls x "PieceSwarm$Peer" ∈ lw_u) (hv : ¬ v < 0) (hN : v.toNatClampNeg = N) (hb : N * 4 ≤ 536870912) (hc : c0 + 1 ≤ mc) (hs : s0 + N ≤ ms) (d : decode cc pc = .ok (.anewarray x, 3)) (k : EvN y cc maxL fr lc g cy b (pc + 3) (.ref (b + (c0 + 1)) :: st) lv (ufn E (c0 + 1) (.inl (cy 4, N, .inr (.inr (.inr (.inr (fun _ => none))))))) (c0 + 1) (s0 + N) E2 mc ms) : EvN y cc maxL fr lc g cy b pc (.int v :: st) lv E c0 s0 E2 mc ms := by
  intro p l e R s m args below meth c D A Q C hin hr H locs ls hP hS hl
  refine w_sized (fun hzz => ?_)
  have hz : H.size = b + (c0 + 1) := by have h1 := wsN_size hP; have h2 := C.2.2.2.2; omega
  subst hN
  refine W.anew C.1.1 C.1.2.1 C.1.2.2.2.1 (C.1.2.2.2.2.1 _ hw) (C.2.1.use) rfl d rfl hv hb (Nat.le_trans hc C.1.2.2.2.2.2.2.1.1) (Nat.le_trans hs C.1.2.2.2.2.2.2.1.2) (fun cA kA comp f1 f2 f3 f4 => ?_)
  have hcA : cA = cy 4 := by
    obtain ⟨_, _, _, _, _, q⟩ := (C.1.2.2.2.2.2.2.2.1.2 4 _ rfl).2
    exact Option.some.inj (f1.symm.trans q)
  subst hcA
  generalize hH1 : H.push ({ cls := cy 4, slots := Array.replicate v.toNatClampNeg .null, vm := .none } : Cell) = H1
  have z1 : H1.size = H.size + 1 := by rw [← hH1, Array.size_push]
  have e1 : H1[H.size]? = some (arrV (cy 4) v.toNatClampNeg (fun _ => .null)) := by rw [← hH1, Array.getElem?_push_size, ← arrV_new]
  have o1 : ∀ q : Nat, q < H.size → H1[q]? = H[q]? := fun q hq => by rw [← hH1, Array.getElem?_push, if_neg (Nat.ne_of_lt hq)]
  have hP1 : va_P D vcls (wsN b (ufn E (c0 + 1) (.inl (cy 4, v.toNatClampNeg, .inr (.inr (.inr (.inr (fun _ => none))))))) (c0 + 1 + 1)) H1 := by
    rw [← wsN_push]
    refine va_P.app (hP.kept (fun k q hk => o1 q.1 (hP k q hk).lt)) (fun k q hk => ?_)
    have hk1 : k < 1 := (List.getElem?_eq_some_iff.mp hk).1
    rw [show k = 0 by omega] at hk
    cases hk
    rw [hz] at e1
    exact e1
  rw [hz]
  exact k p l e R s m args below meth c D A Q C hin hr H1 locs ls hP1 ⟨Nat.le_trans hS.1 (by omega), fun x h1 h2 => (o1 x (Nat.lt_of_lt_of_le h1 hS.1)).trans (hS.2.1 x h1 h2), hS.2.2⟩ hl
theorem nv_anewS {v : Int32} {N x : Nat} (hw : Cond.classLink y.cls x "PieceSwarm$Swarm" ∈ lw_u) (hv : ¬ v < 0) (hN : v.toNatClampNeg = N) (hb : N * 4 ≤ 536870912) (hc : c0 + 1 ≤ mc) (hs : s0 + N ≤ ms) (d : decode cc pc = .ok (.anewarray x, 3)) (k : EvN y cc maxL fr lc g cy b (pc + 3) (.ref (b + (c0 + 1)) :: st) lv (ufn E (c0 + 1) (.inl (cy 5, N, .inr (.inr (.inr (.inr (fun _ => none))))))) (c0 + 1) (s0 + N) E2 mc ms) : EvN y cc maxL fr lc g cy b pc (.int v :: st) lv E c0 s0 E2 mc ms := by
  intro p l e R s m args below meth c D A Q C hin hr H locs ls hP hS hl
  refine w_sized (fun hzz => ?_)
  have hz : H.size = b + (c0 + 1) := by have h1 := wsN_size hP; have h2 := C.2.2.2.2; omega
  subst hN
  refine W.anew C.1.1 C.1.2.1 C.1.2.2.2.1 (C.1.2.2.2.2.1 _ hw) (C.2.2.1.use) rfl d rfl hv hb (Nat.le_trans hc C.1.2.2.2.2.2.2.1.1) (Nat.le_trans hs C.1.2.2.2.2.2.2.1.2) (fun cA kA comp f1 f2 f3 f4 => ?_)
  have hcA : cA = cy 5 := by
    obtain ⟨_, _, _, _, _, q⟩ := (C.1.2.2.2.2.2.2.2.1.2 5 _ rfl).2
    exact Option.some.inj (f1.symm.trans q)
  subst hcA
  generalize hH1 : H.push ({ cls := cy 5, slots := Array.replicate v.toNatClampNeg .null, vm := .none } : Cell) = H1
  have z1 : H1.size = H.size + 1 := by rw [← hH1, Array.size_push]
  have e1 : H1[H.size]? = some (arrV (cy 5) v.toNatClampNeg (fun _ => .null)) := by rw [← hH1, Array.getElem?_push_size, ← arrV_new]
  have o1 : ∀ q : Nat, q < H.size → H1[q]? = H[q]? := fun q hq => by rw [← hH1, Array.getElem?_push, if_neg (Nat.ne_of_lt hq)]
  have hP1 : va_P D vcls (wsN b (ufn E (c0 + 1) (.inl (cy 5, v.toNatClampNeg, .inr (.inr (.inr (.inr (fun _ => none))))))) (c0 + 1 + 1)) H1 := by
    rw [← wsN_push]
    refine va_P.app (hP.kept (fun k q hk => o1 q.1 (hP k q hk).lt)) (fun k q hk => ?_)
    have hk1 : k < 1 := (List.getElem?_eq_some_iff.mp hk).1
    rw [show k = 0 by omega] at hk
    cases hk
    rw [hz] at e1
    exact e1
  rw [hz]
  exact k p l e R s m args below meth c D A Q C hin hr H1 locs ls hP1 ⟨Nat.le_trans hS.1 (by omega), fun x h1 h2 => (o1 x (Nat.lt_of_lt_of_le h1 hS.1)).trans (hS.2.1 x h1 h2), hS.2.2⟩ hl
theorem nv_new {ci x N : Nat} {C0 : String} {T : u_T} {fs : List Value} (hc0 : vcls[ci]? = some (C0, T, N)) (ty : Nat → FieldType) (hty : ∀ k, k < N → parseFieldDescriptor (T k).2.2.1 = some (ty k)) (hfs : ∀ j, j < N → defaultValue (ty j) = vp_V fs j) (hw : Cond.classLink y.cls x C0 ∈ lw_u) (hw2 : Cond.instantiable C0 N ∈ lw_u) (hw3 : Cond.initialized C0 ∈ lw_u) (hc : c0 + 1 ≤ mc) (hs : s0 + N ≤ ms) (d : decode cc pc = .ok (.new x, 3)) (k : EvN y cc maxL fr lc g cy b (pc + 3) (.ref (b + (c0 + 1)) :: st) lv (ufn E (c0 + 1) (.inr (ci, fs))) (c0 + 1) (s0 + N) E2 mc ms) : EvN y cc maxL fr lc g cy b pc st lv E c0 s0 E2 mc ms := by
  intro p l e R s m args below meth c D A Q C hin hr H locs ls hP hS hl
  refine w_sized (fun hzz => ?_)
  have hz : H.size = b + (c0 + 1) := by have h1 := wsN_size hP; have h2 := C.2.2.2.2; omega
  have hKn := C.1.2.2.2.2.2.2.2.1.1 ci _ hc0
  refine W.newcK C.1.1 C.1.2.1 C.1.2.2.2.1 (C.1.2.2.2.2.1 _ hw) (C.1.2.2.2.2.1 _ hw2) (C.1.2.2.2.2.1 _ hw3) rfl d (Nat.le_trans hc C.1.2.2.2.2.2.2.1.1) (Nat.le_trans hs C.1.2.2.2.2.2.2.1.2) hKn.2.1 hz (fun H1 kC hkC e1 z1 o1 => ?_)
  have hP1 : va_P D vcls (wsN b (ufn E (c0 + 1) (.inr (ci, fs))) (c0 + 1 + 1)) H1 := by
    rw [← wsN_push]
    refine va_P.app (hP.kept (fun k q hk => o1 q.1 (by rw [← hz]; exact (hP k q hk).lt))) (fun k q hk => ?_)
    have hk1 : k < 1 := (List.getElem?_eq_some_iff.mp hk).1
    rw [show k = 0 by omega] at hk
    cases hk
    exact ⟨_, hc0, (u_born ty C.1.2.2.2.2.1 (cls_in hc0) hKn hkC e1 hty).to hfs⟩
  exact k p l e R s m args below meth c D A Q C hin hr H1 locs ls hP1 ⟨Nat.le_trans hS.1 (by omega), fun x h1 h2 => (o1 x (by rw [← hz]; exact Nat.lt_of_lt_of_le h1 hS.1)).trans (hS.2.1 x h1 h2), hS.2.2⟩ hl
theorem nv_putR (z : Nat) {ci x N v : Nat} {C0 : String} {T : u_T} {fs : List Value} {ty : FieldType} (hc0 : vcls[ci]? = some (C0, T, N)) (he : E 0 = .inr (ci, fs)) (hk : z < N) (hf : (T z).2.2.2 = true) (hdecl : (T z).1 = y.cls) (hp : parseFieldDescriptor (T z).2.2.1 = some ty) (hna : narrow ty (.ref v) = .ref v) (hfit : fits ty (.ref v) = true) (hlen : z < fs.length) (hw : Cond.fieldLink y.cls x (T z).1 (T z).2.1 (T z).2.2.1 ∈ lw_u) (d : decode cc pc = .ok (.putfield x, 3)) (k : EvN y cc maxL fr lc g cy b (pc + 3) st lv (ufn E 0 (.inr (ci, fs.set z (.ref v)))) c0 s0 E2 mc ms) : EvN y cc maxL fr lc g cy b pc (.ref v :: .ref b :: st) lv E c0 s0 E2 mc ms := by
  intro p l e R s m args below meth c D A Q C hin hr H locs ls hP hS hl
  obtain ⟨ty0, o1, o2⟩ := cls_ok hc0
  have hD := wsN_D (E := E) (n := c0 + 1) C.2.2.2.1
  have hat : (wsN b E (c0 + 1))[0]? = some (b, .inr (ci, fs)) := by rw [wsN_at (Nat.succ_pos c0), he]; rfl
  refine va_putF (D := D) (ci := ci) (v := .ref v) (ty := ty) C.1.1 C.1.2.1 C.1.2.2.2.2.1 (cls_in hc0) ty0 o1 o2 C.1.2.2.2.1 C.1.2.2.2.2.2.2.2.1 hP hD hS 0 hat hc0 z hk (C.1.2.2.2.2.1 _ hw) (fun _ h9 => h9) hf hin hdecl hp hna hfit hlen d (fun H1 locs1 hP1 hD1 hS1 => ?_)
  have hset := wsN_set (b := b) (E := E) (e := .inr (ci, fs.set z (.ref v))) (Nat.succ_pos c0)
  rw [Nat.add_zero] at hset
  rw [hset] at hP1
  exact k p l e R s m args below meth c D A Q C hin hr H1 locs1 ls hP1 hS1 hl
theorem nv_get (z : Nat) {ci x N v : Nat} {C0 : String} {T : u_T} {fs : List Value} (hc0 : vcls[ci]? = some (C0, T, N)) (he : E 0 = .inr (ci, fs)) (hk : z < N) (hv : fs[z]? = some (.ref v)) (hw : Cond.fieldLink y.cls x (T z).1 (T z).2.1 (T z).2.2.1 ∈ lw_u) (d : decode cc pc = .ok (.getfield x, 3)) (k : EvN y cc maxL fr lc g cy b (pc + 3) (.ref v :: st) lv E c0 s0 E2 mc ms) : EvN y cc maxL fr lc g cy b pc (.ref b :: st) lv E c0 s0 E2 mc ms := by
  intro p l e R s m args below meth c D A Q C hin hr H locs ls hP hS hl
  have hat : (wsN b E (c0 + 1))[0]? = some (b, .inr (ci, fs)) := by rw [wsN_at (Nat.succ_pos c0), he]; rfl
  exact va_get (D := D) (ci := ci) C.1.1 C.1.2.1 C.1.2.2.2.2.1 (cls_in hc0) C.1.2.2.2.1 C.1.2.2.2.2.2.2.2.1 hP 0 hat hc0 z hk (C.1.2.2.2.2.1 _ hw) (fun _ h9 => h9) hv d (k p l e R s m args below meth c D A Q C hin hr H locs ls hP hS hl)
theorem nv_gets (z : Nat) {x : Nat} (hz : z < 3) (hx : saI z = x) (hy : y.cls = "PieceSwarm$Swarm") (d : decode cc pc = .ok (.getstatic x, 3)) (k : EvN y cc maxL fr lc g cy b (pc + 3) (.ref (g.2.1 z) :: st) lv E c0 s0 E2 mc ms) : EvN y cc maxL fr lc g cy b pc st lv E c0 s0 E2 mc ms := by
  intro p l e R s m args below meth c D A Q C hin hr H locs ls hP hS hl
  subst hx
  have hZ := C.1.2.2.2.2.2.2.2.2.1.2 z hz
  exact va_getsN (own := "PieceSwarm$Swarm") (host := "PieceSwarm") C.1.1 C.1.2.1 hZ.1 hS (by rw [← hy]; exact C.1.2.2.2.1) (hZ.2.use rfl) (fun _ h9 => h9) d (k p l e R s m args below meth c D A Q C hin hr H locs ls hP hS hl)
theorem nv_tablen (z : Nat) {v : Int32} (hz : z < 4) (hv : Int32.ofNat (tbN g z) = v) (d : decode cc pc = .ok (.arraylength, 1)) (k : EvN y cc maxL fr lc g cy b (pc + 1) (.int v :: st) lv E c0 s0 E2 mc ms) : EvN y cc maxL fr lc g cy b pc (.ref (g.2.1 z) :: st) lv E c0 s0 E2 mc ms := by
  intro p l e R s m args below meth c D A Q C hin hr H locs ls hP hS hl
  exact va_tlen C.1.1 C.1.2.1 (C.1.2.2.2.2.2.2.2.2.1.1 z hz) hS hv d (k p l e R s m args below meth c D A Q C hin hr H locs ls hP hS hl)
theorem nv_aastP {i : Int32} {z u N v a : Nat} {f : Nat → Option Nat} {vs : List Value} (hz : z < c0 + 1) (ha : a = b + z) (he : E z = .inl (cy 4, N, .inr (.inr (.inr (.inr f))))) (hu : u < c0 + 1) (hv : v = b + u) (hu2 : E u = .inr (0, vs)) (hi : vp_in i N) (d : decode cc pc = .ok (.aastore, 1)) (k : EvN y cc maxL fr lc g cy b (pc + 1) st lv (ufn E z (.inl (cy 4, N, .inr (.inr (.inr (.inr (va_up f i.toNatClampNeg (some v)))))))) c0 s0 E2 mc ms) : EvN y cc maxL fr lc g cy b pc (.ref v :: .int i :: .ref a :: st) lv E c0 s0 E2 mc ms := by
  intro p l e R s m args below meth c D A Q C hin hr H locs ls hP hS hl
  subst ha
  have hD := wsN_D (E := E) (n := c0 + 1) C.2.2.2.1
  have hat : (wsN b E (c0 + 1))[z]? = some (b + z, .inl (cy 4, N, .inr (.inr (.inr (.inr f))))) := by rw [wsN_at hz, he]
  have hav : (wsN b E (c0 + 1))[u]? = some (v, .inr (0, vs)) := by rw [wsN_at hu, hu2, hv]
  refine va_astq (D := D) C.1.1 C.1.2.1 C.1.2.2.2.2.2.2.2.1 hP hD hS z 4 u 0 hat (r := (RX1, TX1, 12)) rfl hav rfl hi d (fun H1 locs1 hP1 hD1 hS1 => ?_)
  rw [wsN_set (b := b) (E := E) hz] at hP1
  exact k p l e R s m args below meth c D A Q C hin hr H1 locs1 ls hP1 hS1 hl
theorem nv_aastS {i : Int32} {z u N v a : Nat} {f : Nat → Option Nat} {vs : List Value} (hz : z < c0 + 1) (ha : a = b + z) (he : E z = .inl (cy 5, N, .inr (.inr (.inr (.inr f))))) (hu : u < c0 + 1) (hv : v = b + u) (hu2 : E u = .inr (2, vs)) (hi : vp_in i N) (d : decode cc pc = .ok (.aastore, 1)) (k : EvN y cc maxL fr lc g cy b (pc + 1) st lv (ufn E z (.inl (cy 5, N, .inr (.inr (.inr (.inr (va_up f i.toNatClampNeg (some v)))))))) c0 s0 E2 mc ms) : EvN y cc maxL fr lc g cy b pc (.ref v :: .int i :: .ref a :: st) lv E c0 s0 E2 mc ms := by
  intro p l e R s m args below meth c D A Q C hin hr H locs ls hP hS hl
  subst ha
  have hD := wsN_D (E := E) (n := c0 + 1) C.2.2.2.1
  have hat : (wsN b E (c0 + 1))[z]? = some (b + z, .inl (cy 5, N, .inr (.inr (.inr (.inr f))))) := by rw [wsN_at hz, he]
  have hav : (wsN b E (c0 + 1))[u]? = some (v, .inr (2, vs)) := by rw [wsN_at hu, hu2, hv]
  refine va_astq (D := D) C.1.1 C.1.2.1 C.1.2.2.2.2.2.2.2.1 hP hD hS z 5 u 2 hat (r := (RX3, TX3, 12)) rfl hav rfl hi d (fun H1 locs1 hP1 hD1 hS1 => ?_)
  rw [wsN_set (b := b) (E := E) hz] at hP1
  exact k p l e R s m args below meth c D A Q C hin hr H1 locs1 ls hP1 hS1 hl
end EvNRows
