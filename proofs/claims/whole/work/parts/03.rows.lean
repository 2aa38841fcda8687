section EvRows
variable {y : MethodName} {cc : ByteArray} {maxL fr lc : Nat} {ret : Option FieldType} {g : Gl} {pc : Nat} {st : List Value} {lv lv2 : List (Nat × Value)} {h h2 : Hp} {r : Option Value}
theorem ev_iload_n {q : Fin 4} {i n : Nat} {x : Int32} (d : decode cc pc = .ok (.iload_n q, 1)) (hi : (q : Nat) = i) (hn : lv[n]? = some (i, .int x)) (k : Ev y cc maxL ret fr lc g (pc + 1) (.int x :: st) lv h r h2) : Ev y cc maxL ret fr lc g pc (st) lv h r h2 := by
  intro p l e R s m args below meth c D cy A cells slots Q C hr H locs ls hP hD hS hl
  exact lv_iload_n C.1 C.2.1 d hi (lv_at hl n hn) (k p l e R s m args below meth c D cy A cells slots Q C hr H locs ls hP hD hS hl)
theorem ev_iload {i n : Nat} {x : Int32} (d : decode cc pc = .ok (.iload i, 2)) (hn : lv[n]? = some (i, .int x)) (k : Ev y cc maxL ret fr lc g (pc + 2) (.int x :: st) lv h r h2) : Ev y cc maxL ret fr lc g pc (st) lv h r h2 := by
  intro p l e R s m args below meth c D cy A cells slots Q C hr H locs ls hP hD hS hl
  exact lv_iload C.1 C.2.1 d (lv_at hl n hn) (k p l e R s m args below meth c D cy A cells slots Q C hr H locs ls hP hD hS hl)
theorem ev_lload_n {q : Fin 4} {i n : Nat} {x : Int64} (d : decode cc pc = .ok (.lload_n q, 1)) (hi : (q : Nat) = i) (hn : lv[n]? = some (i, .long x)) (k : Ev y cc maxL ret fr lc g (pc + 1) (.long x :: st) lv h r h2) : Ev y cc maxL ret fr lc g pc (st) lv h r h2 := by
  intro p l e R s m args below meth c D cy A cells slots Q C hr H locs ls hP hD hS hl
  exact lv_lload_n C.1 C.2.1 d hi (lv_at hl n hn) (k p l e R s m args below meth c D cy A cells slots Q C hr H locs ls hP hD hS hl)
theorem ev_lload {i n : Nat} {x : Int64} (d : decode cc pc = .ok (.lload i, 2)) (hn : lv[n]? = some (i, .long x)) (k : Ev y cc maxL ret fr lc g (pc + 2) (.long x :: st) lv h r h2) : Ev y cc maxL ret fr lc g pc (st) lv h r h2 := by
  intro p l e R s m args below meth c D cy A cells slots Q C hr H locs ls hP hD hS hl
  exact lv_lload C.1 C.2.1 d (lv_at hl n hn) (k p l e R s m args below meth c D cy A cells slots Q C hr H locs ls hP hD hS hl)
theorem ev_fload_n {q : Fin 4} {i n : Nat} {x : UInt32} (d : decode cc pc = .ok (.fload_n q, 1)) (hi : (q : Nat) = i) (hn : lv[n]? = some (i, .float x)) (k : Ev y cc maxL ret fr lc g (pc + 1) (.float x :: st) lv h r h2) : Ev y cc maxL ret fr lc g pc (st) lv h r h2 := by
  intro p l e R s m args below meth c D cy A cells slots Q C hr H locs ls hP hD hS hl
  exact lv_fload_n C.1 C.2.1 d hi (lv_at hl n hn) (k p l e R s m args below meth c D cy A cells slots Q C hr H locs ls hP hD hS hl)
theorem ev_fload {i n : Nat} {x : UInt32} (d : decode cc pc = .ok (.fload i, 2)) (hn : lv[n]? = some (i, .float x)) (k : Ev y cc maxL ret fr lc g (pc + 2) (.float x :: st) lv h r h2) : Ev y cc maxL ret fr lc g pc (st) lv h r h2 := by
  intro p l e R s m args below meth c D cy A cells slots Q C hr H locs ls hP hD hS hl
  exact lv_fload C.1 C.2.1 d (lv_at hl n hn) (k p l e R s m args below meth c D cy A cells slots Q C hr H locs ls hP hD hS hl)
theorem ev_dload_n {q : Fin 4} {i n : Nat} {x : UInt64} (d : decode cc pc = .ok (.dload_n q, 1)) (hi : (q : Nat) = i) (hn : lv[n]? = some (i, .double x)) (k : Ev y cc maxL ret fr lc g (pc + 1) (.double x :: st) lv h r h2) : Ev y cc maxL ret fr lc g pc (st) lv h r h2 := by
  intro p l e R s m args below meth c D cy A cells slots Q C hr H locs ls hP hD hS hl
  exact lv_dload_n C.1 C.2.1 d hi (lv_at hl n hn) (k p l e R s m args below meth c D cy A cells slots Q C hr H locs ls hP hD hS hl)
theorem ev_dload {i n : Nat} {x : UInt64} (d : decode cc pc = .ok (.dload i, 2)) (hn : lv[n]? = some (i, .double x)) (k : Ev y cc maxL ret fr lc g (pc + 2) (.double x :: st) lv h r h2) : Ev y cc maxL ret fr lc g pc (st) lv h r h2 := by
  intro p l e R s m args below meth c D cy A cells slots Q C hr H locs ls hP hD hS hl
  exact lv_dload C.1 C.2.1 d (lv_at hl n hn) (k p l e R s m args below meth c D cy A cells slots Q C hr H locs ls hP hD hS hl)
theorem ev_aload_n {q : Fin 4} {i n : Nat} {x : Nat} (d : decode cc pc = .ok (.aload_n q, 1)) (hi : (q : Nat) = i) (hn : lv[n]? = some (i, .ref x)) (k : Ev y cc maxL ret fr lc g (pc + 1) (.ref x :: st) lv h r h2) : Ev y cc maxL ret fr lc g pc (st) lv h r h2 := by
  intro p l e R s m args below meth c D cy A cells slots Q C hr H locs ls hP hD hS hl
  exact lv_aload_n C.1 C.2.1 d hi (lv_at hl n hn) (k p l e R s m args below meth c D cy A cells slots Q C hr H locs ls hP hD hS hl)
theorem ev_aload {i n : Nat} {x : Nat} (d : decode cc pc = .ok (.aload i, 2)) (hn : lv[n]? = some (i, .ref x)) (k : Ev y cc maxL ret fr lc g (pc + 2) (.ref x :: st) lv h r h2) : Ev y cc maxL ret fr lc g pc (st) lv h r h2 := by
  intro p l e R s m args below meth c D cy A cells slots Q C hr H locs ls hP hD hS hl
  exact lv_aload C.1 C.2.1 d (lv_at hl n hn) (k p l e R s m args below meth c D cy A cells slots Q C hr H locs ls hP hD hS hl)
theorem ev_istore_n {q : Fin 4} {i : Nat} {x : Int32} (d : decode cc pc = .ok (.istore_n q, 1)) (hi : (q : Nat) = i) (hn : i < maxL) (hv : (i, Value.int x) :: lv.filter (fun q => !(q.1 == i) && !(q.1 + 1 == i && q.2.category == 2)) = lv2) (k : Ev y cc maxL ret fr lc g (pc + 1) st lv2 h r h2) : Ev y cc maxL ret fr lc g pc (.int x :: st) lv h r h2 := by
  intro p l e R s m args below meth c D cy A cells slots Q C hr H locs ls hP hD hS hl
  exact lv_istore_n C.1 C.2.1 d hi hl hn hv (fun ls hl => k p l e R s m args below meth c D cy A cells slots Q C hr H locs ls hP hD hS hl)
theorem ev_istore {i : Nat} {x : Int32} (d : decode cc pc = .ok (.istore i, 2)) (hn : i < maxL) (hv : (i, Value.int x) :: lv.filter (fun q => !(q.1 == i) && !(q.1 + 1 == i && q.2.category == 2)) = lv2) (k : Ev y cc maxL ret fr lc g (pc + 2) st lv2 h r h2) : Ev y cc maxL ret fr lc g pc (.int x :: st) lv h r h2 := by
  intro p l e R s m args below meth c D cy A cells slots Q C hr H locs ls hP hD hS hl
  exact lv_istore C.1 C.2.1 d hl hn hv (fun ls hl => k p l e R s m args below meth c D cy A cells slots Q C hr H locs ls hP hD hS hl)
theorem ev_lstore_n {q : Fin 4} {i : Nat} {x : Int64} (d : decode cc pc = .ok (.lstore_n q, 1)) (hi : (q : Nat) = i) (hn : i + 1 < maxL) (hv : (i, Value.long x) :: lv.filter (fun q => !(q.1 == i) && (!(q.1 == i + 1) && !(q.1 + 1 == i && q.2.category == 2))) = lv2) (k : Ev y cc maxL ret fr lc g (pc + 1) st lv2 h r h2) : Ev y cc maxL ret fr lc g pc (.long x :: st) lv h r h2 := by
  intro p l e R s m args below meth c D cy A cells slots Q C hr H locs ls hP hD hS hl
  exact lv_lstore_n C.1 C.2.1 d hi hl hn hv (fun ls hl => k p l e R s m args below meth c D cy A cells slots Q C hr H locs ls hP hD hS hl)
theorem ev_lstore {i : Nat} {x : Int64} (d : decode cc pc = .ok (.lstore i, 2)) (hn : i + 1 < maxL) (hv : (i, Value.long x) :: lv.filter (fun q => !(q.1 == i) && (!(q.1 == i + 1) && !(q.1 + 1 == i && q.2.category == 2))) = lv2) (k : Ev y cc maxL ret fr lc g (pc + 2) st lv2 h r h2) : Ev y cc maxL ret fr lc g pc (.long x :: st) lv h r h2 := by
  intro p l e R s m args below meth c D cy A cells slots Q C hr H locs ls hP hD hS hl
  exact lv_lstore C.1 C.2.1 d hl hn hv (fun ls hl => k p l e R s m args below meth c D cy A cells slots Q C hr H locs ls hP hD hS hl)
theorem ev_fstore_n {q : Fin 4} {i : Nat} {x : UInt32} (d : decode cc pc = .ok (.fstore_n q, 1)) (hi : (q : Nat) = i) (hn : i < maxL) (hv : (i, Value.float x) :: lv.filter (fun q => !(q.1 == i) && !(q.1 + 1 == i && q.2.category == 2)) = lv2) (k : Ev y cc maxL ret fr lc g (pc + 1) st lv2 h r h2) : Ev y cc maxL ret fr lc g pc (.float x :: st) lv h r h2 := by
  intro p l e R s m args below meth c D cy A cells slots Q C hr H locs ls hP hD hS hl
  exact lv_fstore_n C.1 C.2.1 d hi hl hn hv (fun ls hl => k p l e R s m args below meth c D cy A cells slots Q C hr H locs ls hP hD hS hl)
theorem ev_fstore {i : Nat} {x : UInt32} (d : decode cc pc = .ok (.fstore i, 2)) (hn : i < maxL) (hv : (i, Value.float x) :: lv.filter (fun q => !(q.1 == i) && !(q.1 + 1 == i && q.2.category == 2)) = lv2) (k : Ev y cc maxL ret fr lc g (pc + 2) st lv2 h r h2) : Ev y cc maxL ret fr lc g pc (.float x :: st) lv h r h2 := by
  intro p l e R s m args below meth c D cy A cells slots Q C hr H locs ls hP hD hS hl
  exact lv_fstore C.1 C.2.1 d hl hn hv (fun ls hl => k p l e R s m args below meth c D cy A cells slots Q C hr H locs ls hP hD hS hl)
theorem ev_dstore_n {q : Fin 4} {i : Nat} {x : UInt64} (d : decode cc pc = .ok (.dstore_n q, 1)) (hi : (q : Nat) = i) (hn : i + 1 < maxL) (hv : (i, Value.double x) :: lv.filter (fun q => !(q.1 == i) && (!(q.1 == i + 1) && !(q.1 + 1 == i && q.2.category == 2))) = lv2) (k : Ev y cc maxL ret fr lc g (pc + 1) st lv2 h r h2) : Ev y cc maxL ret fr lc g pc (.double x :: st) lv h r h2 := by
  intro p l e R s m args below meth c D cy A cells slots Q C hr H locs ls hP hD hS hl
  exact lv_dstore_n C.1 C.2.1 d hi hl hn hv (fun ls hl => k p l e R s m args below meth c D cy A cells slots Q C hr H locs ls hP hD hS hl)
theorem ev_dstore {i : Nat} {x : UInt64} (d : decode cc pc = .ok (.dstore i, 2)) (hn : i + 1 < maxL) (hv : (i, Value.double x) :: lv.filter (fun q => !(q.1 == i) && (!(q.1 == i + 1) && !(q.1 + 1 == i && q.2.category == 2))) = lv2) (k : Ev y cc maxL ret fr lc g (pc + 2) st lv2 h r h2) : Ev y cc maxL ret fr lc g pc (.double x :: st) lv h r h2 := by
  intro p l e R s m args below meth c D cy A cells slots Q C hr H locs ls hP hD hS hl
  exact lv_dstore C.1 C.2.1 d hl hn hv (fun ls hl => k p l e R s m args below meth c D cy A cells slots Q C hr H locs ls hP hD hS hl)
theorem ev_astore_n {q : Fin 4} {i : Nat} {x : Nat} (d : decode cc pc = .ok (.astore_n q, 1)) (hi : (q : Nat) = i) (hn : i < maxL) (hv : (i, Value.ref x) :: lv.filter (fun q => !(q.1 == i) && !(q.1 + 1 == i && q.2.category == 2)) = lv2) (k : Ev y cc maxL ret fr lc g (pc + 1) st lv2 h r h2) : Ev y cc maxL ret fr lc g pc (.ref x :: st) lv h r h2 := by
  intro p l e R s m args below meth c D cy A cells slots Q C hr H locs ls hP hD hS hl
  exact lv_astore_n C.1 C.2.1 d hi hl hn hv (fun ls hl => k p l e R s m args below meth c D cy A cells slots Q C hr H locs ls hP hD hS hl)
theorem ev_astore {i : Nat} {x : Nat} (d : decode cc pc = .ok (.astore i, 2)) (hn : i < maxL) (hv : (i, Value.ref x) :: lv.filter (fun q => !(q.1 == i) && !(q.1 + 1 == i && q.2.category == 2)) = lv2) (k : Ev y cc maxL ret fr lc g (pc + 2) st lv2 h r h2) : Ev y cc maxL ret fr lc g pc (.ref x :: st) lv h r h2 := by
  intro p l e R s m args below meth c D cy A cells slots Q C hr H locs ls hP hD hS hl
  exact lv_astore C.1 C.2.1 d hl hn hv (fun ls hl => k p l e R s m args below meth c D cy A cells slots Q C hr H locs ls hP hD hS hl)
theorem ev_iinc {i z : Nat} {n : Int} {x v : Int32} (d : decode cc pc = .ok (.iinc i n, 3)) (hk : lv[z]? = some (i, .int x)) (hx : x + Int32.ofInt n = v) (hn : i < maxL) (hv : (i, Value.int v) :: lv.filter (fun q => !(q.1 == i) && !(q.1 + 1 == i && q.2.category == 2)) = lv2) (k : Ev y cc maxL ret fr lc g (pc + 3) st lv2 h r h2) : Ev y cc maxL ret fr lc g pc st lv h r h2 := by
  intro p l e R s m args below meth c D cy A cells slots Q C hr H locs ls hP hD hS hl
  exact lv_iinc C.1 C.2.1 d hl hk hx hn hv (fun ls hl => k p l e R s m args below meth c D cy A cells slots Q C hr H locs ls hP hD hS hl)
theorem ev_sub (ks : List Nat) (hv : lv_pick lv ks = lv2) (k : Ev y cc maxL ret fr lc g pc st lv2 h r h2) : Ev y cc maxL ret fr lc g pc st lv h r h2 := by
  intro p l e R s m args below meth c D cy A cells slots Q C hr H locs ls hP hD hS hl
  exact k p l e R s m args below meth c D cy A cells slots Q C hr H locs ls hP hD hS (lv_sub hl ks hv)
theorem ev_iconst {n : Int} {v : Int32} (d : decode cc pc = .ok (.iconst n, 1)) (hv : Int32.ofInt n = v) (k : Ev y cc maxL ret fr lc g (pc + 1) (.int v :: st) lv h r h2) : Ev y cc maxL ret fr lc g pc (st) lv h r h2 := by
  intro p l e R s m args below meth c D cy A cells slots Q C hr H locs ls hP hD hS hl
  exact lv_iconst C.1 C.2.1 d hv (k p l e R s m args below meth c D cy A cells slots Q C hr H locs ls hP hD hS hl)
theorem ev_bipush {n : Int} {v : Int32} (d : decode cc pc = .ok (.bipush n, 2)) (hv : (Int8.ofInt n).toInt32 = v) (k : Ev y cc maxL ret fr lc g (pc + 2) (.int v :: st) lv h r h2) : Ev y cc maxL ret fr lc g pc (st) lv h r h2 := by
  intro p l e R s m args below meth c D cy A cells slots Q C hr H locs ls hP hD hS hl
  exact lv_bipush C.1 C.2.1 d hv (k p l e R s m args below meth c D cy A cells slots Q C hr H locs ls hP hD hS hl)
theorem ev_sipush {n : Int} {v : Int32} (d : decode cc pc = .ok (.sipush n, 3)) (hv : (Int16.ofInt n).toInt32 = v) (k : Ev y cc maxL ret fr lc g (pc + 3) (.int v :: st) lv h r h2) : Ev y cc maxL ret fr lc g pc (st) lv h r h2 := by
  intro p l e R s m args below meth c D cy A cells slots Q C hr H locs ls hP hD hS hl
  exact lv_sipush C.1 C.2.1 d hv (k p l e R s m args below meth c D cy A cells slots Q C hr H locs ls hP hD hS hl)
theorem ev_lconst {n : Fin 2} {v : Int64} (d : decode cc pc = .ok (.lconst n, 1)) (hv : Int64.ofNat (n : Nat) = v) (k : Ev y cc maxL ret fr lc g (pc + 1) (.long v :: st) lv h r h2) : Ev y cc maxL ret fr lc g pc (st) lv h r h2 := by
  intro p l e R s m args below meth c D cy A cells slots Q C hr H locs ls hP hD hS hl
  exact lv_lconst C.1 C.2.1 d hv (k p l e R s m args below meth c D cy A cells slots Q C hr H locs ls hP hD hS hl)
theorem ev_ldc {x : Nat} {v : Int32} (d : decode cc pc = .ok (.ldc x, 2)) (hw : Cond.constant y.cls x v ∈ lw_u) (k : Ev y cc maxL ret fr lc g (pc + 2) (.int v :: st) lv h r h2) : Ev y cc maxL ret fr lc g pc (st) lv h r h2 := by
  intro p l e R s m args below meth c D cy A cells slots Q C hr H locs ls hP hD hS hl
  exact lv_ldc C.1 C.2.1 (hown := C.2.2.2.1) (C.2.2.2.2.1 _ hw) d (k p l e R s m args below meth c D cy A cells slots Q C hr H locs ls hP hD hS hl)
theorem ev_ldcw {x : Nat} {v : Int32} (d : decode cc pc = .ok (.ldc_w x, 3)) (hw : Cond.constant y.cls x v ∈ lw_u) (k : Ev y cc maxL ret fr lc g (pc + 3) (.int v :: st) lv h r h2) : Ev y cc maxL ret fr lc g pc (st) lv h r h2 := by
  intro p l e R s m args below meth c D cy A cells slots Q C hr H locs ls hP hD hS hl
  exact lv_ldcw C.1 C.2.1 (hown := C.2.2.2.1) (C.2.2.2.2.1 _ hw) d (k p l e R s m args below meth c D cy A cells slots Q C hr H locs ls hP hD hS hl)
theorem ev_ldcf {x : Nat} {v : UInt32} (d : decode cc pc = .ok (.ldc x, 2)) (hw : Cond.constantFloat y.cls x v ∈ lw_u) (k : Ev y cc maxL ret fr lc g (pc + 2) (.float v :: st) lv h r h2) : Ev y cc maxL ret fr lc g pc (st) lv h r h2 := by
  intro p l e R s m args below meth c D cy A cells slots Q C hr H locs ls hP hD hS hl
  exact lv_ldcf C.1 C.2.1 (hown := C.2.2.2.1) (C.2.2.2.2.1 _ hw) d (k p l e R s m args below meth c D cy A cells slots Q C hr H locs ls hP hD hS hl)
theorem ev_ldc2 {x : Nat} {v : Int64} (d : decode cc pc = .ok (.ldc2_w x, 3)) (hw : Cond.constantLong y.cls x v ∈ lw_u) (k : Ev y cc maxL ret fr lc g (pc + 3) (.long v :: st) lv h r h2) : Ev y cc maxL ret fr lc g pc (st) lv h r h2 := by
  intro p l e R s m args below meth c D cy A cells slots Q C hr H locs ls hP hD hS hl
  exact lv_ldc2 C.1 C.2.1 (hown := C.2.2.2.1) (C.2.2.2.2.1 _ hw) d (k p l e R s m args below meth c D cy A cells slots Q C hr H locs ls hP hD hS hl)
theorem ev_ldc2d {x : Nat} {v : UInt64} (d : decode cc pc = .ok (.ldc2_w x, 3)) (hw : Cond.constantDouble y.cls x v ∈ lw_u) (k : Ev y cc maxL ret fr lc g (pc + 3) (.double v :: st) lv h r h2) : Ev y cc maxL ret fr lc g pc (st) lv h r h2 := by
  intro p l e R s m args below meth c D cy A cells slots Q C hr H locs ls hP hD hS hl
  exact lv_ldc2d C.1 C.2.1 (hown := C.2.2.2.1) (C.2.2.2.2.1 _ hw) d (k p l e R s m args below meth c D cy A cells slots Q C hr H locs ls hP hD hS hl)
theorem ev_dup {v : Value} (d : decode cc pc = .ok (.dup, 1)) (hv : v.category = 1) (k : Ev y cc maxL ret fr lc g (pc + 1) (v :: v :: st) lv h r h2) : Ev y cc maxL ret fr lc g pc (v :: st) lv h r h2 := by
  intro p l e R s m args below meth c D cy A cells slots Q C hr H locs ls hP hD hS hl
  exact lv_dup C.1 C.2.1 d hv (k p l e R s m args below meth c D cy A cells slots Q C hr H locs ls hP hD hS hl)
theorem ev_pop {v : Value} (d : decode cc pc = .ok (.pop, 1)) (hv : v.category = 1) (k : Ev y cc maxL ret fr lc g (pc + 1) (st) lv h r h2) : Ev y cc maxL ret fr lc g pc (v :: st) lv h r h2 := by
  intro p l e R s m args below meth c D cy A cells slots Q C hr H locs ls hP hD hS hl
  exact lv_pop C.1 C.2.1 d hv (k p l e R s m args below meth c D cy A cells slots Q C hr H locs ls hP hD hS hl)
theorem ev_dup2 {v u : Value} (d : decode cc pc = .ok (.dup2, 1)) (hv : v.category = 1) (hu : u.category = 1) (k : Ev y cc maxL ret fr lc g (pc + 1) (v :: u :: v :: u :: st) lv h r h2) : Ev y cc maxL ret fr lc g pc (v :: u :: st) lv h r h2 := by
  intro p l e R s m args below meth c D cy A cells slots Q C hr H locs ls hP hD hS hl
  exact lv_dup2_11 C.1 C.2.1 d hv hu (k p l e R s m args below meth c D cy A cells slots Q C hr H locs ls hP hD hS hl)
theorem ev_iadd {x z : Int32} (d : decode cc pc = .ok (.iadd, 1)) (k : Ev y cc maxL ret fr lc g (pc + 1) (.int (x + z) :: st) lv h r h2) : Ev y cc maxL ret fr lc g pc (.int z :: .int x :: st) lv h r h2 := by
  intro p l e R s m args below meth c D cy A cells slots Q C hr H locs ls hP hD hS hl
  exact lv_iadd C.1 C.2.1 d (k p l e R s m args below meth c D cy A cells slots Q C hr H locs ls hP hD hS hl)
theorem ev_isub {x z : Int32} (d : decode cc pc = .ok (.isub, 1)) (k : Ev y cc maxL ret fr lc g (pc + 1) (.int (x - z) :: st) lv h r h2) : Ev y cc maxL ret fr lc g pc (.int z :: .int x :: st) lv h r h2 := by
  intro p l e R s m args below meth c D cy A cells slots Q C hr H locs ls hP hD hS hl
  exact lv_isub C.1 C.2.1 d (k p l e R s m args below meth c D cy A cells slots Q C hr H locs ls hP hD hS hl)
theorem ev_imul {x z : Int32} (d : decode cc pc = .ok (.imul, 1)) (k : Ev y cc maxL ret fr lc g (pc + 1) (.int (x * z) :: st) lv h r h2) : Ev y cc maxL ret fr lc g pc (.int z :: .int x :: st) lv h r h2 := by
  intro p l e R s m args below meth c D cy A cells slots Q C hr H locs ls hP hD hS hl
  exact lv_imul C.1 C.2.1 d (k p l e R s m args below meth c D cy A cells slots Q C hr H locs ls hP hD hS hl)
theorem ev_iand {x z : Int32} (d : decode cc pc = .ok (.iand, 1)) (k : Ev y cc maxL ret fr lc g (pc + 1) (.int (x &&& z) :: st) lv h r h2) : Ev y cc maxL ret fr lc g pc (.int z :: .int x :: st) lv h r h2 := by
  intro p l e R s m args below meth c D cy A cells slots Q C hr H locs ls hP hD hS hl
  exact lv_iand C.1 C.2.1 d (k p l e R s m args below meth c D cy A cells slots Q C hr H locs ls hP hD hS hl)
theorem ev_ior {x z : Int32} (d : decode cc pc = .ok (.ior, 1)) (k : Ev y cc maxL ret fr lc g (pc + 1) (.int (x ||| z) :: st) lv h r h2) : Ev y cc maxL ret fr lc g pc (.int z :: .int x :: st) lv h r h2 := by
  intro p l e R s m args below meth c D cy A cells slots Q C hr H locs ls hP hD hS hl
  exact lv_ior C.1 C.2.1 d (k p l e R s m args below meth c D cy A cells slots Q C hr H locs ls hP hD hS hl)
theorem ev_ixor {x z : Int32} (d : decode cc pc = .ok (.ixor, 1)) (k : Ev y cc maxL ret fr lc g (pc + 1) (.int (x ^^^ z) :: st) lv h r h2) : Ev y cc maxL ret fr lc g pc (.int z :: .int x :: st) lv h r h2 := by
  intro p l e R s m args below meth c D cy A cells slots Q C hr H locs ls hP hD hS hl
  exact lv_ixor C.1 C.2.1 d (k p l e R s m args below meth c D cy A cells slots Q C hr H locs ls hP hD hS hl)
theorem ev_ishl {x z : Int32} (d : decode cc pc = .ok (.ishl, 1)) (k : Ev y cc maxL ret fr lc g (pc + 1) (.int (x <<< (z &&& 31)) :: st) lv h r h2) : Ev y cc maxL ret fr lc g pc (.int z :: .int x :: st) lv h r h2 := by
  intro p l e R s m args below meth c D cy A cells slots Q C hr H locs ls hP hD hS hl
  exact lv_ishl C.1 C.2.1 d (k p l e R s m args below meth c D cy A cells slots Q C hr H locs ls hP hD hS hl)
theorem ev_ishr {x z : Int32} (d : decode cc pc = .ok (.ishr, 1)) (k : Ev y cc maxL ret fr lc g (pc + 1) (.int (x >>> (z &&& 31)) :: st) lv h r h2) : Ev y cc maxL ret fr lc g pc (.int z :: .int x :: st) lv h r h2 := by
  intro p l e R s m args below meth c D cy A cells slots Q C hr H locs ls hP hD hS hl
  exact lv_ishr C.1 C.2.1 d (k p l e R s m args below meth c D cy A cells slots Q C hr H locs ls hP hD hS hl)
theorem ev_iushr {x z : Int32} (d : decode cc pc = .ok (.iushr, 1)) (k : Ev y cc maxL ret fr lc g (pc + 1) (.int ((x.toUInt32 >>> (z.toUInt32 &&& Int32.toUInt32 31)).toInt32) :: st) lv h r h2) : Ev y cc maxL ret fr lc g pc (.int z :: .int x :: st) lv h r h2 := by
  intro p l e R s m args below meth c D cy A cells slots Q C hr H locs ls hP hD hS hl
  exact lv_iushr C.1 C.2.1 d rfl (k p l e R s m args below meth c D cy A cells slots Q C hr H locs ls hP hD hS hl)
theorem ev_idiv {x z : Int32} (d : decode cc pc = .ok (.idiv, 1)) (hz : ¬ z = 0) (k : Ev y cc maxL ret fr lc g (pc + 1) (.int (x / z) :: st) lv h r h2) : Ev y cc maxL ret fr lc g pc (.int z :: .int x :: st) lv h r h2 := by
  intro p l e R s m args below meth c D cy A cells slots Q C hr H locs ls hP hD hS hl
  exact lv_idiv C.1 C.2.1 d hz (k p l e R s m args below meth c D cy A cells slots Q C hr H locs ls hP hD hS hl)
theorem ev_irem {x z : Int32} (d : decode cc pc = .ok (.irem, 1)) (hz : ¬ z = 0) (k : Ev y cc maxL ret fr lc g (pc + 1) (.int (x - x / z * z) :: st) lv h r h2) : Ev y cc maxL ret fr lc g pc (.int z :: .int x :: st) lv h r h2 := by
  intro p l e R s m args below meth c D cy A cells slots Q C hr H locs ls hP hD hS hl
  exact lv_irem C.1 C.2.1 d hz (k p l e R s m args below meth c D cy A cells slots Q C hr H locs ls hP hD hS hl)
theorem ev_ladd {x z : Int64} (d : decode cc pc = .ok (.ladd, 1)) (k : Ev y cc maxL ret fr lc g (pc + 1) (.long (x + z) :: st) lv h r h2) : Ev y cc maxL ret fr lc g pc (.long z :: .long x :: st) lv h r h2 := by
  intro p l e R s m args below meth c D cy A cells slots Q C hr H locs ls hP hD hS hl
  exact lv_ladd C.1 C.2.1 d (k p l e R s m args below meth c D cy A cells slots Q C hr H locs ls hP hD hS hl)
theorem ev_lsub {x z : Int64} (d : decode cc pc = .ok (.lsub, 1)) (k : Ev y cc maxL ret fr lc g (pc + 1) (.long (x - z) :: st) lv h r h2) : Ev y cc maxL ret fr lc g pc (.long z :: .long x :: st) lv h r h2 := by
  intro p l e R s m args below meth c D cy A cells slots Q C hr H locs ls hP hD hS hl
  exact lv_lsub C.1 C.2.1 d (k p l e R s m args below meth c D cy A cells slots Q C hr H locs ls hP hD hS hl)
theorem ev_lmul {x z : Int64} (d : decode cc pc = .ok (.lmul, 1)) (k : Ev y cc maxL ret fr lc g (pc + 1) (.long (x * z) :: st) lv h r h2) : Ev y cc maxL ret fr lc g pc (.long z :: .long x :: st) lv h r h2 := by
  intro p l e R s m args below meth c D cy A cells slots Q C hr H locs ls hP hD hS hl
  exact lv_lmul C.1 C.2.1 d (k p l e R s m args below meth c D cy A cells slots Q C hr H locs ls hP hD hS hl)
theorem ev_ldiv {x z : Int64} (d : decode cc pc = .ok (.ldiv, 1)) (hz : ¬ z = 0) (k : Ev y cc maxL ret fr lc g (pc + 1) (.long (x / z) :: st) lv h r h2) : Ev y cc maxL ret fr lc g pc (.long z :: .long x :: st) lv h r h2 := by
  intro p l e R s m args below meth c D cy A cells slots Q C hr H locs ls hP hD hS hl
  exact lv_ldiv C.1 C.2.1 d hz (k p l e R s m args below meth c D cy A cells slots Q C hr H locs ls hP hD hS hl)
theorem ev_lrem {x z : Int64} (d : decode cc pc = .ok (.lrem, 1)) (hz : ¬ z = 0) (k : Ev y cc maxL ret fr lc g (pc + 1) (.long (x - x / z * z) :: st) lv h r h2) : Ev y cc maxL ret fr lc g pc (.long z :: .long x :: st) lv h r h2 := by
  intro p l e R s m args below meth c D cy A cells slots Q C hr H locs ls hP hD hS hl
  exact lv_lrem C.1 C.2.1 d hz (k p l e R s m args below meth c D cy A cells slots Q C hr H locs ls hP hD hS hl)
theorem ev_lshl {x : Int64} {z : Int32} (d : decode cc pc = .ok (.lshl, 1)) (k : Ev y cc maxL ret fr lc g (pc + 1) (.long (x <<< (z.toInt64 &&& 63)) :: st) lv h r h2) : Ev y cc maxL ret fr lc g pc (.int z :: .long x :: st) lv h r h2 := by
  intro p l e R s m args below meth c D cy A cells slots Q C hr H locs ls hP hD hS hl
  exact lv_lshl C.1 C.2.1 d rfl (k p l e R s m args below meth c D cy A cells slots Q C hr H locs ls hP hD hS hl)
theorem ev_lcmp {x z : Int64} (d : decode cc pc = .ok (.lcmp, 1)) (k : Ev y cc maxL ret fr lc g (pc + 1) (.int (lg_cmp x z) :: st) lv h r h2) : Ev y cc maxL ret fr lc g pc (.long z :: .long x :: st) lv h r h2 := by
  intro p l e R s m args below meth c D cy A cells slots Q C hr H locs ls hP hD hS hl
  exact W.lcmp C.1 C.2.1 d (k p l e R s m args below meth c D cy A cells slots Q C hr H locs ls hP hD hS hl)
theorem ev_fadd {x z : UInt32} (d : decode cc pc = .ok (.fadd, 1)) (hz : vf_n32 (FP.fadd x z)) (k : Ev y cc maxL ret fr lc g (pc + 1) (.float (FP.fadd x z) :: st) lv h r h2) : Ev y cc maxL ret fr lc g pc (.float z :: .float x :: st) lv h r h2 := by
  intro p l e R s m args below meth c D cy A cells slots Q C hr H locs ls hP hD hS hl
  exact lv_fadd C.1 C.2.1 d hz (k p l e R s m args below meth c D cy A cells slots Q C hr H locs ls hP hD hS hl)
theorem ev_fsub {x z : UInt32} (d : decode cc pc = .ok (.fsub, 1)) (hz : vf_n32 (FP.fsub x z)) (k : Ev y cc maxL ret fr lc g (pc + 1) (.float (FP.fsub x z) :: st) lv h r h2) : Ev y cc maxL ret fr lc g pc (.float z :: .float x :: st) lv h r h2 := by
  intro p l e R s m args below meth c D cy A cells slots Q C hr H locs ls hP hD hS hl
  exact lv_fsub C.1 C.2.1 d hz (k p l e R s m args below meth c D cy A cells slots Q C hr H locs ls hP hD hS hl)
theorem ev_fmul {x z : UInt32} (d : decode cc pc = .ok (.fmul, 1)) (hz : vf_n32 (FP.fmul x z)) (k : Ev y cc maxL ret fr lc g (pc + 1) (.float (FP.fmul x z) :: st) lv h r h2) : Ev y cc maxL ret fr lc g pc (.float z :: .float x :: st) lv h r h2 := by
  intro p l e R s m args below meth c D cy A cells slots Q C hr H locs ls hP hD hS hl
  exact lv_fmul C.1 C.2.1 d hz (k p l e R s m args below meth c D cy A cells slots Q C hr H locs ls hP hD hS hl)
theorem ev_fdiv {x z : UInt32} (d : decode cc pc = .ok (.fdiv, 1)) (hz : vf_n32 (FP.fdiv x z)) (k : Ev y cc maxL ret fr lc g (pc + 1) (.float (FP.fdiv x z) :: st) lv h r h2) : Ev y cc maxL ret fr lc g pc (.float z :: .float x :: st) lv h r h2 := by
  intro p l e R s m args below meth c D cy A cells slots Q C hr H locs ls hP hD hS hl
  exact lv_fdiv C.1 C.2.1 d hz (k p l e R s m args below meth c D cy A cells slots Q C hr H locs ls hP hD hS hl)
theorem ev_dadd {x z : UInt64} (d : decode cc pc = .ok (.dadd, 1)) (hz : vf_n64 (FP.dadd x z)) (k : Ev y cc maxL ret fr lc g (pc + 1) (.double (FP.dadd x z) :: st) lv h r h2) : Ev y cc maxL ret fr lc g pc (.double z :: .double x :: st) lv h r h2 := by
  intro p l e R s m args below meth c D cy A cells slots Q C hr H locs ls hP hD hS hl
  exact lv_dadd C.1 C.2.1 d hz (k p l e R s m args below meth c D cy A cells slots Q C hr H locs ls hP hD hS hl)
theorem ev_dsub {x z : UInt64} (d : decode cc pc = .ok (.dsub, 1)) (hz : vf_n64 (FP.dsub x z)) (k : Ev y cc maxL ret fr lc g (pc + 1) (.double (FP.dsub x z) :: st) lv h r h2) : Ev y cc maxL ret fr lc g pc (.double z :: .double x :: st) lv h r h2 := by
  intro p l e R s m args below meth c D cy A cells slots Q C hr H locs ls hP hD hS hl
  exact lv_dsub C.1 C.2.1 d hz (k p l e R s m args below meth c D cy A cells slots Q C hr H locs ls hP hD hS hl)
theorem ev_dmul {x z : UInt64} (d : decode cc pc = .ok (.dmul, 1)) (hz : vf_n64 (FP.dmul x z)) (k : Ev y cc maxL ret fr lc g (pc + 1) (.double (FP.dmul x z) :: st) lv h r h2) : Ev y cc maxL ret fr lc g pc (.double z :: .double x :: st) lv h r h2 := by
  intro p l e R s m args below meth c D cy A cells slots Q C hr H locs ls hP hD hS hl
  exact lv_dmul C.1 C.2.1 d hz (k p l e R s m args below meth c D cy A cells slots Q C hr H locs ls hP hD hS hl)
theorem ev_ddiv {x z : UInt64} (d : decode cc pc = .ok (.ddiv, 1)) (hz : vf_n64 (FP.ddiv x z)) (k : Ev y cc maxL ret fr lc g (pc + 1) (.double (FP.ddiv x z) :: st) lv h r h2) : Ev y cc maxL ret fr lc g pc (.double z :: .double x :: st) lv h r h2 := by
  intro p l e R s m args below meth c D cy A cells slots Q C hr H locs ls hP hD hS hl
  exact lv_ddiv C.1 C.2.1 d hz (k p l e R s m args below meth c D cy A cells slots Q C hr H locs ls hP hD hS hl)
theorem ev_i2l {x : Int32} (d : decode cc pc = .ok (.i2l, 1)) (k : Ev y cc maxL ret fr lc g (pc + 1) (.long x.toInt64 :: st) lv h r h2) : Ev y cc maxL ret fr lc g pc (.int x :: st) lv h r h2 := by
  intro p l e R s m args below meth c D cy A cells slots Q C hr H locs ls hP hD hS hl
  exact lv_i2l C.1 C.2.1 d rfl (k p l e R s m args below meth c D cy A cells slots Q C hr H locs ls hP hD hS hl)
theorem ev_l2i {x : Int64} (d : decode cc pc = .ok (.l2i, 1)) (k : Ev y cc maxL ret fr lc g (pc + 1) (.int x.toInt32 :: st) lv h r h2) : Ev y cc maxL ret fr lc g pc (.long x :: st) lv h r h2 := by
  intro p l e R s m args below meth c D cy A cells slots Q C hr H locs ls hP hD hS hl
  exact lv_l2i C.1 C.2.1 d rfl (k p l e R s m args below meth c D cy A cells slots Q C hr H locs ls hP hD hS hl)
theorem ev_i2f {x : Int32} (d : decode cc pc = .ok (.i2f, 1)) (k : Ev y cc maxL ret fr lc g (pc + 1) (.float (FP.i2f x) :: st) lv h r h2) : Ev y cc maxL ret fr lc g pc (.int x :: st) lv h r h2 := by
  intro p l e R s m args below meth c D cy A cells slots Q C hr H locs ls hP hD hS hl
  exact lv_i2f C.1 C.2.1 d (k p l e R s m args below meth c D cy A cells slots Q C hr H locs ls hP hD hS hl)
theorem ev_i2d {x : Int32} (d : decode cc pc = .ok (.i2d, 1)) (k : Ev y cc maxL ret fr lc g (pc + 1) (.double (FP.i2d x) :: st) lv h r h2) : Ev y cc maxL ret fr lc g pc (.int x :: st) lv h r h2 := by
  intro p l e R s m args below meth c D cy A cells slots Q C hr H locs ls hP hD hS hl
  exact lv_i2d C.1 C.2.1 d (k p l e R s m args below meth c D cy A cells slots Q C hr H locs ls hP hD hS hl)
theorem ev_f2i {x : UInt32} (d : decode cc pc = .ok (.f2i, 1)) (k : Ev y cc maxL ret fr lc g (pc + 1) (.int (FP.f2i x) :: st) lv h r h2) : Ev y cc maxL ret fr lc g pc (.float x :: st) lv h r h2 := by
  intro p l e R s m args below meth c D cy A cells slots Q C hr H locs ls hP hD hS hl
  exact lv_f2i C.1 C.2.1 d (k p l e R s m args below meth c D cy A cells slots Q C hr H locs ls hP hD hS hl)
theorem ev_d2l {x : UInt64} (d : decode cc pc = .ok (.d2l, 1)) (k : Ev y cc maxL ret fr lc g (pc + 1) (.long (FP.d2l x) :: st) lv h r h2) : Ev y cc maxL ret fr lc g pc (.double x :: st) lv h r h2 := by
  intro p l e R s m args below meth c D cy A cells slots Q C hr H locs ls hP hD hS hl
  exact lv_d2l C.1 C.2.1 d (k p l e R s m args below meth c D cy A cells slots Q C hr H locs ls hP hD hS hl)
theorem ev_goto {off : Int} {tgt : Nat} (d : decode cc pc = .ok (.goto off, 3)) (ht : (pc : Int) + off = (tgt : Int)) (k : Ev y cc maxL ret fr lc g tgt st lv h r h2) : Ev y cc maxL ret fr lc g pc st lv h r h2 := by
  intro p l e R s m args below meth c D cy A cells slots Q C hr H locs ls hP hD hS hl
  exact lv_goto C.1 C.2.1 d ht (k p l e R s m args below meth c D cy A cells slots Q C hr H locs ls hP hD hS hl)
theorem ev_if_eq {x : Int32} {off : Int} {tgt : Nat} (d : decode cc pc = .ok (.ifCond .eq off, 3)) (ht : (pc : Int) + off = (tgt : Int)) (kt : x = 0 → Ev y cc maxL ret fr lc g tgt st lv h r h2) (kf : ¬ x = 0 → Ev y cc maxL ret fr lc g (pc + 3) st lv h r h2) : Ev y cc maxL ret fr lc g pc (.int x :: st) lv h r h2 := by
  intro p l e R s m args below meth c D cy A cells slots Q C hr H locs ls hP hD hS hl
  exact lv_if_eq C.1 C.2.1 d ht (fun c1 => kt c1 p l e R s m args below meth c D cy A cells slots Q C hr H locs ls hP hD hS hl) (fun c1 => kf c1 p l e R s m args below meth c D cy A cells slots Q C hr H locs ls hP hD hS hl)
theorem ev_icmp_eq {x y1 : Int32} {off : Int} {tgt : Nat} (d : decode cc pc = .ok (.if_icmp .eq off, 3)) (ht : (pc : Int) + off = (tgt : Int)) (kt : x = y1 → Ev y cc maxL ret fr lc g tgt st lv h r h2) (kf : ¬ x = y1 → Ev y cc maxL ret fr lc g (pc + 3) st lv h r h2) : Ev y cc maxL ret fr lc g pc (.int y1 :: .int x :: st) lv h r h2 := by
  intro p l e R s m args below meth c D cy A cells slots Q C hr H locs ls hP hD hS hl
  exact lv_icmp_eq C.1 C.2.1 d ht (fun c1 => kt c1 p l e R s m args below meth c D cy A cells slots Q C hr H locs ls hP hD hS hl) (fun c1 => kf c1 p l e R s m args below meth c D cy A cells slots Q C hr H locs ls hP hD hS hl)
theorem ev_if_ne {x : Int32} {off : Int} {tgt : Nat} (d : decode cc pc = .ok (.ifCond .ne off, 3)) (ht : (pc : Int) + off = (tgt : Int)) (kt : ¬ x = 0 → Ev y cc maxL ret fr lc g tgt st lv h r h2) (kf : x = 0 → Ev y cc maxL ret fr lc g (pc + 3) st lv h r h2) : Ev y cc maxL ret fr lc g pc (.int x :: st) lv h r h2 := by
  intro p l e R s m args below meth c D cy A cells slots Q C hr H locs ls hP hD hS hl
  exact lv_if_ne C.1 C.2.1 d ht (fun c1 => kt c1 p l e R s m args below meth c D cy A cells slots Q C hr H locs ls hP hD hS hl) (fun c1 => kf c1 p l e R s m args below meth c D cy A cells slots Q C hr H locs ls hP hD hS hl)
theorem ev_icmp_ne {x y1 : Int32} {off : Int} {tgt : Nat} (d : decode cc pc = .ok (.if_icmp .ne off, 3)) (ht : (pc : Int) + off = (tgt : Int)) (kt : ¬ x = y1 → Ev y cc maxL ret fr lc g tgt st lv h r h2) (kf : x = y1 → Ev y cc maxL ret fr lc g (pc + 3) st lv h r h2) : Ev y cc maxL ret fr lc g pc (.int y1 :: .int x :: st) lv h r h2 := by
  intro p l e R s m args below meth c D cy A cells slots Q C hr H locs ls hP hD hS hl
  exact lv_icmp_ne C.1 C.2.1 d ht (fun c1 => kt c1 p l e R s m args below meth c D cy A cells slots Q C hr H locs ls hP hD hS hl) (fun c1 => kf c1 p l e R s m args below meth c D cy A cells slots Q C hr H locs ls hP hD hS hl)
theorem ev_if_lt {x : Int32} {off : Int} {tgt : Nat} (d : decode cc pc = .ok (.ifCond .lt off, 3)) (ht : (pc : Int) + off = (tgt : Int)) (kt : x < 0 → Ev y cc maxL ret fr lc g tgt st lv h r h2) (kf : ¬ x < 0 → Ev y cc maxL ret fr lc g (pc + 3) st lv h r h2) : Ev y cc maxL ret fr lc g pc (.int x :: st) lv h r h2 := by
  intro p l e R s m args below meth c D cy A cells slots Q C hr H locs ls hP hD hS hl
  exact lv_if_lt C.1 C.2.1 d ht (fun c1 => kt c1 p l e R s m args below meth c D cy A cells slots Q C hr H locs ls hP hD hS hl) (fun c1 => kf c1 p l e R s m args below meth c D cy A cells slots Q C hr H locs ls hP hD hS hl)
theorem ev_icmp_lt {x y1 : Int32} {off : Int} {tgt : Nat} (d : decode cc pc = .ok (.if_icmp .lt off, 3)) (ht : (pc : Int) + off = (tgt : Int)) (kt : x < y1 → Ev y cc maxL ret fr lc g tgt st lv h r h2) (kf : ¬ x < y1 → Ev y cc maxL ret fr lc g (pc + 3) st lv h r h2) : Ev y cc maxL ret fr lc g pc (.int y1 :: .int x :: st) lv h r h2 := by
  intro p l e R s m args below meth c D cy A cells slots Q C hr H locs ls hP hD hS hl
  exact lv_icmp_lt C.1 C.2.1 d ht (fun c1 => kt c1 p l e R s m args below meth c D cy A cells slots Q C hr H locs ls hP hD hS hl) (fun c1 => kf c1 p l e R s m args below meth c D cy A cells slots Q C hr H locs ls hP hD hS hl)
theorem ev_if_ge {x : Int32} {off : Int} {tgt : Nat} (d : decode cc pc = .ok (.ifCond .ge off, 3)) (ht : (pc : Int) + off = (tgt : Int)) (kt : 0 ≤ x → Ev y cc maxL ret fr lc g tgt st lv h r h2) (kf : ¬ 0 ≤ x → Ev y cc maxL ret fr lc g (pc + 3) st lv h r h2) : Ev y cc maxL ret fr lc g pc (.int x :: st) lv h r h2 := by
  intro p l e R s m args below meth c D cy A cells slots Q C hr H locs ls hP hD hS hl
  exact lv_if_ge C.1 C.2.1 d ht (fun c1 => kt c1 p l e R s m args below meth c D cy A cells slots Q C hr H locs ls hP hD hS hl) (fun c1 => kf c1 p l e R s m args below meth c D cy A cells slots Q C hr H locs ls hP hD hS hl)
theorem ev_icmp_ge {x y1 : Int32} {off : Int} {tgt : Nat} (d : decode cc pc = .ok (.if_icmp .ge off, 3)) (ht : (pc : Int) + off = (tgt : Int)) (kt : y1 ≤ x → Ev y cc maxL ret fr lc g tgt st lv h r h2) (kf : ¬ y1 ≤ x → Ev y cc maxL ret fr lc g (pc + 3) st lv h r h2) : Ev y cc maxL ret fr lc g pc (.int y1 :: .int x :: st) lv h r h2 := by
  intro p l e R s m args below meth c D cy A cells slots Q C hr H locs ls hP hD hS hl
  exact lv_icmp_ge C.1 C.2.1 d ht (fun c1 => kt c1 p l e R s m args below meth c D cy A cells slots Q C hr H locs ls hP hD hS hl) (fun c1 => kf c1 p l e R s m args below meth c D cy A cells slots Q C hr H locs ls hP hD hS hl)
theorem ev_if_gt {x : Int32} {off : Int} {tgt : Nat} (d : decode cc pc = .ok (.ifCond .gt off, 3)) (ht : (pc : Int) + off = (tgt : Int)) (kt : 0 < x → Ev y cc maxL ret fr lc g tgt st lv h r h2) (kf : ¬ 0 < x → Ev y cc maxL ret fr lc g (pc + 3) st lv h r h2) : Ev y cc maxL ret fr lc g pc (.int x :: st) lv h r h2 := by
  intro p l e R s m args below meth c D cy A cells slots Q C hr H locs ls hP hD hS hl
  exact lv_if_gt C.1 C.2.1 d ht (fun c1 => kt c1 p l e R s m args below meth c D cy A cells slots Q C hr H locs ls hP hD hS hl) (fun c1 => kf c1 p l e R s m args below meth c D cy A cells slots Q C hr H locs ls hP hD hS hl)
theorem ev_icmp_gt {x y1 : Int32} {off : Int} {tgt : Nat} (d : decode cc pc = .ok (.if_icmp .gt off, 3)) (ht : (pc : Int) + off = (tgt : Int)) (kt : y1 < x → Ev y cc maxL ret fr lc g tgt st lv h r h2) (kf : ¬ y1 < x → Ev y cc maxL ret fr lc g (pc + 3) st lv h r h2) : Ev y cc maxL ret fr lc g pc (.int y1 :: .int x :: st) lv h r h2 := by
  intro p l e R s m args below meth c D cy A cells slots Q C hr H locs ls hP hD hS hl
  exact lv_icmp_gt C.1 C.2.1 d ht (fun c1 => kt c1 p l e R s m args below meth c D cy A cells slots Q C hr H locs ls hP hD hS hl) (fun c1 => kf c1 p l e R s m args below meth c D cy A cells slots Q C hr H locs ls hP hD hS hl)
theorem ev_if_le {x : Int32} {off : Int} {tgt : Nat} (d : decode cc pc = .ok (.ifCond .le off, 3)) (ht : (pc : Int) + off = (tgt : Int)) (kt : x ≤ 0 → Ev y cc maxL ret fr lc g tgt st lv h r h2) (kf : ¬ x ≤ 0 → Ev y cc maxL ret fr lc g (pc + 3) st lv h r h2) : Ev y cc maxL ret fr lc g pc (.int x :: st) lv h r h2 := by
  intro p l e R s m args below meth c D cy A cells slots Q C hr H locs ls hP hD hS hl
  exact lv_if_le C.1 C.2.1 d ht (fun c1 => kt c1 p l e R s m args below meth c D cy A cells slots Q C hr H locs ls hP hD hS hl) (fun c1 => kf c1 p l e R s m args below meth c D cy A cells slots Q C hr H locs ls hP hD hS hl)
theorem ev_icmp_le {x y1 : Int32} {off : Int} {tgt : Nat} (d : decode cc pc = .ok (.if_icmp .le off, 3)) (ht : (pc : Int) + off = (tgt : Int)) (kt : x ≤ y1 → Ev y cc maxL ret fr lc g tgt st lv h r h2) (kf : ¬ x ≤ y1 → Ev y cc maxL ret fr lc g (pc + 3) st lv h r h2) : Ev y cc maxL ret fr lc g pc (.int y1 :: .int x :: st) lv h r h2 := by
  intro p l e R s m args below meth c D cy A cells slots Q C hr H locs ls hP hD hS hl
  exact lv_icmp_le C.1 C.2.1 d ht (fun c1 => kt c1 p l e R s m args below meth c D cy A cells slots Q C hr H locs ls hP hD hS hl) (fun c1 => kf c1 p l e R s m args below meth c D cy A cells slots Q C hr H locs ls hP hD hS hl)
theorem ev_tableOut {dflt lo hi : Int} {offs : Array Int} {len : Nat} {x : Int32} {tgt : Nat} (d : decode cc pc = .ok (.tableswitch dflt lo hi offs, len)) (hx : x.toInt < lo ∨ hi < x.toInt) (ht : (pc : Int) + dflt = (tgt : Int)) (k : Ev y cc maxL ret fr lc g tgt st lv h r h2) : Ev y cc maxL ret fr lc g pc (.int x :: st) lv h r h2 := by
  intro p l e R s m args below meth c D cy A cells slots Q C hr H locs ls hP hD hS hl
  exact lv_tableOut C.1 C.2.1 d hx ht (k p l e R s m args below meth c D cy A cells slots Q C hr H locs ls hP hD hS hl)
theorem ev_tableIn {dflt lo hi : Int} {offs : Array Int} {len : Nat} {x : Int32} {off : Int} {tgt : Nat} (d : decode cc pc = .ok (.tableswitch dflt lo hi offs, len)) (h1 : ¬ x.toInt < lo) (h3 : ¬ hi < x.toInt) (ho : offs[(x.toInt - lo).toNat]? = some off) (ht : (pc : Int) + off = (tgt : Int)) (k : Ev y cc maxL ret fr lc g tgt st lv h r h2) : Ev y cc maxL ret fr lc g pc (.int x :: st) lv h r h2 := by
  intro p l e R s m args below meth c D cy A cells slots Q C hr H locs ls hP hD hS hl
  exact lv_tableIn C.1 C.2.1 d h1 h3 ho ht (k p l e R s m args below meth c D cy A cells slots Q C hr H locs ls hP hD hS hl)
theorem ev_lookup {dflt : Int} {ps : Array (Int × Int)} {len : Nat} {x : Int32} {off : Int} {tgt : Nat} (d : decode cc pc = .ok (.lookupswitch dflt ps, len)) (hp : (ps.toList.zip (ps.toList.drop 1)).all (fun (a, next) => a.1 < next.1) = true) (ho : Op.lookupswitch.offset ps.toList dflt x.toInt = off) (ht : (pc : Int) + off = (tgt : Int)) (k : Ev y cc maxL ret fr lc g tgt st lv h r h2) : Ev y cc maxL ret fr lc g pc (.int x :: st) lv h r h2 := by
  intro p l e R s m args below meth c D cy A cells slots Q C hr H locs ls hP hD hS hl
  exact lv_lookup C.1 C.2.1 d hp ho ht (k p l e R s m args below meth c D cy A cells slots Q C hr H locs ls hP hD hS hl)
theorem ev_fconst0 (d : decode cc pc = .ok (.fconst 0, 1)) (k : Ev y cc maxL ret fr lc g (pc + 1) (.float FP.fconst0 :: st) lv h r h2) : Ev y cc maxL ret fr lc g pc (st) lv h r h2 := by
  intro p l e R s m args below meth c D cy A cells slots Q C hr H locs ls hP hD hS hl
  exact lv_fconst0 C.1 C.2.1 d (k p l e R s m args below meth c D cy A cells slots Q C hr H locs ls hP hD hS hl)
theorem ev_fconst1 (d : decode cc pc = .ok (.fconst 1, 1)) (k : Ev y cc maxL ret fr lc g (pc + 1) (.float FP.fconst1 :: st) lv h r h2) : Ev y cc maxL ret fr lc g pc (st) lv h r h2 := by
  intro p l e R s m args below meth c D cy A cells slots Q C hr H locs ls hP hD hS hl
  exact lv_fconst1 C.1 C.2.1 d (k p l e R s m args below meth c D cy A cells slots Q C hr H locs ls hP hD hS hl)
theorem ev_fconst2 (d : decode cc pc = .ok (.fconst 2, 1)) (k : Ev y cc maxL ret fr lc g (pc + 1) (.float FP.fconst2 :: st) lv h r h2) : Ev y cc maxL ret fr lc g pc (st) lv h r h2 := by
  intro p l e R s m args below meth c D cy A cells slots Q C hr H locs ls hP hD hS hl
  exact lv_fconst2 C.1 C.2.1 d (k p l e R s m args below meth c D cy A cells slots Q C hr H locs ls hP hD hS hl)
theorem ev_dconst0 (d : decode cc pc = .ok (.dconst 0, 1)) (k : Ev y cc maxL ret fr lc g (pc + 1) (.double FP.dconst0 :: st) lv h r h2) : Ev y cc maxL ret fr lc g pc (st) lv h r h2 := by
  intro p l e R s m args below meth c D cy A cells slots Q C hr H locs ls hP hD hS hl
  exact lv_dconst0 C.1 C.2.1 d (k p l e R s m args below meth c D cy A cells slots Q C hr H locs ls hP hD hS hl)
theorem ev_dconst1 (d : decode cc pc = .ok (.dconst 1, 1)) (k : Ev y cc maxL ret fr lc g (pc + 1) (.double FP.dconst1 :: st) lv h r h2) : Ev y cc maxL ret fr lc g pc (st) lv h r h2 := by
  intro p l e R s m args below meth c D cy A cells slots Q C hr H locs ls hP hD hS hl
  exact lv_dconst1 C.1 C.2.1 d (k p l e R s m args below meth c D cy A cells slots Q C hr H locs ls hP hD hS hl)
theorem ev_fcmp {x y1 : UInt32} {op : CmpOp} (d : decode cc pc = .ok (.fcmp op, 1)) (k : Ev y cc maxL ret fr lc g (pc + 1) (.int (Op.cmpValue (FP.fcmp x y1) op) :: st) lv h r h2) : Ev y cc maxL ret fr lc g pc (.float y1 :: .float x :: st) lv h r h2 := by
  intro p l e R s m args below meth c D cy A cells slots Q C hr H locs ls hP hD hS hl
  exact lv_fcmp C.1 C.2.1 d (k p l e R s m args below meth c D cy A cells slots Q C hr H locs ls hP hD hS hl)
theorem ev_dcmp {x y1 : UInt64} {op : CmpOp} (d : decode cc pc = .ok (.dcmp op, 1)) (k : Ev y cc maxL ret fr lc g (pc + 1) (.int (Op.cmpValue (FP.dcmp x y1) op) :: st) lv h r h2) : Ev y cc maxL ret fr lc g pc (.double y1 :: .double x :: st) lv h r h2 := by
  intro p l e R s m args below meth c D cy A cells slots Q C hr H locs ls hP hD hS hl
  exact lv_dcmp C.1 C.2.1 d (k p l e R s m args below meth c D cy A cells slots Q C hr H locs ls hP hD hS hl)
theorem ev_return_  (d : decode cc pc = .ok (.return_, 1)) (ho : retOK ret (none)) : Ev y cc maxL ret fr lc g pc [] lv h (none) h := by
  intro p l e R s m args below meth c D cy A cells slots Q C hr H locs ls hP hD hS hl
  exact hr H locs ls pc _ rfl ho d hP hS
theorem ev_ireturn {v : Int32} (d : decode cc pc = .ok (.ireturn, 1)) (ho : retOK ret (some (.int v))) : Ev y cc maxL ret fr lc g pc [.int v] lv h (some (.int v)) h := by
  intro p l e R s m args below meth c D cy A cells slots Q C hr H locs ls hP hD hS hl
  exact hr H locs ls pc _ rfl ho d hP hS
theorem ev_lreturn {v : Int64} (d : decode cc pc = .ok (.lreturn, 1)) (ho : retOK ret (some (.long v))) : Ev y cc maxL ret fr lc g pc [.long v] lv h (some (.long v)) h := by
  intro p l e R s m args below meth c D cy A cells slots Q C hr H locs ls hP hD hS hl
  exact hr H locs ls pc _ rfl ho d hP hS
theorem ev_freturn {v : UInt32} (d : decode cc pc = .ok (.freturn, 1)) (ho : retOK ret (some (.float v))) : Ev y cc maxL ret fr lc g pc [.float v] lv h (some (.float v)) h := by
  intro p l e R s m args below meth c D cy A cells slots Q C hr H locs ls hP hD hS hl
  exact hr H locs ls pc _ rfl ho d hP hS
theorem ev_dreturn {v : UInt64} (d : decode cc pc = .ok (.dreturn, 1)) (ho : retOK ret (some (.double v))) : Ev y cc maxL ret fr lc g pc [.double v] lv h (some (.double v)) h := by
  intro p l e R s m args below meth c D cy A cells slots Q C hr H locs ls hP hD hS hl
  exact hr H locs ls pc _ rfl ho d hP hS
end EvRows
