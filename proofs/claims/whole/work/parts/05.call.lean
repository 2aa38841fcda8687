def Pre (g : Gl) (D : va_G) (cy : Nat → ClassId) (h : Hp) (sz : Nat) (U : State) : Prop := U.heap.size = sz ∧ va_P D vcls (wsO cy h g.1) U.heap ∧ va_D (fun _ => True) (wsO cy h g.1) ∧ va_K D vcls (tysO cy) U ∧ St g (va_A (wsO cy h g.1) sz) U
def Post (g : Gl) (D : va_G) (cy : Nat → ClassId) (h2 : Hp) (r : Option Value) (A : Nat → Prop) (st : State) (oc : Outcome) (t : State) : Prop := (oc = .returned r ∧ va_P D vcls (wsO cy h2 g.1) t.heap) ∧ va_F A st t
theorem St_same {g : Gl} {A : Nat → Prop} {u U : State} (hv : u.vm = U.vm) (hh : U.heap = u.heap) (h : St g A u) : St g A U := by
  have hal : u.vm.Alike U.vm := by rw [hv]; exact Vm.Alike.refl _
  refine ⟨fun k hk => ?_, fun k hk => ⟨?_, (h.2 k hk).2.same rfl hv⟩⟩
  · rw [hh]; exact (h.1 k hk).moved hal
  · rw [hh]; exact (h.2 k hk).1.moved hal
theorem St_call {g : Gl} {A A1 : Nat → Prop} {s U : State} {H : Heap} {locs : List Loc} (h : St g A s) (hS : va_S A s.heap H locs) (hU : U.heap = H) (hW : s.WarmedH U.vm) (hAA : ∀ q, A1 q → A q) : St g A1 U := by
  refine ⟨fun k hk => ?_, fun k hk => ⟨?_, (h.2 k hk).2.warmF hW⟩⟩
  · rw [hU]; exact (((h.1 k hk).kept (fun a h1 h2 => hS.2.1 a h1 h2)).moved hW.alike).narrow hAA
  · rw [hU]; exact (((h.2 k hk).1.kept (fun a h1 h2 => hS.2.1 a h1 h2)).moved hW.alike).narrow hAA
theorem Pre_blind {g : Gl} {D : va_G} {cy : Nat → ClassId} {h : Hp} {sz : Nat} {As : List Value} : FrameBlind (va_Pc As (Pre g D cy h sz)) := by
  intro a U f mk q
  obtain ⟨q0, q1, qP, qD, qK, qS⟩ := q
  exact ⟨q0, q1, qP, qD, va_K.moved (u := U) (U := U.calling f mk a) (Vm.Alike.refl U.vm) qK, St_same (u := U) (U := U.calling f mk a) rfl rfl qS⟩
section EvCall
variable {y y1 : MethodName} {cc cc1 : ByteArray} {maxL fr lc maxL1 fr1 lc1 : Nat} {ret : Option FieldType} {g : Gl} {pc : Nat} {st st0 : List Value} {lv lv2 : List (Nat × Value)} {h h1 h2 : Hp} {r r1 : Option Value} {ret1 : Option FieldType} {As : List Value}
theorem met_ofWF {l : Launch} {ws ws' : List Cond} {rm : Room} {Pc : Array Value → State → Prop} {Qc : Array Value → State → Outcome → State → Prop} {mc ms : Nat} {free : Addr → Prop}
    (hy : plainFor y = true) (hw : ws = Cond.code y cc maxL ret :: ws')
    (body : ∀ p e s m args below meth c s₁, BodyLoose p l y (headSpec ws rm) cc maxL ret e s m args below meth c s₁ → c.maxLocals = maxL → Pc args s →
      W p l e (headSpec ws rm).room s m args below meth c s.heap [] 0 0 (MQ below Qc args s mc ms free) (entryFrame m args maxL)) : Met l y ws rm Pc Qc mc ms free := by
  refine MetFree.of_bodySF (code := cc) (maxLocals := maxL) (ret := ret) hy ?_ ?_
  · intro args s m h hn
    obtain ⟨meth, c, h1, h2, h3, h4, h5, h6, -, -⟩ := Cond.code_spec hn (atoms_spec (ws := ws) h _ (by rw [hw]; exact List.mem_cons_self))
    exact ⟨meth, c, h1, h2, h3, h4, h5, h6⟩
  · intro p e s m args below meth c s₁ B hml hP _
    have hh0 : s₁.heap = s.heap := by rw [B.state]; rfl
    obtain ⟨t, a1, o, b1, b2, b3⟩ := body p e s m args below meth c s₁ B hml hP s₁ hh0 (Stand.of_body B)
    exact ⟨t, o, a1, b1, b2, ⟨b3.1, b3.2⟩⟩
theorem met_of (hy : plainFor y = true) (hlen : (lg_sl As).length ≤ maxL) (E : Ev y cc maxL ret fr lc g 0 [] (lv_args 0 As) h r h2) (l : Launch) (D : va_G) (cy : Nat → ClassId) (sz : Nat) :
    Met l y (.code y cc maxL ret :: lw_u) { frames := fr, cells := 0, slots := 0, locals := lc } (va_Pc As (Pre g D cy h sz)) (fun _ st oc t => Post g D cy h2 r (va_A (wsO cy h g.1) sz) st oc t) 0 0 (va_A (wsO cy h g.1) sz) := by
  refine met_ofWF (cc := cc) (maxL := maxL) (ret := ret) hy rfl ?_
  intro p e s m args below meth c s₁ B hml hv
  obtain ⟨rfl, hsz, hP, hD0, hK, hSt⟩ := hv
  have hts := atoms_spec (ws := .code y cc maxL ret :: lw_u) B.pre
  have hown : s.vm.findClass y.cls = some m.cls := findClass_of_methodNamed B.named
  have hlocks := B.notSynchronized
  have hr := B.returns
  subst hsz
  have hD := hD0.self (sz := s.heap.size)
  have C : Cx y cc maxL fr lc g D cy (va_A (wsO cy h g.1) s.heap.size) p (headSpec (.code y cc maxL ret :: lw_u) { frames := fr, cells := 0, slots := 0, locals := lc }).room s m As.toArray c 0 0 := ⟨B.exec, B.bytes, hml, hown, fun w hw => hts w (List.mem_cons_of_mem _ hw), ⟨Nat.le_refl _, Nat.le_refl _⟩, ⟨Nat.le_refl _, Nat.le_refl _⟩, hK, hSt, fun q hq => Or.inr hq⟩
  have hl := lv_entry As (n := maxL) hlen
  rw [lg_entry_eq]
  refine E p l e _ s m _ below meth c D cy _ 0 0 _ C ?_ s.heap [] _ hP hD va_S.rf hl
  intro H1 locs1 ls1 pc1 ig hri hret hd hP1 hS1
  match r, hret, hri with
  | none, hret, hri =>
    cases hri
    exact W.vret B.exec B.bytes (hr.trans hret) (fun t ht hW => ⟨⟨rfl, by rw [ht]; exact hP1⟩, hS1.F ht⟩) hS1.2.2 hd
  | some (.int v), hret, hri =>
    cases hri
    obtain ⟨ty, e1, e2⟩ := hret
    exact W.zret B.exec B.bytes (hr.trans e1) e2 (fun t ht hW => ⟨⟨rfl, by rw [ht]; exact hP1⟩, hS1.F ht⟩) hS1.2.2 hd
  | some (.long v), hret, hri =>
    cases hri
    exact W.lret B.exec B.bytes (hr.trans hret) (fun t ht hW => ⟨⟨rfl, by rw [ht]; exact hP1⟩, hS1.F ht⟩) hS1.2.2 hd
  | some (.float v), hret, hri =>
    cases hri
    exact W.fret B.exec B.bytes (hr.trans hret) (fun t ht hW => ⟨⟨rfl, by rw [ht]; exact hP1⟩, hS1.F ht⟩) hS1.2.2 hd
  | some (.double v), hret, hri =>
    cases hri
    exact W.dret B.exec B.bytes (hr.trans hret) (fun t ht hW => ⟨⟨rfl, by rw [ht]; exact hP1⟩, hS1.F ht⟩) hS1.2.2 hd
theorem ev_run {p : Program} {l : Launch} {e : Env} {R : Room} {s : State} {m : MethodId} {args : Array Value} {below : List Frame} {meth : Method} {c : Code} {H H0 : Heap} {locs : List Loc} {cells slots : Nat} {Q : State → Prop} {D : va_G} {cy : Nat → ClassId} {ls : Array Slot} {A0 A1 : Nat → Prop} {free : Addr → Prop}
    (hr : va_Run p l e R s m args below meth c H locs cells slots 0 0 (F0 m pc ls st0) st (fun st oc t => Post g D cy h1 r1 A1 st oc t) free) (hS : va_S A0 H0 H locs) (hA : ∀ q, q < H.size → A1 q → A0 q) (hf : ∀ q, free q → A0 q)
    (kk : ∀ (H1 : Heap) (locs1 : List Loc), va_P D vcls (wsO cy h1 g.1) H1 → va_S A0 H0 H1 locs1 → W p l e R s m args below meth c H1 locs1 cells slots Q (F0 m (pc + 3) ls (r1.toList ++ st))) : W p l e R s m args below meth c H locs cells slots Q (F0 m pc ls st0) := by
  intro T hT X
  obtain ⟨v, st₀, t, T', L, h0, X', hL, e1, e2, ⟨⟨hv, hb⟩, hz, hk⟩, st⟩ := hr T hT X
  cases hv
  rw [h0] at hz hk
  obtain ⟨t2, a1, b1⟩ := kk T'.heap (locs ++ L) (by rw [e1]; exact hb)
    ⟨Nat.le_trans hS.1 (by rw [e1]; exact hz), fun q g1 g2 => by rw [e1, hk q (Nat.lt_of_lt_of_le g1 hS.1) (fun z => g2 (hA q (Nat.lt_of_lt_of_le g1 hS.1) z))]; exact hS.2.1 q g1 g2, fun q hq => by
      rcases List.mem_append.mp hq with z | z
      · exact hS.2.2 q z
      · exact hf _ (hL q z)⟩ T' rfl X'
  exact ⟨t2, st t2 a1, b1⟩
def CalV (y : MethodName) (cc : ByteArray) (maxL : Nat) (ret : Option FieldType) (n : Nat) : Prop := (Cond.instanceMethod y ∈ lw_u ∧ Cond.selects y.cls y y ∈ lw_u ∧ Cond.initialized y.cls ∈ lw_u ∧ Cond.code y cc maxL ret ∈ lw_u) ∧ (y.cls ≠ "java/lang/invoke/MethodHandle" ∧ y.cls ≠ "java/lang/invoke/VarHandle" ∧ (parseMethodDescriptor y.desc).map (fun d => d.parameters.length) = some n) ∧ plainFor y = true
def CalS (y : MethodName) (cc : ByteArray) (maxL : Nat) (ret : Option FieldType) (n : Nat) : Prop := (Cond.static y ∈ lw_u ∧ Cond.initialized y.cls ∈ lw_u ∧ Cond.code y cc maxL ret ∈ lw_u) ∧ (y.cls ≠ "java/lang/invoke/MethodHandle" ∧ y.cls ≠ "java/lang/invoke/VarHandle" ∧ (parseMethodDescriptor y.desc).map (fun d => d.parameters.length) = some n) ∧ plainFor y = true
theorem wsO_free {cy : Nat → ClassId} {h : Hp} {o : Ob} {A : Nat → Prop} {H0 H : Heap} {locs : List Loc} (hD : va_D A (wsO cy h o)) (hS : va_S A H0 H locs) (hA : ∀ q, H0.size ≤ q → A q) : ∀ q, va_A (wsO cy h o) H.size q → A q := by
  intro q hq
  rcases hq with ⟨k, e, hk⟩ | hq
  · exact hD.2 k (q, e) hk
  · exact hA q (Nat.le_trans hS.1 hq)
theorem ev_callV {n1 b cb nb x N : Nat} {T : u_T} (cal : CalV y1 cc1 maxL1 ret1 n1) (hkd : KD g.1 b cb nb) (hcb : vcls[cb]? = some (y1.cls, T, N)) (E1 : Ev y1 cc1 maxL1 ret1 fr1 lc1 g 0 [] (lv_args 0 (.ref b :: As)) h r1 h1) (hlen : (lg_sl (.ref b :: As)).length ≤ maxL1) (hn : As.length = n1) (hw : Cond.methodLink y.cls x y1 ∈ lw_u) (hfr : fr1 + 1 ≤ fr) (hlc : 8 + (maxL1 + 11) + lc1 ≤ lc) (hst : (st.map fun v => v.category).sum ≤ 8) (d : decode cc pc = .ok (.invokevirtual x, 3)) (hs0 : st0 = As.reverse ++ .ref b :: st) (k : Ev y cc maxL ret fr lc g (pc + 3) (r1.toList ++ st) lv h1 r h2) : Ev y cc maxL ret fr lc g pc st0 lv h r h2 := by
  intro p l e R s m args below meth co D cy A cells slots Q C hr H locs ls hP hD hS hl
  have hF := wsO_free hD hS C.2.2.2.2.2.2.2.2.2
  have hM := met_of cal.2.2 hlen E1 l D cy H.size
  have hpc : ∀ U : State, U.heap = H → s.WarmedH U.vm → Pre g D cy h H.size U := fun U hU hW => ⟨by rw [hU], by rw [hU]; exact hP, hD.weaken (fun _ _ _ _ => trivial), va_K.moved hW.alike C.2.2.2.2.2.2.2.1, St_call C.2.2.2.2.2.2.2.2.1 hS hU hW hF⟩
  have hG : GoodIn lw_u (wsV y.cls x y1.cls y1 (.code y1 cc1 maxL1 ret1 :: lw_u)) := goodInU (fun w hh => by
    unfold wsV at hh
    rcases List.mem_append.mp hh with hh | hh
    · simp only [List.mem_cons, List.not_mem_nil, or_false] at hh
      rcases hh with rfl | rfl | rfl | rfl
      · exact hw
      · exact cal.1.1
      · exact cal.1.2.1
      · exact cal.1.2.2.1
    · rcases List.mem_cons.mp hh with rfl | hh
      · exact cal.1.2.2.2
      · exact hh)
  refine ev_run (va_runV (As := As) (rest := st) ⟨C.1, C.2.1, C.2.2.1, C.2.2.2.1, C.2.2.2.2.1⟩ hM (cwV n1 C.2.2.2.2.1 hG rfl rfl rfl ⟨rfl, cal.2.1⟩ ⟨Nat.le_trans hfr C.2.2.2.2.2.1.1, Nat.le_trans hlc C.2.2.2.2.2.1.2⟩) ⟨Pre_blind, va_recv C.2.2.2.2.2.2.2.1 hP hcb (wsO_obj hkd (cls_lt hcb)), fun U hU hW => ⟨rfl, hpc U hU hW⟩⟩ rfl hn hl.1 hs0 (lv_room hst) d ⟨C.2.2.2.2.2.2.1.1, C.2.2.2.2.2.2.1.2⟩) hS (fun q _ hq => hF q hq) hF (fun H locs hP hS => ?_)
  exact k p l e R s m args below meth co D cy A cells slots Q C hr H locs ls hP (wsO_D hD) hS hl
theorem ev_callS {n1 x : Nat} (cal : CalS y1 cc1 maxL1 ret1 n1) (E1 : Ev y1 cc1 maxL1 ret1 fr1 lc1 g 0 [] (lv_args 0 As) h r1 h1) (hlen : (lg_sl As).length ≤ maxL1) (hn : As.length = n1) (hw : Cond.methodLink y.cls x y1 ∈ lw_u) (hfr : fr1 + 1 ≤ fr) (hlc : 8 + (maxL1 + 11) + lc1 ≤ lc) (hst : (st.map fun v => v.category).sum ≤ 8) (d : decode cc pc = .ok (.invokestatic x, 3)) (hs0 : st0 = As.reverse ++ st) (k : Ev y cc maxL ret fr lc g (pc + 3) (r1.toList ++ st) lv h1 r h2) : Ev y cc maxL ret fr lc g pc st0 lv h r h2 := by
  intro p l e R s m args below meth co D cy A cells slots Q C hr H locs ls hP hD hS hl
  have hF := wsO_free hD hS C.2.2.2.2.2.2.2.2.2
  have hM := met_of cal.2.2 hlen E1 l D cy H.size
  have hpc : ∀ U : State, U.heap = H → s.WarmedH U.vm → Pre g D cy h H.size U := fun U hU hW => ⟨by rw [hU], by rw [hU]; exact hP, hD.weaken (fun _ _ _ _ => trivial), va_K.moved hW.alike C.2.2.2.2.2.2.2.1, St_call C.2.2.2.2.2.2.2.2.1 hS hU hW hF⟩
  have hG : GoodIn lw_u (va_wsS y.cls x y1 (.code y1 cc1 maxL1 ret1 :: lw_u)) := goodInU (fun w hh => by
    unfold va_wsS at hh
    rcases List.mem_append.mp hh with hh | hh
    · simp only [List.mem_cons, List.not_mem_nil, or_false] at hh
      rcases hh with rfl | rfl | rfl
      · exact hw
      · exact cal.1.1
      · exact cal.1.2.1
    · rcases List.mem_cons.mp hh with rfl | hh
      · exact cal.1.2.2
      · exact hh)
  refine ev_run (va_runS (As := As) (rest := st) ⟨C.1, C.2.1, C.2.2.1, C.2.2.2.1, C.2.2.2.2.1⟩ hM (va_cwS n1 C.2.2.2.2.1 hG rfl rfl rfl cal.2.1 ⟨Nat.le_trans hfr C.2.2.2.2.2.1.1, Nat.le_trans hlc C.2.2.2.2.2.1.2⟩) ⟨Pre_blind, fun U hU hW => ⟨rfl, hpc U hU hW⟩⟩ rfl hn hl.1 hs0 (lv_room hst) d ⟨C.2.2.2.2.2.2.1.1, C.2.2.2.2.2.2.1.2⟩) hS (fun q _ hq => hF q hq) hF (fun H locs hP hS => ?_)
  exact k p l e R s m args below meth co D cy A cells slots Q C hr H locs ls hP (wsO_D hD) hS hl
theorem ev_f2iRaw {x : Nat} {v : UInt32} (hfr : 1 ≤ fr) (hlc : (st.map fun v => v.category).sum + 15 ≤ lc) (hw : Cond.methodLink y.cls x ⟨"java/lang/Float", "floatToRawIntBits", "(F)I"⟩ ∈ lw_u) (h3 : Cond.native ⟨"java/lang/Float", "floatToRawIntBits", "(F)I"⟩ ∈ lw_u) (h4 : Cond.static ⟨"java/lang/Float", "floatToRawIntBits", "(F)I"⟩ ∈ lw_u) (h5 : Cond.initialized "java/lang/Float" ∈ lw_u) (d : decode cc pc = .ok (.invokestatic x, 3)) (k : Ev y cc maxL ret fr lc g (pc + 3) (.int v.toInt32 :: st) lv h r h2) : Ev y cc maxL ret fr lc g pc (.float v :: st) lv h r h2 := by
  intro p l e R s m args below meth co D cy A cells slots Q C hr H locs ls hP hD hS hl
  exact vn_f2i C.1 C.2.1 (C.2.2.1.trans hl.1.symm) C.2.2.2.1 (C.2.2.2.2.1 _ hw) (C.2.2.2.2.1 _ h3) (C.2.2.2.2.1 _ h4) (C.2.2.2.2.1 _ h5) (Nat.le_trans hfr C.2.2.2.2.2.1.1) (Nat.le_trans hlc C.2.2.2.2.2.1.2) d (k p l e R s m args below meth co D cy A cells slots Q C hr H locs ls hP hD hS hl)
theorem ev_d2lRaw {x : Nat} {v : UInt64} (hfr : 1 ≤ fr) (hlc : (st.map fun v => v.category).sum + 15 ≤ lc) (hw : Cond.methodLink y.cls x ⟨"java/lang/Double", "doubleToRawLongBits", "(D)J"⟩ ∈ lw_u) (h3 : Cond.native ⟨"java/lang/Double", "doubleToRawLongBits", "(D)J"⟩ ∈ lw_u) (h4 : Cond.static ⟨"java/lang/Double", "doubleToRawLongBits", "(D)J"⟩ ∈ lw_u) (h5 : Cond.initialized "java/lang/Double" ∈ lw_u) (d : decode cc pc = .ok (.invokestatic x, 3)) (k : Ev y cc maxL ret fr lc g (pc + 3) (.long v.toInt64 :: st) lv h r h2) : Ev y cc maxL ret fr lc g pc (.double v :: st) lv h r h2 := by
  intro p l e R s m args below meth co D cy A cells slots Q C hr H locs ls hP hD hS hl
  exact vn_d2l C.1 C.2.1 (C.2.2.1.trans hl.1.symm) C.2.2.2.1 (C.2.2.2.2.1 _ hw) (C.2.2.2.2.1 _ h3) (C.2.2.2.2.1 _ h4) (C.2.2.2.2.1 _ h5) (Nat.le_trans hfr C.2.2.2.2.2.1.1) (Nat.le_trans hlc C.2.2.2.2.2.1.2) d (k p l e R s m args below meth co D cy A cells slots Q C hr H locs ls hP hD hS hl)
theorem ev_callVi {v : Int32} {n1 b cb nb x N : Nat} {T : u_T} (cal : CalV y1 cc1 maxL1 ret1 n1) (hkd : KD g.1 b cb nb) (hcb : vcls[cb]? = some (y1.cls, T, N)) (E1 : Ev y1 cc1 maxL1 ret1 fr1 lc1 g 0 [] (lv_args 0 (.ref b :: As)) h (some (.int v)) h1) (hlen : (lg_sl (.ref b :: As)).length ≤ maxL1) (hn : As.length = n1) (hw : Cond.methodLink y.cls x y1 ∈ lw_u) (hfr : fr1 + 1 ≤ fr) (hlc : 8 + (maxL1 + 11) + lc1 ≤ lc) (hst : (st.map fun v => v.category).sum ≤ 8) (d : decode cc pc = .ok (.invokevirtual x, 3)) (hs0 : st0 = As.reverse ++ .ref b :: st) (k : Ev y cc maxL ret fr lc g (pc + 3) (.int v :: st) lv h1 r h2) : Ev y cc maxL ret fr lc g pc st0 lv h r h2 := ev_callV cal hkd hcb E1 hlen hn hw hfr hlc hst d hs0 k
theorem ev_callVl {v : Int64} {n1 b cb nb x N : Nat} {T : u_T} (cal : CalV y1 cc1 maxL1 ret1 n1) (hkd : KD g.1 b cb nb) (hcb : vcls[cb]? = some (y1.cls, T, N)) (E1 : Ev y1 cc1 maxL1 ret1 fr1 lc1 g 0 [] (lv_args 0 (.ref b :: As)) h (some (.long v)) h1) (hlen : (lg_sl (.ref b :: As)).length ≤ maxL1) (hn : As.length = n1) (hw : Cond.methodLink y.cls x y1 ∈ lw_u) (hfr : fr1 + 1 ≤ fr) (hlc : 8 + (maxL1 + 11) + lc1 ≤ lc) (hst : (st.map fun v => v.category).sum ≤ 8) (d : decode cc pc = .ok (.invokevirtual x, 3)) (hs0 : st0 = As.reverse ++ .ref b :: st) (k : Ev y cc maxL ret fr lc g (pc + 3) (.long v :: st) lv h1 r h2) : Ev y cc maxL ret fr lc g pc st0 lv h r h2 := ev_callV cal hkd hcb E1 hlen hn hw hfr hlc hst d hs0 k
theorem ev_callVf {v : UInt32} {n1 b cb nb x N : Nat} {T : u_T} (cal : CalV y1 cc1 maxL1 ret1 n1) (hkd : KD g.1 b cb nb) (hcb : vcls[cb]? = some (y1.cls, T, N)) (E1 : Ev y1 cc1 maxL1 ret1 fr1 lc1 g 0 [] (lv_args 0 (.ref b :: As)) h (some (.float v)) h1) (hlen : (lg_sl (.ref b :: As)).length ≤ maxL1) (hn : As.length = n1) (hw : Cond.methodLink y.cls x y1 ∈ lw_u) (hfr : fr1 + 1 ≤ fr) (hlc : 8 + (maxL1 + 11) + lc1 ≤ lc) (hst : (st.map fun v => v.category).sum ≤ 8) (d : decode cc pc = .ok (.invokevirtual x, 3)) (hs0 : st0 = As.reverse ++ .ref b :: st) (k : Ev y cc maxL ret fr lc g (pc + 3) (.float v :: st) lv h1 r h2) : Ev y cc maxL ret fr lc g pc st0 lv h r h2 := ev_callV cal hkd hcb E1 hlen hn hw hfr hlc hst d hs0 k
theorem ev_callVv  {n1 b cb nb x N : Nat} {T : u_T} (cal : CalV y1 cc1 maxL1 ret1 n1) (hkd : KD g.1 b cb nb) (hcb : vcls[cb]? = some (y1.cls, T, N)) (E1 : Ev y1 cc1 maxL1 ret1 fr1 lc1 g 0 [] (lv_args 0 (.ref b :: As)) h (none) h1) (hlen : (lg_sl (.ref b :: As)).length ≤ maxL1) (hn : As.length = n1) (hw : Cond.methodLink y.cls x y1 ∈ lw_u) (hfr : fr1 + 1 ≤ fr) (hlc : 8 + (maxL1 + 11) + lc1 ≤ lc) (hst : (st.map fun v => v.category).sum ≤ 8) (d : decode cc pc = .ok (.invokevirtual x, 3)) (hs0 : st0 = As.reverse ++ .ref b :: st) (k : Ev y cc maxL ret fr lc g (pc + 3) (st) lv h1 r h2) : Ev y cc maxL ret fr lc g pc st0 lv h r h2 := ev_callV cal hkd hcb E1 hlen hn hw hfr hlc hst d hs0 k
theorem ev_callSi {v : Int32} {n1 x : Nat} (cal : CalS y1 cc1 maxL1 ret1 n1) (E1 : Ev y1 cc1 maxL1 ret1 fr1 lc1 g 0 [] (lv_args 0 As) h (some (.int v)) h1) (hlen : (lg_sl As).length ≤ maxL1) (hn : As.length = n1) (hw : Cond.methodLink y.cls x y1 ∈ lw_u) (hfr : fr1 + 1 ≤ fr) (hlc : 8 + (maxL1 + 11) + lc1 ≤ lc) (hst : (st.map fun v => v.category).sum ≤ 8) (d : decode cc pc = .ok (.invokestatic x, 3)) (hs0 : st0 = As.reverse ++ st) (k : Ev y cc maxL ret fr lc g (pc + 3) (.int v :: st) lv h1 r h2) : Ev y cc maxL ret fr lc g pc st0 lv h r h2 := ev_callS cal E1 hlen hn hw hfr hlc hst d hs0 k
theorem ev_callSl {v : Int64} {n1 x : Nat} (cal : CalS y1 cc1 maxL1 ret1 n1) (E1 : Ev y1 cc1 maxL1 ret1 fr1 lc1 g 0 [] (lv_args 0 As) h (some (.long v)) h1) (hlen : (lg_sl As).length ≤ maxL1) (hn : As.length = n1) (hw : Cond.methodLink y.cls x y1 ∈ lw_u) (hfr : fr1 + 1 ≤ fr) (hlc : 8 + (maxL1 + 11) + lc1 ≤ lc) (hst : (st.map fun v => v.category).sum ≤ 8) (d : decode cc pc = .ok (.invokestatic x, 3)) (hs0 : st0 = As.reverse ++ st) (k : Ev y cc maxL ret fr lc g (pc + 3) (.long v :: st) lv h1 r h2) : Ev y cc maxL ret fr lc g pc st0 lv h r h2 := ev_callS cal E1 hlen hn hw hfr hlc hst d hs0 k
theorem ev_callSf {v : UInt32} {n1 x : Nat} (cal : CalS y1 cc1 maxL1 ret1 n1) (E1 : Ev y1 cc1 maxL1 ret1 fr1 lc1 g 0 [] (lv_args 0 As) h (some (.float v)) h1) (hlen : (lg_sl As).length ≤ maxL1) (hn : As.length = n1) (hw : Cond.methodLink y.cls x y1 ∈ lw_u) (hfr : fr1 + 1 ≤ fr) (hlc : 8 + (maxL1 + 11) + lc1 ≤ lc) (hst : (st.map fun v => v.category).sum ≤ 8) (d : decode cc pc = .ok (.invokestatic x, 3)) (hs0 : st0 = As.reverse ++ st) (k : Ev y cc maxL ret fr lc g (pc + 3) (.float v :: st) lv h1 r h2) : Ev y cc maxL ret fr lc g pc st0 lv h r h2 := ev_callS cal E1 hlen hn hw hfr hlc hst d hs0 k
theorem ev_callSv  {n1 x : Nat} (cal : CalS y1 cc1 maxL1 ret1 n1) (E1 : Ev y1 cc1 maxL1 ret1 fr1 lc1 g 0 [] (lv_args 0 As) h (none) h1) (hlen : (lg_sl As).length ≤ maxL1) (hn : As.length = n1) (hw : Cond.methodLink y.cls x y1 ∈ lw_u) (hfr : fr1 + 1 ≤ fr) (hlc : 8 + (maxL1 + 11) + lc1 ≤ lc) (hst : (st.map fun v => v.category).sum ≤ 8) (d : decode cc pc = .ok (.invokestatic x, 3)) (hs0 : st0 = As.reverse ++ st) (k : Ev y cc maxL ret fr lc g (pc + 3) (st) lv h1 r h2) : Ev y cc maxL ret fr lc g pc st0 lv h r h2 := ev_callS cal E1 hlen hn hw hfr hlc hst d hs0 k
end EvCall
