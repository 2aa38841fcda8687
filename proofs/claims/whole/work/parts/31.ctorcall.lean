def PreN (g : Gl) (D : va_G) (cy : Nat → ClassId) (b : Nat) (E : Nat → va_E) (U : State) : Prop := va_P D vcls (wsN b E 1) U.heap ∧ U.heap.size ≤ b + 1 ∧ va_K D vcls (tysO cy) U ∧ St g (fun q => b ≤ q) U ∧ va_AO "PieceSwarm$Peer" U ∧ va_AO "PieceSwarm$Swarm" U
def PostN (D : va_G) (b : Nat) (E2 : Nat → va_E) (mc : Nat) (st : State) (oc : Outcome) (t : State) : Prop := (oc = .returned none ∧ va_P D vcls (wsN b E2 (mc + 1)) t.heap) ∧ va_F (fun q => b ≤ q) st t
theorem PreN_blind {g : Gl} {D : va_G} {cy : Nat → ClassId} {b : Nat} {E : Nat → va_E} {As : List Value} : FrameBlind (va_Pc As (PreN g D cy b E)) := by
  intro a U f mk q
  obtain ⟨q0, qP, qz, qK, qS, q1, q2⟩ := q
  exact ⟨q0, qP, qz, va_K.moved (u := U) (U := U.calling f mk a) (Vm.Alike.refl U.vm) qK, St_same (u := U) (U := U.calling f mk a) rfl rfl qS, va_AO.moved (u := U) (U := U.calling f mk a) (Vm.Alike.refl U.vm) q1, va_AO.moved (u := U) (U := U.calling f mk a) (Vm.Alike.refl U.vm) q2⟩
section EvNCall
variable {y y1 : MethodName} {cc cc1 : ByteArray} {maxL fr lc maxL1 fr1 lc1 : Nat} {g g1 : Gl} {cy : Nat → ClassId} {b pc : Nat} {st : List Value} {lv lv2 : List (Nat × Value)} {E E2 E21 : Nat → va_E} {c0 s0 mc ms mc1 ms1 : Nat}
theorem met_ofN (hy : plainFor y = true) (hnm : y.name = "<init>") (hlen : 1 ≤ maxL) (N1 : EvN y cc maxL fr lc g cy b 0 [] [(0, .ref b)] E 0 0 E2 mc ms) (l : Launch) (D : va_G) :
    Met l y (.code y cc maxL none :: lw_u) { frames := fr, cells := mc, slots := ms, locals := lc } (va_Pc [.ref b] (PreN g D cy b E)) (fun _ st oc t => PostN D b E2 mc st oc t) mc ms (fun q => b ≤ q) := by
  refine met_ofWF (cc := cc) (maxL := maxL) (ret := none) hy rfl ?_
  intro p e s m args below meth c s₁ B hml hv
  obtain ⟨rfl, hP, hz, hK, hSt, a1, a2⟩ := hv
  have hts := atoms_spec (ws := .code y cc maxL none :: lw_u) B.pre
  have hown : s.vm.findClass y.cls = some m.cls := findClass_of_methodNamed B.named
  have hlocks := B.notSynchronized
  have hr := B.returns
  have hin : meth.name = "<init>" := (name_of_methodNamed B.named B.method).1.trans hnm
  have hsz := wsN_size (n := 0) hP
  have C : CxN y cc maxL fr lc g D cy (fun q => b ≤ q) p (headSpec (.code y cc maxL none :: lw_u) { frames := fr, cells := mc, slots := ms, locals := lc }).room s m [Value.ref b].toArray c mc ms b := ⟨⟨B.exec, B.bytes, hml, hown, fun w hw => hts w (List.mem_cons_of_mem _ hw), ⟨Nat.le_refl _, Nat.le_refl _⟩, ⟨Nat.le_refl _, Nat.le_refl _⟩, hK, hSt, fun q hq => by show b ≤ q; omega⟩, a1, a2, fun q hq => hq, hz⟩
  have hl := lv_entry [Value.ref b] (n := maxL) hlen
  rw [lg_entry_eq]
  refine N1 p l e _ s m _ below meth c D _ _ C hin ?_ s.heap [] _ hP va_S.rf hl
  intro H1 locs1 ls1 pc1 hd hP1 hS1
  exact W.vret B.exec B.bytes hr (fun t ht hW => ⟨⟨rfl, by rw [ht]; exact hP1⟩, hS1.F ht⟩) hS1.2.2 hd
theorem nv_callI {b1 x : Nat} (hb1 : b1 = b + c0) (hcal : Cond.code y1 cc1 maxL1 none ∈ lw_u) (hini : Cond.initialized y1.cls ∈ lw_u) (him : Cond.instanceMethod y1 ∈ lw_u) (hpf : plainFor y1 = true) (hnm : y1.name = "<init>") (hd1 : y1.cls ≠ "java/lang/invoke/MethodHandle" ∧ y1.cls ≠ "java/lang/invoke/VarHandle" ∧ (parseMethodDescriptor y1.desc).map (fun d => d.parameters.length) = some 0) (hlen : 1 ≤ maxL1)
    (N1 : EvN y1 cc1 maxL1 fr1 lc1 g1 cy b1 0 [] [(0, .ref b1)] (fun k => E (c0 + k)) 0 0 E21 mc1 ms1) (hg : g1.2 = g.2) (hw : Cond.methodLink y.cls x y1 ∈ lw_u) (hfr : fr1 + 1 ≤ fr) (hlc : 8 + (maxL1 + 11) + lc1 ≤ lc) (hc : c0 + mc1 ≤ mc) (hs : s0 + ms1 ≤ ms) (hst : (st.map fun v => v.category).sum ≤ 8) (d : decode cc pc = .ok (.invokespecial x, 3))
    (k : EvN y cc maxL fr lc g cy b (pc + 3) st lv (apE c0 E E21) (c0 + mc1) (s0 + ms1) E2 mc ms) : EvN y cc maxL fr lc g cy b pc (.ref b1 :: st) lv E c0 s0 E2 mc ms := by
  intro p l e R s m args below meth c D A Q C hin hr H locs ls hP hS hl
  refine w_sized (fun hzz => ?_)
  have hz : H.size = b + (c0 + 1) := by have h1 := wsN_size hP; have h2 := C.2.2.2.2; omega
  have hF : ∀ q, b1 ≤ q → A q := fun q hq => C.2.2.2.1 q (by omega)
  have hM := met_ofN hpf hnm hlen N1 l D
  have hG : GoodIn lw_u (.code y1 cc1 maxL1 none :: lw_u) := goodInU (fun w hh => by
    rcases List.mem_cons.mp hh with rfl | hh
    · exact hcal
    · exact hh)
  have hPd : va_P D vcls (wsN b1 (fun k => E (c0 + k)) 1) H := by rw [hb1]; exact wsN_drop hP
  have hst1 : ∀ (A1 : Nat → Prop) (U : State), St g A1 U → St g1 A1 U := by
    intro A1 U h
    unfold St tbN tbF at h ⊢
    rw [hg]
    exact h
  refine (fun (hrun : va_Run p l e R s m args below meth c H locs c0 s0 mc1 ms1 (F0 m pc ls (.ref b1 :: st)) st (fun st oc t => PostN D b1 E21 mc1 st oc t) (fun q => b1 ≤ q)) => ?_) (va_runI (As := []) (rest := st) ⟨C.1.1, C.1.2.1, C.1.2.2.1, C.1.2.2.2.1, C.1.2.2.2.2.1⟩ hM ⟨callB_of 0 C.1.2.2.2.2.1 hG rfl rfl rfl (C.1.2.2.2.2.1 _ hini) (C.1.2.2.2.2.1 _ hw) hd1 ⟨Nat.le_trans hfr C.1.2.2.2.2.2.1.1, Nat.le_trans hlc C.1.2.2.2.2.2.1.2⟩, hnm, C.1.2.2.2.2.1 _ him⟩ ⟨PreN_blind, fun U hU hW => ⟨rfl, by rw [hU]; exact hPd, by rw [hU]; omega, va_K.moved hW.alike C.1.2.2.2.2.2.2.2.1, hst1 _ _ (St_call C.1.2.2.2.2.2.2.2.2.1 hS hU hW hF), va_AO.moved hW.alike C.2.1, va_AO.moved hW.alike C.2.2.1⟩⟩ rfl rfl hl.1 rfl (lv_room hst) d ⟨Nat.le_trans hc C.1.2.2.2.2.2.2.1.1, Nat.le_trans hs C.1.2.2.2.2.2.2.1.2⟩)
  intro T hT X
  obtain ⟨v, st₀, t, T', L, h0, X', hL, e1, e2, ⟨⟨hv, hb⟩, hzt, hk⟩, stt⟩ := hrun T hT X
  cases hv
  rw [h0] at hzt hk
  have hPb : va_P D vcls (wsN b (apE c0 E E21) (c0 + mc1 + 1)) T'.heap := by
    have q1 : va_P D vcls (wsN b E c0) T'.heap := (wsN_take hP (Nat.le_succ c0)).kept (fun k q hq => by
      obtain ⟨hlt, rfl⟩ := wsN_lt hq
      rw [e1]
      exact hk (b + k) (by omega) (by show ¬ b1 ≤ b + k; omega))
    have q2 : va_P D vcls (wsN (b + c0) E21 (mc1 + 1)) T'.heap := by rw [e1, ← hb1]; exact hb
    exact wsN_app q1 q2
  obtain ⟨t2, a1, b2⟩ := k p l e R s m args below meth c D A Q C hin hr T'.heap (locs ++ L) ls hPb
    ⟨Nat.le_trans hS.1 (by rw [e1]; exact hzt), fun q g1 g2 => by rw [e1, hk q (Nat.lt_of_lt_of_le g1 hS.1) (fun z => g2 (hF q z))]; exact hS.2.1 q g1 g2, fun q hq => by
      rcases List.mem_append.mp hq with z | z
      · exact hS.2.2 q z
      · exact hF _ (hL q z)⟩ hl T' rfl X'
  exact ⟨t2, stt t2 a1, b2⟩
theorem nv_callV {n1 cb nb x N : Nat} {T : u_T} {h h1 : Hp} {st0 As : List Value} (cal : CalV y1 cc1 maxL1 none n1) (hkd : KD g1.1 b cb nb) (hcb : vcls[cb]? = some (y1.cls, T, N)) (E1 : Ev y1 cc1 maxL1 none fr1 lc1 g1 0 [] (lv_args 0 (.ref b :: As)) h none h1) (hg : g1.2 = g.2) (hb : b = g1.1.1 + g1.1.2.1) (hn1 : g1.1.2.2 = g1.1.2.1 + (c0 + 1)) (he : ∀ k, k < c0 + 1 → E k = cel cy h g1.1.1 (b + k)) (hlen : (lg_sl (.ref b :: As)).length ≤ maxL1) (hn : As.length = n1) (hw : Cond.methodLink y.cls x y1 ∈ lw_u) (hfr : fr1 + 1 ≤ fr) (hlc : 8 + (maxL1 + 11) + lc1 ≤ lc) (hc : c0 ≤ mc) (hs : s0 ≤ ms) (hst : (st.map fun v => v.category).sum ≤ 8) (d : decode cc pc = .ok (.invokevirtual x, 3)) (hs0 : st0 = As.reverse ++ .ref b :: st)
    (k : EvN y cc maxL fr lc g cy b (pc + 3) st lv (fun k => cel cy h1 g1.1.1 (b + k)) c0 s0 E2 mc ms) : EvN y cc maxL fr lc g cy b pc st0 lv E c0 s0 E2 mc ms := by
  intro p l e R s m args below meth c D A Q C hin hr H locs ls hP hS hl
  have hO : ∀ hh : Hp, wsO cy hh g1.1 = wsN b (fun k => cel cy hh g1.1.1 (b + k)) (c0 + 1) := by
    intro hh
    have q : g1.1 = (g1.1.1, g1.1.2.1, g1.1.2.1 + (c0 + 1)) := by rw [← hn1]
    rw [q, wsN_O, ← hb]
  have hPo : va_P D vcls (wsO cy h g1.1) H := by rw [hO, ← wsN_ext he]; exact hP
  have hD : va_D A (wsO cy h g1.1) := by rw [hO]; exact wsN_D C.2.2.2.1
  have hF := wsO_free hD hS C.1.2.2.2.2.2.2.2.2.2
  have hst1 : ∀ (A1 : Nat → Prop) (U : State), St g A1 U → St g1 A1 U := by
    intro A1 U h
    unfold St tbN tbF at h ⊢
    rw [hg]
    exact h
  have hM := met_of cal.2.2 hlen E1 l D cy H.size
  have hpc : ∀ U : State, U.heap = H → s.WarmedH U.vm → Pre g1 D cy h H.size U := fun U hU hW => ⟨by rw [hU], by rw [hU]; exact hPo, hD.weaken (fun _ _ _ _ => trivial), va_K.moved hW.alike C.1.2.2.2.2.2.2.2.1, hst1 _ _ (St_call C.1.2.2.2.2.2.2.2.2.1 hS hU hW hF)⟩
  have hG : GoodIn lw_u (wsV y.cls x y1.cls y1 (.code y1 cc1 maxL1 none :: lw_u)) := goodInU (fun w hh => by
    unfold wsV at hh
    rcases List.mem_append.mp hh with hh | hh
    · simp only [List.mem_cons, List.not_mem_nil, or_false] at hh
      rcases hh with rfl | rfl | rfl | rfl
      · exact hw
      · exact cal.1.1
      · exact cal.1.2.1
      · exact cal.1.2.2.1
    · rcases List.mem_cons.mp hh with rfl | hh
      · exact cal.1.2.2.2
      · exact hh)
  refine ev_run (va_runV (As := As) (rest := st) ⟨C.1.1, C.1.2.1, C.1.2.2.1, C.1.2.2.2.1, C.1.2.2.2.2.1⟩ hM (cwV n1 C.1.2.2.2.2.1 hG rfl rfl rfl ⟨rfl, cal.2.1⟩ ⟨Nat.le_trans hfr C.1.2.2.2.2.2.1.1, Nat.le_trans hlc C.1.2.2.2.2.2.1.2⟩) ⟨Pre_blind, va_recv C.1.2.2.2.2.2.2.2.1 hPo hcb (wsO_obj hkd (cls_lt hcb)), fun U hU hW => ⟨rfl, hpc U hU hW⟩⟩ rfl hn hl.1 hs0 (lv_room hst) d ⟨Nat.le_trans hc C.1.2.2.2.2.2.2.1.1, Nat.le_trans hs C.1.2.2.2.2.2.2.1.2⟩) hS (fun q _ hq => hF q hq) hF (fun H1 locs1 hP1 hS1 => ?_)
  rw [hO] at hP1
  exact k p l e R s m args below meth c D A Q C hin hr H1 locs1 ls hP1 hS1 hl
end EvNCall
