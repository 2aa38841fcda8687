set_option maxRecDepth 100000 in
set_option maxHeartbeats 4000000 in
/-- an object comes in the law, at the heap's end, and is made by its constructor -/
theorem law_make {p : Program} {l : Launch} {e : Env} {s : State} {m : MethodId} {below : List Frame} {meth : Method} {c : Code} {b : Nat} {Q : State → Prop} {g : Gl} {D : va_G} {cy : Nat → ClassId} {y1 : MethodName} {cc1 : ByteArray} {maxL1 fr1 lc1 ci N mc1 ms1 : Nat} {T : u_T} {fs : List Value} {E2 : Nat → va_E} {n slots : Nat} {pc x0 x1 : Nat} {st : List Value} {H : Heap} {locs : List Loc} {ls : Array Slot} {F : Nat → va_E}
    (hx : p.tables.exec = Jvm.exec) (hb : c.code = code) (hml : c.maxLocals = 4) (hown : s.vm.findClass R_law = some m.cls) (hts : ∀ w ∈ lw_u, w.before #[Value.ref b] s = true) (hK : va_K D vcls (tysO cy) s) (hSt : St g (fun q => s.heap.size ≤ q) s) (o1 : va_AO "PieceSwarm$Peer" s) (o2 : va_AO "PieceSwarm$Swarm" s)
    (hci : vcls[ci]? = some (y1.cls, T, N)) (ty : Nat → FieldType) (hty : ∀ k, k < N → parseFieldDescriptor (T k).2.2.1 = some (ty k)) (hfs : ∀ j, j < N → defaultValue (ty j) = vp_V fs j) (w1 : Cond.classLink R_law x0 y1.cls ∈ lw_u) (w2 : Cond.instantiable y1.cls N ∈ lw_u) (w3 : Cond.initialized y1.cls ∈ lw_u) (w4 : Cond.methodLink R_law x1 y1 ∈ lw_u) (w5 : Cond.code y1 cc1 maxL1 none ∈ lw_u) (w6 : Cond.instanceMethod y1 ∈ lw_u) (hpf : plainFor y1 = true) (hnm : y1.name = "<init>") (hd1 : y1.cls ≠ "java/lang/invoke/MethodHandle" ∧ y1.cls ≠ "java/lang/invoke/VarHandle" ∧ (parseMethodDescriptor y1.desc).map (fun d => d.parameters.length) = some 0) (hlen : 1 ≤ maxL1)
    (N1 : ∀ E : Nat → va_E, E 0 = .inr (ci, fs) → EvN y1 cc1 maxL1 fr1 lc1 g cy (s.heap.size + n) 0 [] [(0, .ref (s.heap.size + n))] E 0 0 E2 mc1 ms1) (hfr : fr1 + 1 ≤ 14) (hlc : 8 + (maxL1 + 11) + lc1 ≤ 542) (hc : n + 1 + mc1 ≤ 600000) (hs : slots + N + ms1 ≤ 7302250) (hst : (st.map fun v => v.category).sum ≤ 6)
    (d0 : decode code pc = .ok (.new x0, 3)) (d1 : decode code (pc + 3) = .ok (.dup, 1)) (d2 : decode code (pc + 4) = .ok (.invokespecial x1, 3))
    (hP : va_P D vcls (wsN s.heap.size F n) H) (hsz : s.heap.size + n ≤ H.size) (hS : va_S (fun q => s.heap.size ≤ q) s.heap H locs) (hls : ls.size = 4)
    (k : ∀ (H1 : Heap) (locs1 : List Loc), va_P D vcls (wsN s.heap.size (apE n F E2) (n + (mc1 + 1))) H1 → va_S (fun q => s.heap.size ≤ q) s.heap H1 locs1 → W p l e room_1 s m #[Value.ref b] below meth c H1 locs1 (n + 1 + mc1) (slots + N + ms1) Q (F0 m (pc + 7) ls (.ref (s.heap.size + n) :: st))) :
    W p l e room_1 s m #[Value.ref b] below meth c H locs n slots Q (F0 m pc ls st) := by
  refine w_sized (fun hzz => ?_)
  have hz : H.size = s.heap.size + n := by omega
  have hKn := hK.1 ci _ hci
  refine W.newcK hx hb hown (hts _ w1) (hts _ w2) (hts _ w3) rfl d0 (by show n + 1 ≤ 600000; omega) (by show slots + N ≤ 7302250; omega) hKn.2.1 hz (fun H1 kC hkC e1 z1 o3 => ?_)
  have hPn : va_P D vcls (wsN (s.heap.size + n) (fun _ => .inr (ci, fs)) 1) H1 := by
    intro k q hk
    obtain ⟨hlt, rfl⟩ := wsN_lt hk
    have : k = 0 := by omega
    subst this
    exact ⟨_, hci, (u_born ty hts (cls_in hci) hKn hkC e1 hty).to hfs⟩
  have hP1 : va_P D vcls (wsN s.heap.size F n) H1 := hP.kept (fun k q hk => o3 q.1 (by rw [← hz]; exact (hP k q hk).lt))
  have hS1 : va_S (fun q => s.heap.size ≤ q) s.heap H1 locs := ⟨Nat.le_trans hS.1 (by omega), fun x h1 h2 => (o3 x (by omega)).trans (hS.2.1 x h1 h2), hS.2.2⟩
  refine lv_dup hx hb d1 rfl ?_
  have hM := met_ofN hpf hnm hlen (N1 (fun _ => .inr (ci, fs)) rfl) l D
  have hG : GoodIn lw_u (.code y1 cc1 maxL1 none :: lw_u) := goodInU (fun w hh => by
    rcases List.mem_cons.mp hh with rfl | hh
    · exact w5
    · exact hh)
  have hF : ∀ q, s.heap.size + n ≤ q → (fun q => s.heap.size ≤ q) q := fun q hq => Nat.le_trans (Nat.le_add_right _ _) hq
  refine (fun (hrun : va_Run p l e room_1 s m #[Value.ref b] below meth c H1 locs (n + 1) (slots + N) mc1 ms1 (F0 m (pc + 4) ls (.ref (s.heap.size + n) :: .ref (s.heap.size + n) :: st)) (.ref (s.heap.size + n) :: st) (fun st oc t => PostN D (s.heap.size + n) E2 mc1 st oc t) (fun q => s.heap.size + n ≤ q)) => ?_) (va_runI (As := []) (rest := .ref (s.heap.size + n) :: st) ⟨hx, hb, hml, hown, hts⟩ hM ⟨callB_of 0 hts hG rfl rfl rfl (hts _ w3) (hts _ w4) hd1 ⟨hfr, hlc⟩, hnm, hts _ w6⟩ ⟨PreN_blind, fun U hU hW => ⟨rfl, by rw [hU]; exact hPn, by rw [hU]; omega, va_K.moved hW.alike hK, St_call hSt hS1 hU hW hF, va_AO.moved hW.alike o1, va_AO.moved hW.alike o2⟩⟩ rfl rfl hls rfl (lv_room (by show 1 + (st.map fun v => v.category).sum ≤ 8; omega)) d2 ⟨hc, hs⟩)
  intro T0 hT X
  obtain ⟨v, st₀, t, T', Lx, q0, X', hLx, f1, f2, ⟨⟨hv, hbb⟩, hzt, hk⟩, stt⟩ := hrun T0 hT X
  cases hv
  rw [q0] at hzt hk
  have hPb : va_P D vcls (wsN s.heap.size (apE n F E2) (n + (mc1 + 1))) T'.heap := by
    have q1 : va_P D vcls (wsN s.heap.size F n) T'.heap := hP1.kept (fun k q hq => by
      obtain ⟨hlt, rfl⟩ := wsN_lt hq
      rw [f1]
      exact hk (s.heap.size + k) (by omega) (by show ¬ s.heap.size + n ≤ s.heap.size + k; omega))
    have q2 : va_P D vcls (wsN (s.heap.size + n) E2 (mc1 + 1)) T'.heap := by rw [f1]; exact hbb
    exact wsN_app q1 q2
  obtain ⟨t2, a1, b2⟩ := k T'.heap (locs ++ Lx) hPb
    ⟨Nat.le_trans hS1.1 (by rw [f1]; exact hzt), fun q g1 g2 => by rw [f1, hk q (Nat.lt_of_lt_of_le g1 hS1.1) (fun z => g2 (hF q z))]; exact hS1.2.1 q g1 g2, fun q hq => by
      rcases List.mem_append.mp hq with z | z
      · exact hS1.2.2 q z
      · exact hF _ (hLx q z)⟩ T' rfl X'
  exact ⟨t2, stt t2 a1, b2⟩
set_option maxRecDepth 100000 in
set_option maxHeartbeats 4000000 in
theorem whole_start_open (hlaw : ∀ (o L : Nat) (xs : Nat → Int32), L ≤ 2048 → ∃ h2, f_L_law L xs (h0 o) o (o + 174) 0 = some (1, h2)) {p : Program} {e : Env} {s : State} {m : MethodId} {below : List Frame} {meth : Method} {c : Code} (l : Launch) {b L : Nat} {xs : Nat → Int32} (hL : L ≤ 2048) (C0 : lw_At p s m meth c b L xs) : W p l e room_1 s m #[Value.ref b] below meth c s.heap [] 0 0 (lw_Z below #[Value.ref b] s) (entryFrame m ([Value.ref b] : List Value).toArray 4) := by
  obtain ⟨hx, hb, hr, hml, hown, htt, hX, hbl, hlocks, hgv⟩ := id C0
  have hts : ∀ w ∈ lw_u, w.before #[Value.ref b] s = true := fun w hw => htt w (inUt hw)
  obtain ⟨D, cy, hK, o1, o2⟩ := start_K htt
  obtain ⟨tabs, ht3, hSt⟩ := start_St htt hX hbl hL hgv
  have hl := lv_entry ([.ref b]) (n := 4) (Nat.le_of_ble_eq_true rfl)
  rw [lg_entry_eq]
  generalize (lg_sl ([.ref b]) ++ List.replicate (4 - (lg_sl ([.ref b])).length) Slot.unset).toArray = ls at hl ⊢
  have hl : lv_has ls 4 [(0, .ref b)] := hl
  refine law_make (g := ((s.heap.size, 0, 186), tabs, L, xs)) (y1 := yX5_init) (cc1 := cX5_init) (maxL1 := 2) (fr1 := 3) (lc1 := 53) (ci := 4) (mc1 := 173) (ms1 := 2492) (fs := bPS) (n := 0) (F := fun _ => .inr (4, bPS)) (E2 := fun k => cel cy (h0 s.heap.size) s.heap.size (s.heap.size + k)) hx hb hml hown hts hK (hSt _) o1 o2 rfl tyX5 tyX5_ok bl_PS lk_12 lk_13 lk_1 lk_14 lk_16 lk_15 (by decide +kernel) rfl (by decide +kernel) (by decide) (fun E hE => n_PS hE) (by decide) (by decide) (by decide) (by decide) (by decide) dL_law_0 dL_law_3 dL_law_4 (fun k q hk => absurd (wsN_lt hk).1 (Nat.not_lt_zero k)) (Nat.le_refl _) va_S.rf hl.1 (fun H1 locs1 hP1 hS1 => ?_)
  refine lv_astore_n (lv' := [(1, .ref (s.heap.size + 0)), (0, .ref b)]) hx hb dL_law_7 rfl hl (by decide) rfl (fun ls hl => ?_)
  rw [wsN_ext (F := fun k => cel cy (h0 s.heap.size) s.heap.size (s.heap.size + k)) (fun k _ => by rw [apE_ge (Nat.zero_le k)]; rfl)] at hP1
  refine law_make (g := ((s.heap.size, 0, 186), tabs, L, xs)) (y1 := yX6_init) (cc1 := cX6_init) (maxL1 := 1) (fr1 := 1) (lc1 := 23) (ci := 5) (mc1 := 11) (ms1 := 2370) (fs := bModel) (n := 174) (F := fun k => cel cy (h0 s.heap.size) s.heap.size (s.heap.size + k)) (E2 := fun k => cel cy (h0 s.heap.size) s.heap.size (s.heap.size + 174 + k)) hx hb hml hown hts hK (hSt _) o1 o2 rfl tyX6 tyX6_ok bl_Model lk_596 lk_597 lk_6 lk_598 lk_600 lk_599 (by decide +kernel) rfl (by decide +kernel) (by decide) (fun E hE => n_Model rfl hE) (by decide) (by decide) (by decide) (by decide) (by decide) dL_law_8 dL_law_11 dL_law_12 hP1 (wsN_size hP1) hS1 hl.1 (fun H2 locs2 hP2 hS2 => ?_)
  refine lv_astore_n (lv' := [(2, .ref (s.heap.size + 174)), (1, .ref (s.heap.size + 0)), (0, .ref b)]) hx hb dL_law_15 rfl hl (by decide) rfl (fun ls hl => ?_)
  refine lv_iconst (v := 0) hx hb dL_law_16 (by decide) ?_
  refine lv_istore_n (lv' := [(3, .int 0), (2, .ref (s.heap.size + 174)), (1, .ref (s.heap.size + 0)), (0, .ref b)]) hx hb dL_law_17 rfl hl (by decide) rfl (fun ls hl => ?_)
  have hPo : va_P D vcls (wsO cy (h0 s.heap.size) (s.heap.size, 0, 186)) H2 := by
    rw [show (186 : Nat) = 0 + 186 from rfl, wsN_O]
    rw [wsN_ext (F := fun k => cel cy (h0 s.heap.size) s.heap.size (s.heap.size + 0 + k)) (fun k _ => ?_)] at hP2
    · exact hP2
    · by_cases hk : k < 174
      · rw [apE_lt hk]; rfl
      · rw [apE_ge (by omega)]
        show cel cy (h0 s.heap.size) s.heap.size (s.heap.size + 174 + (k - 174)) = _
        rw [show s.heap.size + 174 + (k - 174) = s.heap.size + 0 + k by omega]
  obtain ⟨h2, hlw⟩ := hlaw s.heap.size L xs hL
  have kd1 : KD ((s.heap.size, 0, 186) : Ob) s.heap.size 4 0 := ⟨Nat.le_refl _, by show s.heap.size + 173 < s.heap.size + 186; omega, Nat.le_refl _, by show kdl (s.heap.size - s.heap.size) = (4, 0); rw [Nat.sub_self]; rfl⟩
  have kd2 : KD ((s.heap.size, 0, 186) : Ob) (s.heap.size + 174) 5 0 := ⟨by show s.heap.size + 0 ≤ s.heap.size + 174; omega, by show s.heap.size + 174 + 11 < s.heap.size + 186; omega, Nat.le_refl _, by show kdl (s.heap.size + 174 - s.heap.size) = (5, 0); rw [Nat.add_sub_cancel_left]; rfl⟩
  have EV := ev_L_law (g := ((s.heap.size, 0, 186), tabs, L, xs)) kd1 kd2 hlw
  have hl9 : lv_has ls 4 [(0, .ref (tabs 3)), (1, .ref s.heap.size), (2, .ref (s.heap.size + 174)), (3, .int 0)] := by
    rw [ht3]
    exact lv_sub hl [3, 2, 1, 0] rfl
  refine EV p l e room_1 s m #[Value.ref b] below meth c D cy (fun q => s.heap.size ≤ q) _ _ _ ⟨hx, hb, hml, hown, hts, ⟨by decide, by decide⟩, ⟨by decide, by decide⟩, hK, hSt _, fun _ h => h⟩ ?_ H2 locs2 ls hPo (by rw [show (186 : Nat) = 0 + 186 from rfl, wsN_O]; exact wsN_D (fun q hq => hq)) hS2 hl9
  intro H3 locs3 ls3 pc3 ig hri hro hd hP3 hS3
  cases hri
  refine va_forget (fun q hq => hS3.2.2 q hq) ?_
  refine W.widen (k := 600000) (n := 7302250) (by decide) (by decide) ?_
  exact W.base (lw_ret (Drawn.sameBut.refl s.drawn lw_cs) hx hb hr hlocks hd)
