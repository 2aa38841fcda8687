/-! THE ABSTRACT HEAP: one picture of all cells of the class's object and the reference's object, as they lie behind the two constructors: at the addresses o .. o + 185. What changes are ints, longs and floats alone; references never change. -/
def lw_u : List Cond := lw_tbl.filter goodWord
theorem inU {w : Cond} (h : w ∈ lw_tbl) (g : goodWord w = true) : w ∈ lw_u := List.mem_filter.mpr ⟨h, g⟩
theorem goodU {w : Cond} (h : w ∈ lw_u) : goodWord w = true := (List.mem_filter.mp h).2
theorem inUt {w : Cond} (h : w ∈ lw_u) : w ∈ lw_tbl := (List.mem_filter.mp h).1
theorem goodInU {ws : List Cond} (h : ∀ w ∈ ws, w ∈ lw_u) : GoodIn lw_u ws := fun w hw => ⟨h w hw, good_of_word (goodU (h w hw))⟩
abbrev Hp : Type := (Nat → Nat → Int32) × (Nat → Nat → Int64) × (Nat → Nat → UInt32)
def hI (h : Hp) (a j : Nat) : Int32 := h.1 a j
def hL (h : Hp) (a j : Nat) : Int64 := h.2.1 a j
def hF (h : Hp) (a j : Nat) : UInt32 := h.2.2 a j
def ufn {α : Type} (f : Nat → α) (k : Nat) (v : α) : Nat → α := fun j => if j = k then v else f j
def sI (h : Hp) (a j : Nat) (v : Int32) : Hp := (ufn h.1 a (upd (h.1 a) j v), h.2)
def sL (h : Hp) (a j : Nat) (v : Int64) : Hp := (h.1, ufn h.2.1 a (vp_updL (h.2.1 a) j v), h.2.2)
def sF (h : Hp) (a j : Nat) (v : UInt32) : Hp := (h.1, h.2.1, ufn h.2.2 a (vf_upd (h.2.2 a) j v))
/-- the whole row a (n ints) comes into the row b -/
def cpI (h : Hp) (a b n : Nat) : Hp := (ufn h.1 b (va_cpy (h.1 a) (h.1 b) 0 0 n), h.2)
def cpF (h : Hp) (a b n : Nat) : Hp := (h.1, h.2.1, ufn h.2.2 b (va_cpy (h.2.2 a) (h.2.2 b) 0 0 n))
/-- kinds of cells: 0 Peer, 1 Round, 2 Swarm, 3 Text, 4 PieceSwarm, 5 the reference, 6 ints, 7 floats, 8 longs, 9 booleans, 10 Peers, 11 Swarms; and a row's length -/
def kdS (r : Nat) : Nat × Nat := if r = 0 then (2, 0) else if r = 1 then (6, 4) else if r = 2 then (10, 6) else if (r - 3) % 4 = 0 then (0, 0) else if (r - 3) % 4 = 1 then (6, 32) else if (r - 3) % 4 = 2 then (6, 6) else (7, 6)
def kdR (k : Nat) : Nat × Nat := match k with
  | 0 => (1, 0)
  | 1 => (6, 6)
  | 2 => (6, 8)
  | 3 => (6, 36)
  | 4 => (6, 36)
  | 5 => (3, 0)
  | 6 => (6, 120)
  | 7 => (6, 40)
  | 8 => (6, 40)
  | 9 => (6, 40)
  | 10 => (5, 0)
  | 11 => (6, 3)
  | 12 => (6, 320)
  | 13 => (7, 36)
  | 14 => (6, 1600)
  | 15 => (7, 180)
  | 16 => (8, 5)
  | 17 => (6, 36)
  | 18 => (9, 32)
  | 19 => (6, 36)
  | 20 => (6, 120)
  | 21 => (6, 2)
  | _ => (99, 0)
def kdl (k : Nat) : Nat × Nat := if k = 0 then (4, 0) else if k < 28 then kdS (k - 1) else if k = 28 then (11, 5) else if k < 164 then kdS ((k - 29) % 27) else kdR (k - 164)
/-- o, and the window of places (from the first, to the second less one) that the picture holds -/
abbrev Ob : Type := Nat × Nat × Nat
/-- how many places behind it belong to a cell -/
def ext (c : Nat) : Nat := match c with
  | 0 => 3
  | 1 => 4
  | 2 => 26
  | 3 => 4
  | 4 => 173
  | 5 => 11
  | 10 => 24
  | 11 => 135
  | _ => 0
def KD (o : Ob) (a c n : Nat) : Prop := o.1 + o.2.1 ≤ a ∧ a + ext c < o.1 + o.2.2 ∧ o.2.2 ≤ 186 ∧ kdl (a - o.1) = (c, n)
abbrev vcls : List vw_C := [(RX1, TX1, 12), (RX2, TX2, 4), (RX3, TX3, 12), (RX4, TX4, 9), (RX5, TX5, 9), (RX6, TX6, 16)]
def fl (c a : Nat) (u : Nat → Int32) (w : Nat → Int64) : List Value := match c with
  | 0 => [.int (u 0), .int (u 1), .int (u 2), .int (u 3), .int (u 4), .int (u 5), .int (u 6), .int (u 7), .int (u 8), .ref (a + 1), .ref (a + 2), .ref (a + 3)]
  | 1 => [.ref (a + 1), .ref (a + 2), .ref (a + 3), .ref (a + 4)]
  | 2 => [.int (u 0), .int (u 1), .int (u 2), .int (u 3), .int (u 4), .int (u 5), .int (u 6), .int (u 7), .int (u 8), .long (w 9), .ref (a + 1), .ref (a + 2)]
  | 3 => [.int (u 0), .int (u 1), .ref (a + 2), .ref (a + 3), .ref (a + 4), .ref (a + 1), .int (u 6), .int (u 7), .int (u 8)]
  | 4 => [.ref (a + 1), .ref (a + 28), .ref (a + 164), .ref (a + 169), .int (u 4), .int (u 5), .int (u 6), .int (u 7), .int (u 8)]
  | _ => [.ref (a + 1), .ref (a + 2), .ref (a + 3), .long (w 3), .int (u 4), .ref (a + 4), .ref (a + 5), .ref (a + 6), .ref (a + 7), .ref (a + 8), .ref (a + 9), .ref (a + 10), .int (u 12), .int (u 13), .int (u 14), .ref (a + 11)]
def celU (cy : Nat → ClassId) (kn : Nat × Nat) (a : Nat) (u : Nat → Int32) (w : Nat → Int64) (f : Nat → UInt32) : va_E := match kn.1 with
  | 0 => .inr (0, fl 0 a u w)
  | 1 => .inr (1, fl 1 a u w)
  | 2 => .inr (2, fl 2 a u w)
  | 3 => .inr (3, fl 3 a u w)
  | 4 => .inr (4, fl 4 a u w)
  | 5 => .inr (5, fl 5 a u w)
  | 6 => .inl (cy 0, kn.2, .inl u)
  | 7 => .inl (cy 1, kn.2, .inr (.inr (.inl f)))
  | 8 => .inl (cy 2, kn.2, .inr (.inl w))
  | 9 => .inl (cy 3, kn.2, .inl u)
  | 10 => .inl (cy 4, kn.2, .inr (.inr (.inr (.inr (fun j => some (a + 1 + 4 * j))))))
  | _ => .inl (cy 5, kn.2, .inr (.inr (.inr (.inr (fun j => some (a + 1 + 27 * j))))))
def cel (cy : Nat → ClassId) (h : Hp) (o a : Nat) : va_E := celU cy (kdl (a - o)) a (h.1 a) (h.2.1 a) (h.2.2 a)
def wsO (cy : Nat → ClassId) (h : Hp) (o : Ob) : va_W := (List.range (o.2.2 - o.2.1)).map (fun k => (o.1 + o.2.1 + k, cel cy h o.1 (o.1 + o.2.1 + k)))
abbrev tysO (cy : Nat → ClassId) : List (ClassId × FieldType) := [(cy 0, .int), (cy 1, .float), (cy 2, .long), (cy 3, .boolean), (cy 4, .object "PieceSwarm$Peer"), (cy 5, .object "PieceSwarm$Swarm")]
theorem wsO_at {cy : Nat → ClassId} {h : Hp} {o : Ob} {a c n : Nat} (k : KD o a c n) : (wsO cy h o)[a - (o.1 + o.2.1)]? = some (a, cel cy h o.1 a) := by
  obtain ⟨h1, h2, -⟩ := k
  unfold wsO
  rw [List.getElem?_map, List.getElem?_range (by omega)]
  show some (o.1 + o.2.1 + (a - (o.1 + o.2.1)), cel cy h o.1 (o.1 + o.2.1 + (a - (o.1 + o.2.1)))) = _
  rw [Nat.add_sub_cancel' h1]
theorem wsO_k {cy : Nat → ClassId} {h : Hp} {o : Ob} {a c n : Nat} (k : KD o a c n) : (wsO cy h o)[a - (o.1 + o.2.1)]? = some (a, celU cy (c, n) a (h.1 a) (h.2.1 a) (h.2.2 a)) := by
  rw [wsO_at k]
  unfold cel
  rw [k.2.2.2]
theorem wsO_obj {cy : Nat → ClassId} {h : Hp} {o : Ob} {a c n : Nat} (k : KD o a c n) (hc : c < 6) : (wsO cy h o)[a - (o.1 + o.2.1)]? = some (a, .inr (c, fl c a (h.1 a) (h.2.1 a))) := by
  rw [wsO_k k]
  rcases (show c = 0 ∨ c = 1 ∨ c = 2 ∨ c = 3 ∨ c = 4 ∨ c = 5 by omega) with rfl | rfl | rfl | rfl | rfl | rfl <;> rfl
theorem wsO_set {cy : Nat → ClassId} {h h2 : Hp} {o : Ob} {a c n : Nat} {e : va_E} (k : KD o a c n) (he : celU cy (c, n) a (h2.1 a) (h2.2.1 a) (h2.2.2 a) = e) (hne : ∀ b, b ≠ a → h2.1 b = h.1 b ∧ h2.2.1 b = h.2.1 b ∧ h2.2.2 b = h.2.2 b) : (wsO cy h o).set (a - (o.1 + o.2.1)) (a, e) = wsO cy h2 o := by
  have k2 := k
  obtain ⟨h1, hlt, hm, hk⟩ := k
  apply List.ext_getElem?
  intro i
  by_cases hi : i = a - (o.1 + o.2.1)
  · subst hi
    rw [List.getElem?_set_self (by unfold wsO; rw [List.length_map, List.length_range]; omega), wsO_k (h := h2) k2, he]
  · rw [List.getElem?_set_ne (Ne.symm hi)]
    unfold wsO
    rw [List.getElem?_map, List.getElem?_map]
    by_cases hr : i < o.2.2 - o.2.1
    · rw [List.getElem?_range hr]
      show some (o.1 + o.2.1 + i, _) = some (o.1 + o.2.1 + i, _)
      unfold cel
      obtain ⟨e1, e2, e3⟩ := hne (o.1 + o.2.1 + i) (by omega)
      rw [e1, e2, e3]
    · rw [List.getElem?_eq_none (by rw [List.length_range]; omega)]; rfl
theorem ufn_same {α : Type} (f : Nat → α) (k : Nat) (v : α) : ufn f k v k = v := by unfold ufn; rw [if_pos rfl]
theorem ufn_ne {α : Type} (f : Nat → α) {k j : Nat} (v : α) (h : j ≠ k) : ufn f k v j = f j := by unfold ufn; rw [if_neg h]
theorem sI_ne (h : Hp) (a j : Nat) (v : Int32) : ∀ b, b ≠ a → (sI h a j v).1 b = h.1 b ∧ (sI h a j v).2.1 b = h.2.1 b ∧ (sI h a j v).2.2 b = h.2.2 b := fun b hb => ⟨ufn_ne _ _ hb, rfl, rfl⟩
theorem sL_ne (h : Hp) (a j : Nat) (v : Int64) : ∀ b, b ≠ a → (sL h a j v).1 b = h.1 b ∧ (sL h a j v).2.1 b = h.2.1 b ∧ (sL h a j v).2.2 b = h.2.2 b := fun b hb => ⟨rfl, ufn_ne _ _ hb, rfl⟩
theorem sF_ne (h : Hp) (a j : Nat) (v : UInt32) : ∀ b, b ≠ a → (sF h a j v).1 b = h.1 b ∧ (sF h a j v).2.1 b = h.2.1 b ∧ (sF h a j v).2.2 b = h.2.2 b := fun b hb => ⟨rfl, rfl, ufn_ne _ _ hb⟩
theorem cpI_ne (h : Hp) (a0 a n : Nat) : ∀ b, b ≠ a → (cpI h a0 a n).1 b = h.1 b ∧ (cpI h a0 a n).2.1 b = h.2.1 b ∧ (cpI h a0 a n).2.2 b = h.2.2 b := fun b hb => ⟨ufn_ne _ _ hb, rfl, rfl⟩
theorem cpF_ne (h : Hp) (a0 a n : Nat) : ∀ b, b ≠ a → (cpF h a0 a n).1 b = h.1 b ∧ (cpF h a0 a n).2.1 b = h.2.1 b ∧ (cpF h a0 a n).2.2 b = h.2.2 b := fun b hb => ⟨rfl, rfl, ufn_ne _ _ hb⟩
/-- the tables that the class has as constants (0 FIRST, 1 LEAST, 2 MOST) and the script (3) -/
abbrev Gl : Type := Ob × (Nat → Nat) × Nat × (Nat → Int32)
def sa (k j : Nat) : Int32 := match k, j with
  | 0, 0 => 2
  | 0, 1 => 5
  | 0, 2 => 2
  | 0, _ => 3
  | 1, 0 => 1
  | 1, 1 => 0
  | 1, 2 => 0
  | 1, _ => 1
  | _, 0 => 4
  | _, 1 => 9
  | _, 2 => 8
  | _, _ => 9
def saN (k : Nat) : String := match k with
  | 0 => "FIRST_SETTING"
  | 1 => "LEAST_SETTING"
  | _ => "MOST_SETTING"
def saI (k : Nat) : Nat := match k with
  | 0 => 9
  | 1 => 100
  | _ => 103
def tbN (g : Gl) (k : Nat) : Nat := if k = 3 then g.2.2.1 else 4
def tbF (g : Gl) (k j : Nat) : Int32 := if k = 3 then g.2.2.2 j else sa k j
def St (g : Gl) (A : Nat → Prop) (s : State) : Prop := (∀ k, k < 4 → va_T .int (g.2.1 k) (tbN g k) (fun j => .int (tbF g k j)) A s s.heap) ∧ (∀ k, k < 3 → va_Z "PieceSwarm" (saN k) "[I" (.ref (g.2.1 k)) A s s.heap ∧ va_Nw (.fieldLinkNest "PieceSwarm$Swarm" (saI k) "PieceSwarm" (saN k) "[I" "PieceSwarm") s)
def Cx (y : MethodName) (cc : ByteArray) (maxL fr lc : Nat) (g : Gl) (D : va_G) (cy : Nat → ClassId) (A : Nat → Prop) (p : Program) (R : Room) (s : State) (m : MethodId) (args : Array Value) (c : Code) (cells slots : Nat) : Prop :=
  p.tables.exec = Jvm.exec ∧ c.code = cc ∧ c.maxLocals = maxL ∧ s.vm.findClass y.cls = some m.cls ∧ (∀ w ∈ lw_u, w.before args s = true) ∧ (fr ≤ R.frames ∧ lc ≤ R.locals) ∧ (cells ≤ R.cells ∧ slots ≤ R.slots) ∧ va_K D vcls (tysO cy) s ∧ St g A s ∧ (∀ q, s.heap.size ≤ q → A q)
def retI (r : Option Value) (ig : Instr) : Prop := match r with
  | none => ig = .return_
  | some (.int _) => ig = .ireturn
  | some (.long _) => ig = .lreturn
  | some (.float _) => ig = .freturn
  | some (.double _) => ig = .dreturn
  | _ => False
def retOK (ret : Option FieldType) (r : Option Value) : Prop := match r with
  | none => ret = none
  | some (.int v) => ∃ ty, ret = some ty ∧ narrow ty (.int v) = .int v
  | some (.long _) => ret = some .long
  | some (.float _) => ret = some .float
  | some (.double _) => ret = some .double
  | _ => False
/-- from pc with the stack st, the locals lv, the heap h, the method comes to its end with the answer r and the heap h2: in every surrounding -/
def Ev (y : MethodName) (cc : ByteArray) (maxL : Nat) (ret : Option FieldType) (fr lc : Nat) (g : Gl) (pc : Nat) (st : List Value) (lv : List (Nat × Value)) (h : Hp) (r : Option Value) (h2 : Hp) : Prop :=
  ∀ (p : Program) (l : Launch) (e : Env) (R : Room) (s : State) (m : MethodId) (args : Array Value) (below : List Frame) (meth : Method) (c : Code) (D : va_G) (cy : Nat → ClassId) (A : Nat → Prop) (cells slots : Nat) (Q : State → Prop),
    Cx y cc maxL fr lc g D cy A p R s m args c cells slots →
    (∀ (H1 : Heap) (locs1 : List Loc) (ls1 : Array Slot) (pc1 : Nat) (ig : Instr), retI r ig → retOK ret r → decode cc pc1 = .ok (ig, 1) → va_P D vcls (wsO cy h2 g.1) H1 → va_S A s.heap H1 locs1 → W p l e R s m args below meth c H1 locs1 cells slots Q (F0 m pc1 ls1 r.toList)) →
    ∀ (H : Heap) (locs : List Loc) (ls : Array Slot), va_P D vcls (wsO cy h g.1) H → va_D A (wsO cy h g.1) → va_S A s.heap H locs → lv_has ls maxL lv →
      W p l e R s m args below meth c H locs cells slots Q (F0 m pc ls st)
theorem wsO_D {cy : Nat → ClassId} {h h2 : Hp} {o : Ob} {A : Nat → Prop} (hD : va_D A (wsO cy h o)) : va_D A (wsO cy h2 o) := by
  have key : ∀ (i : Nat) (q : Nat × va_E), (wsO cy h2 o)[i]? = some q → ∃ q0, (wsO cy h o)[i]? = some q0 ∧ q0.1 = q.1 := by
    intro i q hq
    unfold wsO at hq ⊢
    rw [List.getElem?_map] at hq ⊢
    cases hr : (List.range (o.2.2 - o.2.1))[i]? with
    | none => rw [hr] at hq; cases hq
    | some k =>
      rw [hr] at hq
      cases hq
      exact ⟨_, rfl, rfl⟩
  refine ⟨fun i j p q hi hj e => ?_, fun k q hk => ?_⟩
  · obtain ⟨p0, a1, a2⟩ := key i p hi
    obtain ⟨q0, b1, b2⟩ := key j q hj
    exact hD.1 i j p0 q0 a1 b1 (a2.trans (e.trans b2.symm))
  · obtain ⟨q0, b1, b2⟩ := key k q hk
    rw [← b2]
    exact hD.2 k q0 b1
