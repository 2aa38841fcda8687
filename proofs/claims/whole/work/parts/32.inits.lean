def hz0 : Hp := (fun _ _ => 0, fun _ _ => 0, fun _ _ => 0)
def swF (j : Nat) : Int32 := if j = 8 then 0 else if j = 7 then 0 else if j = 6 then 0 else if j = 5 then 0 else if j = 4 then 0 else if j = 3 then 3 else if j = 2 then 15 else if j = 1 then 2 else if j = 0 then 4 else 0
def seF (j : Nat) : Int32 := if j = 3 then 3 else if j = 2 then 2 else if j = 1 then 5 else if j = 0 then 2 else 0
def nwF (j : Nat) : Int32 := if j = 11 then 3 else if j = 10 then 2 else if j = 9 then 5 else if j = 8 then 2 else if j = 2 then 2 else if j = 1 then 4 else 0
def swL (j : Nat) : Int64 := if j = 9 then 1 else 0
def moL (j : Nat) : Int64 := if j = 3 then 1 else 0
def h0I (kn : Nat × Nat) : Nat → Int32 := if kn.1 = 2 then swF else if kn.1 = 6 ∧ kn.2 = 4 then seF else if kn.1 = 6 ∧ kn.2 = 320 then nwF else fun _ => 0
def h0L (kn : Nat × Nat) : Nat → Int64 := if kn.1 = 2 then swL else if kn.1 = 5 then moL else fun _ => 0
/-- the heap behind the two constructors -/
def h0 (o : Nat) : Hp := (fun a => h0I (kdl (a - o)), fun a => h0L (kdl (a - o)), fun _ _ => 0)
theorem cel_at {cy : Nat → ClassId} {h : Hp} {o k0 k : Nat} {kn : Nat × Nat} (hk : kdl (k0 + k) = kn) : cel cy h o (o + k0 + k) = celU cy kn (o + k0 + k) (h.1 (o + k0 + k)) (h.2.1 (o + k0 + k)) (h.2.2 (o + k0 + k)) := by
  unfold cel
  rw [show o + k0 + k - o = k0 + k by omega, hk]
theorem h0_at {o k0 k : Nat} {kn : Nat × Nat} (hk : kdl (k0 + k) = kn) : (h0 o).1 (o + k0 + k) = h0I kn ∧ (h0 o).2.1 (o + k0 + k) = h0L kn ∧ (h0 o).2.2 (o + k0 + k) = fun _ => 0 := by
  unfold h0
  refine ⟨?_, ?_, rfl⟩
  · show h0I (kdl (o + k0 + k - o)) = _
    rw [show o + k0 + k - o = k0 + k by omega, hk]
  · show h0L (kdl (o + k0 + k - o)) = _
    rw [show o + k0 + k - o = k0 + k by omega, hk]
theorem cel0_at {cy : Nat → ClassId} {o k0 k : Nat} {kn : Nat × Nat} (hk : kdl (k0 + k) = kn) : cel cy (h0 o) o (o + k0 + k) = celU cy kn (o + k0 + k) (h0I kn) (h0L kn) (fun _ => 0) := by
  rw [cel_at hk, (h0_at hk).1, (h0_at hk).2.1, (h0_at hk).2.2]
def bPeer : List Value := [.int 0, .int 0, .int 0, .int 0, .int 0, .int 0, .int 0, .int 0, .int 0, .null, .null, .null]
def bRound : List Value := [.null, .null, .null, .null]
def bSwarm : List Value := [.int 0, .int 0, .int 0, .int 0, .int 0, .int 0, .int 0, .int 0, .int 0, .long 0, .null, .null]
def bText : List Value := [.int 0, .int 0, .null, .null, .null, .null, .int 0, .int 0, .int 0]
def bPS : List Value := [.null, .null, .null, .null, .int 0, .int 0, .int 0, .int 0, .int 0]
def bModel : List Value := [.null, .null, .null, .long 0, .int 0, .null, .null, .null, .null, .null, .null, .null, .int 0, .int 0, .int 0, .null]
set_option maxRecDepth 100000 in
set_option maxHeartbeats 4000000 in
theorem n_Peer {g : Gl} {cy : Nat → ClassId} {o k0 b : Nat} {E : Nat → va_E} (hb : b = o + k0) (hk0 : kdl (k0 + 0) = (0, 0)) (hk1 : kdl (k0 + 1) = (6, 32)) (hk2 : kdl (k0 + 2) = (6, 6)) (hk3 : kdl (k0 + 3) = (7, 6)) (hE : E 0 = .inr (0, bPeer)) : EvN yX1_init cX1_init 1 1 12 g cy b 0 [] [(0, .ref b)] E 0 0 (fun k => cel cy (h0 o) o (o + k0 + k)) 3 44 := by
  refine nv_aload_n (z := 0) dX1_init_0 rfl rfl ?_
  refine nv_objInit lk_34 (by decide) (by decide) dX1_init_1 ?_
  refine nv_aload_n (z := 0) dX1_init_4 rfl rfl ?_
  refine nv_bipush (v := 32) dX1_init_5 (by decide) ?_
  refine nv_newI (N := 32) (by decide) (by decide) (by decide) (by decide) (by decide) dX1_init_7 ?_
  refine nv_putR 9 (ty := .array .int) (ci := 0) (fs := [.int 0, .int 0, .int 0, .int 0, .int 0, .int 0, .int 0, .int 0, .int 0, .null, .null, .null]) rfl (by rw [ufn_ne _ _ (by decide), hE]; rfl) (by decide) rfl rfl (by decide +kernel) rfl rfl (Nat.le_of_ble_eq_true rfl) lk_64 dX1_init_9 ?_
  refine nv_aload_n (z := 0) dX1_init_12 rfl rfl ?_
  refine nv_bipush (v := 6) dX1_init_13 (by decide) ?_
  refine nv_newI (N := 6) (by decide) (by decide) (by decide) (by decide) (by decide) dX1_init_15 ?_
  refine nv_putR 10 (ty := .array .int) (ci := 0) (fs := [.int 0, .int 0, .int 0, .int 0, .int 0, .int 0, .int 0, .int 0, .int 0, .ref (b + 1), .null, .null]) rfl (by rw [ufn_ne _ _ (by decide), ufn_same]; rfl) (by decide) rfl rfl (by decide +kernel) rfl rfl (Nat.le_of_ble_eq_true rfl) lk_66 dX1_init_17 ?_
  refine nv_aload_n (z := 0) dX1_init_20 rfl rfl ?_
  refine nv_bipush (v := 6) dX1_init_21 (by decide) ?_
  refine nv_newF (N := 6) (by decide) (by decide) (by decide) (by decide) (by decide) dX1_init_23 ?_
  refine nv_putR 11 (ty := .array .float) (ci := 0) (fs := [.int 0, .int 0, .int 0, .int 0, .int 0, .int 0, .int 0, .int 0, .int 0, .ref (b + 1), .ref (b + 2), .null]) rfl (by rw [ufn_ne _ _ (by decide), ufn_same]; rfl) (by decide) rfl rfl (by decide +kernel) rfl rfl (Nat.le_of_ble_eq_true rfl) lk_69 dX1_init_25 ?_
  subst hb
  refine nv_return dX1_init_28 (fun k hk => ?_)
  rcases (show k = 0 ∨ k = 1 ∨ k = 2 ∨ k = 3 by omega) with rfl | rfl | rfl | rfl
  · rw [cel0_at (k := 0) hk0]; rfl
  · rw [cel0_at (k := 1) hk1]; rfl
  · rw [cel0_at (k := 2) hk2]; rfl
  · rw [cel0_at (k := 3) hk3]; rfl
set_option maxRecDepth 100000 in
set_option maxHeartbeats 4000000 in
theorem n_Round {g : Gl} {cy : Nat → ClassId} {o k0 b : Nat} {E : Nat → va_E} (hb : b = o + k0) (hk0 : kdl (k0 + 0) = (1, 0)) (hk1 : kdl (k0 + 1) = (6, 6)) (hk2 : kdl (k0 + 2) = (6, 8)) (hk3 : kdl (k0 + 3) = (6, 36)) (hk4 : kdl (k0 + 4) = (6, 36)) (hE : E 0 = .inr (1, bRound)) : EvN yX2_init cX2_init 1 1 12 g cy b 0 [] [(0, .ref b)] E 0 0 (fun k => cel cy (h0 o) o (o + k0 + k)) 4 86 := by
  refine nv_aload_n (z := 0) dX2_init_0 rfl rfl ?_
  refine nv_objInit lk_163 (by decide) (by decide) dX2_init_1 ?_
  refine nv_aload_n (z := 0) dX2_init_4 rfl rfl ?_
  refine nv_bipush (v := 6) dX2_init_5 (by decide) ?_
  refine nv_newI (N := 6) (by decide) (by decide) (by decide) (by decide) (by decide) dX2_init_7 ?_
  refine nv_putR 0 (ty := .array .int) (ci := 1) (fs := [.null, .null, .null, .null]) rfl (by rw [ufn_ne _ _ (by decide), hE]; rfl) (by decide) rfl rfl (by decide +kernel) rfl rfl (Nat.le_of_ble_eq_true rfl) lk_164 dX2_init_9 ?_
  refine nv_aload_n (z := 0) dX2_init_12 rfl rfl ?_
  refine nv_bipush (v := 8) dX2_init_13 (by decide) ?_
  refine nv_newI (N := 8) (by decide) (by decide) (by decide) (by decide) (by decide) dX2_init_15 ?_
  refine nv_putR 1 (ty := .array .int) (ci := 1) (fs := [.ref (b + 1), .null, .null, .null]) rfl (by rw [ufn_ne _ _ (by decide), ufn_same]; rfl) (by decide) rfl rfl (by decide +kernel) rfl rfl (Nat.le_of_ble_eq_true rfl) lk_165 dX2_init_17 ?_
  refine nv_aload_n (z := 0) dX2_init_20 rfl rfl ?_
  refine nv_bipush (v := 36) dX2_init_21 (by decide) ?_
  refine nv_newI (N := 36) (by decide) (by decide) (by decide) (by decide) (by decide) dX2_init_23 ?_
  refine nv_putR 2 (ty := .array .int) (ci := 1) (fs := [.ref (b + 1), .ref (b + 2), .null, .null]) rfl (by rw [ufn_ne _ _ (by decide), ufn_same]; rfl) (by decide) rfl rfl (by decide +kernel) rfl rfl (Nat.le_of_ble_eq_true rfl) lk_166 dX2_init_25 ?_
  refine nv_aload_n (z := 0) dX2_init_28 rfl rfl ?_
  refine nv_bipush (v := 36) dX2_init_29 (by decide) ?_
  refine nv_newI (N := 36) (by decide) (by decide) (by decide) (by decide) (by decide) dX2_init_31 ?_
  refine nv_putR 3 (ty := .array .int) (ci := 1) (fs := [.ref (b + 1), .ref (b + 2), .ref (b + 3), .null]) rfl (by rw [ufn_ne _ _ (by decide), ufn_same]; rfl) (by decide) rfl rfl (by decide +kernel) rfl rfl (Nat.le_of_ble_eq_true rfl) lk_167 dX2_init_33 ?_
  subst hb
  refine nv_return dX2_init_36 (fun k hk => ?_)
  rcases (show k = 0 ∨ k = 1 ∨ k = 2 ∨ k = 3 ∨ k = 4 by omega) with rfl | rfl | rfl | rfl | rfl
  · rw [cel0_at (k := 0) hk0]; rfl
  · rw [cel0_at (k := 1) hk1]; rfl
  · rw [cel0_at (k := 2) hk2]; rfl
  · rw [cel0_at (k := 3) hk3]; rfl
  · rw [cel0_at (k := 4) hk4]; rfl
set_option maxRecDepth 100000 in
set_option maxHeartbeats 4000000 in
theorem n_Text {g : Gl} {cy : Nat → ClassId} {o k0 b : Nat} {E : Nat → va_E} (hb : b = o + k0) (hk0 : kdl (k0 + 0) = (3, 0)) (hk1 : kdl (k0 + 1) = (6, 120)) (hk2 : kdl (k0 + 2) = (6, 40)) (hk3 : kdl (k0 + 3) = (6, 40)) (hk4 : kdl (k0 + 4) = (6, 40)) (hE : E 0 = .inr (3, bText)) : EvN yX4_init cX4_init 1 1 12 g cy b 0 [] [(0, .ref b)] E 0 0 (fun k => cel cy (h0 o) o (o + k0 + k)) 4 240 := by
  refine nv_aload_n (z := 0) dX4_init_0 rfl rfl ?_
  refine nv_objInit lk_182 (by decide) (by decide) dX4_init_1 ?_
  refine nv_aload_n (z := 0) dX4_init_4 rfl rfl ?_
  refine nv_bipush (v := 120) dX4_init_5 (by decide) ?_
  refine nv_newI (N := 120) (by decide) (by decide) (by decide) (by decide) (by decide) dX4_init_7 ?_
  refine nv_putR 5 (ty := .array .int) (ci := 3) (fs := [.int 0, .int 0, .null, .null, .null, .null, .int 0, .int 0, .int 0]) rfl (by rw [ufn_ne _ _ (by decide), hE]; rfl) (by decide) rfl rfl (by decide +kernel) rfl rfl (Nat.le_of_ble_eq_true rfl) lk_193 dX4_init_9 ?_
  refine nv_aload_n (z := 0) dX4_init_12 rfl rfl ?_
  refine nv_bipush (v := 40) dX4_init_13 (by decide) ?_
  refine nv_newI (N := 40) (by decide) (by decide) (by decide) (by decide) (by decide) dX4_init_15 ?_
  refine nv_putR 2 (ty := .array .int) (ci := 3) (fs := [.int 0, .int 0, .null, .null, .null, .ref (b + 1), .int 0, .int 0, .int 0]) rfl (by rw [ufn_ne _ _ (by decide), ufn_same]; rfl) (by decide) rfl rfl (by decide +kernel) rfl rfl (Nat.le_of_ble_eq_true rfl) lk_187 dX4_init_17 ?_
  refine nv_aload_n (z := 0) dX4_init_20 rfl rfl ?_
  refine nv_bipush (v := 40) dX4_init_21 (by decide) ?_
  refine nv_newI (N := 40) (by decide) (by decide) (by decide) (by decide) (by decide) dX4_init_23 ?_
  refine nv_putR 3 (ty := .array .int) (ci := 3) (fs := [.int 0, .int 0, .ref (b + 2), .null, .null, .ref (b + 1), .int 0, .int 0, .int 0]) rfl (by rw [ufn_ne _ _ (by decide), ufn_same]; rfl) (by decide) rfl rfl (by decide +kernel) rfl rfl (Nat.le_of_ble_eq_true rfl) lk_189 dX4_init_25 ?_
  refine nv_aload_n (z := 0) dX4_init_28 rfl rfl ?_
  refine nv_bipush (v := 40) dX4_init_29 (by decide) ?_
  refine nv_newI (N := 40) (by decide) (by decide) (by decide) (by decide) (by decide) dX4_init_31 ?_
  refine nv_putR 4 (ty := .array .int) (ci := 3) (fs := [.int 0, .int 0, .ref (b + 2), .ref (b + 3), .null, .ref (b + 1), .int 0, .int 0, .int 0]) rfl (by rw [ufn_ne _ _ (by decide), ufn_same]; rfl) (by decide) rfl rfl (by decide +kernel) rfl rfl (Nat.le_of_ble_eq_true rfl) lk_191 dX4_init_33 ?_
  subst hb
  refine nv_return dX4_init_36 (fun k hk => ?_)
  rcases (show k = 0 ∨ k = 1 ∨ k = 2 ∨ k = 3 ∨ k = 4 by omega) with rfl | rfl | rfl | rfl | rfl
  · rw [cel0_at (k := 0) hk0]; rfl
  · rw [cel0_at (k := 1) hk1]; rfl
  · rw [cel0_at (k := 2) hk2]; rfl
  · rw [cel0_at (k := 3) hk3]; rfl
  · rw [cel0_at (k := 4) hk4]; rfl

def mxI (h : Hp) (a : Nat) (f : Nat → Int32) : Hp := (ufn h.1 a f, h.2)
def mxF (h : Hp) (a : Nat) (f : Nat → UInt32) : Hp := (h.1, h.2.1, ufn h.2.2 a f)
theorem ufn_id {α : Type} (f : Nat → α) (a : Nat) : ufn f a (f a) = f := by
  funext j
  unfold ufn
  by_cases h : j = a
  · rw [if_pos h, h]
  · rw [if_neg h]
theorem ufn_ufn {α : Type} (f : Nat → α) (a : Nat) (x z : α) : ufn (ufn f a x) a z = ufn f a z := by
  funext j
  unfold ufn
  by_cases h : j = a
  · rw [if_pos h, if_pos h]
  · rw [if_neg h, if_neg h, if_neg h]
theorem mxI_id (h : Hp) (a : Nat) : mxI h a (h.1 a) = h := by unfold mxI; rw [ufn_id]
theorem mxF_id (h : Hp) (a : Nat) : mxF h a (h.2.2 a) = h := by unfold mxF; rw [ufn_id]
theorem mxI_at (h : Hp) (a : Nat) (f : Nat → Int32) : (mxI h a f).1 a = f := ufn_same _ _ _
theorem mxF_at (h : Hp) (a : Nat) (f : Nat → UInt32) : (mxF h a f).2.2 a = f := ufn_same _ _ _
theorem sI_mxI (h : Hp) (a j : Nat) (f : Nat → Int32) (v : Int32) : sI (mxI h a f) a j v = mxI h a (upd f j v) := by
  unfold sI mxI
  show (ufn (ufn h.1 a f) a (upd (ufn h.1 a f a) j v), h.2) = _
  rw [ufn_same, ufn_ufn]
theorem sF_mxF (h : Hp) (a j : Nat) (f : Nat → UInt32) (v : UInt32) : sF (mxF h a f) a j v = mxF h a (vf_upd f j v) := by
  unfold sF mxF
  show (h.1, h.2.1, ufn (ufn h.2.2 a f) a (vf_upd (ufn h.2.2 a f a) j v)) = _
  rw [ufn_same, ufn_ufn]
/-- the first n places of a row are as v says, the rest as in f -/
def pre {α : Type} (n : Nat) (v f : Nat → α) : Nat → α := fun j => if j < n then v j else f j
theorem pre_0 {α : Type} (v f : Nat → α) : pre 0 v f = f := by funext j; unfold pre; rw [if_neg (Nat.not_lt_zero j)]
theorem pre_s (n : Nat) (v f : Nat → Int32) : upd (pre n v f) n (v n) = pre (n + 1) v f := by
  funext j
  unfold upd pre
  by_cases h : j = n
  · subst h; rw [if_pos rfl, if_pos (Nat.lt_succ_self j)]
  · rw [if_neg h]
    by_cases h2 : j < n
    · rw [if_pos h2, if_pos (by omega)]
    · rw [if_neg h2, if_neg (by omega)]
theorem preF_s (n : Nat) (v f : Nat → UInt32) : vf_upd (pre n v f) n (v n) = pre (n + 1) v f := by
  funext j
  unfold vf_upd pre
  by_cases h : j = n
  · subst h; rw [if_pos rfl, if_pos (Nat.lt_succ_self j)]
  · rw [if_neg h]
    by_cases h2 : j < n
    · rw [if_pos h2, if_pos (by omega)]
    · rw [if_neg h2, if_neg (by omega)]
theorem inb_nI {k n : Nat} (h : k < n) (hn : n < 2 ^ 31) : inb (nI k) n = true := by
  unfold inb
  exact decide_eq_true (nI_in h hn)
theorem lays_l2 (m : Nat) (p b : Int32) : ∀ (r k fuel : Nat) (h : Hp), k + r = 320 → r < fuel → f_X6_lays_l2 m p b fuel (nI k) (mxI h (m + 2) (pre k (fun _ => 0) (h.1 (m + 2)))) = some (mxI h (m + 2) (pre 320 (fun _ => 0) (h.1 (m + 2)))) := by
  intro r
  induction r with
  | zero =>
    intro k fuel h hk hf
    obtain ⟨fuel, rfl⟩ : ∃ z, fuel = z + 1 := ⟨fuel - 1, by omega⟩
    have : k = 320 := by omega
    subst this
    rw [f_X6_lays_l2_s, if_pos (by decide)]
  | succ r ih =>
    intro k fuel h hk hf
    obtain ⟨fuel, rfl⟩ : ∃ z, fuel = z + 1 := ⟨fuel - 1, by omega⟩
    rw [f_X6_lays_l2_s, if_neg (show ¬ (320 : Int32) ≤ nI k from nI_ge (b := 320) (by omega) (by decide)), if_pos (inb_nI (by omega) (by decide)), nI_clamp (by omega), sI_mxI, pre_s (v := fun _ => 0), nI_1]
    exact ih (k + 1) fuel h (by omega) (by omega)
theorem lays_l24 (m : Nat) (p b : Int32) : ∀ (r k fuel : Nat) (h : Hp), k + r = 36 → r < fuel → f_X6_lays_l24 m p b fuel (nI k) (mxF h (m + 3) (pre k (fun _ => FP.fconst0) (h.2.2 (m + 3)))) = some (mxF h (m + 3) (pre 36 (fun _ => FP.fconst0) (h.2.2 (m + 3)))) := by
  intro r
  induction r with
  | zero =>
    intro k fuel h hk hf
    obtain ⟨fuel, rfl⟩ : ∃ z, fuel = z + 1 := ⟨fuel - 1, by omega⟩
    have : k = 36 := by omega
    subst this
    rw [f_X6_lays_l24_s, if_pos (by decide)]
  | succ r ih =>
    intro k fuel h hk hf
    obtain ⟨fuel, rfl⟩ : ∃ z, fuel = z + 1 := ⟨fuel - 1, by omega⟩
    rw [f_X6_lays_l24_s, if_neg (show ¬ (36 : Int32) ≤ nI k from nI_ge (b := 36) (by omega) (by decide)), if_pos (inb_nI (by omega) (by decide)), nI_clamp (by omega), sF_mxF, preF_s (v := fun _ => FP.fconst0), nI_1]
    exact ih (k + 1) fuel h (by omega) (by omega)
theorem lays_eq (h : Hp) (m : Nat) (p b : Int32) : f_X6_lays h m p b = some (sL (sI (sI (sI (sI (sI (sI (mxF (mxI h (m + 2) (pre 320 (fun _ => 0) (h.1 (m + 2)))) (m + 3) (pre 36 (fun _ => FP.fconst0) (h.2.2 (m + 3)))) (m + 2) 1 p) (m + 2) 2 b) (m + 2) 8 2) (m + 2) 9 5) (m + 2) 10 2) (m + 2) 11 3) m 3 1) := by
  unfold f_X6_lays
  have e1 := lays_l2 m p b 320 0 fu h (by omega) (by decide)
  rw [pre_0, mxI_id] at e1
  rw [show (0 : Int32) = nI 0 from rfl, e1, bn1_some]
  have e2 := lays_l24 m p b 36 0 fu (mxI h (m + 2) (pre 320 (fun _ => 0) (h.1 (m + 2)))) (by omega) (by decide)
  rw [pre_0, mxF_id] at e2
  rw [e2, bn1_some]
  rfl
theorem startAnew_eq (h : Hp) (q : Nat) (p b : Int32) : f_X3_startAnew h q p b = some (sI (sI (sI (sI (sL (sI (sI (sI (sI (sI (sI (sI (sI (sI h q 0 p) q 1 b) q 2 ((1 <<< (p &&& 31)) - 1)) q 3 ((1 <<< (b &&& 31)) - 1)) q 4 0) q 5 0) q 6 0) q 7 0) q 8 0) q 9 1) (q + 1) 0 2) (q + 1) 1 5) (q + 1) 2 2) (q + 1) 3 3) := by
  unfold f_X3_startAnew
  rw [show fu = 4995 + 1 + 1 + 1 + 1 + 1 from rfl]
  rw [f_X3_startAnew_l60_s, if_neg (by decide), if_pos (by decide), if_pos (by decide)]
  rw [f_X3_startAnew_l60_s, if_neg (by decide), if_pos (by decide), if_pos (by decide)]
  rw [f_X3_startAnew_l60_s, if_neg (by decide), if_pos (by decide), if_pos (by decide)]
  rw [f_X3_startAnew_l60_s, if_neg (by decide), if_pos (by decide), if_pos (by decide)]
  rw [f_X3_startAnew_l60_s, if_pos (by decide), bn1_some]
  rfl

