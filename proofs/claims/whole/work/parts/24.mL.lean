theorem ev_scrld {y : MethodName} {cc : ByteArray} {maxL fr lc : Nat} {ret : Option FieldType} {g : Gl} {pc : Nat} {st : List Value} {lv : List (Nat × Value)} {h h2 : Hp} {r : Option Value} {i : Int32} (hi : vp_in i g.2.2.1) (d : decode cc pc = .ok (.iaload, 1)) (k : Ev y cc maxL ret fr lc g (pc + 1) (.int (g.2.2.2 i.toNatClampNeg) :: st) lv h r h2) : Ev y cc maxL ret fr lc g pc (.int i :: .ref (g.2.1 3) :: st) lv h r h2 := ev_tabld 3 (by decide) hi d k
def f_L_law_j664 (sL : Nat) (xs : Nat → Int32) (kk : Int32 → Hp → Option (Nat × Hp)) (h : Hp) (l1 : Nat) (l2 : Nat) (l3 : Int32) : Option (Nat × Hp) := (kk (l3 + 4) h)
set_option maxRecDepth 100000 in
set_option maxHeartbeats 4000000 in
theorem jn_L_law_664 {g : Gl} {h : Hp} {kk : Int32 → Hp → Option (Nat × Hp)} {l1 : Nat} {l2 : Nat} {l3 : Int32}  {r : Option Value} {h2 : Hp} {tg : Nat} {h3 : Hp} (kl1 : KD g.1 l1 4 0) (kl2 : KD g.1 l2 5 0) (hx0 : tg = 0 → Ev yL_law cL_law 4 (some .boolean) 12 271 g 167 [] [] h3 r h2) (hx1 : tg = 1 → Ev yL_law cL_law 4 (some .boolean) 12 271 g 200 [] [] h3 r h2) (hx2 : tg = 2 → Ev yL_law cL_law 4 (some .boolean) 12 271 g 233 [] [] h3 r h2) (hx3 : tg = 3 → Ev yL_law cL_law 4 (some .boolean) 12 271 g 266 [] [] h3 r h2) (hx4 : tg = 4 → Ev yL_law cL_law 4 (some .boolean) 12 271 g 289 [] [] h3 r h2) (hx5 : tg = 5 → Ev yL_law cL_law 4 (some .boolean) 12 271 g 312 [] [] h3 r h2) (hx6 : tg = 6 → Ev yL_law cL_law 4 (some .boolean) 12 271 g 345 [] [] h3 r h2) (hx7 : tg = 7 → Ev yL_law cL_law 4 (some .boolean) 12 271 g 388 [] [] h3 r h2) (hx8 : tg = 8 → Ev yL_law cL_law 4 (some .boolean) 12 271 g 421 [] [] h3 r h2) (hx9 : tg = 9 → Ev yL_law cL_law 4 (some .boolean) 12 271 g 454 [] [] h3 r h2) (hx10 : tg = 10 → Ev yL_law cL_law 4 (some .boolean) 12 271 g 477 [] [] h3 r h2) (hx11 : tg = 11 → Ev yL_law cL_law 4 (some .boolean) 12 271 g 490 [] [] h3 r h2) (hx12 : tg = 12 → Ev yL_law cL_law 4 (some .boolean) 12 271 g 513 [] [] h3 r h2) (hx13 : tg = 13 → Ev yL_law cL_law 4 (some .boolean) 12 271 g 526 [] [] h3 r h2) (hx14 : tg = 14 → Ev yL_law cL_law 4 (some .boolean) 12 271 g 540 [] [] h3 r h2) (hx15 : tg = 15 → Ev yL_law cL_law 4 (some .boolean) 12 271 g 563 [] [] h3 r h2) (hx16 : tg = 16 → Ev yL_law cL_law 4 (some .boolean) 12 271 g 586 [] [] h3 r h2) (hx17 : tg = 17 → Ev yL_law cL_law 4 (some .boolean) 12 271 g 599 [] [] h3 r h2) (hx18 : tg = 18 → Ev yL_law cL_law 4 (some .boolean) 12 271 g 612 [] [] h3 r h2) (hx19 : tg = 19 → Ev yL_law cL_law 4 (some .boolean) 12 271 g 625 [] [] h3 r h2) (hx20 : tg = 20 → Ev yL_law cL_law 4 (some .boolean) 12 271 g 648 [] [] h3 r h2) (hx21 : tg = 21 → Ev yL_law cL_law 4 (some .boolean) 12 271 g 662 [] [] h3 r h2) (hx22 : tg = 22 → Ev yL_law cL_law 4 (some .boolean) 12 271 g 670 [] [] h3 r h2) (hk : ∀ (x3 : Int32) (hq : Hp), kk x3 hq = some (tg, h3) → Ev yL_law cL_law 4 (some .boolean) 12 271 g 18 [] [(0, .ref (g.2.1 3)), (1, .ref l1), (2, .ref l2), (3, .int x3)] hq r h2) (hf : f_L_law_j664 g.2.2.1 g.2.2.2 kk h l1 l2 l3 = some (tg, h3)) : Ev yL_law cL_law 4 (some .boolean) 12 271 g 664 [] [(0, .ref (g.2.1 3)), (1, .ref l1), (2, .ref l2), (3, .int l3)] h r h2 := by
  unfold f_L_law_j664 at hf
  refine ev_iinc (z := 3) (v := (l3 + 4)) (lv2 := [(3, .int (l3 + 4)), (0, .ref (g.2.1 3)), (1, .ref l1), (2, .ref l2)]) dL_law_664 rfl rfl (by decide) rfl ?_
  refine ev_goto (tgt := 18) dL_law_667 (by decide) ?_
  refine ev_sub [1, 2, 3, 0] rfl (lv2 := [(0, .ref (g.2.1 3)), (1, .ref l1), (2, .ref l2), (3, .int (l3 + 4))]) ?_
  exact hk _ _ hf
def f_L_law_l18 (sL : Nat) (xs : Nat → Int32) (l1 : Nat) (l2 : Nat) : Nat → Int32 → Hp → Option (Nat × Hp)
  | 0, _, _ => none
  | fu1 + 1, l3, h => (if ((Int32.ofNat sL) - (4 : Int32)) < l3 then (some (22, h)) else (if inb l3 sL = true then (if ((xs l3.toNatClampNeg) &&& (31 : Int32)) = 0 then (if inb (l3 + (1 : Int32)) sL = true then (if inb (l3 + (2 : Int32)) sL = true then (bn2 (f_X5_begins h l1 (xs (l3 + (1 : Int32)).toNatClampNeg) (xs (l3 + (2 : Int32)).toNatClampNeg)) (fun v167 h168 => (if inb (l3 + (1 : Int32)) sL = true then (if inb (l3 + (2 : Int32)) sL = true then (bn2 (f_X6_begins h168 l2 (xs (l3 + (1 : Int32)).toNatClampNeg) (xs (l3 + (2 : Int32)).toNatClampNeg)) (fun v172 h173 => (if v167 = v172 then (f_L_law_j664 sL xs (f_L_law_l18 sL xs l1 l2 fu1) h173 l1 l2 l3) else (some (0, h173))))) else none) else none))) else none) else none) else (if ((xs l3.toNatClampNeg) &&& (31 : Int32)) = 1 then (if inb (l3 + (1 : Int32)) sL = true then (if inb (l3 + (2 : Int32)) sL = true then (bn2 (f_X5_peer h l1 (xs (l3 + (1 : Int32)).toNatClampNeg) (xs (l3 + (2 : Int32)).toNatClampNeg)) (fun v157 h158 => (if inb (l3 + (1 : Int32)) sL = true then (if inb (l3 + (2 : Int32)) sL = true then (bn2 (f_X6_peer h158 l2 (xs (l3 + (1 : Int32)).toNatClampNeg) (xs (l3 + (2 : Int32)).toNatClampNeg)) (fun v162 h163 => (if v157 = v162 then (f_L_law_j664 sL xs (f_L_law_l18 sL xs l1 l2 fu1) h163 l1 l2 l3) else (some (1, h163))))) else none) else none))) else none) else none) else (if ((xs l3.toNatClampNeg) &&& (31 : Int32)) = 2 then (if inb (l3 + (1 : Int32)) sL = true then (if inb (l3 + (2 : Int32)) sL = true then (bn2 (f_X5_gives h l1 (xs (l3 + (1 : Int32)).toNatClampNeg) (xs (l3 + (2 : Int32)).toNatClampNeg)) (fun v147 h148 => (if inb (l3 + (1 : Int32)) sL = true then (if inb (l3 + (2 : Int32)) sL = true then (bn2 (f_X6_gives h148 l2 (xs (l3 + (1 : Int32)).toNatClampNeg) (xs (l3 + (2 : Int32)).toNatClampNeg)) (fun v152 h153 => (if v147 = v152 then (f_L_law_j664 sL xs (f_L_law_l18 sL xs l1 l2 fu1) h153 l1 l2 l3) else (some (2, h153))))) else none) else none))) else none) else none) else (if ((xs l3.toNatClampNeg) &&& (31 : Int32)) = 3 then (if inb (l3 + (1 : Int32)) sL = true then (if inb (l3 + (2 : Int32)) sL = true then (bn2 (f_X5_sets h l1 (xs (l3 + (1 : Int32)).toNatClampNeg) (xs (l3 + (2 : Int32)).toNatClampNeg)) (fun v137 h138 => (if inb (l3 + (1 : Int32)) sL = true then (if inb (l3 + (2 : Int32)) sL = true then (bn2 (f_X6_sets h138 l2 (xs (l3 + (1 : Int32)).toNatClampNeg) (xs (l3 + (2 : Int32)).toNatClampNeg)) (fun v142 h143 => (if v137 = v142 then (f_L_law_j664 sL xs (f_L_law_l18 sL xs l1 l2 fu1) h143 l1 l2 l3) else (some (3, h143))))) else none) else none))) else none) else none) else (if ((xs l3.toNatClampNeg) &&& (31 : Int32)) = 4 then (if inb (l3 + (1 : Int32)) sL = true then (bn2 (f_X5_rounds h l1 (xs (l3 + (1 : Int32)).toNatClampNeg)) (fun v128 h129 => (if inb (l3 + (1 : Int32)) sL = true then (bn2 (f_X6_rounds h129 l2 (xs (l3 + (1 : Int32)).toNatClampNeg)) (fun v132 h133 => (if v128 = v132 then (f_L_law_j664 sL xs (f_L_law_l18 sL xs l1 l2 fu1) h133 l1 l2 l3) else (some (4, h133))))) else none))) else none) else (if ((xs l3.toNatClampNeg) &&& (31 : Int32)) = 5 then (if inb (l3 + (1 : Int32)) sL = true then (bn2 (f_X5_finishes h l1 (xs (l3 + (1 : Int32)).toNatClampNeg)) (fun v120 h121 => (if inb (l3 + (1 : Int32)) sL = true then (bn2 (f_X6_finishes h121 l2 (xs (l3 + (1 : Int32)).toNatClampNeg)) (fun v124 h125 => (if v120 = v124 then (f_L_law_j664 sL xs (f_L_law_l18 sL xs l1 l2 fu1) h125 l1 l2 l3) else (some (5, h125))))) else none))) else none) else (if ((xs l3.toNatClampNeg) &&& (31 : Int32)) = 6 then (if inb (l3 + (1 : Int32)) sL = true then (if inb (l3 + (2 : Int32)) sL = true then (bn2 (f_X5_of h l1 (xs (l3 + (1 : Int32)).toNatClampNeg) (xs (l3 + (2 : Int32)).toNatClampNeg)) (fun v111 h112 => (if inb (l3 + (1 : Int32)) sL = true then (if inb (l3 + (2 : Int32)) sL = true then (bn2 (f_X6_of h112 l2 (xs (l3 + (1 : Int32)).toNatClampNeg) (xs (l3 + (2 : Int32)).toNatClampNeg)) (fun v116 h117 => (if v111 = v116 then (f_L_law_j664 sL xs (f_L_law_l18 sL xs l1 l2 fu1) h117 l1 l2 l3) else (some (6, h117))))) else none) else none))) else none) else none) else (if ((xs l3.toNatClampNeg) &&& (31 : Int32)) = 7 then (if inb (l3 + (1 : Int32)) sL = true then (if inb (l3 + (2 : Int32)) sL = true then (if inb (l3 + (3 : Int32)) sL = true then (bn2 (f_X5_block h l1 (xs (l3 + (1 : Int32)).toNatClampNeg) (xs (l3 + (2 : Int32)).toNatClampNeg) (xs (l3 + (3 : Int32)).toNatClampNeg)) (fun v100 h101 => (if inb (l3 + (1 : Int32)) sL = true then (if inb (l3 + (2 : Int32)) sL = true then (if inb (l3 + (3 : Int32)) sL = true then (bn2 (f_X6_block h101 l2 (xs (l3 + (1 : Int32)).toNatClampNeg) (xs (l3 + (2 : Int32)).toNatClampNeg) (xs (l3 + (3 : Int32)).toNatClampNeg)) (fun v106 h107 => (if v100 = v106 then (f_L_law_j664 sL xs (f_L_law_l18 sL xs l1 l2 fu1) h107 l1 l2 l3) else (some (7, h107))))) else none) else none) else none))) else none) else none) else none) else (if ((xs l3.toNatClampNeg) &&& (31 : Int32)) = 8 then (if inb (l3 + (1 : Int32)) sL = true then (if inb (l3 + (2 : Int32)) sL = true then (bn2 (f_X5_rate h l1 (xs (l3 + (1 : Int32)).toNatClampNeg) (xs (l3 + (2 : Int32)).toNatClampNeg)) (fun v89 h90 => (if inb (l3 + (1 : Int32)) sL = true then (if inb (l3 + (2 : Int32)) sL = true then (bn2 (f_X6_rate h90 l2 (xs (l3 + (1 : Int32)).toNatClampNeg) (xs (l3 + (2 : Int32)).toNatClampNeg)) (fun v94 h95 => (if v89 = v94 then (f_L_law_j664 sL xs (f_L_law_l18 sL xs l1 l2 fu1) h95 l1 l2 l3) else (some (8, h95))))) else none) else none))) else none) else none) else (if ((xs l3.toNatClampNeg) &&& (31 : Int32)) = 9 then (if inb (l3 + (1 : Int32)) sL = true then (if inb (l3 + (2 : Int32)) sL = true then (bn2 (f_X5_suspects h l1 (xs (l3 + (1 : Int32)).toNatClampNeg) (xs (l3 + (2 : Int32)).toNatClampNeg)) (fun v79 h80 => (if inb (l3 + (1 : Int32)) sL = true then (if inb (l3 + (2 : Int32)) sL = true then (bn2 (f_X6_suspects h80 l2 (xs (l3 + (1 : Int32)).toNatClampNeg) (xs (l3 + (2 : Int32)).toNatClampNeg)) (fun v84 h85 => (if v79 = v84 then (f_L_law_j664 sL xs (f_L_law_l18 sL xs l1 l2 fu1) h85 l1 l2 l3) else (some (9, h85))))) else none) else none))) else none) else none) else (if ((xs l3.toNatClampNeg) &&& (31 : Int32)) = 10 then (if inb (l3 + (1 : Int32)) sL = true then (bn2 (f_X5_copies h l1 (xs (l3 + (1 : Int32)).toNatClampNeg)) (fun v70 h71 => (if inb (l3 + (1 : Int32)) sL = true then (bn2 (f_X6_copies h71 l2 (xs (l3 + (1 : Int32)).toNatClampNeg)) (fun v74 h75 => (if v70 = v74 then (f_L_law_j664 sL xs (f_L_law_l18 sL xs l1 l2 fu1) h75 l1 l2 l3) else (some (10, h75))))) else none))) else none) else (if ((xs l3.toNatClampNeg) &&& (31 : Int32)) = 11 then (bn1 (f_X5_rarest h l1) (fun v65 => (bn1 (f_X6_rarest h l2) (fun v67 => (if v65 = v67 then (f_L_law_j664 sL xs (f_L_law_l18 sL xs l1 l2 fu1) h l1 l2 l3) else (some (11, h))))))) else (if ((xs l3.toNatClampNeg) &&& (31 : Int32)) = 12 then (if inb (l3 + (1 : Int32)) sL = true then (bn2 (f_X5_ratio h l1 (xs (l3 + (1 : Int32)).toNatClampNeg)) (fun v58 h59 => (if inb (l3 + (1 : Int32)) sL = true then (bn2 (f_X6_ratio h59 l2 (xs (l3 + (1 : Int32)).toNatClampNeg)) (fun v62 h63 => (if v58 = v62 then (f_L_law_j664 sL xs (f_L_law_l18 sL xs l1 l2 fu1) h63 l1 l2 l3) else (some (12, h63))))) else none))) else none) else (if ((xs l3.toNatClampNeg) &&& (31 : Int32)) = 13 then (bn1 (f_X5_spread h l1) (fun v53 => (bn1 (f_X6_spread h l2) (fun v55 => (if v53 = v55 then (f_L_law_j664 sL xs (f_L_law_l18 sL xs l1 l2 fu1) h l1 l2 l3) else (some (13, h))))))) else (if ((xs l3.toNatClampNeg) &&& (31 : Int32)) = 14 then (bn1 (f_X5_fairness h l1) (fun v49 => (bn1 (f_X6_fairness h l2) (fun v51 => (if (lg_cmp v49 v51) = 0 then (f_L_law_j664 sL xs (f_L_law_l18 sL xs l1 l2 fu1) h l1 l2 l3) else (some (14, h))))))) else (if ((xs l3.toNatClampNeg) &&& (31 : Int32)) = 15 then (if inb (l3 + (1 : Int32)) sL = true then (bn2 (f_X5_count h l1 (xs (l3 + (1 : Int32)).toNatClampNeg)) (fun v42 h43 => (if inb (l3 + (1 : Int32)) sL = true then (bn2 (f_X6_count h43 l2 (xs (l3 + (1 : Int32)).toNatClampNeg)) (fun v46 h47 => (if v42 = v46 then (f_L_law_j664 sL xs (f_L_law_l18 sL xs l1 l2 fu1) h47 l1 l2 l3) else (some (15, h47))))) else none))) else none) else (if ((xs l3.toNatClampNeg) &&& (31 : Int32)) = 16 then (if inb (l3 + (1 : Int32)) sL = true then (bn2 (f_X5_type h l1 (xs (l3 + (1 : Int32)).toNatClampNeg)) (fun v34 h35 => (if inb (l3 + (1 : Int32)) sL = true then (bn2 (f_X6_type h35 l2 (xs (l3 + (1 : Int32)).toNatClampNeg)) (fun v38 h39 => (if v34 = v38 then (f_L_law_j664 sL xs (f_L_law_l18 sL xs l1 l2 fu1) h39 l1 l2 l3) else (some (16, h39))))) else none))) else none) else (if ((xs l3.toNatClampNeg) &&& (31 : Int32)) = 17 then (bn2 (f_X5_clear h l1) (fun v27 h28 => (bn2 (f_X6_clear h28 l2) (fun v30 h31 => (if v27 = v30 then (f_L_law_j664 sL xs (f_L_law_l18 sL xs l1 l2 fu1) h31 l1 l2 l3) else (some (17, h31))))))) else (if ((xs l3.toNatClampNeg) &&& (31 : Int32)) = 18 then (bn2 (f_X5_does h l1) (fun v21 h22 => (bn2 (f_X6_does h22 l2) (fun v24 h25 => (if v21 = v24 then (f_L_law_j664 sL xs (f_L_law_l18 sL xs l1 l2 fu1) h25 l1 l2 l3) else (some (18, h25))))))) else (if ((xs l3.toNatClampNeg) &&& (31 : Int32)) = 19 then (bn2 (f_X5_back h l1) (fun v15 h16 => (bn2 (f_X6_back h16 l2) (fun v18 h19 => (if v15 = v18 then (f_L_law_j664 sL xs (f_L_law_l18 sL xs l1 l2 fu1) h19 l1 l2 l3) else (some (19, h19))))))) else (if ((xs l3.toNatClampNeg) &&& (31 : Int32)) = 20 then (if inb (l3 + (1 : Int32)) sL = true then (bn2 (f_X5_told h l1 (xs (l3 + (1 : Int32)).toNatClampNeg)) (fun v8 h9 => (if inb (l3 + (1 : Int32)) sL = true then (bn2 (f_X6_told h9 l2 (xs (l3 + (1 : Int32)).toNatClampNeg)) (fun v12 h13 => (if v8 = v12 then (f_L_law_j664 sL xs (f_L_law_l18 sL xs l1 l2 fu1) h13 l1 l2 l3) else (some (20, h13))))) else none))) else none) else (if ((xs l3.toNatClampNeg) &&& (31 : Int32)) = 21 then (bn2 (f_X5_digest h l1) (fun v2 h3 => (bn1 (f_X6_digest h3 l2) (fun v5 => (if (lg_cmp v2 v5) = 0 then (f_L_law_j664 sL xs (f_L_law_l18 sL xs l1 l2 fu1) h3 l1 l2 l3) else (some (21, h3))))))) else (f_L_law_j664 sL xs (f_L_law_l18 sL xs l1 l2 fu1) h l1 l2 l3))))))))))))))))))))))) else none))
theorem f_L_law_l18_s (sL : Nat) (xs : Nat → Int32) (l1 : Nat) (l2 : Nat) (fu1 : Nat) (l3 : Int32) (h : Hp) : f_L_law_l18 sL xs l1 l2 (fu1 + 1) l3 h = (if ((Int32.ofNat sL) - (4 : Int32)) < l3 then (some (22, h)) else (if inb l3 sL = true then (if ((xs l3.toNatClampNeg) &&& (31 : Int32)) = 0 then (if inb (l3 + (1 : Int32)) sL = true then (if inb (l3 + (2 : Int32)) sL = true then (bn2 (f_X5_begins h l1 (xs (l3 + (1 : Int32)).toNatClampNeg) (xs (l3 + (2 : Int32)).toNatClampNeg)) (fun v167 h168 => (if inb (l3 + (1 : Int32)) sL = true then (if inb (l3 + (2 : Int32)) sL = true then (bn2 (f_X6_begins h168 l2 (xs (l3 + (1 : Int32)).toNatClampNeg) (xs (l3 + (2 : Int32)).toNatClampNeg)) (fun v172 h173 => (if v167 = v172 then (f_L_law_j664 sL xs (f_L_law_l18 sL xs l1 l2 fu1) h173 l1 l2 l3) else (some (0, h173))))) else none) else none))) else none) else none) else (if ((xs l3.toNatClampNeg) &&& (31 : Int32)) = 1 then (if inb (l3 + (1 : Int32)) sL = true then (if inb (l3 + (2 : Int32)) sL = true then (bn2 (f_X5_peer h l1 (xs (l3 + (1 : Int32)).toNatClampNeg) (xs (l3 + (2 : Int32)).toNatClampNeg)) (fun v157 h158 => (if inb (l3 + (1 : Int32)) sL = true then (if inb (l3 + (2 : Int32)) sL = true then (bn2 (f_X6_peer h158 l2 (xs (l3 + (1 : Int32)).toNatClampNeg) (xs (l3 + (2 : Int32)).toNatClampNeg)) (fun v162 h163 => (if v157 = v162 then (f_L_law_j664 sL xs (f_L_law_l18 sL xs l1 l2 fu1) h163 l1 l2 l3) else (some (1, h163))))) else none) else none))) else none) else none) else (if ((xs l3.toNatClampNeg) &&& (31 : Int32)) = 2 then (if inb (l3 + (1 : Int32)) sL = true then (if inb (l3 + (2 : Int32)) sL = true then (bn2 (f_X5_gives h l1 (xs (l3 + (1 : Int32)).toNatClampNeg) (xs (l3 + (2 : Int32)).toNatClampNeg)) (fun v147 h148 => (if inb (l3 + (1 : Int32)) sL = true then (if inb (l3 + (2 : Int32)) sL = true then (bn2 (f_X6_gives h148 l2 (xs (l3 + (1 : Int32)).toNatClampNeg) (xs (l3 + (2 : Int32)).toNatClampNeg)) (fun v152 h153 => (if v147 = v152 then (f_L_law_j664 sL xs (f_L_law_l18 sL xs l1 l2 fu1) h153 l1 l2 l3) else (some (2, h153))))) else none) else none))) else none) else none) else (if ((xs l3.toNatClampNeg) &&& (31 : Int32)) = 3 then (if inb (l3 + (1 : Int32)) sL = true then (if inb (l3 + (2 : Int32)) sL = true then (bn2 (f_X5_sets h l1 (xs (l3 + (1 : Int32)).toNatClampNeg) (xs (l3 + (2 : Int32)).toNatClampNeg)) (fun v137 h138 => (if inb (l3 + (1 : Int32)) sL = true then (if inb (l3 + (2 : Int32)) sL = true then (bn2 (f_X6_sets h138 l2 (xs (l3 + (1 : Int32)).toNatClampNeg) (xs (l3 + (2 : Int32)).toNatClampNeg)) (fun v142 h143 => (if v137 = v142 then (f_L_law_j664 sL xs (f_L_law_l18 sL xs l1 l2 fu1) h143 l1 l2 l3) else (some (3, h143))))) else none) else none))) else none) else none) else (if ((xs l3.toNatClampNeg) &&& (31 : Int32)) = 4 then (if inb (l3 + (1 : Int32)) sL = true then (bn2 (f_X5_rounds h l1 (xs (l3 + (1 : Int32)).toNatClampNeg)) (fun v128 h129 => (if inb (l3 + (1 : Int32)) sL = true then (bn2 (f_X6_rounds h129 l2 (xs (l3 + (1 : Int32)).toNatClampNeg)) (fun v132 h133 => (if v128 = v132 then (f_L_law_j664 sL xs (f_L_law_l18 sL xs l1 l2 fu1) h133 l1 l2 l3) else (some (4, h133))))) else none))) else none) else (if ((xs l3.toNatClampNeg) &&& (31 : Int32)) = 5 then (if inb (l3 + (1 : Int32)) sL = true then (bn2 (f_X5_finishes h l1 (xs (l3 + (1 : Int32)).toNatClampNeg)) (fun v120 h121 => (if inb (l3 + (1 : Int32)) sL = true then (bn2 (f_X6_finishes h121 l2 (xs (l3 + (1 : Int32)).toNatClampNeg)) (fun v124 h125 => (if v120 = v124 then (f_L_law_j664 sL xs (f_L_law_l18 sL xs l1 l2 fu1) h125 l1 l2 l3) else (some (5, h125))))) else none))) else none) else (if ((xs l3.toNatClampNeg) &&& (31 : Int32)) = 6 then (if inb (l3 + (1 : Int32)) sL = true then (if inb (l3 + (2 : Int32)) sL = true then (bn2 (f_X5_of h l1 (xs (l3 + (1 : Int32)).toNatClampNeg) (xs (l3 + (2 : Int32)).toNatClampNeg)) (fun v111 h112 => (if inb (l3 + (1 : Int32)) sL = true then (if inb (l3 + (2 : Int32)) sL = true then (bn2 (f_X6_of h112 l2 (xs (l3 + (1 : Int32)).toNatClampNeg) (xs (l3 + (2 : Int32)).toNatClampNeg)) (fun v116 h117 => (if v111 = v116 then (f_L_law_j664 sL xs (f_L_law_l18 sL xs l1 l2 fu1) h117 l1 l2 l3) else (some (6, h117))))) else none) else none))) else none) else none) else (if ((xs l3.toNatClampNeg) &&& (31 : Int32)) = 7 then (if inb (l3 + (1 : Int32)) sL = true then (if inb (l3 + (2 : Int32)) sL = true then (if inb (l3 + (3 : Int32)) sL = true then (bn2 (f_X5_block h l1 (xs (l3 + (1 : Int32)).toNatClampNeg) (xs (l3 + (2 : Int32)).toNatClampNeg) (xs (l3 + (3 : Int32)).toNatClampNeg)) (fun v100 h101 => (if inb (l3 + (1 : Int32)) sL = true then (if inb (l3 + (2 : Int32)) sL = true then (if inb (l3 + (3 : Int32)) sL = true then (bn2 (f_X6_block h101 l2 (xs (l3 + (1 : Int32)).toNatClampNeg) (xs (l3 + (2 : Int32)).toNatClampNeg) (xs (l3 + (3 : Int32)).toNatClampNeg)) (fun v106 h107 => (if v100 = v106 then (f_L_law_j664 sL xs (f_L_law_l18 sL xs l1 l2 fu1) h107 l1 l2 l3) else (some (7, h107))))) else none) else none) else none))) else none) else none) else none) else (if ((xs l3.toNatClampNeg) &&& (31 : Int32)) = 8 then (if inb (l3 + (1 : Int32)) sL = true then (if inb (l3 + (2 : Int32)) sL = true then (bn2 (f_X5_rate h l1 (xs (l3 + (1 : Int32)).toNatClampNeg) (xs (l3 + (2 : Int32)).toNatClampNeg)) (fun v89 h90 => (if inb (l3 + (1 : Int32)) sL = true then (if inb (l3 + (2 : Int32)) sL = true then (bn2 (f_X6_rate h90 l2 (xs (l3 + (1 : Int32)).toNatClampNeg) (xs (l3 + (2 : Int32)).toNatClampNeg)) (fun v94 h95 => (if v89 = v94 then (f_L_law_j664 sL xs (f_L_law_l18 sL xs l1 l2 fu1) h95 l1 l2 l3) else (some (8, h95))))) else none) else none))) else none) else none) else (if ((xs l3.toNatClampNeg) &&& (31 : Int32)) = 9 then (if inb (l3 + (1 : Int32)) sL = true then (if inb (l3 + (2 : Int32)) sL = true then (bn2 (f_X5_suspects h l1 (xs (l3 + (1 : Int32)).toNatClampNeg) (xs (l3 + (2 : Int32)).toNatClampNeg)) (fun v79 h80 => (if inb (l3 + (1 : Int32)) sL = true then (if inb (l3 + (2 : Int32)) sL = true then (bn2 (f_X6_suspects h80 l2 (xs (l3 + (1 : Int32)).toNatClampNeg) (xs (l3 + (2 : Int32)).toNatClampNeg)) (fun v84 h85 => (if v79 = v84 then (f_L_law_j664 sL xs (f_L_law_l18 sL xs l1 l2 fu1) h85 l1 l2 l3) else (some (9, h85))))) else none) else none))) else none) else none) else (if ((xs l3.toNatClampNeg) &&& (31 : Int32)) = 10 then (if inb (l3 + (1 : Int32)) sL = true then (bn2 (f_X5_copies h l1 (xs (l3 + (1 : Int32)).toNatClampNeg)) (fun v70 h71 => (if inb (l3 + (1 : Int32)) sL = true then (bn2 (f_X6_copies h71 l2 (xs (l3 + (1 : Int32)).toNatClampNeg)) (fun v74 h75 => (if v70 = v74 then (f_L_law_j664 sL xs (f_L_law_l18 sL xs l1 l2 fu1) h75 l1 l2 l3) else (some (10, h75))))) else none))) else none) else (if ((xs l3.toNatClampNeg) &&& (31 : Int32)) = 11 then (bn1 (f_X5_rarest h l1) (fun v65 => (bn1 (f_X6_rarest h l2) (fun v67 => (if v65 = v67 then (f_L_law_j664 sL xs (f_L_law_l18 sL xs l1 l2 fu1) h l1 l2 l3) else (some (11, h))))))) else (if ((xs l3.toNatClampNeg) &&& (31 : Int32)) = 12 then (if inb (l3 + (1 : Int32)) sL = true then (bn2 (f_X5_ratio h l1 (xs (l3 + (1 : Int32)).toNatClampNeg)) (fun v58 h59 => (if inb (l3 + (1 : Int32)) sL = true then (bn2 (f_X6_ratio h59 l2 (xs (l3 + (1 : Int32)).toNatClampNeg)) (fun v62 h63 => (if v58 = v62 then (f_L_law_j664 sL xs (f_L_law_l18 sL xs l1 l2 fu1) h63 l1 l2 l3) else (some (12, h63))))) else none))) else none) else (if ((xs l3.toNatClampNeg) &&& (31 : Int32)) = 13 then (bn1 (f_X5_spread h l1) (fun v53 => (bn1 (f_X6_spread h l2) (fun v55 => (if v53 = v55 then (f_L_law_j664 sL xs (f_L_law_l18 sL xs l1 l2 fu1) h l1 l2 l3) else (some (13, h))))))) else (if ((xs l3.toNatClampNeg) &&& (31 : Int32)) = 14 then (bn1 (f_X5_fairness h l1) (fun v49 => (bn1 (f_X6_fairness h l2) (fun v51 => (if (lg_cmp v49 v51) = 0 then (f_L_law_j664 sL xs (f_L_law_l18 sL xs l1 l2 fu1) h l1 l2 l3) else (some (14, h))))))) else (if ((xs l3.toNatClampNeg) &&& (31 : Int32)) = 15 then (if inb (l3 + (1 : Int32)) sL = true then (bn2 (f_X5_count h l1 (xs (l3 + (1 : Int32)).toNatClampNeg)) (fun v42 h43 => (if inb (l3 + (1 : Int32)) sL = true then (bn2 (f_X6_count h43 l2 (xs (l3 + (1 : Int32)).toNatClampNeg)) (fun v46 h47 => (if v42 = v46 then (f_L_law_j664 sL xs (f_L_law_l18 sL xs l1 l2 fu1) h47 l1 l2 l3) else (some (15, h47))))) else none))) else none) else (if ((xs l3.toNatClampNeg) &&& (31 : Int32)) = 16 then (if inb (l3 + (1 : Int32)) sL = true then (bn2 (f_X5_type h l1 (xs (l3 + (1 : Int32)).toNatClampNeg)) (fun v34 h35 => (if inb (l3 + (1 : Int32)) sL = true then (bn2 (f_X6_type h35 l2 (xs (l3 + (1 : Int32)).toNatClampNeg)) (fun v38 h39 => (if v34 = v38 then (f_L_law_j664 sL xs (f_L_law_l18 sL xs l1 l2 fu1) h39 l1 l2 l3) else (some (16, h39))))) else none))) else none) else (if ((xs l3.toNatClampNeg) &&& (31 : Int32)) = 17 then (bn2 (f_X5_clear h l1) (fun v27 h28 => (bn2 (f_X6_clear h28 l2) (fun v30 h31 => (if v27 = v30 then (f_L_law_j664 sL xs (f_L_law_l18 sL xs l1 l2 fu1) h31 l1 l2 l3) else (some (17, h31))))))) else (if ((xs l3.toNatClampNeg) &&& (31 : Int32)) = 18 then (bn2 (f_X5_does h l1) (fun v21 h22 => (bn2 (f_X6_does h22 l2) (fun v24 h25 => (if v21 = v24 then (f_L_law_j664 sL xs (f_L_law_l18 sL xs l1 l2 fu1) h25 l1 l2 l3) else (some (18, h25))))))) else (if ((xs l3.toNatClampNeg) &&& (31 : Int32)) = 19 then (bn2 (f_X5_back h l1) (fun v15 h16 => (bn2 (f_X6_back h16 l2) (fun v18 h19 => (if v15 = v18 then (f_L_law_j664 sL xs (f_L_law_l18 sL xs l1 l2 fu1) h19 l1 l2 l3) else (some (19, h19))))))) else (if ((xs l3.toNatClampNeg) &&& (31 : Int32)) = 20 then (if inb (l3 + (1 : Int32)) sL = true then (bn2 (f_X5_told h l1 (xs (l3 + (1 : Int32)).toNatClampNeg)) (fun v8 h9 => (if inb (l3 + (1 : Int32)) sL = true then (bn2 (f_X6_told h9 l2 (xs (l3 + (1 : Int32)).toNatClampNeg)) (fun v12 h13 => (if v8 = v12 then (f_L_law_j664 sL xs (f_L_law_l18 sL xs l1 l2 fu1) h13 l1 l2 l3) else (some (20, h13))))) else none))) else none) else (if ((xs l3.toNatClampNeg) &&& (31 : Int32)) = 21 then (bn2 (f_X5_digest h l1) (fun v2 h3 => (bn1 (f_X6_digest h3 l2) (fun v5 => (if (lg_cmp v2 v5) = 0 then (f_L_law_j664 sL xs (f_L_law_l18 sL xs l1 l2 fu1) h3 l1 l2 l3) else (some (21, h3))))))) else (f_L_law_j664 sL xs (f_L_law_l18 sL xs l1 l2 fu1) h l1 l2 l3))))))))))))))))))))))) else none)) := rfl
theorem f_L_law_l18_0 (sL : Nat) (xs : Nat → Int32) (l1 : Nat) (l2 : Nat) (l3 : Int32) (h : Hp) : f_L_law_l18 sL xs l1 l2 0 l3 h = none := rfl
set_option maxRecDepth 100000 in
set_option maxHeartbeats 4000000 in
theorem lp_L_law_18 {g : Gl} {l1 : Nat} {l2 : Nat} {r : Option Value} {h2 : Hp} {tg : Nat} {h3 : Hp} (kl1 : KD g.1 l1 4 0) (kl2 : KD g.1 l2 5 0) (hx0 : tg = 0 → Ev yL_law cL_law 4 (some .boolean) 12 271 g 167 [] [] h3 r h2) (hx1 : tg = 1 → Ev yL_law cL_law 4 (some .boolean) 12 271 g 200 [] [] h3 r h2) (hx2 : tg = 2 → Ev yL_law cL_law 4 (some .boolean) 12 271 g 233 [] [] h3 r h2) (hx3 : tg = 3 → Ev yL_law cL_law 4 (some .boolean) 12 271 g 266 [] [] h3 r h2) (hx4 : tg = 4 → Ev yL_law cL_law 4 (some .boolean) 12 271 g 289 [] [] h3 r h2) (hx5 : tg = 5 → Ev yL_law cL_law 4 (some .boolean) 12 271 g 312 [] [] h3 r h2) (hx6 : tg = 6 → Ev yL_law cL_law 4 (some .boolean) 12 271 g 345 [] [] h3 r h2) (hx7 : tg = 7 → Ev yL_law cL_law 4 (some .boolean) 12 271 g 388 [] [] h3 r h2) (hx8 : tg = 8 → Ev yL_law cL_law 4 (some .boolean) 12 271 g 421 [] [] h3 r h2) (hx9 : tg = 9 → Ev yL_law cL_law 4 (some .boolean) 12 271 g 454 [] [] h3 r h2) (hx10 : tg = 10 → Ev yL_law cL_law 4 (some .boolean) 12 271 g 477 [] [] h3 r h2) (hx11 : tg = 11 → Ev yL_law cL_law 4 (some .boolean) 12 271 g 490 [] [] h3 r h2) (hx12 : tg = 12 → Ev yL_law cL_law 4 (some .boolean) 12 271 g 513 [] [] h3 r h2) (hx13 : tg = 13 → Ev yL_law cL_law 4 (some .boolean) 12 271 g 526 [] [] h3 r h2) (hx14 : tg = 14 → Ev yL_law cL_law 4 (some .boolean) 12 271 g 540 [] [] h3 r h2) (hx15 : tg = 15 → Ev yL_law cL_law 4 (some .boolean) 12 271 g 563 [] [] h3 r h2) (hx16 : tg = 16 → Ev yL_law cL_law 4 (some .boolean) 12 271 g 586 [] [] h3 r h2) (hx17 : tg = 17 → Ev yL_law cL_law 4 (some .boolean) 12 271 g 599 [] [] h3 r h2) (hx18 : tg = 18 → Ev yL_law cL_law 4 (some .boolean) 12 271 g 612 [] [] h3 r h2) (hx19 : tg = 19 → Ev yL_law cL_law 4 (some .boolean) 12 271 g 625 [] [] h3 r h2) (hx20 : tg = 20 → Ev yL_law cL_law 4 (some .boolean) 12 271 g 648 [] [] h3 r h2) (hx21 : tg = 21 → Ev yL_law cL_law 4 (some .boolean) 12 271 g 662 [] [] h3 r h2) (hx22 : tg = 22 → Ev yL_law cL_law 4 (some .boolean) 12 271 g 670 [] [] h3 r h2) : ∀ (fu1 : Nat) (l3 : Int32) (h : Hp), f_L_law_l18 g.2.2.1 g.2.2.2 l1 l2 fu1 l3 h = some (tg, h3) → Ev yL_law cL_law 4 (some .boolean) 12 271 g 18 [] [(0, .ref (g.2.1 3)), (1, .ref l1), (2, .ref l2), (3, .int l3)] h r h2 := by
  intro fu1
  induction fu1 with
  | zero =>
    intro l3 h hf
    cases hf
  | succ fu1 ih =>
    intro l3 h hf
    rw [f_L_law_l18_s] at hf
    have hk := ih
    refine ev_iload_n (n := 3) dL_law_18 rfl rfl ?_
    refine ev_aload_n (n := 0) dL_law_19 rfl rfl ?_
    refine ev_tablen 3 (v := (Int32.ofNat g.2.2.1)) (by decide) rfl dL_law_20 ?_
    refine ev_iconst (v := 4) dL_law_21 (by decide) ?_
    refine ev_isub dL_law_22 ?_
    refine ev_icmp_gt (tgt := 670) dL_law_23 (by decide) (fun c1 => ?_) (fun c1 => ?_)
    · replace hf := if_t c1 hf
      refine ev_sub [] rfl (lv2 := []) ?_
      obtain ⟨rfl, rfl⟩ := Prod.mk.inj (Option.some.inj hf)
      exact hx22 rfl
    · replace hf := if_f c1 hf
      refine ev_aload_n (n := 0) dL_law_26 rfl rfl ?_
      refine ev_iload_n (n := 3) dL_law_27 rfl rfl ?_
      obtain ⟨gd1, hf⟩ := gd_of hf
      refine ev_scrld (inb_of gd1) dL_law_28 ?_
      refine ev_bipush (v := 31) dL_law_29 (by decide) ?_
      refine ev_iand dL_law_31 ?_
      by_cases sw0 : ((g.2.2.2 l3.toNatClampNeg) &&& (31 : Int32)) = 0
      · replace hf := if_t sw0 hf
        refine ev_tableIn (tgt := 136) dL_law_32 (by rw [sw0]; decide) (by rw [sw0]; decide) (by rw [sw0]; rfl) (by decide) ?_
        refine ev_aload_n (n := 1) dL_law_136 rfl rfl ?_
        refine ev_aload_n (n := 0) dL_law_137 rfl rfl ?_
        refine ev_iload_n (n := 3) dL_law_138 rfl rfl ?_
        refine ev_iconst (v := 1) dL_law_139 (by decide) ?_
        refine ev_iadd dL_law_140 ?_
        obtain ⟨gd165, hf⟩ := gd_of hf
        refine ev_scrld (inb_of gd165) dL_law_141 ?_
        refine ev_aload_n (n := 0) dL_law_142 rfl rfl ?_
        refine ev_iload_n (n := 3) dL_law_143 rfl rfl ?_
        refine ev_iconst (v := 2) dL_law_144 (by decide) ?_
        refine ev_iadd dL_law_145 ?_
        obtain ⟨gd166, hf⟩ := gd_of hf
        refine ev_scrld (inb_of gd166) dL_law_146 ?_
        obtain ⟨v167, h168, e169, hf⟩ := bn2_of hf
        refine ev_callVi (As := [.int (g.2.2.2 (l3 + (1 : Int32)).toNatClampNeg), .int (g.2.2.2 (l3 + (2 : Int32)).toNatClampNeg)]) cal_X5_begins kl1 rfl (ev_X5_begins kl1 e169) (Nat.le_of_ble_eq_true rfl) rfl lk_244 (by decide) (by decide) (Nat.le_of_ble_eq_true rfl) dL_law_147 rfl ?_
        refine ev_aload_n (n := 2) dL_law_150 rfl rfl ?_
        refine ev_aload_n (n := 0) dL_law_151 rfl rfl ?_
        refine ev_iload_n (n := 3) dL_law_152 rfl rfl ?_
        refine ev_iconst (v := 1) dL_law_153 (by decide) ?_
        refine ev_iadd dL_law_154 ?_
        obtain ⟨gd170, hf⟩ := gd_of hf
        refine ev_scrld (inb_of gd170) dL_law_155 ?_
        refine ev_aload_n (n := 0) dL_law_156 rfl rfl ?_
        refine ev_iload_n (n := 3) dL_law_157 rfl rfl ?_
        refine ev_iconst (v := 2) dL_law_158 (by decide) ?_
        refine ev_iadd dL_law_159 ?_
        obtain ⟨gd171, hf⟩ := gd_of hf
        refine ev_scrld (inb_of gd171) dL_law_160 ?_
        obtain ⟨v172, h173, e174, hf⟩ := bn2_of hf
        refine ev_callVi (As := [.int (g.2.2.2 (l3 + (1 : Int32)).toNatClampNeg), .int (g.2.2.2 (l3 + (2 : Int32)).toNatClampNeg)]) cal_X6_begins kl2 rfl (ev_X6_begins kl2 e174) (Nat.le_of_ble_eq_true rfl) rfl lk_665 (by decide) (by decide) (Nat.le_of_ble_eq_true rfl) dL_law_161 rfl ?_
        refine ev_icmp_eq (tgt := 664) dL_law_164 (by decide) (fun c1 => ?_) (fun c1 => ?_)
        · replace hf := if_t c1 hf
          exact jn_L_law_664 kl1 kl2 hx0 hx1 hx2 hx3 hx4 hx5 hx6 hx7 hx8 hx9 hx10 hx11 hx12 hx13 hx14 hx15 hx16 hx17 hx18 hx19 hx20 hx21 hx22 hk hf
        · replace hf := if_f c1 hf
          refine ev_sub [] rfl (lv2 := []) ?_
          obtain ⟨rfl, rfl⟩ := Prod.mk.inj (Option.some.inj hf)
          exact hx0 rfl
      replace hf := if_f sw0 hf
      by_cases sw1 : ((g.2.2.2 l3.toNatClampNeg) &&& (31 : Int32)) = 1
      · replace hf := if_t sw1 hf
        refine ev_tableIn (tgt := 169) dL_law_32 (by rw [sw1]; decide) (by rw [sw1]; decide) (by rw [sw1]; rfl) (by decide) ?_
        refine ev_aload_n (n := 1) dL_law_169 rfl rfl ?_
        refine ev_aload_n (n := 0) dL_law_170 rfl rfl ?_
        refine ev_iload_n (n := 3) dL_law_171 rfl rfl ?_
        refine ev_iconst (v := 1) dL_law_172 (by decide) ?_
        refine ev_iadd dL_law_173 ?_
        obtain ⟨gd155, hf⟩ := gd_of hf
        refine ev_scrld (inb_of gd155) dL_law_174 ?_
        refine ev_aload_n (n := 0) dL_law_175 rfl rfl ?_
        refine ev_iload_n (n := 3) dL_law_176 rfl rfl ?_
        refine ev_iconst (v := 2) dL_law_177 (by decide) ?_
        refine ev_iadd dL_law_178 ?_
        obtain ⟨gd156, hf⟩ := gd_of hf
        refine ev_scrld (inb_of gd156) dL_law_179 ?_
        obtain ⟨v157, h158, e159, hf⟩ := bn2_of hf
        refine ev_callVi (As := [.int (g.2.2.2 (l3 + (1 : Int32)).toNatClampNeg), .int (g.2.2.2 (l3 + (2 : Int32)).toNatClampNeg)]) cal_X5_peer kl1 rfl (ev_X5_peer kl1 e159) (Nat.le_of_ble_eq_true rfl) rfl lk_269 (by decide) (by decide) (Nat.le_of_ble_eq_true rfl) dL_law_180 rfl ?_
        refine ev_aload_n (n := 2) dL_law_183 rfl rfl ?_
        refine ev_aload_n (n := 0) dL_law_184 rfl rfl ?_
        refine ev_iload_n (n := 3) dL_law_185 rfl rfl ?_
        refine ev_iconst (v := 1) dL_law_186 (by decide) ?_
        refine ev_iadd dL_law_187 ?_
        obtain ⟨gd160, hf⟩ := gd_of hf
        refine ev_scrld (inb_of gd160) dL_law_188 ?_
        refine ev_aload_n (n := 0) dL_law_189 rfl rfl ?_
        refine ev_iload_n (n := 3) dL_law_190 rfl rfl ?_
        refine ev_iconst (v := 2) dL_law_191 (by decide) ?_
        refine ev_iadd dL_law_192 ?_
        obtain ⟨gd161, hf⟩ := gd_of hf
        refine ev_scrld (inb_of gd161) dL_law_193 ?_
        obtain ⟨v162, h163, e164, hf⟩ := bn2_of hf
        refine ev_callVi (As := [.int (g.2.2.2 (l3 + (1 : Int32)).toNatClampNeg), .int (g.2.2.2 (l3 + (2 : Int32)).toNatClampNeg)]) cal_X6_peer kl2 rfl (ev_X6_peer kl2 e164) (Nat.le_of_ble_eq_true rfl) rfl lk_680 (by decide) (by decide) (Nat.le_of_ble_eq_true rfl) dL_law_194 rfl ?_
        refine ev_icmp_eq (tgt := 664) dL_law_197 (by decide) (fun c1 => ?_) (fun c1 => ?_)
        · replace hf := if_t c1 hf
          exact jn_L_law_664 kl1 kl2 hx0 hx1 hx2 hx3 hx4 hx5 hx6 hx7 hx8 hx9 hx10 hx11 hx12 hx13 hx14 hx15 hx16 hx17 hx18 hx19 hx20 hx21 hx22 hk hf
        · replace hf := if_f c1 hf
          refine ev_sub [] rfl (lv2 := []) ?_
          obtain ⟨rfl, rfl⟩ := Prod.mk.inj (Option.some.inj hf)
          exact hx1 rfl
      replace hf := if_f sw1 hf
      by_cases sw2 : ((g.2.2.2 l3.toNatClampNeg) &&& (31 : Int32)) = 2
      · replace hf := if_t sw2 hf
        refine ev_tableIn (tgt := 202) dL_law_32 (by rw [sw2]; decide) (by rw [sw2]; decide) (by rw [sw2]; rfl) (by decide) ?_
        refine ev_aload_n (n := 1) dL_law_202 rfl rfl ?_
        refine ev_aload_n (n := 0) dL_law_203 rfl rfl ?_
        refine ev_iload_n (n := 3) dL_law_204 rfl rfl ?_
        refine ev_iconst (v := 1) dL_law_205 (by decide) ?_
        refine ev_iadd dL_law_206 ?_
        obtain ⟨gd145, hf⟩ := gd_of hf
        refine ev_scrld (inb_of gd145) dL_law_207 ?_
        refine ev_aload_n (n := 0) dL_law_208 rfl rfl ?_
        refine ev_iload_n (n := 3) dL_law_209 rfl rfl ?_
        refine ev_iconst (v := 2) dL_law_210 (by decide) ?_
        refine ev_iadd dL_law_211 ?_
        obtain ⟨gd146, hf⟩ := gd_of hf
        refine ev_scrld (inb_of gd146) dL_law_212 ?_
        obtain ⟨v147, h148, e149, hf⟩ := bn2_of hf
        refine ev_callVi (As := [.int (g.2.2.2 (l3 + (1 : Int32)).toNatClampNeg), .int (g.2.2.2 (l3 + (2 : Int32)).toNatClampNeg)]) cal_X5_gives kl1 rfl (ev_X5_gives kl1 e149) (Nat.le_of_ble_eq_true rfl) rfl lk_285 (by decide) (by decide) (Nat.le_of_ble_eq_true rfl) dL_law_213 rfl ?_
        refine ev_aload_n (n := 2) dL_law_216 rfl rfl ?_
        refine ev_aload_n (n := 0) dL_law_217 rfl rfl ?_
        refine ev_iload_n (n := 3) dL_law_218 rfl rfl ?_
        refine ev_iconst (v := 1) dL_law_219 (by decide) ?_
        refine ev_iadd dL_law_220 ?_
        obtain ⟨gd150, hf⟩ := gd_of hf
        refine ev_scrld (inb_of gd150) dL_law_221 ?_
        refine ev_aload_n (n := 0) dL_law_222 rfl rfl ?_
        refine ev_iload_n (n := 3) dL_law_223 rfl rfl ?_
        refine ev_iconst (v := 2) dL_law_224 (by decide) ?_
        refine ev_iadd dL_law_225 ?_
        obtain ⟨gd151, hf⟩ := gd_of hf
        refine ev_scrld (inb_of gd151) dL_law_226 ?_
        obtain ⟨v152, h153, e154, hf⟩ := bn2_of hf
        refine ev_callVi (As := [.int (g.2.2.2 (l3 + (1 : Int32)).toNatClampNeg), .int (g.2.2.2 (l3 + (2 : Int32)).toNatClampNeg)]) cal_X6_gives kl2 rfl (ev_X6_gives kl2 e154) (Nat.le_of_ble_eq_true rfl) rfl lk_703 (by decide) (by decide) (Nat.le_of_ble_eq_true rfl) dL_law_227 rfl ?_
        refine ev_icmp_eq (tgt := 664) dL_law_230 (by decide) (fun c1 => ?_) (fun c1 => ?_)
        · replace hf := if_t c1 hf
          exact jn_L_law_664 kl1 kl2 hx0 hx1 hx2 hx3 hx4 hx5 hx6 hx7 hx8 hx9 hx10 hx11 hx12 hx13 hx14 hx15 hx16 hx17 hx18 hx19 hx20 hx21 hx22 hk hf
        · replace hf := if_f c1 hf
          refine ev_sub [] rfl (lv2 := []) ?_
          obtain ⟨rfl, rfl⟩ := Prod.mk.inj (Option.some.inj hf)
          exact hx2 rfl
      replace hf := if_f sw2 hf
      by_cases sw3 : ((g.2.2.2 l3.toNatClampNeg) &&& (31 : Int32)) = 3
      · replace hf := if_t sw3 hf
        refine ev_tableIn (tgt := 235) dL_law_32 (by rw [sw3]; decide) (by rw [sw3]; decide) (by rw [sw3]; rfl) (by decide) ?_
        refine ev_aload_n (n := 1) dL_law_235 rfl rfl ?_
        refine ev_aload_n (n := 0) dL_law_236 rfl rfl ?_
        refine ev_iload_n (n := 3) dL_law_237 rfl rfl ?_
        refine ev_iconst (v := 1) dL_law_238 (by decide) ?_
        refine ev_iadd dL_law_239 ?_
        obtain ⟨gd135, hf⟩ := gd_of hf
        refine ev_scrld (inb_of gd135) dL_law_240 ?_
        refine ev_aload_n (n := 0) dL_law_241 rfl rfl ?_
        refine ev_iload_n (n := 3) dL_law_242 rfl rfl ?_
        refine ev_iconst (v := 2) dL_law_243 (by decide) ?_
        refine ev_iadd dL_law_244 ?_
        obtain ⟨gd136, hf⟩ := gd_of hf
        refine ev_scrld (inb_of gd136) dL_law_245 ?_
        obtain ⟨v137, h138, e139, hf⟩ := bn2_of hf
        refine ev_callVi (As := [.int (g.2.2.2 (l3 + (1 : Int32)).toNatClampNeg), .int (g.2.2.2 (l3 + (2 : Int32)).toNatClampNeg)]) cal_X5_sets kl1 rfl (ev_X5_sets kl1 e139) (Nat.le_of_ble_eq_true rfl) rfl lk_319 (by decide) (by decide) (Nat.le_of_ble_eq_true rfl) dL_law_246 rfl ?_
        refine ev_aload_n (n := 2) dL_law_249 rfl rfl ?_
        refine ev_aload_n (n := 0) dL_law_250 rfl rfl ?_
        refine ev_iload_n (n := 3) dL_law_251 rfl rfl ?_
        refine ev_iconst (v := 1) dL_law_252 (by decide) ?_
        refine ev_iadd dL_law_253 ?_
        obtain ⟨gd140, hf⟩ := gd_of hf
        refine ev_scrld (inb_of gd140) dL_law_254 ?_
        refine ev_aload_n (n := 0) dL_law_255 rfl rfl ?_
        refine ev_iload_n (n := 3) dL_law_256 rfl rfl ?_
        refine ev_iconst (v := 2) dL_law_257 (by decide) ?_
        refine ev_iadd dL_law_258 ?_
        obtain ⟨gd141, hf⟩ := gd_of hf
        refine ev_scrld (inb_of gd141) dL_law_259 ?_
        obtain ⟨v142, h143, e144, hf⟩ := bn2_of hf
        refine ev_callVi (As := [.int (g.2.2.2 (l3 + (1 : Int32)).toNatClampNeg), .int (g.2.2.2 (l3 + (2 : Int32)).toNatClampNeg)]) cal_X6_sets kl2 rfl (ev_X6_sets kl2 e144) (Nat.le_of_ble_eq_true rfl) rfl lk_730 (by decide) (by decide) (Nat.le_of_ble_eq_true rfl) dL_law_260 rfl ?_
        refine ev_icmp_eq (tgt := 664) dL_law_263 (by decide) (fun c1 => ?_) (fun c1 => ?_)
        · replace hf := if_t c1 hf
          exact jn_L_law_664 kl1 kl2 hx0 hx1 hx2 hx3 hx4 hx5 hx6 hx7 hx8 hx9 hx10 hx11 hx12 hx13 hx14 hx15 hx16 hx17 hx18 hx19 hx20 hx21 hx22 hk hf
        · replace hf := if_f c1 hf
          refine ev_sub [] rfl (lv2 := []) ?_
          obtain ⟨rfl, rfl⟩ := Prod.mk.inj (Option.some.inj hf)
          exact hx3 rfl
      replace hf := if_f sw3 hf
      by_cases sw4 : ((g.2.2.2 l3.toNatClampNeg) &&& (31 : Int32)) = 4
      · replace hf := if_t sw4 hf
        refine ev_tableIn (tgt := 268) dL_law_32 (by rw [sw4]; decide) (by rw [sw4]; decide) (by rw [sw4]; rfl) (by decide) ?_
        refine ev_aload_n (n := 1) dL_law_268 rfl rfl ?_
        refine ev_aload_n (n := 0) dL_law_269 rfl rfl ?_
        refine ev_iload_n (n := 3) dL_law_270 rfl rfl ?_
        refine ev_iconst (v := 1) dL_law_271 (by decide) ?_
        refine ev_iadd dL_law_272 ?_
        obtain ⟨gd127, hf⟩ := gd_of hf
        refine ev_scrld (inb_of gd127) dL_law_273 ?_
        obtain ⟨v128, h129, e130, hf⟩ := bn2_of hf
        refine ev_callVi (As := [.int (g.2.2.2 (l3 + (1 : Int32)).toNatClampNeg)]) cal_X5_rounds kl1 rfl (ev_X5_rounds kl1 e130) (Nat.le_of_ble_eq_true rfl) rfl lk_335 (by decide) (by decide) (Nat.le_of_ble_eq_true rfl) dL_law_274 rfl ?_
        refine ev_aload_n (n := 2) dL_law_277 rfl rfl ?_
        refine ev_aload_n (n := 0) dL_law_278 rfl rfl ?_
        refine ev_iload_n (n := 3) dL_law_279 rfl rfl ?_
        refine ev_iconst (v := 1) dL_law_280 (by decide) ?_
        refine ev_iadd dL_law_281 ?_
        obtain ⟨gd131, hf⟩ := gd_of hf
        refine ev_scrld (inb_of gd131) dL_law_282 ?_
        obtain ⟨v132, h133, e134, hf⟩ := bn2_of hf
        refine ev_callVi (As := [.int (g.2.2.2 (l3 + (1 : Int32)).toNatClampNeg)]) cal_X6_rounds kl2 rfl (ev_X6_rounds kl2 e134) (Nat.le_of_ble_eq_true rfl) rfl lk_747 (by decide) (by decide) (Nat.le_of_ble_eq_true rfl) dL_law_283 rfl ?_
        refine ev_icmp_eq (tgt := 664) dL_law_286 (by decide) (fun c1 => ?_) (fun c1 => ?_)
        · replace hf := if_t c1 hf
          exact jn_L_law_664 kl1 kl2 hx0 hx1 hx2 hx3 hx4 hx5 hx6 hx7 hx8 hx9 hx10 hx11 hx12 hx13 hx14 hx15 hx16 hx17 hx18 hx19 hx20 hx21 hx22 hk hf
        · replace hf := if_f c1 hf
          refine ev_sub [] rfl (lv2 := []) ?_
          obtain ⟨rfl, rfl⟩ := Prod.mk.inj (Option.some.inj hf)
          exact hx4 rfl
      replace hf := if_f sw4 hf
      by_cases sw5 : ((g.2.2.2 l3.toNatClampNeg) &&& (31 : Int32)) = 5
      · replace hf := if_t sw5 hf
        refine ev_tableIn (tgt := 291) dL_law_32 (by rw [sw5]; decide) (by rw [sw5]; decide) (by rw [sw5]; rfl) (by decide) ?_
        refine ev_aload_n (n := 1) dL_law_291 rfl rfl ?_
        refine ev_aload_n (n := 0) dL_law_292 rfl rfl ?_
        refine ev_iload_n (n := 3) dL_law_293 rfl rfl ?_
        refine ev_iconst (v := 1) dL_law_294 (by decide) ?_
        refine ev_iadd dL_law_295 ?_
        obtain ⟨gd119, hf⟩ := gd_of hf
        refine ev_scrld (inb_of gd119) dL_law_296 ?_
        obtain ⟨v120, h121, e122, hf⟩ := bn2_of hf
        refine ev_callVi (As := [.int (g.2.2.2 (l3 + (1 : Int32)).toNatClampNeg)]) cal_X5_finishes kl1 rfl (ev_X5_finishes kl1 e122) (Nat.le_of_ble_eq_true rfl) rfl lk_441 (by decide) (by decide) (Nat.le_of_ble_eq_true rfl) dL_law_297 rfl ?_
        refine ev_aload_n (n := 2) dL_law_300 rfl rfl ?_
        refine ev_aload_n (n := 0) dL_law_301 rfl rfl ?_
        refine ev_iload_n (n := 3) dL_law_302 rfl rfl ?_
        refine ev_iconst (v := 1) dL_law_303 (by decide) ?_
        refine ev_iadd dL_law_304 ?_
        obtain ⟨gd123, hf⟩ := gd_of hf
        refine ev_scrld (inb_of gd123) dL_law_305 ?_
        obtain ⟨v124, h125, e126, hf⟩ := bn2_of hf
        refine ev_callVi (As := [.int (g.2.2.2 (l3 + (1 : Int32)).toNatClampNeg)]) cal_X6_finishes kl2 rfl (ev_X6_finishes kl2 e126) (Nat.le_of_ble_eq_true rfl) rfl lk_858 (by decide) (by decide) (Nat.le_of_ble_eq_true rfl) dL_law_306 rfl ?_
        refine ev_icmp_eq (tgt := 664) dL_law_309 (by decide) (fun c1 => ?_) (fun c1 => ?_)
        · replace hf := if_t c1 hf
          exact jn_L_law_664 kl1 kl2 hx0 hx1 hx2 hx3 hx4 hx5 hx6 hx7 hx8 hx9 hx10 hx11 hx12 hx13 hx14 hx15 hx16 hx17 hx18 hx19 hx20 hx21 hx22 hk hf
        · replace hf := if_f c1 hf
          refine ev_sub [] rfl (lv2 := []) ?_
          obtain ⟨rfl, rfl⟩ := Prod.mk.inj (Option.some.inj hf)
          exact hx5 rfl
      replace hf := if_f sw5 hf
      by_cases sw6 : ((g.2.2.2 l3.toNatClampNeg) &&& (31 : Int32)) = 6
      · replace hf := if_t sw6 hf
        refine ev_tableIn (tgt := 314) dL_law_32 (by rw [sw6]; decide) (by rw [sw6]; decide) (by rw [sw6]; rfl) (by decide) ?_
        refine ev_aload_n (n := 1) dL_law_314 rfl rfl ?_
        refine ev_aload_n (n := 0) dL_law_315 rfl rfl ?_
        refine ev_iload_n (n := 3) dL_law_316 rfl rfl ?_
        refine ev_iconst (v := 1) dL_law_317 (by decide) ?_
        refine ev_iadd dL_law_318 ?_
        obtain ⟨gd109, hf⟩ := gd_of hf
        refine ev_scrld (inb_of gd109) dL_law_319 ?_
        refine ev_aload_n (n := 0) dL_law_320 rfl rfl ?_
        refine ev_iload_n (n := 3) dL_law_321 rfl rfl ?_
        refine ev_iconst (v := 2) dL_law_322 (by decide) ?_
        refine ev_iadd dL_law_323 ?_
        obtain ⟨gd110, hf⟩ := gd_of hf
        refine ev_scrld (inb_of gd110) dL_law_324 ?_
        obtain ⟨v111, h112, e113, hf⟩ := bn2_of hf
        refine ev_callVi (As := [.int (g.2.2.2 (l3 + (1 : Int32)).toNatClampNeg), .int (g.2.2.2 (l3 + (2 : Int32)).toNatClampNeg)]) cal_X5_of kl1 rfl (ev_X5_of kl1 e113) (Nat.le_of_ble_eq_true rfl) rfl lk_453 (by decide) (by decide) (Nat.le_of_ble_eq_true rfl) dL_law_325 rfl ?_
        refine ev_aload_n (n := 2) dL_law_328 rfl rfl ?_
        refine ev_aload_n (n := 0) dL_law_329 rfl rfl ?_
        refine ev_iload_n (n := 3) dL_law_330 rfl rfl ?_
        refine ev_iconst (v := 1) dL_law_331 (by decide) ?_
        refine ev_iadd dL_law_332 ?_
        obtain ⟨gd114, hf⟩ := gd_of hf
        refine ev_scrld (inb_of gd114) dL_law_333 ?_
        refine ev_aload_n (n := 0) dL_law_334 rfl rfl ?_
        refine ev_iload_n (n := 3) dL_law_335 rfl rfl ?_
        refine ev_iconst (v := 2) dL_law_336 (by decide) ?_
        refine ev_iadd dL_law_337 ?_
        obtain ⟨gd115, hf⟩ := gd_of hf
        refine ev_scrld (inb_of gd115) dL_law_338 ?_
        obtain ⟨v116, h117, e118, hf⟩ := bn2_of hf
        refine ev_callVi (As := [.int (g.2.2.2 (l3 + (1 : Int32)).toNatClampNeg), .int (g.2.2.2 (l3 + (2 : Int32)).toNatClampNeg)]) cal_X6_of kl2 rfl (ev_X6_of kl2 e118) (Nat.le_of_ble_eq_true rfl) rfl lk_870 (by decide) (by decide) (Nat.le_of_ble_eq_true rfl) dL_law_339 rfl ?_
        refine ev_icmp_eq (tgt := 664) dL_law_342 (by decide) (fun c1 => ?_) (fun c1 => ?_)
        · replace hf := if_t c1 hf
          exact jn_L_law_664 kl1 kl2 hx0 hx1 hx2 hx3 hx4 hx5 hx6 hx7 hx8 hx9 hx10 hx11 hx12 hx13 hx14 hx15 hx16 hx17 hx18 hx19 hx20 hx21 hx22 hk hf
        · replace hf := if_f c1 hf
          refine ev_sub [] rfl (lv2 := []) ?_
          obtain ⟨rfl, rfl⟩ := Prod.mk.inj (Option.some.inj hf)
          exact hx6 rfl
      replace hf := if_f sw6 hf
      by_cases sw7 : ((g.2.2.2 l3.toNatClampNeg) &&& (31 : Int32)) = 7
      · replace hf := if_t sw7 hf
        refine ev_tableIn (tgt := 347) dL_law_32 (by rw [sw7]; decide) (by rw [sw7]; decide) (by rw [sw7]; rfl) (by decide) ?_
        refine ev_aload_n (n := 1) dL_law_347 rfl rfl ?_
        refine ev_aload_n (n := 0) dL_law_348 rfl rfl ?_
        refine ev_iload_n (n := 3) dL_law_349 rfl rfl ?_
        refine ev_iconst (v := 1) dL_law_350 (by decide) ?_
        refine ev_iadd dL_law_351 ?_
        obtain ⟨gd97, hf⟩ := gd_of hf
        refine ev_scrld (inb_of gd97) dL_law_352 ?_
        refine ev_aload_n (n := 0) dL_law_353 rfl rfl ?_
        refine ev_iload_n (n := 3) dL_law_354 rfl rfl ?_
        refine ev_iconst (v := 2) dL_law_355 (by decide) ?_
        refine ev_iadd dL_law_356 ?_
        obtain ⟨gd98, hf⟩ := gd_of hf
        refine ev_scrld (inb_of gd98) dL_law_357 ?_
        refine ev_aload_n (n := 0) dL_law_358 rfl rfl ?_
        refine ev_iload_n (n := 3) dL_law_359 rfl rfl ?_
        refine ev_iconst (v := 3) dL_law_360 (by decide) ?_
        refine ev_iadd dL_law_361 ?_
        obtain ⟨gd99, hf⟩ := gd_of hf
        refine ev_scrld (inb_of gd99) dL_law_362 ?_
        obtain ⟨v100, h101, e102, hf⟩ := bn2_of hf
        refine ev_callVi (As := [.int (g.2.2.2 (l3 + (1 : Int32)).toNatClampNeg), .int (g.2.2.2 (l3 + (2 : Int32)).toNatClampNeg), .int (g.2.2.2 (l3 + (3 : Int32)).toNatClampNeg)]) cal_X5_block kl1 rfl (ev_X5_block kl1 e102) (Nat.le_of_ble_eq_true rfl) rfl lk_463 (by decide) (by decide) (Nat.le_of_ble_eq_true rfl) dL_law_363 rfl ?_
        refine ev_aload_n (n := 2) dL_law_366 rfl rfl ?_
        refine ev_aload_n (n := 0) dL_law_367 rfl rfl ?_
        refine ev_iload_n (n := 3) dL_law_368 rfl rfl ?_
        refine ev_iconst (v := 1) dL_law_369 (by decide) ?_
        refine ev_iadd dL_law_370 ?_
        obtain ⟨gd103, hf⟩ := gd_of hf
        refine ev_scrld (inb_of gd103) dL_law_371 ?_
        refine ev_aload_n (n := 0) dL_law_372 rfl rfl ?_
        refine ev_iload_n (n := 3) dL_law_373 rfl rfl ?_
        refine ev_iconst (v := 2) dL_law_374 (by decide) ?_
        refine ev_iadd dL_law_375 ?_
        obtain ⟨gd104, hf⟩ := gd_of hf
        refine ev_scrld (inb_of gd104) dL_law_376 ?_
        refine ev_aload_n (n := 0) dL_law_377 rfl rfl ?_
        refine ev_iload_n (n := 3) dL_law_378 rfl rfl ?_
        refine ev_iconst (v := 3) dL_law_379 (by decide) ?_
        refine ev_iadd dL_law_380 ?_
        obtain ⟨gd105, hf⟩ := gd_of hf
        refine ev_scrld (inb_of gd105) dL_law_381 ?_
        obtain ⟨v106, h107, e108, hf⟩ := bn2_of hf
        refine ev_callVi (As := [.int (g.2.2.2 (l3 + (1 : Int32)).toNatClampNeg), .int (g.2.2.2 (l3 + (2 : Int32)).toNatClampNeg), .int (g.2.2.2 (l3 + (3 : Int32)).toNatClampNeg)]) cal_X6_block kl2 rfl (ev_X6_block kl2 e108) (Nat.le_of_ble_eq_true rfl) rfl lk_878 (by decide) (by decide) (Nat.le_of_ble_eq_true rfl) dL_law_382 rfl ?_
        refine ev_icmp_eq (tgt := 664) dL_law_385 (by decide) (fun c1 => ?_) (fun c1 => ?_)
        · replace hf := if_t c1 hf
          exact jn_L_law_664 kl1 kl2 hx0 hx1 hx2 hx3 hx4 hx5 hx6 hx7 hx8 hx9 hx10 hx11 hx12 hx13 hx14 hx15 hx16 hx17 hx18 hx19 hx20 hx21 hx22 hk hf
        · replace hf := if_f c1 hf
          refine ev_sub [] rfl (lv2 := []) ?_
          obtain ⟨rfl, rfl⟩ := Prod.mk.inj (Option.some.inj hf)
          exact hx7 rfl
      replace hf := if_f sw7 hf
      by_cases sw8 : ((g.2.2.2 l3.toNatClampNeg) &&& (31 : Int32)) = 8
      · replace hf := if_t sw8 hf
        refine ev_tableIn (tgt := 390) dL_law_32 (by rw [sw8]; decide) (by rw [sw8]; decide) (by rw [sw8]; rfl) (by decide) ?_
        refine ev_aload_n (n := 1) dL_law_390 rfl rfl ?_
        refine ev_aload_n (n := 0) dL_law_391 rfl rfl ?_
        refine ev_iload_n (n := 3) dL_law_392 rfl rfl ?_
        refine ev_iconst (v := 1) dL_law_393 (by decide) ?_
        refine ev_iadd dL_law_394 ?_
        obtain ⟨gd87, hf⟩ := gd_of hf
        refine ev_scrld (inb_of gd87) dL_law_395 ?_
        refine ev_aload_n (n := 0) dL_law_396 rfl rfl ?_
        refine ev_iload_n (n := 3) dL_law_397 rfl rfl ?_
        refine ev_iconst (v := 2) dL_law_398 (by decide) ?_
        refine ev_iadd dL_law_399 ?_
        obtain ⟨gd88, hf⟩ := gd_of hf
        refine ev_scrld (inb_of gd88) dL_law_400 ?_
        obtain ⟨v89, h90, e91, hf⟩ := bn2_of hf
        refine ev_callVi (As := [.int (g.2.2.2 (l3 + (1 : Int32)).toNatClampNeg), .int (g.2.2.2 (l3 + (2 : Int32)).toNatClampNeg)]) cal_X5_rate kl1 rfl (ev_X5_rate kl1 e91) (Nat.le_of_ble_eq_true rfl) rfl lk_474 (by decide) (by decide) (Nat.le_of_ble_eq_true rfl) dL_law_401 rfl ?_
        refine ev_aload_n (n := 2) dL_law_404 rfl rfl ?_
        refine ev_aload_n (n := 0) dL_law_405 rfl rfl ?_
        refine ev_iload_n (n := 3) dL_law_406 rfl rfl ?_
        refine ev_iconst (v := 1) dL_law_407 (by decide) ?_
        refine ev_iadd dL_law_408 ?_
        obtain ⟨gd92, hf⟩ := gd_of hf
        refine ev_scrld (inb_of gd92) dL_law_409 ?_
        refine ev_aload_n (n := 0) dL_law_410 rfl rfl ?_
        refine ev_iload_n (n := 3) dL_law_411 rfl rfl ?_
        refine ev_iconst (v := 2) dL_law_412 (by decide) ?_
        refine ev_iadd dL_law_413 ?_
        obtain ⟨gd93, hf⟩ := gd_of hf
        refine ev_scrld (inb_of gd93) dL_law_414 ?_
        obtain ⟨v94, h95, e96, hf⟩ := bn2_of hf
        refine ev_callVi (As := [.int (g.2.2.2 (l3 + (1 : Int32)).toNatClampNeg), .int (g.2.2.2 (l3 + (2 : Int32)).toNatClampNeg)]) cal_X6_rate kl2 rfl (ev_X6_rate kl2 e96) (Nat.le_of_ble_eq_true rfl) rfl lk_886 (by decide) (by decide) (Nat.le_of_ble_eq_true rfl) dL_law_415 rfl ?_
        refine ev_icmp_eq (tgt := 664) dL_law_418 (by decide) (fun c1 => ?_) (fun c1 => ?_)
        · replace hf := if_t c1 hf
          exact jn_L_law_664 kl1 kl2 hx0 hx1 hx2 hx3 hx4 hx5 hx6 hx7 hx8 hx9 hx10 hx11 hx12 hx13 hx14 hx15 hx16 hx17 hx18 hx19 hx20 hx21 hx22 hk hf
        · replace hf := if_f c1 hf
          refine ev_sub [] rfl (lv2 := []) ?_
          obtain ⟨rfl, rfl⟩ := Prod.mk.inj (Option.some.inj hf)
          exact hx8 rfl
      replace hf := if_f sw8 hf
      by_cases sw9 : ((g.2.2.2 l3.toNatClampNeg) &&& (31 : Int32)) = 9
      · replace hf := if_t sw9 hf
        refine ev_tableIn (tgt := 423) dL_law_32 (by rw [sw9]; decide) (by rw [sw9]; decide) (by rw [sw9]; rfl) (by decide) ?_
        refine ev_aload_n (n := 1) dL_law_423 rfl rfl ?_
        refine ev_aload_n (n := 0) dL_law_424 rfl rfl ?_
        refine ev_iload_n (n := 3) dL_law_425 rfl rfl ?_
        refine ev_iconst (v := 1) dL_law_426 (by decide) ?_
        refine ev_iadd dL_law_427 ?_
        obtain ⟨gd77, hf⟩ := gd_of hf
        refine ev_scrld (inb_of gd77) dL_law_428 ?_
        refine ev_aload_n (n := 0) dL_law_429 rfl rfl ?_
        refine ev_iload_n (n := 3) dL_law_430 rfl rfl ?_
        refine ev_iconst (v := 2) dL_law_431 (by decide) ?_
        refine ev_iadd dL_law_432 ?_
        obtain ⟨gd78, hf⟩ := gd_of hf
        refine ev_scrld (inb_of gd78) dL_law_433 ?_
        obtain ⟨v79, h80, e81, hf⟩ := bn2_of hf
        refine ev_callVi (As := [.int (g.2.2.2 (l3 + (1 : Int32)).toNatClampNeg), .int (g.2.2.2 (l3 + (2 : Int32)).toNatClampNeg)]) cal_X5_suspects kl1 rfl (ev_X5_suspects kl1 e81) (Nat.le_of_ble_eq_true rfl) rfl lk_486 (by decide) (by decide) (Nat.le_of_ble_eq_true rfl) dL_law_434 rfl ?_
        refine ev_aload_n (n := 2) dL_law_437 rfl rfl ?_
        refine ev_aload_n (n := 0) dL_law_438 rfl rfl ?_
        refine ev_iload_n (n := 3) dL_law_439 rfl rfl ?_
        refine ev_iconst (v := 1) dL_law_440 (by decide) ?_
        refine ev_iadd dL_law_441 ?_
        obtain ⟨gd82, hf⟩ := gd_of hf
        refine ev_scrld (inb_of gd82) dL_law_442 ?_
        refine ev_aload_n (n := 0) dL_law_443 rfl rfl ?_
        refine ev_iload_n (n := 3) dL_law_444 rfl rfl ?_
        refine ev_iconst (v := 2) dL_law_445 (by decide) ?_
        refine ev_iadd dL_law_446 ?_
        obtain ⟨gd83, hf⟩ := gd_of hf
        refine ev_scrld (inb_of gd83) dL_law_447 ?_
        obtain ⟨v84, h85, e86, hf⟩ := bn2_of hf
        refine ev_callVi (As := [.int (g.2.2.2 (l3 + (1 : Int32)).toNatClampNeg), .int (g.2.2.2 (l3 + (2 : Int32)).toNatClampNeg)]) cal_X6_suspects kl2 rfl (ev_X6_suspects kl2 e86) (Nat.le_of_ble_eq_true rfl) rfl lk_908 (by decide) (by decide) (Nat.le_of_ble_eq_true rfl) dL_law_448 rfl ?_
        refine ev_icmp_eq (tgt := 664) dL_law_451 (by decide) (fun c1 => ?_) (fun c1 => ?_)
        · replace hf := if_t c1 hf
          exact jn_L_law_664 kl1 kl2 hx0 hx1 hx2 hx3 hx4 hx5 hx6 hx7 hx8 hx9 hx10 hx11 hx12 hx13 hx14 hx15 hx16 hx17 hx18 hx19 hx20 hx21 hx22 hk hf
        · replace hf := if_f c1 hf
          refine ev_sub [] rfl (lv2 := []) ?_
          obtain ⟨rfl, rfl⟩ := Prod.mk.inj (Option.some.inj hf)
          exact hx9 rfl
      replace hf := if_f sw9 hf
      by_cases sw10 : ((g.2.2.2 l3.toNatClampNeg) &&& (31 : Int32)) = 10
      · replace hf := if_t sw10 hf
        refine ev_tableIn (tgt := 456) dL_law_32 (by rw [sw10]; decide) (by rw [sw10]; decide) (by rw [sw10]; rfl) (by decide) ?_
        refine ev_aload_n (n := 1) dL_law_456 rfl rfl ?_
        refine ev_aload_n (n := 0) dL_law_457 rfl rfl ?_
        refine ev_iload_n (n := 3) dL_law_458 rfl rfl ?_
        refine ev_iconst (v := 1) dL_law_459 (by decide) ?_
        refine ev_iadd dL_law_460 ?_
        obtain ⟨gd69, hf⟩ := gd_of hf
        refine ev_scrld (inb_of gd69) dL_law_461 ?_
        obtain ⟨v70, h71, e72, hf⟩ := bn2_of hf
        refine ev_callVi (As := [.int (g.2.2.2 (l3 + (1 : Int32)).toNatClampNeg)]) cal_X5_copies kl1 rfl (ev_X5_copies kl1 e72) (Nat.le_of_ble_eq_true rfl) rfl lk_490 (by decide) (by decide) (Nat.le_of_ble_eq_true rfl) dL_law_462 rfl ?_
        refine ev_aload_n (n := 2) dL_law_465 rfl rfl ?_
        refine ev_aload_n (n := 0) dL_law_466 rfl rfl ?_
        refine ev_iload_n (n := 3) dL_law_467 rfl rfl ?_
        refine ev_iconst (v := 1) dL_law_468 (by decide) ?_
        refine ev_iadd dL_law_469 ?_
        obtain ⟨gd73, hf⟩ := gd_of hf
        refine ev_scrld (inb_of gd73) dL_law_470 ?_
        obtain ⟨v74, h75, e76, hf⟩ := bn2_of hf
        refine ev_callVi (As := [.int (g.2.2.2 (l3 + (1 : Int32)).toNatClampNeg)]) cal_X6_copies kl2 rfl (ev_X6_copies kl2 e76) (Nat.le_of_ble_eq_true rfl) rfl lk_912 (by decide) (by decide) (Nat.le_of_ble_eq_true rfl) dL_law_471 rfl ?_
        refine ev_icmp_eq (tgt := 664) dL_law_474 (by decide) (fun c1 => ?_) (fun c1 => ?_)
        · replace hf := if_t c1 hf
          exact jn_L_law_664 kl1 kl2 hx0 hx1 hx2 hx3 hx4 hx5 hx6 hx7 hx8 hx9 hx10 hx11 hx12 hx13 hx14 hx15 hx16 hx17 hx18 hx19 hx20 hx21 hx22 hk hf
        · replace hf := if_f c1 hf
          refine ev_sub [] rfl (lv2 := []) ?_
          obtain ⟨rfl, rfl⟩ := Prod.mk.inj (Option.some.inj hf)
          exact hx10 rfl
      replace hf := if_f sw10 hf
      by_cases sw11 : ((g.2.2.2 l3.toNatClampNeg) &&& (31 : Int32)) = 11
      · replace hf := if_t sw11 hf
        refine ev_tableIn (tgt := 479) dL_law_32 (by rw [sw11]; decide) (by rw [sw11]; decide) (by rw [sw11]; rfl) (by decide) ?_
        refine ev_aload_n (n := 1) dL_law_479 rfl rfl ?_
        obtain ⟨v65, e66, hf⟩ := bn1_of hf
        refine ev_callVi (As := []) cal_X5_rarest kl1 rfl (ev_X5_rarest kl1 e66) (Nat.le_of_ble_eq_true rfl) rfl lk_495 (by decide) (by decide) (Nat.le_of_ble_eq_true rfl) dL_law_480 rfl ?_
        refine ev_aload_n (n := 2) dL_law_483 rfl rfl ?_
        obtain ⟨v67, e68, hf⟩ := bn1_of hf
        refine ev_callVi (As := []) cal_X6_rarest kl2 rfl (ev_X6_rarest kl2 e68) (Nat.le_of_ble_eq_true rfl) rfl lk_916 (by decide) (by decide) (Nat.le_of_ble_eq_true rfl) dL_law_484 rfl ?_
        refine ev_icmp_eq (tgt := 664) dL_law_487 (by decide) (fun c1 => ?_) (fun c1 => ?_)
        · replace hf := if_t c1 hf
          exact jn_L_law_664 kl1 kl2 hx0 hx1 hx2 hx3 hx4 hx5 hx6 hx7 hx8 hx9 hx10 hx11 hx12 hx13 hx14 hx15 hx16 hx17 hx18 hx19 hx20 hx21 hx22 hk hf
        · replace hf := if_f c1 hf
          refine ev_sub [] rfl (lv2 := []) ?_
          obtain ⟨rfl, rfl⟩ := Prod.mk.inj (Option.some.inj hf)
          exact hx11 rfl
      replace hf := if_f sw11 hf
      by_cases sw12 : ((g.2.2.2 l3.toNatClampNeg) &&& (31 : Int32)) = 12
      · replace hf := if_t sw12 hf
        refine ev_tableIn (tgt := 492) dL_law_32 (by rw [sw12]; decide) (by rw [sw12]; decide) (by rw [sw12]; rfl) (by decide) ?_
        refine ev_aload_n (n := 1) dL_law_492 rfl rfl ?_
        refine ev_aload_n (n := 0) dL_law_493 rfl rfl ?_
        refine ev_iload_n (n := 3) dL_law_494 rfl rfl ?_
        refine ev_iconst (v := 1) dL_law_495 (by decide) ?_
        refine ev_iadd dL_law_496 ?_
        obtain ⟨gd57, hf⟩ := gd_of hf
        refine ev_scrld (inb_of gd57) dL_law_497 ?_
        obtain ⟨v58, h59, e60, hf⟩ := bn2_of hf
        refine ev_callVi (As := [.int (g.2.2.2 (l3 + (1 : Int32)).toNatClampNeg)]) cal_X5_ratio kl1 rfl (ev_X5_ratio kl1 e60) (Nat.le_of_ble_eq_true rfl) rfl lk_499 (by decide) (by decide) (Nat.le_of_ble_eq_true rfl) dL_law_498 rfl ?_
        refine ev_aload_n (n := 2) dL_law_501 rfl rfl ?_
        refine ev_aload_n (n := 0) dL_law_502 rfl rfl ?_
        refine ev_iload_n (n := 3) dL_law_503 rfl rfl ?_
        refine ev_iconst (v := 1) dL_law_504 (by decide) ?_
        refine ev_iadd dL_law_505 ?_
        obtain ⟨gd61, hf⟩ := gd_of hf
        refine ev_scrld (inb_of gd61) dL_law_506 ?_
        obtain ⟨v62, h63, e64, hf⟩ := bn2_of hf
        refine ev_callVi (As := [.int (g.2.2.2 (l3 + (1 : Int32)).toNatClampNeg)]) cal_X6_ratio kl2 rfl (ev_X6_ratio kl2 e64) (Nat.le_of_ble_eq_true rfl) rfl lk_920 (by decide) (by decide) (Nat.le_of_ble_eq_true rfl) dL_law_507 rfl ?_
        refine ev_icmp_eq (tgt := 664) dL_law_510 (by decide) (fun c1 => ?_) (fun c1 => ?_)
        · replace hf := if_t c1 hf
          exact jn_L_law_664 kl1 kl2 hx0 hx1 hx2 hx3 hx4 hx5 hx6 hx7 hx8 hx9 hx10 hx11 hx12 hx13 hx14 hx15 hx16 hx17 hx18 hx19 hx20 hx21 hx22 hk hf
        · replace hf := if_f c1 hf
          refine ev_sub [] rfl (lv2 := []) ?_
          obtain ⟨rfl, rfl⟩ := Prod.mk.inj (Option.some.inj hf)
          exact hx12 rfl
      replace hf := if_f sw12 hf
      by_cases sw13 : ((g.2.2.2 l3.toNatClampNeg) &&& (31 : Int32)) = 13
      · replace hf := if_t sw13 hf
        refine ev_tableIn (tgt := 515) dL_law_32 (by rw [sw13]; decide) (by rw [sw13]; decide) (by rw [sw13]; rfl) (by decide) ?_
        refine ev_aload_n (n := 1) dL_law_515 rfl rfl ?_
        obtain ⟨v53, e54, hf⟩ := bn1_of hf
        refine ev_callVi (As := []) cal_X5_spread kl1 rfl (ev_X5_spread kl1 e54) (Nat.le_of_ble_eq_true rfl) rfl lk_503 (by decide) (by decide) (Nat.le_of_ble_eq_true rfl) dL_law_516 rfl ?_
        refine ev_aload_n (n := 2) dL_law_519 rfl rfl ?_
        obtain ⟨v55, e56, hf⟩ := bn1_of hf
        refine ev_callVi (As := []) cal_X6_spread kl2 rfl (ev_X6_spread kl2 e56) (Nat.le_of_ble_eq_true rfl) rfl lk_924 (by decide) (by decide) (Nat.le_of_ble_eq_true rfl) dL_law_520 rfl ?_
        refine ev_icmp_eq (tgt := 664) dL_law_523 (by decide) (fun c1 => ?_) (fun c1 => ?_)
        · replace hf := if_t c1 hf
          exact jn_L_law_664 kl1 kl2 hx0 hx1 hx2 hx3 hx4 hx5 hx6 hx7 hx8 hx9 hx10 hx11 hx12 hx13 hx14 hx15 hx16 hx17 hx18 hx19 hx20 hx21 hx22 hk hf
        · replace hf := if_f c1 hf
          refine ev_sub [] rfl (lv2 := []) ?_
          obtain ⟨rfl, rfl⟩ := Prod.mk.inj (Option.some.inj hf)
          exact hx13 rfl
      replace hf := if_f sw13 hf
      by_cases sw14 : ((g.2.2.2 l3.toNatClampNeg) &&& (31 : Int32)) = 14
      · replace hf := if_t sw14 hf
        refine ev_tableIn (tgt := 528) dL_law_32 (by rw [sw14]; decide) (by rw [sw14]; decide) (by rw [sw14]; rfl) (by decide) ?_
        refine ev_aload_n (n := 1) dL_law_528 rfl rfl ?_
        obtain ⟨v49, e50, hf⟩ := bn1_of hf
        refine ev_callVl (As := []) cal_X5_fairness kl1 rfl (ev_X5_fairness kl1 e50) (Nat.le_of_ble_eq_true rfl) rfl lk_507 (by decide) (by decide) (Nat.le_of_ble_eq_true rfl) dL_law_529 rfl ?_
        refine ev_aload_n (n := 2) dL_law_532 rfl rfl ?_
        obtain ⟨v51, e52, hf⟩ := bn1_of hf
        refine ev_callVl (As := []) cal_X6_fairness kl2 rfl (ev_X6_fairness kl2 e52) (Nat.le_of_ble_eq_true rfl) rfl lk_928 (by decide) (by decide) (Nat.le_of_ble_eq_true rfl) dL_law_533 rfl ?_
        refine ev_lcmp dL_law_536 ?_
        refine ev_if_eq (tgt := 664) dL_law_537 (by decide) (fun c1 => ?_) (fun c1 => ?_)
        · replace hf := if_t c1 hf
          exact jn_L_law_664 kl1 kl2 hx0 hx1 hx2 hx3 hx4 hx5 hx6 hx7 hx8 hx9 hx10 hx11 hx12 hx13 hx14 hx15 hx16 hx17 hx18 hx19 hx20 hx21 hx22 hk hf
        · replace hf := if_f c1 hf
          refine ev_sub [] rfl (lv2 := []) ?_
          obtain ⟨rfl, rfl⟩ := Prod.mk.inj (Option.some.inj hf)
          exact hx14 rfl
      replace hf := if_f sw14 hf
      by_cases sw15 : ((g.2.2.2 l3.toNatClampNeg) &&& (31 : Int32)) = 15
      · replace hf := if_t sw15 hf
        refine ev_tableIn (tgt := 542) dL_law_32 (by rw [sw15]; decide) (by rw [sw15]; decide) (by rw [sw15]; rfl) (by decide) ?_
        refine ev_aload_n (n := 1) dL_law_542 rfl rfl ?_
        refine ev_aload_n (n := 0) dL_law_543 rfl rfl ?_
        refine ev_iload_n (n := 3) dL_law_544 rfl rfl ?_
        refine ev_iconst (v := 1) dL_law_545 (by decide) ?_
        refine ev_iadd dL_law_546 ?_
        obtain ⟨gd41, hf⟩ := gd_of hf
        refine ev_scrld (inb_of gd41) dL_law_547 ?_
        obtain ⟨v42, h43, e44, hf⟩ := bn2_of hf
        refine ev_callVi (As := [.int (g.2.2.2 (l3 + (1 : Int32)).toNatClampNeg)]) cal_X5_count kl1 rfl (ev_X5_count kl1 e44) (Nat.le_of_ble_eq_true rfl) rfl lk_517 (by decide) (by decide) (Nat.le_of_ble_eq_true rfl) dL_law_548 rfl ?_
        refine ev_aload_n (n := 2) dL_law_551 rfl rfl ?_
        refine ev_aload_n (n := 0) dL_law_552 rfl rfl ?_
        refine ev_iload_n (n := 3) dL_law_553 rfl rfl ?_
        refine ev_iconst (v := 1) dL_law_554 (by decide) ?_
        refine ev_iadd dL_law_555 ?_
        obtain ⟨gd45, hf⟩ := gd_of hf
        refine ev_scrld (inb_of gd45) dL_law_556 ?_
        obtain ⟨v46, h47, e48, hf⟩ := bn2_of hf
        refine ev_callVi (As := [.int (g.2.2.2 (l3 + (1 : Int32)).toNatClampNeg)]) cal_X6_count kl2 rfl (ev_X6_count kl2 e48) (Nat.le_of_ble_eq_true rfl) rfl lk_942 (by decide) (by decide) (Nat.le_of_ble_eq_true rfl) dL_law_557 rfl ?_
        refine ev_icmp_eq (tgt := 664) dL_law_560 (by decide) (fun c1 => ?_) (fun c1 => ?_)
        · replace hf := if_t c1 hf
          exact jn_L_law_664 kl1 kl2 hx0 hx1 hx2 hx3 hx4 hx5 hx6 hx7 hx8 hx9 hx10 hx11 hx12 hx13 hx14 hx15 hx16 hx17 hx18 hx19 hx20 hx21 hx22 hk hf
        · replace hf := if_f c1 hf
          refine ev_sub [] rfl (lv2 := []) ?_
          obtain ⟨rfl, rfl⟩ := Prod.mk.inj (Option.some.inj hf)
          exact hx15 rfl
      replace hf := if_f sw15 hf
      by_cases sw16 : ((g.2.2.2 l3.toNatClampNeg) &&& (31 : Int32)) = 16
      · replace hf := if_t sw16 hf
        refine ev_tableIn (tgt := 565) dL_law_32 (by rw [sw16]; decide) (by rw [sw16]; decide) (by rw [sw16]; rfl) (by decide) ?_
        refine ev_aload_n (n := 1) dL_law_565 rfl rfl ?_
        refine ev_aload_n (n := 0) dL_law_566 rfl rfl ?_
        refine ev_iload_n (n := 3) dL_law_567 rfl rfl ?_
        refine ev_iconst (v := 1) dL_law_568 (by decide) ?_
        refine ev_iadd dL_law_569 ?_
        obtain ⟨gd33, hf⟩ := gd_of hf
        refine ev_scrld (inb_of gd33) dL_law_570 ?_
        obtain ⟨v34, h35, e36, hf⟩ := bn2_of hf
        refine ev_callVi (As := [.int (g.2.2.2 (l3 + (1 : Int32)).toNatClampNeg)]) cal_X5_type kl1 rfl (ev_X5_type kl1 e36) (Nat.le_of_ble_eq_true rfl) rfl lk_534 (by decide) (by decide) (Nat.le_of_ble_eq_true rfl) dL_law_571 rfl ?_
        refine ev_aload_n (n := 2) dL_law_574 rfl rfl ?_
        refine ev_aload_n (n := 0) dL_law_575 rfl rfl ?_
        refine ev_iload_n (n := 3) dL_law_576 rfl rfl ?_
        refine ev_iconst (v := 1) dL_law_577 (by decide) ?_
        refine ev_iadd dL_law_578 ?_
        obtain ⟨gd37, hf⟩ := gd_of hf
        refine ev_scrld (inb_of gd37) dL_law_579 ?_
        obtain ⟨v38, h39, e40, hf⟩ := bn2_of hf
        refine ev_callVi (As := [.int (g.2.2.2 (l3 + (1 : Int32)).toNatClampNeg)]) cal_X6_type kl2 rfl (ev_X6_type kl2 e40) (Nat.le_of_ble_eq_true rfl) rfl lk_954 (by decide) (by decide) (Nat.le_of_ble_eq_true rfl) dL_law_580 rfl ?_
        refine ev_icmp_eq (tgt := 664) dL_law_583 (by decide) (fun c1 => ?_) (fun c1 => ?_)
        · replace hf := if_t c1 hf
          exact jn_L_law_664 kl1 kl2 hx0 hx1 hx2 hx3 hx4 hx5 hx6 hx7 hx8 hx9 hx10 hx11 hx12 hx13 hx14 hx15 hx16 hx17 hx18 hx19 hx20 hx21 hx22 hk hf
        · replace hf := if_f c1 hf
          refine ev_sub [] rfl (lv2 := []) ?_
          obtain ⟨rfl, rfl⟩ := Prod.mk.inj (Option.some.inj hf)
          exact hx16 rfl
      replace hf := if_f sw16 hf
      by_cases sw17 : ((g.2.2.2 l3.toNatClampNeg) &&& (31 : Int32)) = 17
      · replace hf := if_t sw17 hf
        refine ev_tableIn (tgt := 588) dL_law_32 (by rw [sw17]; decide) (by rw [sw17]; decide) (by rw [sw17]; rfl) (by decide) ?_
        refine ev_aload_n (n := 1) dL_law_588 rfl rfl ?_
        obtain ⟨v27, h28, e29, hf⟩ := bn2_of hf
        refine ev_callVi (As := []) cal_X5_clear kl1 rfl (ev_X5_clear kl1 e29) (Nat.le_of_ble_eq_true rfl) rfl lk_542 (by decide) (by decide) (Nat.le_of_ble_eq_true rfl) dL_law_589 rfl ?_
        refine ev_aload_n (n := 2) dL_law_592 rfl rfl ?_
        obtain ⟨v30, h31, e32, hf⟩ := bn2_of hf
        refine ev_callVi (As := []) cal_X6_clear kl2 rfl (ev_X6_clear kl2 e32) (Nat.le_of_ble_eq_true rfl) rfl lk_958 (by decide) (by decide) (Nat.le_of_ble_eq_true rfl) dL_law_593 rfl ?_
        refine ev_icmp_eq (tgt := 664) dL_law_596 (by decide) (fun c1 => ?_) (fun c1 => ?_)
        · replace hf := if_t c1 hf
          exact jn_L_law_664 kl1 kl2 hx0 hx1 hx2 hx3 hx4 hx5 hx6 hx7 hx8 hx9 hx10 hx11 hx12 hx13 hx14 hx15 hx16 hx17 hx18 hx19 hx20 hx21 hx22 hk hf
        · replace hf := if_f c1 hf
          refine ev_sub [] rfl (lv2 := []) ?_
          obtain ⟨rfl, rfl⟩ := Prod.mk.inj (Option.some.inj hf)
          exact hx17 rfl
      replace hf := if_f sw17 hf
      by_cases sw18 : ((g.2.2.2 l3.toNatClampNeg) &&& (31 : Int32)) = 18
      · replace hf := if_t sw18 hf
        refine ev_tableIn (tgt := 601) dL_law_32 (by rw [sw18]; decide) (by rw [sw18]; decide) (by rw [sw18]; rfl) (by decide) ?_
        refine ev_aload_n (n := 1) dL_law_601 rfl rfl ?_
        obtain ⟨v21, h22, e23, hf⟩ := bn2_of hf
        refine ev_callVi (As := []) cal_X5_does kl1 rfl (ev_X5_does kl1 e23) (Nat.le_of_ble_eq_true rfl) rfl lk_546 (by decide) (by decide) (Nat.le_of_ble_eq_true rfl) dL_law_602 rfl ?_
        refine ev_aload_n (n := 2) dL_law_605 rfl rfl ?_
        obtain ⟨v24, h25, e26, hf⟩ := bn2_of hf
        refine ev_callVi (As := []) cal_X6_does kl2 rfl (ev_X6_does kl2 e26) (Nat.le_of_ble_eq_true rfl) rfl lk_962 (by decide) (by decide) (Nat.le_of_ble_eq_true rfl) dL_law_606 rfl ?_
        refine ev_icmp_eq (tgt := 664) dL_law_609 (by decide) (fun c1 => ?_) (fun c1 => ?_)
        · replace hf := if_t c1 hf
          exact jn_L_law_664 kl1 kl2 hx0 hx1 hx2 hx3 hx4 hx5 hx6 hx7 hx8 hx9 hx10 hx11 hx12 hx13 hx14 hx15 hx16 hx17 hx18 hx19 hx20 hx21 hx22 hk hf
        · replace hf := if_f c1 hf
          refine ev_sub [] rfl (lv2 := []) ?_
          obtain ⟨rfl, rfl⟩ := Prod.mk.inj (Option.some.inj hf)
          exact hx18 rfl
      replace hf := if_f sw18 hf
      by_cases sw19 : ((g.2.2.2 l3.toNatClampNeg) &&& (31 : Int32)) = 19
      · replace hf := if_t sw19 hf
        refine ev_tableIn (tgt := 614) dL_law_32 (by rw [sw19]; decide) (by rw [sw19]; decide) (by rw [sw19]; rfl) (by decide) ?_
        refine ev_aload_n (n := 1) dL_law_614 rfl rfl ?_
        obtain ⟨v15, h16, e17, hf⟩ := bn2_of hf
        refine ev_callVi (As := []) cal_X5_back kl1 rfl (ev_X5_back kl1 e17) (Nat.le_of_ble_eq_true rfl) rfl lk_570 (by decide) (by decide) (Nat.le_of_ble_eq_true rfl) dL_law_615 rfl ?_
        refine ev_aload_n (n := 2) dL_law_618 rfl rfl ?_
        obtain ⟨v18, h19, e20, hf⟩ := bn2_of hf
        refine ev_callVi (As := []) cal_X6_back kl2 rfl (ev_X6_back kl2 e20) (Nat.le_of_ble_eq_true rfl) rfl lk_657 (by decide) (by decide) (Nat.le_of_ble_eq_true rfl) dL_law_619 rfl ?_
        refine ev_icmp_eq (tgt := 664) dL_law_622 (by decide) (fun c1 => ?_) (fun c1 => ?_)
        · replace hf := if_t c1 hf
          exact jn_L_law_664 kl1 kl2 hx0 hx1 hx2 hx3 hx4 hx5 hx6 hx7 hx8 hx9 hx10 hx11 hx12 hx13 hx14 hx15 hx16 hx17 hx18 hx19 hx20 hx21 hx22 hk hf
        · replace hf := if_f c1 hf
          refine ev_sub [] rfl (lv2 := []) ?_
          obtain ⟨rfl, rfl⟩ := Prod.mk.inj (Option.some.inj hf)
          exact hx19 rfl
      replace hf := if_f sw19 hf
      by_cases sw20 : ((g.2.2.2 l3.toNatClampNeg) &&& (31 : Int32)) = 20
      · replace hf := if_t sw20 hf
        refine ev_tableIn (tgt := 627) dL_law_32 (by rw [sw20]; decide) (by rw [sw20]; decide) (by rw [sw20]; rfl) (by decide) ?_
        refine ev_aload_n (n := 1) dL_law_627 rfl rfl ?_
        refine ev_aload_n (n := 0) dL_law_628 rfl rfl ?_
        refine ev_iload_n (n := 3) dL_law_629 rfl rfl ?_
        refine ev_iconst (v := 1) dL_law_630 (by decide) ?_
        refine ev_iadd dL_law_631 ?_
        obtain ⟨gd7, hf⟩ := gd_of hf
        refine ev_scrld (inb_of gd7) dL_law_632 ?_
        obtain ⟨v8, h9, e10, hf⟩ := bn2_of hf
        refine ev_callVi (As := [.int (g.2.2.2 (l3 + (1 : Int32)).toNatClampNeg)]) cal_X5_told kl1 rfl (ev_X5_told kl1 e10) (Nat.le_of_ble_eq_true rfl) rfl lk_574 (by decide) (by decide) (Nat.le_of_ble_eq_true rfl) dL_law_633 rfl ?_
        refine ev_aload_n (n := 2) dL_law_636 rfl rfl ?_
        refine ev_aload_n (n := 0) dL_law_637 rfl rfl ?_
        refine ev_iload_n (n := 3) dL_law_638 rfl rfl ?_
        refine ev_iconst (v := 1) dL_law_639 (by decide) ?_
        refine ev_iadd dL_law_640 ?_
        obtain ⟨gd11, hf⟩ := gd_of hf
        refine ev_scrld (inb_of gd11) dL_law_641 ?_
        obtain ⟨v12, h13, e14, hf⟩ := bn2_of hf
        refine ev_callVi (As := [.int (g.2.2.2 (l3 + (1 : Int32)).toNatClampNeg)]) cal_X6_told kl2 rfl (ev_X6_told kl2 e14) (Nat.le_of_ble_eq_true rfl) rfl lk_986 (by decide) (by decide) (Nat.le_of_ble_eq_true rfl) dL_law_642 rfl ?_
        refine ev_icmp_eq (tgt := 664) dL_law_645 (by decide) (fun c1 => ?_) (fun c1 => ?_)
        · replace hf := if_t c1 hf
          exact jn_L_law_664 kl1 kl2 hx0 hx1 hx2 hx3 hx4 hx5 hx6 hx7 hx8 hx9 hx10 hx11 hx12 hx13 hx14 hx15 hx16 hx17 hx18 hx19 hx20 hx21 hx22 hk hf
        · replace hf := if_f c1 hf
          refine ev_sub [] rfl (lv2 := []) ?_
          obtain ⟨rfl, rfl⟩ := Prod.mk.inj (Option.some.inj hf)
          exact hx20 rfl
      replace hf := if_f sw20 hf
      by_cases sw21 : ((g.2.2.2 l3.toNatClampNeg) &&& (31 : Int32)) = 21
      · replace hf := if_t sw21 hf
        refine ev_tableIn (tgt := 650) dL_law_32 (by rw [sw21]; decide) (by rw [sw21]; decide) (by rw [sw21]; rfl) (by decide) ?_
        refine ev_aload_n (n := 1) dL_law_650 rfl rfl ?_
        obtain ⟨v2, h3, e4, hf⟩ := bn2_of hf
        refine ev_callVl (As := []) cal_X5_digest kl1 rfl (ev_X5_digest kl1 e4) (Nat.le_of_ble_eq_true rfl) rfl lk_578 (by decide) (by decide) (Nat.le_of_ble_eq_true rfl) dL_law_651 rfl ?_
        refine ev_aload_n (n := 2) dL_law_654 rfl rfl ?_
        obtain ⟨v5, e6, hf⟩ := bn1_of hf
        refine ev_callVl (As := []) cal_X6_digest kl2 rfl (ev_X6_digest kl2 e6) (Nat.le_of_ble_eq_true rfl) rfl lk_994 (by decide) (by decide) (Nat.le_of_ble_eq_true rfl) dL_law_655 rfl ?_
        refine ev_lcmp dL_law_658 ?_
        refine ev_if_eq (tgt := 664) dL_law_659 (by decide) (fun c1 => ?_) (fun c1 => ?_)
        · replace hf := if_t c1 hf
          exact jn_L_law_664 kl1 kl2 hx0 hx1 hx2 hx3 hx4 hx5 hx6 hx7 hx8 hx9 hx10 hx11 hx12 hx13 hx14 hx15 hx16 hx17 hx18 hx19 hx20 hx21 hx22 hk hf
        · replace hf := if_f c1 hf
          refine ev_sub [] rfl (lv2 := []) ?_
          obtain ⟨rfl, rfl⟩ := Prod.mk.inj (Option.some.inj hf)
          exact hx21 rfl
      replace hf := if_f sw21 hf
      · refine ev_tableOut (tgt := 664) dL_law_32 (tsw21 sw0 sw1 sw2 sw3 sw4 sw5 sw6 sw7 sw8 sw9 sw10 sw11 sw12 sw13 sw14 sw15 sw16 sw17 sw18 sw19 sw20 sw21) (by decide) ?_
        exact jn_L_law_664 kl1 kl2 hx0 hx1 hx2 hx3 hx4 hx5 hx6 hx7 hx8 hx9 hx10 hx11 hx12 hx13 hx14 hx15 hx16 hx17 hx18 hx19 hx20 hx21 hx22 hk hf
def f_L_law (sL : Nat) (xs : Nat → Int32) (h : Hp) (l1 l2 : Nat) (l3 : Int32) : Option (Int32 × Hp) := (bn2 (f_L_law_l18 sL xs l1 l2 fu l3 h) (fun tg18 h175 => (if tg18 = 0 then (some ((0 : Int32), h175)) else (if tg18 = 1 then (some ((0 : Int32), h175)) else (if tg18 = 2 then (some ((0 : Int32), h175)) else (if tg18 = 3 then (some ((0 : Int32), h175)) else (if tg18 = 4 then (some ((0 : Int32), h175)) else (if tg18 = 5 then (some ((0 : Int32), h175)) else (if tg18 = 6 then (some ((0 : Int32), h175)) else (if tg18 = 7 then (some ((0 : Int32), h175)) else (if tg18 = 8 then (some ((0 : Int32), h175)) else (if tg18 = 9 then (some ((0 : Int32), h175)) else (if tg18 = 10 then (some ((0 : Int32), h175)) else (if tg18 = 11 then (some ((0 : Int32), h175)) else (if tg18 = 12 then (some ((0 : Int32), h175)) else (if tg18 = 13 then (some ((0 : Int32), h175)) else (if tg18 = 14 then (some ((0 : Int32), h175)) else (if tg18 = 15 then (some ((0 : Int32), h175)) else (if tg18 = 16 then (some ((0 : Int32), h175)) else (if tg18 = 17 then (some ((0 : Int32), h175)) else (if tg18 = 18 then (some ((0 : Int32), h175)) else (if tg18 = 19 then (some ((0 : Int32), h175)) else (if tg18 = 20 then (some ((0 : Int32), h175)) else (if tg18 = 21 then (some ((0 : Int32), h175)) else (some ((1 : Int32), h175))))))))))))))))))))))))))
set_option maxRecDepth 100000 in
set_option maxHeartbeats 4000000 in
theorem ev_L_law {g : Gl} {h : Hp} {l1 l2 : Nat} {l3 : Int32} {rv : Int32} {h2 : Hp} (kl1 : KD g.1 l1 4 0) (kl2 : KD g.1 l2 5 0) (hf : f_L_law g.2.2.1 g.2.2.2 h l1 l2 l3 = some (rv, h2)) : Ev yL_law cL_law 4 (some .boolean) 12 271 g 18 [] [(0, .ref (g.2.1 3)), (1, .ref l1), (2, .ref l2), (3, .int l3)] h (some (.int rv)) h2 := by
  unfold f_L_law at hf
  obtain ⟨tg18, h175, e176, hf⟩ := bn2_of hf
  refine lp_L_law_18 kl1 kl2 (fun ht => ?_) (fun ht => ?_) (fun ht => ?_) (fun ht => ?_) (fun ht => ?_) (fun ht => ?_) (fun ht => ?_) (fun ht => ?_) (fun ht => ?_) (fun ht => ?_) (fun ht => ?_) (fun ht => ?_) (fun ht => ?_) (fun ht => ?_) (fun ht => ?_) (fun ht => ?_) (fun ht => ?_) (fun ht => ?_) (fun ht => ?_) (fun ht => ?_) (fun ht => ?_) (fun ht => ?_) (fun ht => ?_) fu _ _ e176
  · subst ht
    replace hf : _ = _ := hf
    replace hf := if_t rfl hf
    refine ev_iconst (v := 0) dL_law_167 (by decide) ?_
    obtain ⟨rfl, rfl⟩ := Prod.mk.inj (Option.some.inj hf)
    exact ev_ireturn dL_law_168 ⟨.boolean, rfl, rfl⟩
  · subst ht
    replace hf : _ = _ := hf
    replace hf := if_f (by decide) hf
    replace hf := if_t rfl hf
    refine ev_iconst (v := 0) dL_law_200 (by decide) ?_
    obtain ⟨rfl, rfl⟩ := Prod.mk.inj (Option.some.inj hf)
    exact ev_ireturn dL_law_201 ⟨.boolean, rfl, rfl⟩
  · subst ht
    replace hf : _ = _ := hf
    replace hf := if_f (by decide) hf
    replace hf := if_f (by decide) hf
    replace hf := if_t rfl hf
    refine ev_iconst (v := 0) dL_law_233 (by decide) ?_
    obtain ⟨rfl, rfl⟩ := Prod.mk.inj (Option.some.inj hf)
    exact ev_ireturn dL_law_234 ⟨.boolean, rfl, rfl⟩
  · subst ht
    replace hf : _ = _ := hf
    replace hf := if_f (by decide) hf
    replace hf := if_f (by decide) hf
    replace hf := if_f (by decide) hf
    replace hf := if_t rfl hf
    refine ev_iconst (v := 0) dL_law_266 (by decide) ?_
    obtain ⟨rfl, rfl⟩ := Prod.mk.inj (Option.some.inj hf)
    exact ev_ireturn dL_law_267 ⟨.boolean, rfl, rfl⟩
  · subst ht
    replace hf : _ = _ := hf
    replace hf := if_f (by decide) hf
    replace hf := if_f (by decide) hf
    replace hf := if_f (by decide) hf
    replace hf := if_f (by decide) hf
    replace hf := if_t rfl hf
    refine ev_iconst (v := 0) dL_law_289 (by decide) ?_
    obtain ⟨rfl, rfl⟩ := Prod.mk.inj (Option.some.inj hf)
    exact ev_ireturn dL_law_290 ⟨.boolean, rfl, rfl⟩
  · subst ht
    replace hf : _ = _ := hf
    replace hf := if_f (by decide) hf
    replace hf := if_f (by decide) hf
    replace hf := if_f (by decide) hf
    replace hf := if_f (by decide) hf
    replace hf := if_f (by decide) hf
    replace hf := if_t rfl hf
    refine ev_iconst (v := 0) dL_law_312 (by decide) ?_
    obtain ⟨rfl, rfl⟩ := Prod.mk.inj (Option.some.inj hf)
    exact ev_ireturn dL_law_313 ⟨.boolean, rfl, rfl⟩
  · subst ht
    replace hf : _ = _ := hf
    replace hf := if_f (by decide) hf
    replace hf := if_f (by decide) hf
    replace hf := if_f (by decide) hf
    replace hf := if_f (by decide) hf
    replace hf := if_f (by decide) hf
    replace hf := if_f (by decide) hf
    replace hf := if_t rfl hf
    refine ev_iconst (v := 0) dL_law_345 (by decide) ?_
    obtain ⟨rfl, rfl⟩ := Prod.mk.inj (Option.some.inj hf)
    exact ev_ireturn dL_law_346 ⟨.boolean, rfl, rfl⟩
  · subst ht
    replace hf : _ = _ := hf
    replace hf := if_f (by decide) hf
    replace hf := if_f (by decide) hf
    replace hf := if_f (by decide) hf
    replace hf := if_f (by decide) hf
    replace hf := if_f (by decide) hf
    replace hf := if_f (by decide) hf
    replace hf := if_f (by decide) hf
    replace hf := if_t rfl hf
    refine ev_iconst (v := 0) dL_law_388 (by decide) ?_
    obtain ⟨rfl, rfl⟩ := Prod.mk.inj (Option.some.inj hf)
    exact ev_ireturn dL_law_389 ⟨.boolean, rfl, rfl⟩
  · subst ht
    replace hf : _ = _ := hf
    replace hf := if_f (by decide) hf
    replace hf := if_f (by decide) hf
    replace hf := if_f (by decide) hf
    replace hf := if_f (by decide) hf
    replace hf := if_f (by decide) hf
    replace hf := if_f (by decide) hf
    replace hf := if_f (by decide) hf
    replace hf := if_f (by decide) hf
    replace hf := if_t rfl hf
    refine ev_iconst (v := 0) dL_law_421 (by decide) ?_
    obtain ⟨rfl, rfl⟩ := Prod.mk.inj (Option.some.inj hf)
    exact ev_ireturn dL_law_422 ⟨.boolean, rfl, rfl⟩
  · subst ht
    replace hf : _ = _ := hf
    replace hf := if_f (by decide) hf
    replace hf := if_f (by decide) hf
    replace hf := if_f (by decide) hf
    replace hf := if_f (by decide) hf
    replace hf := if_f (by decide) hf
    replace hf := if_f (by decide) hf
    replace hf := if_f (by decide) hf
    replace hf := if_f (by decide) hf
    replace hf := if_f (by decide) hf
    replace hf := if_t rfl hf
    refine ev_iconst (v := 0) dL_law_454 (by decide) ?_
    obtain ⟨rfl, rfl⟩ := Prod.mk.inj (Option.some.inj hf)
    exact ev_ireturn dL_law_455 ⟨.boolean, rfl, rfl⟩
  · subst ht
    replace hf : _ = _ := hf
    replace hf := if_f (by decide) hf
    replace hf := if_f (by decide) hf
    replace hf := if_f (by decide) hf
    replace hf := if_f (by decide) hf
    replace hf := if_f (by decide) hf
    replace hf := if_f (by decide) hf
    replace hf := if_f (by decide) hf
    replace hf := if_f (by decide) hf
    replace hf := if_f (by decide) hf
    replace hf := if_f (by decide) hf
    replace hf := if_t rfl hf
    refine ev_iconst (v := 0) dL_law_477 (by decide) ?_
    obtain ⟨rfl, rfl⟩ := Prod.mk.inj (Option.some.inj hf)
    exact ev_ireturn dL_law_478 ⟨.boolean, rfl, rfl⟩
  · subst ht
    replace hf : _ = _ := hf
    replace hf := if_f (by decide) hf
    replace hf := if_f (by decide) hf
    replace hf := if_f (by decide) hf
    replace hf := if_f (by decide) hf
    replace hf := if_f (by decide) hf
    replace hf := if_f (by decide) hf
    replace hf := if_f (by decide) hf
    replace hf := if_f (by decide) hf
    replace hf := if_f (by decide) hf
    replace hf := if_f (by decide) hf
    replace hf := if_f (by decide) hf
    replace hf := if_t rfl hf
    refine ev_iconst (v := 0) dL_law_490 (by decide) ?_
    obtain ⟨rfl, rfl⟩ := Prod.mk.inj (Option.some.inj hf)
    exact ev_ireturn dL_law_491 ⟨.boolean, rfl, rfl⟩
  · subst ht
    replace hf : _ = _ := hf
    replace hf := if_f (by decide) hf
    replace hf := if_f (by decide) hf
    replace hf := if_f (by decide) hf
    replace hf := if_f (by decide) hf
    replace hf := if_f (by decide) hf
    replace hf := if_f (by decide) hf
    replace hf := if_f (by decide) hf
    replace hf := if_f (by decide) hf
    replace hf := if_f (by decide) hf
    replace hf := if_f (by decide) hf
    replace hf := if_f (by decide) hf
    replace hf := if_f (by decide) hf
    replace hf := if_t rfl hf
    refine ev_iconst (v := 0) dL_law_513 (by decide) ?_
    obtain ⟨rfl, rfl⟩ := Prod.mk.inj (Option.some.inj hf)
    exact ev_ireturn dL_law_514 ⟨.boolean, rfl, rfl⟩
  · subst ht
    replace hf : _ = _ := hf
    replace hf := if_f (by decide) hf
    replace hf := if_f (by decide) hf
    replace hf := if_f (by decide) hf
    replace hf := if_f (by decide) hf
    replace hf := if_f (by decide) hf
    replace hf := if_f (by decide) hf
    replace hf := if_f (by decide) hf
    replace hf := if_f (by decide) hf
    replace hf := if_f (by decide) hf
    replace hf := if_f (by decide) hf
    replace hf := if_f (by decide) hf
    replace hf := if_f (by decide) hf
    replace hf := if_f (by decide) hf
    replace hf := if_t rfl hf
    refine ev_iconst (v := 0) dL_law_526 (by decide) ?_
    obtain ⟨rfl, rfl⟩ := Prod.mk.inj (Option.some.inj hf)
    exact ev_ireturn dL_law_527 ⟨.boolean, rfl, rfl⟩
  · subst ht
    replace hf : _ = _ := hf
    replace hf := if_f (by decide) hf
    replace hf := if_f (by decide) hf
    replace hf := if_f (by decide) hf
    replace hf := if_f (by decide) hf
    replace hf := if_f (by decide) hf
    replace hf := if_f (by decide) hf
    replace hf := if_f (by decide) hf
    replace hf := if_f (by decide) hf
    replace hf := if_f (by decide) hf
    replace hf := if_f (by decide) hf
    replace hf := if_f (by decide) hf
    replace hf := if_f (by decide) hf
    replace hf := if_f (by decide) hf
    replace hf := if_f (by decide) hf
    replace hf := if_t rfl hf
    refine ev_iconst (v := 0) dL_law_540 (by decide) ?_
    obtain ⟨rfl, rfl⟩ := Prod.mk.inj (Option.some.inj hf)
    exact ev_ireturn dL_law_541 ⟨.boolean, rfl, rfl⟩
  · subst ht
    replace hf : _ = _ := hf
    replace hf := if_f (by decide) hf
    replace hf := if_f (by decide) hf
    replace hf := if_f (by decide) hf
    replace hf := if_f (by decide) hf
    replace hf := if_f (by decide) hf
    replace hf := if_f (by decide) hf
    replace hf := if_f (by decide) hf
    replace hf := if_f (by decide) hf
    replace hf := if_f (by decide) hf
    replace hf := if_f (by decide) hf
    replace hf := if_f (by decide) hf
    replace hf := if_f (by decide) hf
    replace hf := if_f (by decide) hf
    replace hf := if_f (by decide) hf
    replace hf := if_f (by decide) hf
    replace hf := if_t rfl hf
    refine ev_iconst (v := 0) dL_law_563 (by decide) ?_
    obtain ⟨rfl, rfl⟩ := Prod.mk.inj (Option.some.inj hf)
    exact ev_ireturn dL_law_564 ⟨.boolean, rfl, rfl⟩
  · subst ht
    replace hf : _ = _ := hf
    replace hf := if_f (by decide) hf
    replace hf := if_f (by decide) hf
    replace hf := if_f (by decide) hf
    replace hf := if_f (by decide) hf
    replace hf := if_f (by decide) hf
    replace hf := if_f (by decide) hf
    replace hf := if_f (by decide) hf
    replace hf := if_f (by decide) hf
    replace hf := if_f (by decide) hf
    replace hf := if_f (by decide) hf
    replace hf := if_f (by decide) hf
    replace hf := if_f (by decide) hf
    replace hf := if_f (by decide) hf
    replace hf := if_f (by decide) hf
    replace hf := if_f (by decide) hf
    replace hf := if_f (by decide) hf
    replace hf := if_t rfl hf
    refine ev_iconst (v := 0) dL_law_586 (by decide) ?_
    obtain ⟨rfl, rfl⟩ := Prod.mk.inj (Option.some.inj hf)
    exact ev_ireturn dL_law_587 ⟨.boolean, rfl, rfl⟩
  · subst ht
    replace hf : _ = _ := hf
    replace hf := if_f (by decide) hf
    replace hf := if_f (by decide) hf
    replace hf := if_f (by decide) hf
    replace hf := if_f (by decide) hf
    replace hf := if_f (by decide) hf
    replace hf := if_f (by decide) hf
    replace hf := if_f (by decide) hf
    replace hf := if_f (by decide) hf
    replace hf := if_f (by decide) hf
    replace hf := if_f (by decide) hf
    replace hf := if_f (by decide) hf
    replace hf := if_f (by decide) hf
    replace hf := if_f (by decide) hf
    replace hf := if_f (by decide) hf
    replace hf := if_f (by decide) hf
    replace hf := if_f (by decide) hf
    replace hf := if_f (by decide) hf
    replace hf := if_t rfl hf
    refine ev_iconst (v := 0) dL_law_599 (by decide) ?_
    obtain ⟨rfl, rfl⟩ := Prod.mk.inj (Option.some.inj hf)
    exact ev_ireturn dL_law_600 ⟨.boolean, rfl, rfl⟩
  · subst ht
    replace hf : _ = _ := hf
    replace hf := if_f (by decide) hf
    replace hf := if_f (by decide) hf
    replace hf := if_f (by decide) hf
    replace hf := if_f (by decide) hf
    replace hf := if_f (by decide) hf
    replace hf := if_f (by decide) hf
    replace hf := if_f (by decide) hf
    replace hf := if_f (by decide) hf
    replace hf := if_f (by decide) hf
    replace hf := if_f (by decide) hf
    replace hf := if_f (by decide) hf
    replace hf := if_f (by decide) hf
    replace hf := if_f (by decide) hf
    replace hf := if_f (by decide) hf
    replace hf := if_f (by decide) hf
    replace hf := if_f (by decide) hf
    replace hf := if_f (by decide) hf
    replace hf := if_f (by decide) hf
    replace hf := if_t rfl hf
    refine ev_iconst (v := 0) dL_law_612 (by decide) ?_
    obtain ⟨rfl, rfl⟩ := Prod.mk.inj (Option.some.inj hf)
    exact ev_ireturn dL_law_613 ⟨.boolean, rfl, rfl⟩
  · subst ht
    replace hf : _ = _ := hf
    replace hf := if_f (by decide) hf
    replace hf := if_f (by decide) hf
    replace hf := if_f (by decide) hf
    replace hf := if_f (by decide) hf
    replace hf := if_f (by decide) hf
    replace hf := if_f (by decide) hf
    replace hf := if_f (by decide) hf
    replace hf := if_f (by decide) hf
    replace hf := if_f (by decide) hf
    replace hf := if_f (by decide) hf
    replace hf := if_f (by decide) hf
    replace hf := if_f (by decide) hf
    replace hf := if_f (by decide) hf
    replace hf := if_f (by decide) hf
    replace hf := if_f (by decide) hf
    replace hf := if_f (by decide) hf
    replace hf := if_f (by decide) hf
    replace hf := if_f (by decide) hf
    replace hf := if_f (by decide) hf
    replace hf := if_t rfl hf
    refine ev_iconst (v := 0) dL_law_625 (by decide) ?_
    obtain ⟨rfl, rfl⟩ := Prod.mk.inj (Option.some.inj hf)
    exact ev_ireturn dL_law_626 ⟨.boolean, rfl, rfl⟩
  · subst ht
    replace hf : _ = _ := hf
    replace hf := if_f (by decide) hf
    replace hf := if_f (by decide) hf
    replace hf := if_f (by decide) hf
    replace hf := if_f (by decide) hf
    replace hf := if_f (by decide) hf
    replace hf := if_f (by decide) hf
    replace hf := if_f (by decide) hf
    replace hf := if_f (by decide) hf
    replace hf := if_f (by decide) hf
    replace hf := if_f (by decide) hf
    replace hf := if_f (by decide) hf
    replace hf := if_f (by decide) hf
    replace hf := if_f (by decide) hf
    replace hf := if_f (by decide) hf
    replace hf := if_f (by decide) hf
    replace hf := if_f (by decide) hf
    replace hf := if_f (by decide) hf
    replace hf := if_f (by decide) hf
    replace hf := if_f (by decide) hf
    replace hf := if_f (by decide) hf
    replace hf := if_t rfl hf
    refine ev_iconst (v := 0) dL_law_648 (by decide) ?_
    obtain ⟨rfl, rfl⟩ := Prod.mk.inj (Option.some.inj hf)
    exact ev_ireturn dL_law_649 ⟨.boolean, rfl, rfl⟩
  · subst ht
    replace hf : _ = _ := hf
    replace hf := if_f (by decide) hf
    replace hf := if_f (by decide) hf
    replace hf := if_f (by decide) hf
    replace hf := if_f (by decide) hf
    replace hf := if_f (by decide) hf
    replace hf := if_f (by decide) hf
    replace hf := if_f (by decide) hf
    replace hf := if_f (by decide) hf
    replace hf := if_f (by decide) hf
    replace hf := if_f (by decide) hf
    replace hf := if_f (by decide) hf
    replace hf := if_f (by decide) hf
    replace hf := if_f (by decide) hf
    replace hf := if_f (by decide) hf
    replace hf := if_f (by decide) hf
    replace hf := if_f (by decide) hf
    replace hf := if_f (by decide) hf
    replace hf := if_f (by decide) hf
    replace hf := if_f (by decide) hf
    replace hf := if_f (by decide) hf
    replace hf := if_f (by decide) hf
    replace hf := if_t rfl hf
    refine ev_iconst (v := 0) dL_law_662 (by decide) ?_
    obtain ⟨rfl, rfl⟩ := Prod.mk.inj (Option.some.inj hf)
    exact ev_ireturn dL_law_663 ⟨.boolean, rfl, rfl⟩
  · subst ht
    replace hf : _ = _ := hf
    replace hf := if_f (by decide) hf
    replace hf := if_f (by decide) hf
    replace hf := if_f (by decide) hf
    replace hf := if_f (by decide) hf
    replace hf := if_f (by decide) hf
    replace hf := if_f (by decide) hf
    replace hf := if_f (by decide) hf
    replace hf := if_f (by decide) hf
    replace hf := if_f (by decide) hf
    replace hf := if_f (by decide) hf
    replace hf := if_f (by decide) hf
    replace hf := if_f (by decide) hf
    replace hf := if_f (by decide) hf
    replace hf := if_f (by decide) hf
    replace hf := if_f (by decide) hf
    replace hf := if_f (by decide) hf
    replace hf := if_f (by decide) hf
    replace hf := if_f (by decide) hf
    replace hf := if_f (by decide) hf
    replace hf := if_f (by decide) hf
    replace hf := if_f (by decide) hf
    replace hf := if_f (by decide) hf
    refine ev_iconst (v := 1) dL_law_670 (by decide) ?_
    obtain ⟨rfl, rfl⟩ := Prod.mk.inj (Option.some.inj hf)
    exact ev_ireturn dL_law_671 ⟨.boolean, rfl, rfl⟩
