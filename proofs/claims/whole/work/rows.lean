section
-- ===== PART A: goes FIRST, ahead of the names: the tables' words, and 'selects' of the private methods out of them =====
/-- a private method of a class that the tables say can be made, by its rows of tables_1 -/
def lw_okq (q : MethodName × Nat) : Prop := (q.1.cls ≠ "java/lang/invoke/MethodHandle" ∧ q.1.cls ≠ "java/lang/invoke/VarHandle") ∧ Cond.instantiable q.1.cls q.2 ∈ tables_1 ∧ Cond.privateMethod q.1 ∈ tables_1 ∧ Cond.instanceMethod q.1 ∈ tables_1
theorem lw_p0 : lw_okq (⟨"PieceSwarm", "refuse", "(I)I"⟩, 9) := ⟨⟨by decide +kernel, by decide +kernel⟩, List.mem_of_getElem? (i := 13) (by decide +kernel), List.mem_of_getElem? (i := 249) (by decide +kernel), List.mem_of_getElem? (i := 250) (by decide +kernel)⟩
theorem lw_p1 : lw_okq (⟨"PieceSwarm", "keepState", "()V"⟩, 9) := ⟨⟨by decide +kernel, by decide +kernel⟩, List.mem_of_getElem? (i := 13) (by decide +kernel), List.mem_of_getElem? (i := 253) (by decide +kernel), List.mem_of_getElem? (i := 254) (by decide +kernel)⟩
theorem lw_p2 : lw_okq (⟨"PieceSwarm$Round", "findWanters", "(LPieceSwarm$Swarm;)V"⟩, 4) := ⟨⟨by decide +kernel, by decide +kernel⟩, List.mem_of_getElem? (i := 159) (by decide +kernel), List.mem_of_getElem? (i := 347) (by decide +kernel), List.mem_of_getElem? (i := 348) (by decide +kernel)⟩
theorem lw_p3 : lw_okq (⟨"PieceSwarm$Round", "openSlots", "(LPieceSwarm$Swarm;)V"⟩, 4) := ⟨⟨by decide +kernel, by decide +kernel⟩, List.mem_of_getElem? (i := 159) (by decide +kernel), List.mem_of_getElem? (i := 358) (by decide +kernel), List.mem_of_getElem? (i := 359) (by decide +kernel)⟩
theorem lw_p4 : lw_okq (⟨"PieceSwarm$Round", "pickRegular", "(LPieceSwarm$Swarm;I)I"⟩, 4) := ⟨⟨by decide +kernel, by decide +kernel⟩, List.mem_of_getElem? (i := 159) (by decide +kernel), List.mem_of_getElem? (i := 362) (by decide +kernel), List.mem_of_getElem? (i := 363) (by decide +kernel)⟩
theorem lw_p5 : lw_okq (⟨"PieceSwarm$Round", "askForBlocks", "(LPieceSwarm$Swarm;)V"⟩, 4) := ⟨⟨by decide +kernel, by decide +kernel⟩, List.mem_of_getElem? (i := 159) (by decide +kernel), List.mem_of_getElem? (i := 387) (by decide +kernel), List.mem_of_getElem? (i := 388) (by decide +kernel)⟩
theorem lw_p6 : lw_okq (⟨"PieceSwarm$Round", "chooseSpot", "(LPieceSwarm$Swarm;III)I"⟩, 4) := ⟨⟨by decide +kernel, by decide +kernel⟩, List.mem_of_getElem? (i := 159) (by decide +kernel), List.mem_of_getElem? (i := 396) (by decide +kernel), List.mem_of_getElem? (i := 397) (by decide +kernel)⟩
theorem lw_p7 : lw_okq (⟨"PieceSwarm$Round", "rarestFree", "(LPieceSwarm$Swarm;II)I"⟩, 4) := ⟨⟨by decide +kernel, by decide +kernel⟩, List.mem_of_getElem? (i := 159) (by decide +kernel), List.mem_of_getElem? (i := 400) (by decide +kernel), List.mem_of_getElem? (i := 401) (by decide +kernel)⟩
theorem lw_p8 : lw_okq (⟨"PieceSwarm$Round", "sendBlocks", "(LPieceSwarm$Swarm;)V"⟩, 4) := ⟨⟨by decide +kernel, by decide +kernel⟩, List.mem_of_getElem? (i := 159) (by decide +kernel), List.mem_of_getElem? (i := 417) (by decide +kernel), List.mem_of_getElem? (i := 418) (by decide +kernel)⟩
theorem lw_p9 : lw_okq (⟨"PieceSwarm$Round", "sendOne", "(LPieceSwarm$Swarm;III)V"⟩, 4) := ⟨⟨by decide +kernel, by decide +kernel⟩, List.mem_of_getElem? (i := 159) (by decide +kernel), List.mem_of_getElem? (i := 426) (by decide +kernel), List.mem_of_getElem? (i := 427) (by decide +kernel)⟩
theorem lw_p10 : lw_okq (⟨"PieceSwarm$Round", "fadeRates", "(LPieceSwarm$Swarm;)V"⟩, 4) := ⟨⟨by decide +kernel, by decide +kernel⟩, List.mem_of_getElem? (i := 159) (by decide +kernel), List.mem_of_getElem? (i := 437) (by decide +kernel), List.mem_of_getElem? (i := 438) (by decide +kernel)⟩
theorem lw_p11 : lw_okq (⟨"PieceSwarm$Text", "takes", "(I)Z"⟩, 9) := ⟨⟨by decide +kernel, by decide +kernel⟩, List.mem_of_getElem? (i := 178) (by decide +kernel), List.mem_of_getElem? (i := 555) (by decide +kernel), List.mem_of_getElem? (i := 556) (by decide +kernel)⟩
theorem lw_p12 : lw_okq (⟨"PieceSwarm$Text", "takesLetter", "(I)Z"⟩, 9) := ⟨⟨by decide +kernel, by decide +kernel⟩, List.mem_of_getElem? (i := 178) (by decide +kernel), List.mem_of_getElem? (i := 559) (by decide +kernel), List.mem_of_getElem? (i := 560) (by decide +kernel)⟩
theorem lw_p13 : lw_okq (⟨"PieceSwarm$Text", "takesFigure", "(I)Z"⟩, 9) := ⟨⟨by decide +kernel, by decide +kernel⟩, List.mem_of_getElem? (i := 178) (by decide +kernel), List.mem_of_getElem? (i := 563) (by decide +kernel), List.mem_of_getElem? (i := 564) (by decide +kernel)⟩
theorem lw_p14 : lw_okq (⟨"PieceSwarm", "obey", "(III)Z"⟩, 9) := ⟨⟨by decide +kernel, by decide +kernel⟩, List.mem_of_getElem? (i := 13) (by decide +kernel), List.mem_of_getElem? (i := 567) (by decide +kernel), List.mem_of_getElem? (i := 568) (by decide +kernel)⟩
theorem lw_p15 : lw_okq (⟨"PieceSwarm", "digestPeer", "(JI)J"⟩, 9) := ⟨⟨by decide +kernel, by decide +kernel⟩, List.mem_of_getElem? (i := 13) (by decide +kernel), List.mem_of_getElem? (i := 587) (by decide +kernel), List.mem_of_getElem? (i := 588) (by decide +kernel)⟩
def lw_privs_1 : List (MethodName × Nat) := [(⟨"PieceSwarm", "refuse", "(I)I"⟩, 9), (⟨"PieceSwarm", "keepState", "()V"⟩, 9), (⟨"PieceSwarm$Round", "findWanters", "(LPieceSwarm$Swarm;)V"⟩, 4), (⟨"PieceSwarm$Round", "openSlots", "(LPieceSwarm$Swarm;)V"⟩, 4), (⟨"PieceSwarm$Round", "pickRegular", "(LPieceSwarm$Swarm;I)I"⟩, 4), (⟨"PieceSwarm$Round", "askForBlocks", "(LPieceSwarm$Swarm;)V"⟩, 4), (⟨"PieceSwarm$Round", "chooseSpot", "(LPieceSwarm$Swarm;III)I"⟩, 4), (⟨"PieceSwarm$Round", "rarestFree", "(LPieceSwarm$Swarm;II)I"⟩, 4), (⟨"PieceSwarm$Round", "sendBlocks", "(LPieceSwarm$Swarm;)V"⟩, 4), (⟨"PieceSwarm$Round", "sendOne", "(LPieceSwarm$Swarm;III)V"⟩, 4), (⟨"PieceSwarm$Round", "fadeRates", "(LPieceSwarm$Swarm;)V"⟩, 4), (⟨"PieceSwarm$Text", "takes", "(I)Z"⟩, 9), (⟨"PieceSwarm$Text", "takesLetter", "(I)Z"⟩, 9), (⟨"PieceSwarm$Text", "takesFigure", "(I)Z"⟩, 9), (⟨"PieceSwarm", "obey", "(III)Z"⟩, 9), (⟨"PieceSwarm", "digestPeer", "(JI)J"⟩, 9)]
theorem lw_r1 : ∀ q ∈ lw_privs_1, lw_okq q := List.forall_mem_cons.mpr ⟨lw_p0, List.forall_mem_cons.mpr ⟨lw_p1, List.forall_mem_cons.mpr ⟨lw_p2, List.forall_mem_cons.mpr ⟨lw_p3, List.forall_mem_cons.mpr ⟨lw_p4, List.forall_mem_cons.mpr ⟨lw_p5, List.forall_mem_cons.mpr ⟨lw_p6, List.forall_mem_cons.mpr ⟨lw_p7, List.forall_mem_cons.mpr ⟨lw_p8, List.forall_mem_cons.mpr ⟨lw_p9, List.forall_mem_cons.mpr ⟨lw_p10, List.forall_mem_cons.mpr ⟨lw_p11, List.forall_mem_cons.mpr ⟨lw_p12, List.forall_mem_cons.mpr ⟨lw_p13, List.forall_mem_cons.mpr ⟨lw_p14, List.forall_mem_cons.mpr ⟨lw_p15, fun _ h => absurd h List.not_mem_nil⟩⟩⟩⟩⟩⟩⟩⟩⟩⟩⟩⟩⟩⟩⟩⟩
theorem lw_p16 : lw_okq (⟨"PieceSwarmModel", "lays", "(II)V"⟩, 16) := ⟨⟨by decide +kernel, by decide +kernel⟩, List.mem_of_getElem? (i := 597) (by decide +kernel), List.mem_of_getElem? (i := 603) (by decide +kernel), List.mem_of_getElem? (i := 604) (by decide +kernel)⟩
theorem lw_p17 : lw_okq (⟨"PieceSwarmModel", "no", "()I"⟩, 16) := ⟨⟨by decide +kernel, by decide +kernel⟩, List.mem_of_getElem? (i := 597) (by decide +kernel), List.mem_of_getElem? (i := 662) (by decide +kernel), List.mem_of_getElem? (i := 663) (by decide +kernel)⟩
theorem lw_p18 : lw_okq (⟨"PieceSwarmModel", "bad", "()I"⟩, 16) := ⟨⟨by decide +kernel, by decide +kernel⟩, List.mem_of_getElem? (i := 597) (by decide +kernel), List.mem_of_getElem? (i := 673) (by decide +kernel), List.mem_of_getElem? (i := 674) (by decide +kernel)⟩
theorem lw_p19 : lw_okq (⟨"PieceSwarmModel", "leavesState", "()V"⟩, 16) := ⟨⟨by decide +kernel, by decide +kernel⟩, List.mem_of_getElem? (i := 597) (by decide +kernel), List.mem_of_getElem? (i := 677) (by decide +kernel), List.mem_of_getElem? (i := 678) (by decide +kernel)⟩
theorem lw_p20 : lw_okq (⟨"PieceSwarmModel", "canPeer", "(II)I"⟩, 16) := ⟨⟨by decide +kernel, by decide +kernel⟩, List.mem_of_getElem? (i := 597) (by decide +kernel), List.mem_of_getElem? (i := 685) (by decide +kernel), List.mem_of_getElem? (i := 686) (by decide +kernel)⟩
theorem lw_p21 : lw_okq (⟨"PieceSwarmModel", "counted", "(I)I"⟩, 16) := ⟨⟨by decide +kernel, by decide +kernel⟩, List.mem_of_getElem? (i := 597) (by decide +kernel), List.mem_of_getElem? (i := 689) (by decide +kernel), List.mem_of_getElem? (i := 690) (by decide +kernel)⟩
theorem lw_p22 : lw_okq (⟨"PieceSwarmModel", "full", "()I"⟩, 16) := ⟨⟨by decide +kernel, by decide +kernel⟩, List.mem_of_getElem? (i := 597) (by decide +kernel), List.mem_of_getElem? (i := 693) (by decide +kernel), List.mem_of_getElem? (i := 694) (by decide +kernel)⟩
theorem lw_p23 : lw_okq (⟨"PieceSwarmModel", "peerComes", "(II)I"⟩, 16) := ⟨⟨by decide +kernel, by decide +kernel⟩, List.mem_of_getElem? (i := 597) (by decide +kernel), List.mem_of_getElem? (i := 697) (by decide +kernel), List.mem_of_getElem? (i := 698) (by decide +kernel)⟩
theorem lw_p24 : lw_okq (⟨"PieceSwarmModel", "canGive", "(II)I"⟩, 16) := ⟨⟨by decide +kernel, by decide +kernel⟩, List.mem_of_getElem? (i := 597) (by decide +kernel), List.mem_of_getElem? (i := 708) (by decide +kernel), List.mem_of_getElem? (i := 709) (by decide +kernel)⟩
theorem lw_p25 : lw_okq (⟨"PieceSwarmModel", "isPeer", "(I)Z"⟩, 16) := ⟨⟨by decide +kernel, by decide +kernel⟩, List.mem_of_getElem? (i := 597) (by decide +kernel), List.mem_of_getElem? (i := 712) (by decide +kernel), List.mem_of_getElem? (i := 713) (by decide +kernel)⟩
theorem lw_p26 : lw_okq (⟨"PieceSwarmModel", "has", "(II)Z"⟩, 16) := ⟨⟨by decide +kernel, by decide +kernel⟩, List.mem_of_getElem? (i := 597) (by decide +kernel), List.mem_of_getElem? (i := 716) (by decide +kernel), List.mem_of_getElem? (i := 717) (by decide +kernel)⟩
theorem lw_p27 : lw_okq (⟨"PieceSwarmModel", "cellOf", "(II)I"⟩, 16) := ⟨⟨by decide +kernel, by decide +kernel⟩, List.mem_of_getElem? (i := 597) (by decide +kernel), List.mem_of_getElem? (i := 720) (by decide +kernel), List.mem_of_getElem? (i := 721) (by decide +kernel)⟩
theorem lw_p28 : lw_okq (⟨"PieceSwarmModel", "give", "(II)I"⟩, 16) := ⟨⟨by decide +kernel, by decide +kernel⟩, List.mem_of_getElem? (i := 597) (by decide +kernel), List.mem_of_getElem? (i := 724) (by decide +kernel), List.mem_of_getElem? (i := 725) (by decide +kernel)⟩
theorem lw_p29 : lw_okq (⟨"PieceSwarmModel", "set", "(II)I"⟩, 16) := ⟨⟨by decide +kernel, by decide +kernel⟩, List.mem_of_getElem? (i := 597) (by decide +kernel), List.mem_of_getElem? (i := 744) (by decide +kernel), List.mem_of_getElem? (i := 745) (by decide +kernel)⟩
theorem lw_p30 : lw_okq (⟨"PieceSwarmModel", "goRounds", "(I)I"⟩, 16) := ⟨⟨by decide +kernel, by decide +kernel⟩, List.mem_of_getElem? (i := 597) (by decide +kernel), List.mem_of_getElem? (i := 752) (by decide +kernel), List.mem_of_getElem? (i := 753) (by decide +kernel)⟩
theorem lw_p31 : lw_okq (⟨"PieceSwarmModel", "round", "()V"⟩, 16) := ⟨⟨by decide +kernel, by decide +kernel⟩, List.mem_of_getElem? (i := 597) (by decide +kernel), List.mem_of_getElem? (i := 756) (by decide +kernel), List.mem_of_getElem? (i := 757) (by decide +kernel)⟩
def lw_privs_2 : List (MethodName × Nat) := [(⟨"PieceSwarmModel", "lays", "(II)V"⟩, 16), (⟨"PieceSwarmModel", "no", "()I"⟩, 16), (⟨"PieceSwarmModel", "bad", "()I"⟩, 16), (⟨"PieceSwarmModel", "leavesState", "()V"⟩, 16), (⟨"PieceSwarmModel", "canPeer", "(II)I"⟩, 16), (⟨"PieceSwarmModel", "counted", "(I)I"⟩, 16), (⟨"PieceSwarmModel", "full", "()I"⟩, 16), (⟨"PieceSwarmModel", "peerComes", "(II)I"⟩, 16), (⟨"PieceSwarmModel", "canGive", "(II)I"⟩, 16), (⟨"PieceSwarmModel", "isPeer", "(I)Z"⟩, 16), (⟨"PieceSwarmModel", "has", "(II)Z"⟩, 16), (⟨"PieceSwarmModel", "cellOf", "(II)I"⟩, 16), (⟨"PieceSwarmModel", "give", "(II)I"⟩, 16), (⟨"PieceSwarmModel", "set", "(II)I"⟩, 16), (⟨"PieceSwarmModel", "goRounds", "(I)I"⟩, 16), (⟨"PieceSwarmModel", "round", "()V"⟩, 16)]
theorem lw_r2 : ∀ q ∈ lw_privs_2, lw_okq q := List.forall_mem_cons.mpr ⟨lw_p16, List.forall_mem_cons.mpr ⟨lw_p17, List.forall_mem_cons.mpr ⟨lw_p18, List.forall_mem_cons.mpr ⟨lw_p19, List.forall_mem_cons.mpr ⟨lw_p20, List.forall_mem_cons.mpr ⟨lw_p21, List.forall_mem_cons.mpr ⟨lw_p22, List.forall_mem_cons.mpr ⟨lw_p23, List.forall_mem_cons.mpr ⟨lw_p24, List.forall_mem_cons.mpr ⟨lw_p25, List.forall_mem_cons.mpr ⟨lw_p26, List.forall_mem_cons.mpr ⟨lw_p27, List.forall_mem_cons.mpr ⟨lw_p28, List.forall_mem_cons.mpr ⟨lw_p29, List.forall_mem_cons.mpr ⟨lw_p30, List.forall_mem_cons.mpr ⟨lw_p31, fun _ h => absurd h List.not_mem_nil⟩⟩⟩⟩⟩⟩⟩⟩⟩⟩⟩⟩⟩⟩⟩⟩
theorem lw_p32 : lw_okq (⟨"PieceSwarmModel", "opens", "(I)V"⟩, 16) := ⟨⟨by decide +kernel, by decide +kernel⟩, List.mem_of_getElem? (i := 597) (by decide +kernel), List.mem_of_getElem? (i := 760) (by decide +kernel), List.mem_of_getElem? (i := 761) (by decide +kernel)⟩
theorem lw_p33 : lw_okq (⟨"PieceSwarmModel", "wants", "(II)Z"⟩, 16) := ⟨⟨by decide +kernel, by decide +kernel⟩, List.mem_of_getElem? (i := 597) (by decide +kernel), List.mem_of_getElem? (i := 764) (by decide +kernel), List.mem_of_getElem? (i := 765) (by decide +kernel)⟩
theorem lw_p34 : lw_okq (⟨"PieceSwarmModel", "isBarred", "(II)Z"⟩, 16) := ⟨⟨by decide +kernel, by decide +kernel⟩, List.mem_of_getElem? (i := 597) (by decide +kernel), List.mem_of_getElem? (i := 768) (by decide +kernel), List.mem_of_getElem? (i := 769) (by decide +kernel)⟩
theorem lw_p35 : lw_okq (⟨"PieceSwarmModel", "claims", "(I)I"⟩, 16) := ⟨⟨by decide +kernel, by decide +kernel⟩, List.mem_of_getElem? (i := 597) (by decide +kernel), List.mem_of_getElem? (i := 772) (by decide +kernel), List.mem_of_getElem? (i := 773) (by decide +kernel)⟩
theorem lw_p36 : lw_okq (⟨"PieceSwarmModel", "allPieces", "()I"⟩, 16) := ⟨⟨by decide +kernel, by decide +kernel⟩, List.mem_of_getElem? (i := 597) (by decide +kernel), List.mem_of_getElem? (i := 776) (by decide +kernel), List.mem_of_getElem? (i := 777) (by decide +kernel)⟩
theorem lw_p37 : lw_okq (⟨"PieceSwarmModel", "best", "(II)I"⟩, 16) := ⟨⟨by decide +kernel, by decide +kernel⟩, List.mem_of_getElem? (i := 597) (by decide +kernel), List.mem_of_getElem? (i := 780) (by decide +kernel), List.mem_of_getElem? (i := 781) (by decide +kernel)⟩
theorem lw_p38 : lw_okq (⟨"PieceSwarmModel", "worth", "(II)F"⟩, 16) := ⟨⟨by decide +kernel, by decide +kernel⟩, List.mem_of_getElem? (i := 597) (by decide +kernel), List.mem_of_getElem? (i := 784) (by decide +kernel), List.mem_of_getElem? (i := 785) (by decide +kernel)⟩
theorem lw_p39 : lw_okq (⟨"PieceSwarmModel", "drawBy", "(I)I"⟩, 16) := ⟨⟨by decide +kernel, by decide +kernel⟩, List.mem_of_getElem? (i := 597) (by decide +kernel), List.mem_of_getElem? (i := 791) (by decide +kernel), List.mem_of_getElem? (i := 792) (by decide +kernel)⟩
theorem lw_p40 : lw_okq (⟨"PieceSwarmModel", "asks", "(I)V"⟩, 16) := ⟨⟨by decide +kernel, by decide +kernel⟩, List.mem_of_getElem? (i := 597) (by decide +kernel), List.mem_of_getElem? (i := 802) (by decide +kernel), List.mem_of_getElem? (i := 803) (by decide +kernel)⟩
theorem lw_p41 : lw_okq (⟨"PieceSwarmModel", "askedOf", "(II)I"⟩, 16) := ⟨⟨by decide +kernel, by decide +kernel⟩, List.mem_of_getElem? (i := 597) (by decide +kernel), List.mem_of_getElem? (i := 806) (by decide +kernel), List.mem_of_getElem? (i := 807) (by decide +kernel)⟩
theorem lw_p42 : lw_okq (⟨"PieceSwarmModel", "freeBlock", "(II)I"⟩, 16) := ⟨⟨by decide +kernel, by decide +kernel⟩, List.mem_of_getElem? (i := 597) (by decide +kernel), List.mem_of_getElem? (i := 810) (by decide +kernel), List.mem_of_getElem? (i := 811) (by decide +kernel)⟩
theorem lw_p43 : lw_okq (⟨"PieceSwarmModel", "isFree", "(III)Z"⟩, 16) := ⟨⟨by decide +kernel, by decide +kernel⟩, List.mem_of_getElem? (i := 597) (by decide +kernel), List.mem_of_getElem? (i := 814) (by decide +kernel), List.mem_of_getElem? (i := 815) (by decide +kernel)⟩
theorem lw_p44 : lw_okq (⟨"PieceSwarmModel", "source", "(III)I"⟩, 16) := ⟨⟨by decide +kernel, by decide +kernel⟩, List.mem_of_getElem? (i := 597) (by decide +kernel), List.mem_of_getElem? (i := 818) (by decide +kernel), List.mem_of_getElem? (i := 819) (by decide +kernel)⟩
theorem lw_p45 : lw_okq (⟨"PieceSwarmModel", "isSooner", "(III)Z"⟩, 16) := ⟨⟨by decide +kernel, by decide +kernel⟩, List.mem_of_getElem? (i := 597) (by decide +kernel), List.mem_of_getElem? (i := 822) (by decide +kernel), List.mem_of_getElem? (i := 823) (by decide +kernel)⟩
theorem lw_p46 : lw_okq (⟨"PieceSwarmModel", "isStarted", "(II)Z"⟩, 16) := ⟨⟨by decide +kernel, by decide +kernel⟩, List.mem_of_getElem? (i := 597) (by decide +kernel), List.mem_of_getElem? (i := 826) (by decide +kernel), List.mem_of_getElem? (i := 827) (by decide +kernel)⟩
theorem lw_p47 : lw_okq (⟨"PieceSwarmModel", "copiesOf", "(I)I"⟩, 16) := ⟨⟨by decide +kernel, by decide +kernel⟩, List.mem_of_getElem? (i := 597) (by decide +kernel), List.mem_of_getElem? (i := 830) (by decide +kernel), List.mem_of_getElem? (i := 831) (by decide +kernel)⟩
def lw_privs_3 : List (MethodName × Nat) := [(⟨"PieceSwarmModel", "opens", "(I)V"⟩, 16), (⟨"PieceSwarmModel", "wants", "(II)Z"⟩, 16), (⟨"PieceSwarmModel", "isBarred", "(II)Z"⟩, 16), (⟨"PieceSwarmModel", "claims", "(I)I"⟩, 16), (⟨"PieceSwarmModel", "allPieces", "()I"⟩, 16), (⟨"PieceSwarmModel", "best", "(II)I"⟩, 16), (⟨"PieceSwarmModel", "worth", "(II)F"⟩, 16), (⟨"PieceSwarmModel", "drawBy", "(I)I"⟩, 16), (⟨"PieceSwarmModel", "asks", "(I)V"⟩, 16), (⟨"PieceSwarmModel", "askedOf", "(II)I"⟩, 16), (⟨"PieceSwarmModel", "freeBlock", "(II)I"⟩, 16), (⟨"PieceSwarmModel", "isFree", "(III)Z"⟩, 16), (⟨"PieceSwarmModel", "source", "(III)I"⟩, 16), (⟨"PieceSwarmModel", "isSooner", "(III)Z"⟩, 16), (⟨"PieceSwarmModel", "isStarted", "(II)Z"⟩, 16), (⟨"PieceSwarmModel", "copiesOf", "(I)I"⟩, 16)]
theorem lw_r3 : ∀ q ∈ lw_privs_3, lw_okq q := List.forall_mem_cons.mpr ⟨lw_p32, List.forall_mem_cons.mpr ⟨lw_p33, List.forall_mem_cons.mpr ⟨lw_p34, List.forall_mem_cons.mpr ⟨lw_p35, List.forall_mem_cons.mpr ⟨lw_p36, List.forall_mem_cons.mpr ⟨lw_p37, List.forall_mem_cons.mpr ⟨lw_p38, List.forall_mem_cons.mpr ⟨lw_p39, List.forall_mem_cons.mpr ⟨lw_p40, List.forall_mem_cons.mpr ⟨lw_p41, List.forall_mem_cons.mpr ⟨lw_p42, List.forall_mem_cons.mpr ⟨lw_p43, List.forall_mem_cons.mpr ⟨lw_p44, List.forall_mem_cons.mpr ⟨lw_p45, List.forall_mem_cons.mpr ⟨lw_p46, List.forall_mem_cons.mpr ⟨lw_p47, fun _ h => absurd h List.not_mem_nil⟩⟩⟩⟩⟩⟩⟩⟩⟩⟩⟩⟩⟩⟩⟩⟩
theorem lw_p48 : lw_okq (⟨"PieceSwarmModel", "left", "(I)I"⟩, 16) := ⟨⟨by decide +kernel, by decide +kernel⟩, List.mem_of_getElem? (i := 597) (by decide +kernel), List.mem_of_getElem? (i := 834) (by decide +kernel), List.mem_of_getElem? (i := 835) (by decide +kernel)⟩
theorem lw_p49 : lw_okq (⟨"PieceSwarmModel", "lastBlock", "(II)I"⟩, 16) := ⟨⟨by decide +kernel, by decide +kernel⟩, List.mem_of_getElem? (i := 597) (by decide +kernel), List.mem_of_getElem? (i := 838) (by decide +kernel), List.mem_of_getElem? (i := 839) (by decide +kernel)⟩
theorem lw_p50 : lw_okq (⟨"PieceSwarmModel", "answers", "(I)V"⟩, 16) := ⟨⟨by decide +kernel, by decide +kernel⟩, List.mem_of_getElem? (i := 597) (by decide +kernel), List.mem_of_getElem? (i := 842) (by decide +kernel), List.mem_of_getElem? (i := 843) (by decide +kernel)⟩
theorem lw_p51 : lw_okq (⟨"PieceSwarmModel", "sends", "(III)V"⟩, 16) := ⟨⟨by decide +kernel, by decide +kernel⟩, List.mem_of_getElem? (i := 597) (by decide +kernel), List.mem_of_getElem? (i := 846) (by decide +kernel), List.mem_of_getElem? (i := 847) (by decide +kernel)⟩
theorem lw_p52 : lw_okq (⟨"PieceSwarmModel", "looksAt", "(II)V"⟩, 16) := ⟨⟨by decide +kernel, by decide +kernel⟩, List.mem_of_getElem? (i := 597) (by decide +kernel), List.mem_of_getElem? (i := 850) (by decide +kernel), List.mem_of_getElem? (i := 851) (by decide +kernel)⟩
theorem lw_p53 : lw_okq (⟨"PieceSwarmModel", "drops", "(II)V"⟩, 16) := ⟨⟨by decide +kernel, by decide +kernel⟩, List.mem_of_getElem? (i := 597) (by decide +kernel), List.mem_of_getElem? (i := 854) (by decide +kernel), List.mem_of_getElem? (i := 855) (by decide +kernel)⟩
theorem lw_p54 : lw_okq (⟨"PieceSwarmModel", "honest", "()I"⟩, 16) := ⟨⟨by decide +kernel, by decide +kernel⟩, List.mem_of_getElem? (i := 597) (by decide +kernel), List.mem_of_getElem? (i := 863) (by decide +kernel), List.mem_of_getElem? (i := 864) (by decide +kernel)⟩
theorem lw_p55 : lw_okq (⟨"PieceSwarmModel", "areDone", "()Z"⟩, 16) := ⟨⟨by decide +kernel, by decide +kernel⟩, List.mem_of_getElem? (i := 597) (by decide +kernel), List.mem_of_getElem? (i := 867) (by decide +kernel), List.mem_of_getElem? (i := 868) (by decide +kernel)⟩
theorem lw_p56 : lw_okq (⟨"PieceSwarmModel", "ofPeer", "(II)I"⟩, 16) := ⟨⟨by decide +kernel, by decide +kernel⟩, List.mem_of_getElem? (i := 597) (by decide +kernel), List.mem_of_getElem? (i := 875) (by decide +kernel), List.mem_of_getElem? (i := 876) (by decide +kernel)⟩
theorem lw_p57 : lw_okq (⟨"PieceSwarmModel", "blockOf", "(III)I"⟩, 16) := ⟨⟨by decide +kernel, by decide +kernel⟩, List.mem_of_getElem? (i := 597) (by decide +kernel), List.mem_of_getElem? (i := 883) (by decide +kernel), List.mem_of_getElem? (i := 884) (by decide +kernel)⟩
theorem lw_p58 : lw_okq (⟨"PieceSwarmModel", "areTwo", "(II)Z"⟩, 16) := ⟨⟨by decide +kernel, by decide +kernel⟩, List.mem_of_getElem? (i := 597) (by decide +kernel), List.mem_of_getElem? (i := 891) (by decide +kernel), List.mem_of_getElem? (i := 892) (by decide +kernel)⟩
theorem lw_p59 : lw_okq (⟨"PieceSwarmModel", "rateOf", "(II)I"⟩, 16) := ⟨⟨by decide +kernel, by decide +kernel⟩, List.mem_of_getElem? (i := 597) (by decide +kernel), List.mem_of_getElem? (i := 895) (by decide +kernel), List.mem_of_getElem? (i := 896) (by decide +kernel)⟩
theorem lw_p60 : lw_okq (⟨"PieceSwarmModel", "countOf", "(I)I"⟩, 16) := ⟨⟨by decide +kernel, by decide +kernel⟩, List.mem_of_getElem? (i := 597) (by decide +kernel), List.mem_of_getElem? (i := 947) (by decide +kernel), List.mem_of_getElem? (i := 948) (by decide +kernel)⟩
theorem lw_p61 : lw_okq (⟨"PieceSwarmModel", "pairs", "()I"⟩, 16) := ⟨⟨by decide +kernel, by decide +kernel⟩, List.mem_of_getElem? (i := 597) (by decide +kernel), List.mem_of_getElem? (i := 951) (by decide +kernel), List.mem_of_getElem? (i := 952) (by decide +kernel)⟩
theorem lw_p62 : lw_okq (⟨"PieceSwarmModel", "reads", "(Z)I"⟩, 16) := ⟨⟨by decide +kernel, by decide +kernel⟩, List.mem_of_getElem? (i := 597) (by decide +kernel), List.mem_of_getElem? (i := 967) (by decide +kernel), List.mem_of_getElem? (i := 968) (by decide +kernel)⟩
theorem lw_p63 : lw_okq (⟨"PieceSwarmModel", "blanks", "()V"⟩, 16) := ⟨⟨by decide +kernel, by decide +kernel⟩, List.mem_of_getElem? (i := 597) (by decide +kernel), List.mem_of_getElem? (i := 971) (by decide +kernel), List.mem_of_getElem? (i := 972) (by decide +kernel)⟩
def lw_privs_4 : List (MethodName × Nat) := [(⟨"PieceSwarmModel", "left", "(I)I"⟩, 16), (⟨"PieceSwarmModel", "lastBlock", "(II)I"⟩, 16), (⟨"PieceSwarmModel", "answers", "(I)V"⟩, 16), (⟨"PieceSwarmModel", "sends", "(III)V"⟩, 16), (⟨"PieceSwarmModel", "looksAt", "(II)V"⟩, 16), (⟨"PieceSwarmModel", "drops", "(II)V"⟩, 16), (⟨"PieceSwarmModel", "honest", "()I"⟩, 16), (⟨"PieceSwarmModel", "areDone", "()Z"⟩, 16), (⟨"PieceSwarmModel", "ofPeer", "(II)I"⟩, 16), (⟨"PieceSwarmModel", "blockOf", "(III)I"⟩, 16), (⟨"PieceSwarmModel", "areTwo", "(II)Z"⟩, 16), (⟨"PieceSwarmModel", "rateOf", "(II)I"⟩, 16), (⟨"PieceSwarmModel", "countOf", "(I)I"⟩, 16), (⟨"PieceSwarmModel", "pairs", "()I"⟩, 16), (⟨"PieceSwarmModel", "reads", "(Z)I"⟩, 16), (⟨"PieceSwarmModel", "blanks", "()V"⟩, 16)]
theorem lw_r4 : ∀ q ∈ lw_privs_4, lw_okq q := List.forall_mem_cons.mpr ⟨lw_p48, List.forall_mem_cons.mpr ⟨lw_p49, List.forall_mem_cons.mpr ⟨lw_p50, List.forall_mem_cons.mpr ⟨lw_p51, List.forall_mem_cons.mpr ⟨lw_p52, List.forall_mem_cons.mpr ⟨lw_p53, List.forall_mem_cons.mpr ⟨lw_p54, List.forall_mem_cons.mpr ⟨lw_p55, List.forall_mem_cons.mpr ⟨lw_p56, List.forall_mem_cons.mpr ⟨lw_p57, List.forall_mem_cons.mpr ⟨lw_p58, List.forall_mem_cons.mpr ⟨lw_p59, List.forall_mem_cons.mpr ⟨lw_p60, List.forall_mem_cons.mpr ⟨lw_p61, List.forall_mem_cons.mpr ⟨lw_p62, List.forall_mem_cons.mpr ⟨lw_p63, fun _ h => absurd h List.not_mem_nil⟩⟩⟩⟩⟩⟩⟩⟩⟩⟩⟩⟩⟩⟩⟩⟩
theorem lw_p64 : lw_okq (⟨"PieceSwarmModel", "isAt", "(II)Z"⟩, 16) := ⟨⟨by decide +kernel, by decide +kernel⟩, List.mem_of_getElem? (i := 597) (by decide +kernel), List.mem_of_getElem? (i := 975) (by decide +kernel), List.mem_of_getElem? (i := 976) (by decide +kernel)⟩
theorem lw_p65 : lw_okq (⟨"PieceSwarmModel", "number", "()I"⟩, 16) := ⟨⟨by decide +kernel, by decide +kernel⟩, List.mem_of_getElem? (i := 597) (by decide +kernel), List.mem_of_getElem? (i := 979) (by decide +kernel), List.mem_of_getElem? (i := 980) (by decide +kernel)⟩
theorem lw_p66 : lw_okq (⟨"PieceSwarmModel", "isDone", "(I)Z"⟩, 16) := ⟨⟨by decide +kernel, by decide +kernel⟩, List.mem_of_getElem? (i := 597) (by decide +kernel), List.mem_of_getElem? (i := 983) (by decide +kernel), List.mem_of_getElem? (i := 984) (by decide +kernel)⟩
theorem lw_p67 : lw_okq (⟨"PieceSwarmModel", "toldOf", "(I)I"⟩, 16) := ⟨⟨by decide +kernel, by decide +kernel⟩, List.mem_of_getElem? (i := 597) (by decide +kernel), List.mem_of_getElem? (i := 991) (by decide +kernel), List.mem_of_getElem? (i := 992) (by decide +kernel)⟩
def lw_privs_5 : List (MethodName × Nat) := [(⟨"PieceSwarmModel", "isAt", "(II)Z"⟩, 16), (⟨"PieceSwarmModel", "number", "()I"⟩, 16), (⟨"PieceSwarmModel", "isDone", "(I)Z"⟩, 16), (⟨"PieceSwarmModel", "toldOf", "(I)I"⟩, 16)]
theorem lw_r5 : ∀ q ∈ lw_privs_5, lw_okq q := List.forall_mem_cons.mpr ⟨lw_p64, List.forall_mem_cons.mpr ⟨lw_p65, List.forall_mem_cons.mpr ⟨lw_p66, List.forall_mem_cons.mpr ⟨lw_p67, fun _ h => absurd h List.not_mem_nil⟩⟩⟩⟩
def lw_privs : List (MethodName × Nat) := lw_privs_1 ++ (lw_privs_2 ++ (lw_privs_3 ++ (lw_privs_4 ++ (lw_privs_5))))
def lw_tbl : List Cond := k2_sels lw_privs ++ tables_1
theorem lw_privs_ok : ∀ q ∈ lw_privs, lw_okq q := by
  show ∀ q ∈ lw_privs_1 ++ (lw_privs_2 ++ (lw_privs_3 ++ (lw_privs_4 ++ (lw_privs_5)))), lw_okq q
  exact List.forall_mem_append.mpr ⟨lw_r1, List.forall_mem_append.mpr ⟨lw_r2, List.forall_mem_append.mpr ⟨lw_r3, List.forall_mem_append.mpr ⟨lw_r4, lw_r5⟩⟩⟩⟩
/-- the streams that the claim lets the run draw from -/
abbrev lw_cs : List Choice := [Jvm.Choice.named "NaN.bits"]
theorem lw_bits : nanBits ∈ lw_cs := by first | decide | exact List.mem_cons_self | simp [lw_cs, nanBits]
-- ===== end of PART A; then your names; then what follows =====
end
section
def RX0 : String := "PieceSwarm$Bits"
def TX0 : u_T := fun k => match k with
  | _ => ("", "", "", false)
def tyX0 : Nat → FieldType := fun k => match k with
  | _ => .int
abbrev wsX00 : List Cond := u_ws RX0 TX0 0
theorem nmX0 : ∀ a, a < 0 → ∀ b, b < 0 → a ≠ b → (TX0 a).2.1 ≠ (TX0 b).2.1 := by decide +kernel
theorem tyX0_ok : ∀ k, k < 0 → parseFieldDescriptor (TX0 k).2.2.1 = some (tyX0 k) := by decide +kernel
abbrev cX0_ofFloat : ByteArray := prog_2_method_2_code
def yX0_ofFloat : MethodName := ⟨RX0, "ofFloat", "(F)I"⟩
abbrev cX0_ofDouble : ByteArray := prog_2_method_3_code
def yX0_ofDouble : MethodName := ⟨RX0, "ofDouble", "(D)J"⟩
def RX1 : String := "PieceSwarm$Peer"
def TX1 : u_T := fun k => match k with
  | 0 => ("PieceSwarm$Peer", "kind", "I", false)
  | 1 => ("PieceSwarm$Peer", "cap", "I", false)
  | 2 => ("PieceSwarm$Peer", "has", "I", false)
  | 3 => ("PieceSwarm$Peer", "held", "I", false)
  | 4 => ("PieceSwarm$Peer", "opened", "I", false)
  | 5 => ("PieceSwarm$Peer", "lucky", "I", false)
  | 6 => ("PieceSwarm$Peer", "bars", "I", false)
  | 7 => ("PieceSwarm$Peer", "sent", "I", false)
  | 8 => ("PieceSwarm$Peer", "got", "I", false)
  | 9 => ("PieceSwarm$Peer", "from", "[I", true)
  | 10 => ("PieceSwarm$Peer", "suspicions", "[I", true)
  | _ => ("PieceSwarm$Peer", "rates", "[F", true)
def tyX1 : Nat → FieldType := fun k => match k with
  | 0 => .int
  | 1 => .int
  | 2 => .int
  | 3 => .int
  | 4 => .int
  | 5 => .int
  | 6 => .int
  | 7 => .int
  | 8 => .int
  | 9 => .array .int
  | 10 => .array .int
  | _ => .array .float
abbrev wsX10 : List Cond := u_ws RX1 TX1 12
theorem nmX1 : ∀ a, a < 12 → ∀ b, b < 12 → a ≠ b → (TX1 a).2.1 ≠ (TX1 b).2.1 := by decide +kernel
theorem tyX1_ok : ∀ k, k < 12 → parseFieldDescriptor (TX1 k).2.2.1 = some (tyX1 k) := by decide +kernel
abbrev cX1_init : ByteArray := prog_3_method_1_code
def yX1_init : MethodName := ⟨RX1, "<init>", "()V"⟩
abbrev cX1_startAs : ByteArray := prog_3_method_2_code
def yX1_startAs : MethodName := ⟨RX1, "startAs", "(II)V"⟩
abbrev cX1_copyFrom : ByteArray := prog_3_method_3_code
def yX1_copyFrom : MethodName := ⟨RX1, "copyFrom", "(LPieceSwarm$Peer;)V"⟩
abbrev cX1_hasPiece : ByteArray := prog_3_method_4_code
def yX1_hasPiece : MethodName := ⟨RX1, "hasPiece", "(I)Z"⟩
abbrev cX1_holds : ByteArray := prog_3_method_5_code
def yX1_holds : MethodName := ⟨RX1, "holds", "(I)Z"⟩
abbrev cX1_sourceOf : ByteArray := prog_3_method_6_code
def yX1_sourceOf : MethodName := ⟨RX1, "sourceOf", "(II)I"⟩
abbrev cX1_loseBlocks : ByteArray := prog_3_method_7_code
def yX1_loseBlocks : MethodName := ⟨RX1, "loseBlocks", "(I)V"⟩
def RX2 : String := "PieceSwarm$Round"
def TX2 : u_T := fun k => match k with
  | 0 => ("PieceSwarm$Round", "wanters", "[I", true)
  | 1 => ("PieceSwarm$Round", "copiesThen", "[I", true)
  | 2 => ("PieceSwarm$Round", "asks", "[I", true)
  | _ => ("PieceSwarm$Round", "came", "[I", true)
def tyX2 : Nat → FieldType := fun k => match k with
  | 0 => .array .int
  | 1 => .array .int
  | 2 => .array .int
  | _ => .array .int
abbrev wsX20 : List Cond := u_ws RX2 TX2 4
theorem nmX2 : ∀ a, a < 4 → ∀ b, b < 4 → a ≠ b → (TX2 a).2.1 ≠ (TX2 b).2.1 := by decide +kernel
theorem tyX2_ok : ∀ k, k < 4 → parseFieldDescriptor (TX2 k).2.2.1 = some (tyX2 k) := by decide +kernel
abbrev cX2_init : ByteArray := prog_4_method_1_code
def yX2_init : MethodName := ⟨RX2, "<init>", "()V"⟩
abbrev cX2_runSome : ByteArray := prog_4_method_2_code
def yX2_runSome : MethodName := ⟨RX2, "runSome", "(LPieceSwarm$Swarm;I)V"⟩
abbrev cX2_findWanters : ByteArray := prog_4_method_3_code
def yX2_findWanters : MethodName := ⟨RX2, "findWanters", "(LPieceSwarm$Swarm;)V"⟩
abbrev cX2_wants : ByteArray := prog_4_method_4_code
def yX2_wants : MethodName := ⟨RX2, "wants", "(LPieceSwarm$Swarm;II)Z"⟩
abbrev cX2_openSlots : ByteArray := prog_4_method_5_code
def yX2_openSlots : MethodName := ⟨RX2, "openSlots", "(LPieceSwarm$Swarm;)V"⟩
abbrev cX2_pickRegular : ByteArray := prog_4_method_6_code
def yX2_pickRegular : MethodName := ⟨RX2, "pickRegular", "(LPieceSwarm$Swarm;I)I"⟩
abbrev cX2_mostWorth : ByteArray := prog_4_method_7_code
def yX2_mostWorth : MethodName := ⟨RX2, "mostWorth", "(LPieceSwarm$Swarm;II)I"⟩
abbrev cX2_worthOf : ByteArray := prog_4_method_8_code
def yX2_worthOf : MethodName := ⟨RX2, "worthOf", "(LPieceSwarm$Swarm;II)F"⟩
abbrev cX2_pickLucky : ByteArray := prog_4_method_9_code
def yX2_pickLucky : MethodName := ⟨RX2, "pickLucky", "(LPieceSwarm$Swarm;LPieceSwarm$Peer;I)I"⟩
abbrev cX2_pickNumber : ByteArray := prog_4_method_10_code
def yX2_pickNumber : MethodName := ⟨RX2, "pickNumber", "(II)I"⟩
abbrev cX2_askForBlocks : ByteArray := prog_4_method_11_code
def yX2_askForBlocks : MethodName := ⟨RX2, "askForBlocks", "(LPieceSwarm$Swarm;)V"⟩
abbrev cX2_chooseSpot : ByteArray := prog_4_method_12_code
def yX2_chooseSpot : MethodName := ⟨RX2, "chooseSpot", "(LPieceSwarm$Swarm;III)I"⟩
abbrev cX2_rarestFree : ByteArray := prog_4_method_13_code
def yX2_rarestFree : MethodName := ⟨RX2, "rarestFree", "(LPieceSwarm$Swarm;II)I"⟩
abbrev cX2_leastFree : ByteArray := prog_4_method_14_code
def yX2_leastFree : MethodName := ⟨RX2, "leastFree", "(LPieceSwarm$Swarm;II)I"⟩
abbrev cX2_hasMissing : ByteArray := prog_4_method_15_code
def yX2_hasMissing : MethodName := ⟨RX2, "hasMissing", "(LPieceSwarm$Swarm;II)Z"⟩
abbrev cX2_leastMissing : ByteArray := prog_4_method_16_code
def yX2_leastMissing : MethodName := ⟨RX2, "leastMissing", "(LPieceSwarm$Swarm;II)I"⟩
abbrev cX2_sendBlocks : ByteArray := prog_4_method_17_code
def yX2_sendBlocks : MethodName := ⟨RX2, "sendBlocks", "(LPieceSwarm$Swarm;)V"⟩
abbrev cX2_sendOne : ByteArray := prog_4_method_18_code
def yX2_sendOne : MethodName := ⟨RX2, "sendOne", "(LPieceSwarm$Swarm;III)V"⟩
abbrev cX2_lookAt : ByteArray := prog_4_method_19_code
def yX2_lookAt : MethodName := ⟨RX2, "lookAt", "(LPieceSwarm$Swarm;LPieceSwarm$Peer;I)V"⟩
abbrev cX2_suspectAll : ByteArray := prog_4_method_20_code
def yX2_suspectAll : MethodName := ⟨RX2, "suspectAll", "(LPieceSwarm$Swarm;LPieceSwarm$Peer;I)V"⟩
abbrev cX2_fadeRates : ByteArray := prog_4_method_21_code
def yX2_fadeRates : MethodName := ⟨RX2, "fadeRates", "(LPieceSwarm$Swarm;)V"⟩
def RX3 : String := "PieceSwarm$Swarm"
def TX3 : u_T := fun k => match k with
  | 0 => ("PieceSwarm$Swarm", "pieces", "I", false)
  | 1 => ("PieceSwarm$Swarm", "blocks", "I", false)
  | 2 => ("PieceSwarm$Swarm", "allPieces", "I", false)
  | 3 => ("PieceSwarm$Swarm", "allBlocks", "I", false)
  | 4 => ("PieceSwarm$Swarm", "size", "I", false)
  | 5 => ("PieceSwarm$Swarm", "turn", "I", false)
  | 6 => ("PieceSwarm$Swarm", "falseSent", "I", false)
  | 7 => ("PieceSwarm$Swarm", "cancelled", "I", false)
  | 8 => ("PieceSwarm$Swarm", "dropped", "I", false)
  | 9 => ("PieceSwarm$Swarm", "drawing", "J", false)
  | 10 => ("PieceSwarm$Swarm", "settings", "[I", true)
  | _ => ("PieceSwarm$Swarm", "peers", "[LPieceSwarm$Peer;", true)
def tyX3 : Nat → FieldType := fun k => match k with
  | 0 => .int
  | 1 => .int
  | 2 => .int
  | 3 => .int
  | 4 => .int
  | 5 => .int
  | 6 => .int
  | 7 => .int
  | 8 => .int
  | 9 => .long
  | 10 => .array .int
  | _ => .array (.object "PieceSwarm$Peer")
abbrev wsX30 : List Cond := u_ws RX3 TX3 12
theorem nmX3 : ∀ a, a < 12 → ∀ b, b < 12 → a ≠ b → (TX3 a).2.1 ≠ (TX3 b).2.1 := by decide +kernel
theorem tyX3_ok : ∀ k, k < 12 → parseFieldDescriptor (TX3 k).2.2.1 = some (tyX3 k) := by decide +kernel
abbrev cX3_init : ByteArray := prog_5_method_1_code
def yX3_init : MethodName := ⟨RX3, "<init>", "()V"⟩
abbrev cX3_startAnew : ByteArray := prog_5_method_2_code
def yX3_startAnew : MethodName := ⟨RX3, "startAnew", "(II)V"⟩
abbrev cX3_copyFrom : ByteArray := prog_5_method_3_code
def yX3_copyFrom : MethodName := ⟨RX3, "copyFrom", "(LPieceSwarm$Swarm;)V"⟩
abbrev cX3_isPeer : ByteArray := prog_5_method_4_code
def yX3_isPeer : MethodName := ⟨RX3, "isPeer", "(I)Z"⟩
abbrev cX3_isPair : ByteArray := prog_5_method_5_code
def yX3_isPair : MethodName := ⟨RX3, "isPair", "(II)Z"⟩
abbrev cX3_isPiece : ByteArray := prog_5_method_6_code
def yX3_isPiece : MethodName := ⟨RX3, "isPiece", "(I)Z"⟩
abbrev cX3_refusesPeer : ByteArray := prog_5_method_7_code
def yX3_refusesPeer : MethodName := ⟨RX3, "refusesPeer", "(II)I"⟩
abbrev cX3_addPeer : ByteArray := prog_5_method_8_code
def yX3_addPeer : MethodName := ⟨RX3, "addPeer", "(II)I"⟩
abbrev cX3_refusesGift : ByteArray := prog_5_method_9_code
def yX3_refusesGift : MethodName := ⟨RX3, "refusesGift", "(II)I"⟩
abbrev cX3_takeGift : ByteArray := prog_5_method_10_code
def yX3_takeGift : MethodName := ⟨RX3, "takeGift", "(II)I"⟩
abbrev cX3_refusesSetting : ByteArray := prog_5_method_11_code
def yX3_refusesSetting : MethodName := ⟨RX3, "refusesSetting", "(II)I"⟩
abbrev cX3_changeSetting : ByteArray := prog_5_method_12_code
def yX3_changeSetting : MethodName := ⟨RX3, "changeSetting", "(II)I"⟩
abbrev cX3_drawBelow : ByteArray := prog_5_method_13_code
def yX3_drawBelow : MethodName := ⟨RX3, "drawBelow", "(I)I"⟩
abbrev cX3_claimsOf : ByteArray := prog_5_method_14_code
def yX3_claimsOf : MethodName := ⟨RX3, "claimsOf", "(I)I"⟩
abbrev cX3_copiesOf : ByteArray := prog_5_method_15_code
def yX3_copiesOf : MethodName := ⟨RX3, "copiesOf", "(I)I"⟩
abbrev cX3_leftOf : ByteArray := prog_5_method_16_code
def yX3_leftOf : MethodName := ⟨RX3, "leftOf", "(LPieceSwarm$Peer;)I"⟩
abbrev cX3_hasHonest : ByteArray := prog_5_method_17_code
def yX3_hasHonest : MethodName := ⟨RX3, "hasHonest", "()Z"⟩
abbrev cX3_isFinished : ByteArray := prog_5_method_18_code
def yX3_isFinished : MethodName := ⟨RX3, "isFinished", "()Z"⟩
abbrev cX3_tellPeer : ByteArray := prog_5_method_19_code
def yX3_tellPeer : MethodName := ⟨RX3, "tellPeer", "(II)I"⟩
abbrev cX3_tellCount : ByteArray := prog_5_method_20_code
def yX3_tellCount : MethodName := ⟨RX3, "tellCount", "(I)I"⟩
abbrev cX3_sentByAll : ByteArray := prog_5_method_21_code
def yX3_sentByAll : MethodName := ⟨RX3, "sentByAll", "()I"⟩
abbrev cX3_pairsThatBar : ByteArray := prog_5_method_22_code
def yX3_pairsThatBar : MethodName := ⟨RX3, "pairsThatBar", "()I"⟩
def RX4 : String := "PieceSwarm$Text"
def TX4 : u_T := fun k => match k with
  | 0 => ("PieceSwarm$Text", "length", "I", false)
  | 1 => ("PieceSwarm$Text", "orders", "I", false)
  | 2 => ("PieceSwarm$Text", "letters", "[I", true)
  | 3 => ("PieceSwarm$Text", "firsts", "[I", true)
  | 4 => ("PieceSwarm$Text", "seconds", "[I", true)
  | 5 => ("PieceSwarm$Text", "bytes", "[I", true)
  | 6 => ("PieceSwarm$Text", "lacking", "I", false)
  | 7 => ("PieceSwarm$Text", "figures", "I", false)
  | _ => ("PieceSwarm$Text", "inOrder", "Z", false)
def tyX4 : Nat → FieldType := fun k => match k with
  | 0 => .int
  | 1 => .int
  | 2 => .array .int
  | 3 => .array .int
  | 4 => .array .int
  | 5 => .array .int
  | 6 => .int
  | 7 => .int
  | _ => .boolean
abbrev wsX40 : List Cond := u_ws RX4 TX4 9
theorem nmX4 : ∀ a, a < 9 → ∀ b, b < 9 → a ≠ b → (TX4 a).2.1 ≠ (TX4 b).2.1 := by decide +kernel
theorem tyX4_ok : ∀ k, k < 9 → parseFieldDescriptor (TX4 k).2.2.1 = some (tyX4 k) := by decide +kernel
abbrev cX4_init : ByteArray := prog_6_method_1_code
def yX4_init : MethodName := ⟨RX4, "<init>", "()V"⟩
abbrev cX4_append : ByteArray := prog_6_method_2_code
def yX4_append : MethodName := ⟨RX4, "append", "(I)V"⟩
abbrev cX4_read : ByteArray := prog_6_method_3_code
def yX4_read : MethodName := ⟨RX4, "read", "()I"⟩
abbrev cX4_takes : ByteArray := prog_6_method_4_code
def yX4_takes : MethodName := ⟨RX4, "takes", "(I)Z"⟩
abbrev cX4_takesLetter : ByteArray := prog_6_method_5_code
def yX4_takesLetter : MethodName := ⟨RX4, "takesLetter", "(I)Z"⟩
abbrev cX4_takesFigure : ByteArray := prog_6_method_6_code
def yX4_takesFigure : MethodName := ⟨RX4, "takesFigure", "(I)Z"⟩
def RX5 : String := "PieceSwarm"
def TX5 : u_T := fun k => match k with
  | 0 => ("PieceSwarm", "now", "LPieceSwarm$Swarm;", true)
  | 1 => ("PieceSwarm", "states", "[LPieceSwarm$Swarm;", true)
  | 2 => ("PieceSwarm", "round", "LPieceSwarm$Round;", true)
  | 3 => ("PieceSwarm", "text", "LPieceSwarm$Text;", true)
  | 4 => ("PieceSwarm", "newest", "I", false)
  | 5 => ("PieceSwarm", "kept", "I", false)
  | 6 => ("PieceSwarm", "refusedBad", "I", false)
  | 7 => ("PieceSwarm", "refusedNo", "I", false)
  | _ => ("PieceSwarm", "refusedFull", "I", false)
def tyX5 : Nat → FieldType := fun k => match k with
  | 0 => .object "PieceSwarm$Swarm"
  | 1 => .array (.object "PieceSwarm$Swarm")
  | 2 => .object "PieceSwarm$Round"
  | 3 => .object "PieceSwarm$Text"
  | 4 => .int
  | 5 => .int
  | 6 => .int
  | 7 => .int
  | _ => .int
abbrev wsX50 : List Cond := u_ws RX5 TX5 9
theorem nmX5 : ∀ a, a < 9 → ∀ b, b < 9 → a ≠ b → (TX5 a).2.1 ≠ (TX5 b).2.1 := by decide +kernel
theorem tyX5_ok : ∀ k, k < 9 → parseFieldDescriptor (TX5 k).2.2.1 = some (tyX5 k) := by decide +kernel
abbrev cX5_init : ByteArray := prog_1_method_1_code
def yX5_init : MethodName := ⟨RX5, "<init>", "()V"⟩
abbrev cX5_begins : ByteArray := prog_1_method_2_code
def yX5_begins : MethodName := ⟨RX5, "begins", "(II)I"⟩
abbrev cX5_peer : ByteArray := prog_1_method_3_code
def yX5_peer : MethodName := ⟨RX5, "peer", "(II)I"⟩
abbrev cX5_gives : ByteArray := prog_1_method_4_code
def yX5_gives : MethodName := ⟨RX5, "gives", "(II)I"⟩
abbrev cX5_sets : ByteArray := prog_1_method_5_code
def yX5_sets : MethodName := ⟨RX5, "sets", "(II)I"⟩
abbrev cX5_rounds : ByteArray := prog_1_method_6_code
def yX5_rounds : MethodName := ⟨RX5, "rounds", "(I)I"⟩
abbrev cX5_finishes : ByteArray := prog_1_method_7_code
def yX5_finishes : MethodName := ⟨RX5, "finishes", "(I)I"⟩
abbrev cX5_of : ByteArray := prog_1_method_8_code
def yX5_of : MethodName := ⟨RX5, "of", "(II)I"⟩
abbrev cX5_block : ByteArray := prog_1_method_9_code
def yX5_block : MethodName := ⟨RX5, "block", "(III)I"⟩
abbrev cX5_rate : ByteArray := prog_1_method_10_code
def yX5_rate : MethodName := ⟨RX5, "rate", "(II)I"⟩
abbrev cX5_suspects : ByteArray := prog_1_method_11_code
def yX5_suspects : MethodName := ⟨RX5, "suspects", "(II)I"⟩
abbrev cX5_copies : ByteArray := prog_1_method_12_code
def yX5_copies : MethodName := ⟨RX5, "copies", "(I)I"⟩
abbrev cX5_rarest : ByteArray := prog_1_method_13_code
def yX5_rarest : MethodName := ⟨RX5, "rarest", "()I"⟩
abbrev cX5_ratio : ByteArray := prog_1_method_14_code
def yX5_ratio : MethodName := ⟨RX5, "ratio", "(I)I"⟩
abbrev cX5_spread : ByteArray := prog_1_method_15_code
def yX5_spread : MethodName := ⟨RX5, "spread", "()I"⟩
abbrev cX5_fairness : ByteArray := prog_1_method_16_code
def yX5_fairness : MethodName := ⟨RX5, "fairness", "()J"⟩
abbrev cX5_count : ByteArray := prog_1_method_17_code
def yX5_count : MethodName := ⟨RX5, "count", "(I)I"⟩
abbrev cX5_type : ByteArray := prog_1_method_18_code
def yX5_type : MethodName := ⟨RX5, "type", "(I)I"⟩
abbrev cX5_clear : ByteArray := prog_1_method_19_code
def yX5_clear : MethodName := ⟨RX5, "clear", "()I"⟩
abbrev cX5_does : ByteArray := prog_1_method_20_code
def yX5_does : MethodName := ⟨RX5, "does", "()I"⟩
abbrev cX5_back : ByteArray := prog_1_method_21_code
def yX5_back : MethodName := ⟨RX5, "back", "()I"⟩
abbrev cX5_told : ByteArray := prog_1_method_22_code
def yX5_told : MethodName := ⟨RX5, "told", "(I)I"⟩
abbrev cX5_digest : ByteArray := prog_1_method_23_code
def yX5_digest : MethodName := ⟨RX5, "digest", "()J"⟩
abbrev cX5_digestPeer : ByteArray := prog_1_method_24_code
def yX5_digestPeer : MethodName := ⟨RX5, "digestPeer", "(JI)J"⟩
abbrev cX5_refuse : ByteArray := prog_1_method_25_code
def yX5_refuse : MethodName := ⟨RX5, "refuse", "(I)I"⟩
abbrev cX5_keepState : ByteArray := prog_1_method_26_code
def yX5_keepState : MethodName := ⟨RX5, "keepState", "()V"⟩
abbrev cX5_areRounds : ByteArray := prog_1_method_27_code
def yX5_areRounds : MethodName := ⟨RX5, "areRounds", "(I)Z"⟩
abbrev cX5_obey : ByteArray := prog_1_method_28_code
def yX5_obey : MethodName := ⟨RX5, "obey", "(III)Z"⟩
def RX6 : String := "PieceSwarmModel"
def TX6 : u_T := fun k => match k with
  | 0 => ("PieceSwarmModel", "refused", "[I", true)
  | 1 => ("PieceSwarmModel", "now", "[I", true)
  | 2 => ("PieceSwarmModel", "rates", "[F", true)
  | 3 => ("PieceSwarmModel", "drawn", "J", false)
  | 4 => ("PieceSwarmModel", "states", "I", false)
  | 5 => ("PieceSwarmModel", "kept", "[I", true)
  | 6 => ("PieceSwarmModel", "keptRates", "[F", true)
  | 7 => ("PieceSwarmModel", "keptDrawn", "[J", true)
  | 8 => ("PieceSwarmModel", "asked", "[I", true)
  | 9 => ("PieceSwarmModel", "asking", "[Z", true)
  | 10 => ("PieceSwarmModel", "came", "[I", true)
  | 11 => ("PieceSwarmModel", "text", "[I", true)
  | 12 => ("PieceSwarmModel", "length", "I", false)
  | 13 => ("PieceSwarmModel", "readAt", "I", false)
  | 14 => ("PieceSwarmModel", "isFaulty", "Z", false)
  | _ => ("PieceSwarmModel", "numbers", "[I", true)
def tyX6 : Nat → FieldType := fun k => match k with
  | 0 => .array .int
  | 1 => .array .int
  | 2 => .array .float
  | 3 => .long
  | 4 => .int
  | 5 => .array .int
  | 6 => .array .float
  | 7 => .array .long
  | 8 => .array .int
  | 9 => .array .boolean
  | 10 => .array .int
  | 11 => .array .int
  | 12 => .int
  | 13 => .int
  | 14 => .boolean
  | _ => .array .int
abbrev wsX60 : List Cond := u_ws RX6 TX6 16
theorem nmX6 : ∀ a, a < 16 → ∀ b, b < 16 → a ≠ b → (TX6 a).2.1 ≠ (TX6 b).2.1 := by decide +kernel
theorem tyX6_ok : ∀ k, k < 16 → parseFieldDescriptor (TX6 k).2.2.1 = some (tyX6 k) := by decide +kernel
abbrev cX6_init : ByteArray := prog_8_method_1_code
def yX6_init : MethodName := ⟨RX6, "<init>", "()V"⟩
abbrev cX6_bad : ByteArray := prog_8_method_2_code
def yX6_bad : MethodName := ⟨RX6, "bad", "()I"⟩
abbrev cX6_no : ByteArray := prog_8_method_3_code
def yX6_no : MethodName := ⟨RX6, "no", "()I"⟩
abbrev cX6_full : ByteArray := prog_8_method_4_code
def yX6_full : MethodName := ⟨RX6, "full", "()I"⟩
abbrev cX6_counted : ByteArray := prog_8_method_5_code
def yX6_counted : MethodName := ⟨RX6, "counted", "(I)I"⟩
abbrev cX6_in : ByteArray := prog_8_method_6_code
def yX6_in : MethodName := ⟨RX6, "in", "(III)Z"⟩
abbrev cX6_lays : ByteArray := prog_8_method_7_code
def yX6_lays : MethodName := ⟨RX6, "lays", "(II)V"⟩
abbrev cX6_leavesState : ByteArray := prog_8_method_8_code
def yX6_leavesState : MethodName := ⟨RX6, "leavesState", "()V"⟩
abbrev cX6_back : ByteArray := prog_8_method_9_code
def yX6_back : MethodName := ⟨RX6, "back", "()I"⟩
abbrev cX6_at : ByteArray := prog_8_method_10_code
def yX6_at : MethodName := ⟨RX6, "at", "(I)I"⟩
abbrev cX6_cellOf : ByteArray := prog_8_method_11_code
def yX6_cellOf : MethodName := ⟨RX6, "cellOf", "(II)I"⟩
abbrev cX6_isPeer : ByteArray := prog_8_method_12_code
def yX6_isPeer : MethodName := ⟨RX6, "isPeer", "(I)Z"⟩
abbrev cX6_allPieces : ByteArray := prog_8_method_13_code
def yX6_allPieces : MethodName := ⟨RX6, "allPieces", "()I"⟩
abbrev cX6_claims : ByteArray := prog_8_method_14_code
def yX6_claims : MethodName := ⟨RX6, "claims", "(I)I"⟩
abbrev cX6_copiesOf : ByteArray := prog_8_method_15_code
def yX6_copiesOf : MethodName := ⟨RX6, "copiesOf", "(I)I"⟩
abbrev cX6_source : ByteArray := prog_8_method_16_code
def yX6_source : MethodName := ⟨RX6, "source", "(III)I"⟩
abbrev cX6_has : ByteArray := prog_8_method_17_code
def yX6_has : MethodName := ⟨RX6, "has", "(II)Z"⟩
abbrev cX6_left : ByteArray := prog_8_method_18_code
def yX6_left : MethodName := ⟨RX6, "left", "(I)I"⟩
abbrev cX6_isBarred : ByteArray := prog_8_method_19_code
def yX6_isBarred : MethodName := ⟨RX6, "isBarred", "(II)Z"⟩
abbrev cX6_wants : ByteArray := prog_8_method_20_code
def yX6_wants : MethodName := ⟨RX6, "wants", "(II)Z"⟩
abbrev cX6_drawBy : ByteArray := prog_8_method_21_code
def yX6_drawBy : MethodName := ⟨RX6, "drawBy", "(I)I"⟩
abbrev cX6_worth : ByteArray := prog_8_method_22_code
def yX6_worth : MethodName := ⟨RX6, "worth", "(II)F"⟩
abbrev cX6_best : ByteArray := prog_8_method_23_code
def yX6_best : MethodName := ⟨RX6, "best", "(II)I"⟩
abbrev cX6_bits : ByteArray := prog_8_method_24_code
def yX6_bits : MethodName := ⟨RX6, "bits", "(I)I"⟩
abbrev cX6_bitAt : ByteArray := prog_8_method_25_code
def yX6_bitAt : MethodName := ⟨RX6, "bitAt", "(II)I"⟩
abbrev cX6_opens : ByteArray := prog_8_method_26_code
def yX6_opens : MethodName := ⟨RX6, "opens", "(I)V"⟩
abbrev cX6_isFree : ByteArray := prog_8_method_27_code
def yX6_isFree : MethodName := ⟨RX6, "isFree", "(III)Z"⟩
abbrev cX6_freeBlock : ByteArray := prog_8_method_28_code
def yX6_freeBlock : MethodName := ⟨RX6, "freeBlock", "(II)I"⟩
abbrev cX6_isStarted : ByteArray := prog_8_method_29_code
def yX6_isStarted : MethodName := ⟨RX6, "isStarted", "(II)Z"⟩
abbrev cX6_isSooner : ByteArray := prog_8_method_30_code
def yX6_isSooner : MethodName := ⟨RX6, "isSooner", "(III)Z"⟩
abbrev cX6_lastBlock : ByteArray := prog_8_method_31_code
def yX6_lastBlock : MethodName := ⟨RX6, "lastBlock", "(II)I"⟩
abbrev cX6_askedOf : ByteArray := prog_8_method_32_code
def yX6_askedOf : MethodName := ⟨RX6, "askedOf", "(II)I"⟩
abbrev cX6_asks : ByteArray := prog_8_method_33_code
def yX6_asks : MethodName := ⟨RX6, "asks", "(I)V"⟩
abbrev cX6_drops : ByteArray := prog_8_method_34_code
def yX6_drops : MethodName := ⟨RX6, "drops", "(II)V"⟩
abbrev cX6_looksAt : ByteArray := prog_8_method_35_code
def yX6_looksAt : MethodName := ⟨RX6, "looksAt", "(II)V"⟩
abbrev cX6_sends : ByteArray := prog_8_method_36_code
def yX6_sends : MethodName := ⟨RX6, "sends", "(III)V"⟩
abbrev cX6_answers : ByteArray := prog_8_method_37_code
def yX6_answers : MethodName := ⟨RX6, "answers", "(I)V"⟩
abbrev cX6_round : ByteArray := prog_8_method_38_code
def yX6_round : MethodName := ⟨RX6, "round", "()V"⟩
abbrev cX6_areDone : ByteArray := prog_8_method_39_code
def yX6_areDone : MethodName := ⟨RX6, "areDone", "()Z"⟩
abbrev cX6_honest : ByteArray := prog_8_method_40_code
def yX6_honest : MethodName := ⟨RX6, "honest", "()I"⟩
abbrev cX6_canPeer : ByteArray := prog_8_method_41_code
def yX6_canPeer : MethodName := ⟨RX6, "canPeer", "(II)I"⟩
abbrev cX6_peerComes : ByteArray := prog_8_method_42_code
def yX6_peerComes : MethodName := ⟨RX6, "peerComes", "(II)I"⟩
abbrev cX6_canGive : ByteArray := prog_8_method_43_code
def yX6_canGive : MethodName := ⟨RX6, "canGive", "(II)I"⟩
abbrev cX6_pieces : ByteArray := prog_8_method_44_code
def yX6_pieces : MethodName := ⟨RX6, "pieces", "(I)I"⟩
abbrev cX6_give : ByteArray := prog_8_method_45_code
def yX6_give : MethodName := ⟨RX6, "give", "(II)I"⟩
abbrev cX6_lowest : ByteArray := prog_8_method_46_code
def yX6_lowest : MethodName := ⟨RX6, "lowest", "(I)I"⟩
abbrev cX6_highest : ByteArray := prog_8_method_47_code
def yX6_highest : MethodName := ⟨RX6, "highest", "(I)I"⟩
abbrev cX6_canSet : ByteArray := prog_8_method_48_code
def yX6_canSet : MethodName := ⟨RX6, "canSet", "(II)I"⟩
abbrev cX6_set : ByteArray := prog_8_method_49_code
def yX6_set : MethodName := ⟨RX6, "set", "(II)I"⟩
abbrev cX6_goRounds : ByteArray := prog_8_method_50_code
def yX6_goRounds : MethodName := ⟨RX6, "goRounds", "(I)I"⟩
abbrev cX6_begins : ByteArray := prog_8_method_51_code
def yX6_begins : MethodName := ⟨RX6, "begins", "(II)I"⟩
abbrev cX6_peer : ByteArray := prog_8_method_52_code
def yX6_peer : MethodName := ⟨RX6, "peer", "(II)I"⟩
abbrev cX6_gives : ByteArray := prog_8_method_53_code
def yX6_gives : MethodName := ⟨RX6, "gives", "(II)I"⟩
abbrev cX6_sets : ByteArray := prog_8_method_54_code
def yX6_sets : MethodName := ⟨RX6, "sets", "(II)I"⟩
abbrev cX6_rounds : ByteArray := prog_8_method_55_code
def yX6_rounds : MethodName := ⟨RX6, "rounds", "(I)I"⟩
abbrev cX6_finishes : ByteArray := prog_8_method_56_code
def yX6_finishes : MethodName := ⟨RX6, "finishes", "(I)I"⟩
abbrev cX6_ofPeer : ByteArray := prog_8_method_57_code
def yX6_ofPeer : MethodName := ⟨RX6, "ofPeer", "(II)I"⟩
abbrev cX6_of : ByteArray := prog_8_method_58_code
def yX6_of : MethodName := ⟨RX6, "of", "(II)I"⟩
abbrev cX6_blockOf : ByteArray := prog_8_method_59_code
def yX6_blockOf : MethodName := ⟨RX6, "blockOf", "(III)I"⟩
abbrev cX6_block : ByteArray := prog_8_method_60_code
def yX6_block : MethodName := ⟨RX6, "block", "(III)I"⟩
abbrev cX6_areTwo : ByteArray := prog_8_method_61_code
def yX6_areTwo : MethodName := ⟨RX6, "areTwo", "(II)Z"⟩
abbrev cX6_rateOf : ByteArray := prog_8_method_62_code
def yX6_rateOf : MethodName := ⟨RX6, "rateOf", "(II)I"⟩
abbrev cX6_rate : ByteArray := prog_8_method_63_code
def yX6_rate : MethodName := ⟨RX6, "rate", "(II)I"⟩
abbrev cX6_suspects : ByteArray := prog_8_method_64_code
def yX6_suspects : MethodName := ⟨RX6, "suspects", "(II)I"⟩
abbrev cX6_copies : ByteArray := prog_8_method_65_code
def yX6_copies : MethodName := ⟨RX6, "copies", "(I)I"⟩
abbrev cX6_rarest : ByteArray := prog_8_method_66_code
def yX6_rarest : MethodName := ⟨RX6, "rarest", "()I"⟩
abbrev cX6_ratio : ByteArray := prog_8_method_67_code
def yX6_ratio : MethodName := ⟨RX6, "ratio", "(I)I"⟩
abbrev cX6_spread : ByteArray := prog_8_method_68_code
def yX6_spread : MethodName := ⟨RX6, "spread", "()I"⟩
abbrev cX6_fairness : ByteArray := prog_8_method_69_code
def yX6_fairness : MethodName := ⟨RX6, "fairness", "()J"⟩
abbrev cX6_pairs : ByteArray := prog_8_method_70_code
def yX6_pairs : MethodName := ⟨RX6, "pairs", "()I"⟩
abbrev cX6_countOf : ByteArray := prog_8_method_71_code
def yX6_countOf : MethodName := ⟨RX6, "countOf", "(I)I"⟩
abbrev cX6_count : ByteArray := prog_8_method_72_code
def yX6_count : MethodName := ⟨RX6, "count", "(I)I"⟩
abbrev cX6_type : ByteArray := prog_8_method_73_code
def yX6_type : MethodName := ⟨RX6, "type", "(I)I"⟩
abbrev cX6_clear : ByteArray := prog_8_method_74_code
def yX6_clear : MethodName := ⟨RX6, "clear", "()I"⟩
abbrev cX6_isAt : ByteArray := prog_8_method_75_code
def yX6_isAt : MethodName := ⟨RX6, "isAt", "(II)Z"⟩
abbrev cX6_blanks : ByteArray := prog_8_method_76_code
def yX6_blanks : MethodName := ⟨RX6, "blanks", "()V"⟩
abbrev cX6_number : ByteArray := prog_8_method_77_code
def yX6_number : MethodName := ⟨RX6, "number", "()I"⟩
abbrev cX6_isDone : ByteArray := prog_8_method_78_code
def yX6_isDone : MethodName := ⟨RX6, "isDone", "(I)Z"⟩
abbrev cX6_reads : ByteArray := prog_8_method_79_code
def yX6_reads : MethodName := ⟨RX6, "reads", "(Z)I"⟩
abbrev cX6_does : ByteArray := prog_8_method_80_code
def yX6_does : MethodName := ⟨RX6, "does", "()I"⟩
abbrev cX6_toldOf : ByteArray := prog_8_method_81_code
def yX6_toldOf : MethodName := ⟨RX6, "toldOf", "(I)I"⟩
abbrev cX6_told : ByteArray := prog_8_method_82_code
def yX6_told : MethodName := ⟨RX6, "told", "(I)I"⟩
abbrev cX6_digest : ByteArray := prog_8_method_83_code
def yX6_digest : MethodName := ⟨RX6, "digest", "()J"⟩
def RJxe99ae : String := "java/lang/Double"
def TJxe99ae : u_T := fun k => match k with
  | _ => ("", "", "", false)
def tyJxe99ae : Nat → FieldType := fun k => match k with
  | _ => .int
abbrev wsJxe99ae0 : List Cond := u_ws RJxe99ae TJxe99ae 0
theorem nmJxe99ae : ∀ a, a < 0 → ∀ b, b < 0 → a ≠ b → (TJxe99ae a).2.1 ≠ (TJxe99ae b).2.1 := by decide +kernel
theorem tyJxe99ae_ok : ∀ k, k < 0 → parseFieldDescriptor (TJxe99ae k).2.2.1 = some (tyJxe99ae k) := by decide +kernel
abbrev cJxe99ae_isNaN_b9ae7 : ByteArray := prog_9_method_6_code
def yJxe99ae_isNaN_b9ae7 : MethodName := ⟨RJxe99ae, "isNaN", "(D)Z"⟩
abbrev cJxe99ae_doubleToLongBits_ccdee : ByteArray := prog_9_method_23_code
def yJxe99ae_doubleToLongBits_ccdee : MethodName := ⟨RJxe99ae, "doubleToLongBits", "(D)J"⟩
def RJxf58ca : String := "java/lang/Float"
def TJxf58ca : u_T := fun k => match k with
  | _ => ("", "", "", false)
def tyJxf58ca : Nat → FieldType := fun k => match k with
  | _ => .int
abbrev wsJxf58ca0 : List Cond := u_ws RJxf58ca TJxf58ca 0
theorem nmJxf58ca : ∀ a, a < 0 → ∀ b, b < 0 → a ≠ b → (TJxf58ca a).2.1 ≠ (TJxf58ca b).2.1 := by decide +kernel
theorem tyJxf58ca_ok : ∀ k, k < 0 → parseFieldDescriptor (TJxf58ca k).2.2.1 = some (tyJxf58ca k) := by decide +kernel
abbrev cJxf58ca_isNaN_12338 : ByteArray := prog_10_method_6_code
def yJxf58ca_isNaN_12338 : MethodName := ⟨RJxf58ca, "isNaN", "(F)Z"⟩
abbrev cJxf58ca_floatToIntBits_5c35a : ByteArray := prog_10_method_24_code
def yJxf58ca_floatToIntBits_5c35a : MethodName := ⟨RJxf58ca, "floatToIntBits", "(F)I"⟩
def RJ6 : String := "java/lang/Integer"
def TJ6 : u_T := fun k => match k with
  | _ => ("", "", "", false)
def tyJ6 : Nat → FieldType := fun k => match k with
  | _ => .int
abbrev wsJ60 : List Cond := u_ws RJ6 TJ6 0
theorem nmJ6 : ∀ a, a < 0 → ∀ b, b < 0 → a ≠ b → (TJ6 a).2.1 ≠ (TJ6 b).2.1 := by decide +kernel
theorem tyJ6_ok : ∀ k, k < 0 → parseFieldDescriptor (TJ6 k).2.2.1 = some (tyJ6 k) := by decide +kernel
abbrev cJ6_bitCount_0f7a4 : ByteArray := prog_11_method_49_code
def yJ6_bitCount_0f7a4 : MethodName := ⟨RJ6, "bitCount", "(I)I"⟩
def RJ10 : String := "java/lang/System"
def TJ10 : u_T := fun k => match k with
  | _ => ("", "", "", false)
def tyJ10 : Nat → FieldType := fun k => match k with
  | _ => .int
abbrev wsJ100 : List Cond := u_ws RJ10 TJ10 0
theorem nmJ10 : ∀ a, a < 0 → ∀ b, b < 0 → a ≠ b → (TJ10 a).2.1 ≠ (TJ10 b).2.1 := by decide +kernel
theorem tyJ10_ok : ∀ k, k < 0 → parseFieldDescriptor (TJ10 k).2.2.1 = some (tyJ10 k) := by decide +kernel
def RL : String := "PieceSwarmLaw"
abbrev cL_law : ByteArray := code
def yL_law : MethodName := ⟨RL, "law", "([I)Z"⟩
theorem inX0 : ∀ w ∈ wsX00, w ∈ lw_tbl := by decide +kernel
theorem inX1 : ∀ w ∈ wsX10, w ∈ lw_tbl := by decide +kernel
theorem inX2 : ∀ w ∈ wsX20, w ∈ lw_tbl := by decide +kernel
theorem inX3 : ∀ w ∈ wsX30, w ∈ lw_tbl := by decide +kernel
theorem inX4 : ∀ w ∈ wsX40, w ∈ lw_tbl := by decide +kernel
theorem inX5 : ∀ w ∈ wsX50, w ∈ lw_tbl := by decide +kernel
theorem inX6 : ∀ w ∈ wsX60, w ∈ lw_tbl := by decide +kernel
end
section
/-! THE ABSTRACT HEAP: one picture of all cells of the class's object and the reference's object, as they lie behind the two constructors: at the addresses o .. o + 185. What changes are ints, longs and floats alone; references never change. -/
def lw_u : List Cond := lw_tbl.filter goodWord
theorem inU {w : Cond} (h : w ∈ lw_tbl) (g : goodWord w = true) : w ∈ lw_u := List.mem_filter.mpr ⟨h, g⟩
theorem goodU {w : Cond} (h : w ∈ lw_u) : goodWord w = true := (List.mem_filter.mp h).2
theorem inUt {w : Cond} (h : w ∈ lw_u) : w ∈ lw_tbl := (List.mem_filter.mp h).1
theorem goodInU {ws : List Cond} (h : ∀ w ∈ ws, w ∈ lw_u) : GoodIn lw_u ws := fun w hw => ⟨h w hw, good_of_word (goodU (h w hw))⟩
abbrev Hp : Type := (Nat → Nat → Int32) × (Nat → Nat → Int64) × (Nat → Nat → UInt32)
def hI (h : Hp) (a j : Nat) : Int32 := h.1 a j
def hL (h : Hp) (a j : Nat) : Int64 := h.2.1 a j
def hF (h : Hp) (a j : Nat) : UInt32 := h.2.2 a j
def ufn {α : Type} (f : Nat → α) (k : Nat) (v : α) : Nat → α := fun j => if j = k then v else f j
def sI (h : Hp) (a j : Nat) (v : Int32) : Hp := (ufn h.1 a (upd (h.1 a) j v), h.2)
def sL (h : Hp) (a j : Nat) (v : Int64) : Hp := (h.1, ufn h.2.1 a (vp_updL (h.2.1 a) j v), h.2.2)
def sF (h : Hp) (a j : Nat) (v : UInt32) : Hp := (h.1, h.2.1, ufn h.2.2 a (vf_upd (h.2.2 a) j v))
/-- the whole row a (n ints) comes into the row b -/
def cpI (h : Hp) (a b n : Nat) : Hp := (ufn h.1 b (va_cpy (h.1 a) (h.1 b) 0 0 n), h.2)
def cpF (h : Hp) (a b n : Nat) : Hp := (h.1, h.2.1, ufn h.2.2 b (va_cpy (h.2.2 a) (h.2.2 b) 0 0 n))
/-- kinds of cells: 0 Peer, 1 Round, 2 Swarm, 3 Text, 4 PieceSwarm, 5 the reference, 6 ints, 7 floats, 8 longs, 9 booleans, 10 Peers, 11 Swarms; and a row's length -/
def kdS (r : Nat) : Nat × Nat := if r = 0 then (2, 0) else if r = 1 then (6, 4) else if r = 2 then (10, 6) else if (r - 3) % 4 = 0 then (0, 0) else if (r - 3) % 4 = 1 then (6, 32) else if (r - 3) % 4 = 2 then (6, 6) else (7, 6)
def kdR (k : Nat) : Nat × Nat := match k with
  | 0 => (1, 0)
  | 1 => (6, 6)
  | 2 => (6, 8)
  | 3 => (6, 36)
  | 4 => (6, 36)
  | 5 => (3, 0)
  | 6 => (6, 120)
  | 7 => (6, 40)
  | 8 => (6, 40)
  | 9 => (6, 40)
  | 10 => (5, 0)
  | 11 => (6, 3)
  | 12 => (6, 320)
  | 13 => (7, 36)
  | 14 => (6, 1600)
  | 15 => (7, 180)
  | 16 => (8, 5)
  | 17 => (6, 36)
  | 18 => (9, 32)
  | 19 => (6, 36)
  | 20 => (6, 120)
  | 21 => (6, 2)
  | _ => (99, 0)
def kdl (k : Nat) : Nat × Nat := if k = 0 then (4, 0) else if k < 28 then kdS (k - 1) else if k = 28 then (11, 5) else if k < 164 then kdS ((k - 29) % 27) else kdR (k - 164)
def KD (o a c n : Nat) : Prop := o ≤ a ∧ a < o + 186 ∧ kdl (a - o) = (c, n)
abbrev vcls : List vw_C := [(RX1, TX1, 12), (RX2, TX2, 4), (RX3, TX3, 12), (RX4, TX4, 9), (RX5, TX5, 9), (RX6, TX6, 16)]
def fl (c a : Nat) (u : Nat → Int32) (w : Nat → Int64) : List Value := match c with
  | 0 => [.int (u 0), .int (u 1), .int (u 2), .int (u 3), .int (u 4), .int (u 5), .int (u 6), .int (u 7), .int (u 8), .ref (a + 1), .ref (a + 2), .ref (a + 3)]
  | 1 => [.ref (a + 1), .ref (a + 2), .ref (a + 3), .ref (a + 4)]
  | 2 => [.int (u 0), .int (u 1), .int (u 2), .int (u 3), .int (u 4), .int (u 5), .int (u 6), .int (u 7), .int (u 8), .long (w 9), .ref (a + 1), .ref (a + 2)]
  | 3 => [.int (u 0), .int (u 1), .ref (a + 2), .ref (a + 3), .ref (a + 4), .ref (a + 1), .int (u 6), .int (u 7), .int (u 8)]
  | 4 => [.ref (a + 1), .ref (a + 28), .ref (a + 164), .ref (a + 169), .int (u 4), .int (u 5), .int (u 6), .int (u 7), .int (u 8)]
  | _ => [.ref (a + 1), .ref (a + 2), .ref (a + 3), .long (w 3), .int (u 4), .ref (a + 4), .ref (a + 5), .ref (a + 6), .ref (a + 7), .ref (a + 8), .ref (a + 9), .ref (a + 10), .int (u 12), .int (u 13), .int (u 14), .ref (a + 11)]
def celU (cy : Nat → ClassId) (kn : Nat × Nat) (a : Nat) (u : Nat → Int32) (w : Nat → Int64) (f : Nat → UInt32) : va_E := match kn.1 with
  | 0 => .inr (0, fl 0 a u w)
  | 1 => .inr (1, fl 1 a u w)
  | 2 => .inr (2, fl 2 a u w)
  | 3 => .inr (3, fl 3 a u w)
  | 4 => .inr (4, fl 4 a u w)
  | 5 => .inr (5, fl 5 a u w)
  | 6 => .inl (cy 0, kn.2, .inl u)
  | 7 => .inl (cy 1, kn.2, .inr (.inr (.inl f)))
  | 8 => .inl (cy 2, kn.2, .inr (.inl w))
  | 9 => .inl (cy 3, kn.2, .inl u)
  | 10 => .inl (cy 4, kn.2, .inr (.inr (.inr (.inr (fun j => some (a + 1 + 4 * j))))))
  | _ => .inl (cy 5, kn.2, .inr (.inr (.inr (.inr (fun j => some (a + 1 + 27 * j))))))
def cel (cy : Nat → ClassId) (h : Hp) (o a : Nat) : va_E := celU cy (kdl (a - o)) a (h.1 a) (h.2.1 a) (h.2.2 a)
def wsO (cy : Nat → ClassId) (h : Hp) (o : Nat) : va_W := (List.range 186).map (fun k => (o + k, cel cy h o (o + k)))
abbrev tysO (cy : Nat → ClassId) : List (ClassId × FieldType) := [(cy 0, .int), (cy 1, .float), (cy 2, .long), (cy 3, .boolean), (cy 4, .object "PieceSwarm$Peer"), (cy 5, .object "PieceSwarm$Swarm")]
theorem wsO_at {cy : Nat → ClassId} {h : Hp} {o a c n : Nat} (k : KD o a c n) : (wsO cy h o)[a - o]? = some (a, cel cy h o a) := by
  obtain ⟨h1, h2, -⟩ := k
  unfold wsO
  rw [List.getElem?_map, List.getElem?_range (by omega)]
  show some (o + (a - o), cel cy h o (o + (a - o))) = _
  rw [Nat.add_sub_cancel' h1]
theorem wsO_k {cy : Nat → ClassId} {h : Hp} {o a c n : Nat} (k : KD o a c n) : (wsO cy h o)[a - o]? = some (a, celU cy (c, n) a (h.1 a) (h.2.1 a) (h.2.2 a)) := by
  rw [wsO_at k]
  unfold cel
  rw [k.2.2]
theorem wsO_obj {cy : Nat → ClassId} {h : Hp} {o a c n : Nat} (k : KD o a c n) (hc : c < 6) : (wsO cy h o)[a - o]? = some (a, .inr (c, fl c a (h.1 a) (h.2.1 a))) := by
  rw [wsO_k k]
  rcases (show c = 0 ∨ c = 1 ∨ c = 2 ∨ c = 3 ∨ c = 4 ∨ c = 5 by omega) with rfl | rfl | rfl | rfl | rfl | rfl <;> rfl
theorem wsO_set {cy : Nat → ClassId} {h h2 : Hp} {o a c n : Nat} {e : va_E} (k : KD o a c n) (he : celU cy (c, n) a (h2.1 a) (h2.2.1 a) (h2.2.2 a) = e) (hne : ∀ b, b ≠ a → h2.1 b = h.1 b ∧ h2.2.1 b = h.2.1 b ∧ h2.2.2 b = h.2.2 b) : (wsO cy h o).set (a - o) (a, e) = wsO cy h2 o := by
  obtain ⟨h1, hlt, hk⟩ := k
  apply List.ext_getElem?
  intro i
  by_cases hi : i = a - o
  · subst hi
    rw [List.getElem?_set_self (by unfold wsO; rw [List.length_map, List.length_range]; omega), wsO_k (h := h2) ⟨h1, hlt, hk⟩, he]
  · rw [List.getElem?_set_ne (Ne.symm hi)]
    unfold wsO
    rw [List.getElem?_map, List.getElem?_map]
    by_cases hr : i < 186
    · rw [List.getElem?_range hr]
      show some (o + i, _) = some (o + i, _)
      unfold cel
      obtain ⟨e1, e2, e3⟩ := hne (o + i) (by omega)
      rw [e1, e2, e3]
    · rw [List.getElem?_eq_none (by rw [List.length_range]; omega)]; rfl
theorem ufn_same {α : Type} (f : Nat → α) (k : Nat) (v : α) : ufn f k v k = v := by unfold ufn; rw [if_pos rfl]
theorem ufn_ne {α : Type} (f : Nat → α) {k j : Nat} (v : α) (h : j ≠ k) : ufn f k v j = f j := by unfold ufn; rw [if_neg h]
theorem sI_ne (h : Hp) (a j : Nat) (v : Int32) : ∀ b, b ≠ a → (sI h a j v).1 b = h.1 b ∧ (sI h a j v).2.1 b = h.2.1 b ∧ (sI h a j v).2.2 b = h.2.2 b := fun b hb => ⟨ufn_ne _ _ hb, rfl, rfl⟩
theorem sL_ne (h : Hp) (a j : Nat) (v : Int64) : ∀ b, b ≠ a → (sL h a j v).1 b = h.1 b ∧ (sL h a j v).2.1 b = h.2.1 b ∧ (sL h a j v).2.2 b = h.2.2 b := fun b hb => ⟨rfl, ufn_ne _ _ hb, rfl⟩
theorem sF_ne (h : Hp) (a j : Nat) (v : UInt32) : ∀ b, b ≠ a → (sF h a j v).1 b = h.1 b ∧ (sF h a j v).2.1 b = h.2.1 b ∧ (sF h a j v).2.2 b = h.2.2 b := fun b hb => ⟨rfl, rfl, ufn_ne _ _ hb⟩
theorem cpI_ne (h : Hp) (a0 a n : Nat) : ∀ b, b ≠ a → (cpI h a0 a n).1 b = h.1 b ∧ (cpI h a0 a n).2.1 b = h.2.1 b ∧ (cpI h a0 a n).2.2 b = h.2.2 b := fun b hb => ⟨ufn_ne _ _ hb, rfl, rfl⟩
theorem cpF_ne (h : Hp) (a0 a n : Nat) : ∀ b, b ≠ a → (cpF h a0 a n).1 b = h.1 b ∧ (cpF h a0 a n).2.1 b = h.2.1 b ∧ (cpF h a0 a n).2.2 b = h.2.2 b := fun b hb => ⟨rfl, rfl, ufn_ne _ _ hb⟩
/-- the tables that the class has as constants (0 FIRST, 1 LEAST, 2 MOST) and the script (3) -/
abbrev Gl : Type := Nat × (Nat → Nat) × Nat × (Nat → Int32)
def sa (k j : Nat) : Int32 := match k, j with
  | 0, 0 => 2
  | 0, 1 => 5
  | 0, 2 => 2
  | 0, _ => 3
  | 1, 0 => 1
  | 1, 1 => 0
  | 1, 2 => 0
  | 1, _ => 1
  | _, 0 => 4
  | _, 1 => 9
  | _, 2 => 8
  | _, _ => 9
def saN (k : Nat) : String := match k with
  | 0 => "FIRST_SETTING"
  | 1 => "LEAST_SETTING"
  | _ => "MOST_SETTING"
def saI (k : Nat) : Nat := match k with
  | 0 => 9
  | 1 => 100
  | _ => 103
def tbN (g : Gl) (k : Nat) : Nat := if k = 3 then g.2.2.1 else 4
def tbF (g : Gl) (k j : Nat) : Int32 := if k = 3 then g.2.2.2 j else sa k j
def St (g : Gl) (A : Nat → Prop) (s : State) : Prop := (∀ k, k < 4 → va_T .int (g.2.1 k) (tbN g k) (fun j => .int (tbF g k j)) A s s.heap) ∧ (∀ k, k < 3 → va_Z "PieceSwarm" (saN k) "[I" (.ref (g.2.1 k)) A s s.heap ∧ va_Nw (.fieldLinkNest "PieceSwarm$Swarm" (saI k) "PieceSwarm" (saN k) "[I" "PieceSwarm") s)
def Cx (y : MethodName) (cc : ByteArray) (maxL fr lc : Nat) (g : Gl) (D : va_G) (cy : Nat → ClassId) (A : Nat → Prop) (p : Program) (R : Room) (s : State) (m : MethodId) (args : Array Value) (c : Code) (cells slots : Nat) : Prop :=
  p.tables.exec = Jvm.exec ∧ c.code = cc ∧ c.maxLocals = maxL ∧ s.vm.findClass y.cls = some m.cls ∧ (∀ w ∈ lw_u, w.before args s = true) ∧ (fr ≤ R.frames ∧ lc ≤ R.locals) ∧ (cells ≤ R.cells ∧ slots ≤ R.slots) ∧ va_K D vcls (tysO cy) s ∧ St g A s ∧ (∀ q, s.heap.size ≤ q → A q)
def retI (r : Option Value) (ig : Instr) : Prop := match r with
  | none => ig = .return_
  | some (.int _) => ig = .ireturn
  | some (.long _) => ig = .lreturn
  | some (.float _) => ig = .freturn
  | some (.double _) => ig = .dreturn
  | _ => False
def retOK (ret : Option FieldType) (r : Option Value) : Prop := match r with
  | none => ret = none
  | some (.int v) => ∃ ty, ret = some ty ∧ narrow ty (.int v) = .int v
  | some (.long _) => ret = some .long
  | some (.float _) => ret = some .float
  | some (.double _) => ret = some .double
  | _ => False
/-- from pc with the stack st, the locals lv, the heap h, the method comes to its end with the answer r and the heap h2: in every surrounding -/
def Ev (y : MethodName) (cc : ByteArray) (maxL : Nat) (ret : Option FieldType) (fr lc : Nat) (g : Gl) (pc : Nat) (st : List Value) (lv : List (Nat × Value)) (h : Hp) (r : Option Value) (h2 : Hp) : Prop :=
  ∀ (p : Program) (l : Launch) (e : Env) (R : Room) (s : State) (m : MethodId) (args : Array Value) (below : List Frame) (meth : Method) (c : Code) (D : va_G) (cy : Nat → ClassId) (A : Nat → Prop) (cells slots : Nat) (Q : State → Prop),
    Cx y cc maxL fr lc g D cy A p R s m args c cells slots →
    (∀ (H1 : Heap) (locs1 : List Loc) (ls1 : Array Slot) (pc1 : Nat) (ig : Instr), retI r ig → retOK ret r → decode cc pc1 = .ok (ig, 1) → va_P D vcls (wsO cy h2 g.1) H1 → va_S A s.heap H1 locs1 → W p l e R s m args below meth c H1 locs1 cells slots Q (F0 m pc1 ls1 r.toList)) →
    ∀ (H : Heap) (locs : List Loc) (ls : Array Slot), va_P D vcls (wsO cy h g.1) H → va_D A (wsO cy h g.1) → va_S A s.heap H locs → lv_has ls maxL lv →
      W p l e R s m args below meth c H locs cells slots Q (F0 m pc ls st)
theorem wsO_D {cy : Nat → ClassId} {h h2 : Hp} {o : Nat} {A : Nat → Prop} (hD : va_D A (wsO cy h o)) : va_D A (wsO cy h2 o) := by
  have key : ∀ (i : Nat) (q : Nat × va_E), (wsO cy h2 o)[i]? = some q → ∃ q0, (wsO cy h o)[i]? = some q0 ∧ q0.1 = q.1 := by
    intro i q hq
    unfold wsO at hq ⊢
    rw [List.getElem?_map] at hq ⊢
    cases hr : (List.range 186)[i]? with
    | none => rw [hr] at hq; cases hq
    | some k =>
      rw [hr] at hq
      cases hq
      exact ⟨_, rfl, rfl⟩
  refine ⟨fun i j p q hi hj e => ?_, fun k q hk => ?_⟩
  · obtain ⟨p0, a1, a2⟩ := key i p hi
    obtain ⟨q0, b1, b2⟩ := key j q hj
    exact hD.1 i j p0 q0 a1 b1 (a2.trans (e.trans b2.symm))
  · obtain ⟨q0, b1, b2⟩ := key k q hk
    rw [← b2]
    exact hD.2 k q0 b1
end
section
section EvRows
variable {y : MethodName} {cc : ByteArray} {maxL fr lc : Nat} {ret : Option FieldType} {g : Gl} {pc : Nat} {st : List Value} {lv lv2 : List (Nat × Value)} {h h2 : Hp} {r : Option Value}
theorem ev_iload_n {q : Fin 4} {i n : Nat} {x : Int32} (d : decode cc pc = .ok (.iload_n q, 1)) (hi : (q : Nat) = i) (hn : lv[n]? = some (i, .int x)) (k : Ev y cc maxL ret fr lc g (pc + 1) (.int x :: st) lv h r h2) : Ev y cc maxL ret fr lc g pc (st) lv h r h2 := by
  intro p l e R s m args below meth c D cy A cells slots Q C hr H locs ls hP hD hS hl
  exact lv_iload_n C.1 C.2.1 d hi (lv_at hl n hn) (k p l e R s m args below meth c D cy A cells slots Q C hr H locs ls hP hD hS hl)
theorem ev_iload {i n : Nat} {x : Int32} (d : decode cc pc = .ok (.iload i, 2)) (hn : lv[n]? = some (i, .int x)) (k : Ev y cc maxL ret fr lc g (pc + 2) (.int x :: st) lv h r h2) : Ev y cc maxL ret fr lc g pc (st) lv h r h2 := by
  intro p l e R s m args below meth c D cy A cells slots Q C hr H locs ls hP hD hS hl
  exact lv_iload C.1 C.2.1 d (lv_at hl n hn) (k p l e R s m args below meth c D cy A cells slots Q C hr H locs ls hP hD hS hl)
theorem ev_lload_n {q : Fin 4} {i n : Nat} {x : Int64} (d : decode cc pc = .ok (.lload_n q, 1)) (hi : (q : Nat) = i) (hn : lv[n]? = some (i, .long x)) (k : Ev y cc maxL ret fr lc g (pc + 1) (.long x :: st) lv h r h2) : Ev y cc maxL ret fr lc g pc (st) lv h r h2 := by
  intro p l e R s m args below meth c D cy A cells slots Q C hr H locs ls hP hD hS hl
  exact lv_lload_n C.1 C.2.1 d hi (lv_at hl n hn) (k p l e R s m args below meth c D cy A cells slots Q C hr H locs ls hP hD hS hl)
theorem ev_lload {i n : Nat} {x : Int64} (d : decode cc pc = .ok (.lload i, 2)) (hn : lv[n]? = some (i, .long x)) (k : Ev y cc maxL ret fr lc g (pc + 2) (.long x :: st) lv h r h2) : Ev y cc maxL ret fr lc g pc (st) lv h r h2 := by
  intro p l e R s m args below meth c D cy A cells slots Q C hr H locs ls hP hD hS hl
  exact lv_lload C.1 C.2.1 d (lv_at hl n hn) (k p l e R s m args below meth c D cy A cells slots Q C hr H locs ls hP hD hS hl)
theorem ev_fload_n {q : Fin 4} {i n : Nat} {x : UInt32} (d : decode cc pc = .ok (.fload_n q, 1)) (hi : (q : Nat) = i) (hn : lv[n]? = some (i, .float x)) (k : Ev y cc maxL ret fr lc g (pc + 1) (.float x :: st) lv h r h2) : Ev y cc maxL ret fr lc g pc (st) lv h r h2 := by
  intro p l e R s m args below meth c D cy A cells slots Q C hr H locs ls hP hD hS hl
  exact lv_fload_n C.1 C.2.1 d hi (lv_at hl n hn) (k p l e R s m args below meth c D cy A cells slots Q C hr H locs ls hP hD hS hl)
theorem ev_fload {i n : Nat} {x : UInt32} (d : decode cc pc = .ok (.fload i, 2)) (hn : lv[n]? = some (i, .float x)) (k : Ev y cc maxL ret fr lc g (pc + 2) (.float x :: st) lv h r h2) : Ev y cc maxL ret fr lc g pc (st) lv h r h2 := by
  intro p l e R s m args below meth c D cy A cells slots Q C hr H locs ls hP hD hS hl
  exact lv_fload C.1 C.2.1 d (lv_at hl n hn) (k p l e R s m args below meth c D cy A cells slots Q C hr H locs ls hP hD hS hl)
theorem ev_dload_n {q : Fin 4} {i n : Nat} {x : UInt64} (d : decode cc pc = .ok (.dload_n q, 1)) (hi : (q : Nat) = i) (hn : lv[n]? = some (i, .double x)) (k : Ev y cc maxL ret fr lc g (pc + 1) (.double x :: st) lv h r h2) : Ev y cc maxL ret fr lc g pc (st) lv h r h2 := by
  intro p l e R s m args below meth c D cy A cells slots Q C hr H locs ls hP hD hS hl
  exact lv_dload_n C.1 C.2.1 d hi (lv_at hl n hn) (k p l e R s m args below meth c D cy A cells slots Q C hr H locs ls hP hD hS hl)
theorem ev_dload {i n : Nat} {x : UInt64} (d : decode cc pc = .ok (.dload i, 2)) (hn : lv[n]? = some (i, .double x)) (k : Ev y cc maxL ret fr lc g (pc + 2) (.double x :: st) lv h r h2) : Ev y cc maxL ret fr lc g pc (st) lv h r h2 := by
  intro p l e R s m args below meth c D cy A cells slots Q C hr H locs ls hP hD hS hl
  exact lv_dload C.1 C.2.1 d (lv_at hl n hn) (k p l e R s m args below meth c D cy A cells slots Q C hr H locs ls hP hD hS hl)
theorem ev_aload_n {q : Fin 4} {i n : Nat} {x : Nat} (d : decode cc pc = .ok (.aload_n q, 1)) (hi : (q : Nat) = i) (hn : lv[n]? = some (i, .ref x)) (k : Ev y cc maxL ret fr lc g (pc + 1) (.ref x :: st) lv h r h2) : Ev y cc maxL ret fr lc g pc (st) lv h r h2 := by
  intro p l e R s m args below meth c D cy A cells slots Q C hr H locs ls hP hD hS hl
  exact lv_aload_n C.1 C.2.1 d hi (lv_at hl n hn) (k p l e R s m args below meth c D cy A cells slots Q C hr H locs ls hP hD hS hl)
theorem ev_aload {i n : Nat} {x : Nat} (d : decode cc pc = .ok (.aload i, 2)) (hn : lv[n]? = some (i, .ref x)) (k : Ev y cc maxL ret fr lc g (pc + 2) (.ref x :: st) lv h r h2) : Ev y cc maxL ret fr lc g pc (st) lv h r h2 := by
  intro p l e R s m args below meth c D cy A cells slots Q C hr H locs ls hP hD hS hl
  exact lv_aload C.1 C.2.1 d (lv_at hl n hn) (k p l e R s m args below meth c D cy A cells slots Q C hr H locs ls hP hD hS hl)
theorem ev_istore_n {q : Fin 4} {i : Nat} {x : Int32} (d : decode cc pc = .ok (.istore_n q, 1)) (hi : (q : Nat) = i) (hn : i < maxL) (hv : (i, Value.int x) :: lv.filter (fun q => !(q.1 == i) && !(q.1 + 1 == i && q.2.category == 2)) = lv2) (k : Ev y cc maxL ret fr lc g (pc + 1) st lv2 h r h2) : Ev y cc maxL ret fr lc g pc (.int x :: st) lv h r h2 := by
  intro p l e R s m args below meth c D cy A cells slots Q C hr H locs ls hP hD hS hl
  exact lv_istore_n C.1 C.2.1 d hi hl hn hv (fun ls hl => k p l e R s m args below meth c D cy A cells slots Q C hr H locs ls hP hD hS hl)
theorem ev_istore {i : Nat} {x : Int32} (d : decode cc pc = .ok (.istore i, 2)) (hn : i < maxL) (hv : (i, Value.int x) :: lv.filter (fun q => !(q.1 == i) && !(q.1 + 1 == i && q.2.category == 2)) = lv2) (k : Ev y cc maxL ret fr lc g (pc + 2) st lv2 h r h2) : Ev y cc maxL ret fr lc g pc (.int x :: st) lv h r h2 := by
  intro p l e R s m args below meth c D cy A cells slots Q C hr H locs ls hP hD hS hl
  exact lv_istore C.1 C.2.1 d hl hn hv (fun ls hl => k p l e R s m args below meth c D cy A cells slots Q C hr H locs ls hP hD hS hl)
theorem ev_lstore_n {q : Fin 4} {i : Nat} {x : Int64} (d : decode cc pc = .ok (.lstore_n q, 1)) (hi : (q : Nat) = i) (hn : i + 1 < maxL) (hv : (i, Value.long x) :: lv.filter (fun q => !(q.1 == i) && (!(q.1 == i + 1) && !(q.1 + 1 == i && q.2.category == 2))) = lv2) (k : Ev y cc maxL ret fr lc g (pc + 1) st lv2 h r h2) : Ev y cc maxL ret fr lc g pc (.long x :: st) lv h r h2 := by
  intro p l e R s m args below meth c D cy A cells slots Q C hr H locs ls hP hD hS hl
  exact lv_lstore_n C.1 C.2.1 d hi hl hn hv (fun ls hl => k p l e R s m args below meth c D cy A cells slots Q C hr H locs ls hP hD hS hl)
theorem ev_lstore {i : Nat} {x : Int64} (d : decode cc pc = .ok (.lstore i, 2)) (hn : i + 1 < maxL) (hv : (i, Value.long x) :: lv.filter (fun q => !(q.1 == i) && (!(q.1 == i + 1) && !(q.1 + 1 == i && q.2.category == 2))) = lv2) (k : Ev y cc maxL ret fr lc g (pc + 2) st lv2 h r h2) : Ev y cc maxL ret fr lc g pc (.long x :: st) lv h r h2 := by
  intro p l e R s m args below meth c D cy A cells slots Q C hr H locs ls hP hD hS hl
  exact lv_lstore C.1 C.2.1 d hl hn hv (fun ls hl => k p l e R s m args below meth c D cy A cells slots Q C hr H locs ls hP hD hS hl)
theorem ev_fstore_n {q : Fin 4} {i : Nat} {x : UInt32} (d : decode cc pc = .ok (.fstore_n q, 1)) (hi : (q : Nat) = i) (hn : i < maxL) (hv : (i, Value.float x) :: lv.filter (fun q => !(q.1 == i) && !(q.1 + 1 == i && q.2.category == 2)) = lv2) (k : Ev y cc maxL ret fr lc g (pc + 1) st lv2 h r h2) : Ev y cc maxL ret fr lc g pc (.float x :: st) lv h r h2 := by
  intro p l e R s m args below meth c D cy A cells slots Q C hr H locs ls hP hD hS hl
  exact lv_fstore_n C.1 C.2.1 d hi hl hn hv (fun ls hl => k p l e R s m args below meth c D cy A cells slots Q C hr H locs ls hP hD hS hl)
theorem ev_fstore {i : Nat} {x : UInt32} (d : decode cc pc = .ok (.fstore i, 2)) (hn : i < maxL) (hv : (i, Value.float x) :: lv.filter (fun q => !(q.1 == i) && !(q.1 + 1 == i && q.2.category == 2)) = lv2) (k : Ev y cc maxL ret fr lc g (pc + 2) st lv2 h r h2) : Ev y cc maxL ret fr lc g pc (.float x :: st) lv h r h2 := by
  intro p l e R s m args below meth c D cy A cells slots Q C hr H locs ls hP hD hS hl
  exact lv_fstore C.1 C.2.1 d hl hn hv (fun ls hl => k p l e R s m args below meth c D cy A cells slots Q C hr H locs ls hP hD hS hl)
theorem ev_dstore_n {q : Fin 4} {i : Nat} {x : UInt64} (d : decode cc pc = .ok (.dstore_n q, 1)) (hi : (q : Nat) = i) (hn : i + 1 < maxL) (hv : (i, Value.double x) :: lv.filter (fun q => !(q.1 == i) && (!(q.1 == i + 1) && !(q.1 + 1 == i && q.2.category == 2))) = lv2) (k : Ev y cc maxL ret fr lc g (pc + 1) st lv2 h r h2) : Ev y cc maxL ret fr lc g pc (.double x :: st) lv h r h2 := by
  intro p l e R s m args below meth c D cy A cells slots Q C hr H locs ls hP hD hS hl
  exact lv_dstore_n C.1 C.2.1 d hi hl hn hv (fun ls hl => k p l e R s m args below meth c D cy A cells slots Q C hr H locs ls hP hD hS hl)
theorem ev_dstore {i : Nat} {x : UInt64} (d : decode cc pc = .ok (.dstore i, 2)) (hn : i + 1 < maxL) (hv : (i, Value.double x) :: lv.filter (fun q => !(q.1 == i) && (!(q.1 == i + 1) && !(q.1 + 1 == i && q.2.category == 2))) = lv2) (k : Ev y cc maxL ret fr lc g (pc + 2) st lv2 h r h2) : Ev y cc maxL ret fr lc g pc (.double x :: st) lv h r h2 := by
  intro p l e R s m args below meth c D cy A cells slots Q C hr H locs ls hP hD hS hl
  exact lv_dstore C.1 C.2.1 d hl hn hv (fun ls hl => k p l e R s m args below meth c D cy A cells slots Q C hr H locs ls hP hD hS hl)
theorem ev_astore_n {q : Fin 4} {i : Nat} {x : Nat} (d : decode cc pc = .ok (.astore_n q, 1)) (hi : (q : Nat) = i) (hn : i < maxL) (hv : (i, Value.ref x) :: lv.filter (fun q => !(q.1 == i) && !(q.1 + 1 == i && q.2.category == 2)) = lv2) (k : Ev y cc maxL ret fr lc g (pc + 1) st lv2 h r h2) : Ev y cc maxL ret fr lc g pc (.ref x :: st) lv h r h2 := by
  intro p l e R s m args below meth c D cy A cells slots Q C hr H locs ls hP hD hS hl
  exact lv_astore_n C.1 C.2.1 d hi hl hn hv (fun ls hl => k p l e R s m args below meth c D cy A cells slots Q C hr H locs ls hP hD hS hl)
theorem ev_astore {i : Nat} {x : Nat} (d : decode cc pc = .ok (.astore i, 2)) (hn : i < maxL) (hv : (i, Value.ref x) :: lv.filter (fun q => !(q.1 == i) && !(q.1 + 1 == i && q.2.category == 2)) = lv2) (k : Ev y cc maxL ret fr lc g (pc + 2) st lv2 h r h2) : Ev y cc maxL ret fr lc g pc (.ref x :: st) lv h r h2 := by
  intro p l e R s m args below meth c D cy A cells slots Q C hr H locs ls hP hD hS hl
  exact lv_astore C.1 C.2.1 d hl hn hv (fun ls hl => k p l e R s m args below meth c D cy A cells slots Q C hr H locs ls hP hD hS hl)
theorem ev_iinc {i z : Nat} {n : Int} {x v : Int32} (d : decode cc pc = .ok (.iinc i n, 3)) (hk : lv[z]? = some (i, .int x)) (hx : x + Int32.ofInt n = v) (hn : i < maxL) (hv : (i, Value.int v) :: lv.filter (fun q => !(q.1 == i) && !(q.1 + 1 == i && q.2.category == 2)) = lv2) (k : Ev y cc maxL ret fr lc g (pc + 3) st lv2 h r h2) : Ev y cc maxL ret fr lc g pc st lv h r h2 := by
  intro p l e R s m args below meth c D cy A cells slots Q C hr H locs ls hP hD hS hl
  exact lv_iinc C.1 C.2.1 d hl hk hx hn hv (fun ls hl => k p l e R s m args below meth c D cy A cells slots Q C hr H locs ls hP hD hS hl)
theorem ev_sub (ks : List Nat) (hv : lv_pick lv ks = lv2) (k : Ev y cc maxL ret fr lc g pc st lv2 h r h2) : Ev y cc maxL ret fr lc g pc st lv h r h2 := by
  intro p l e R s m args below meth c D cy A cells slots Q C hr H locs ls hP hD hS hl
  exact k p l e R s m args below meth c D cy A cells slots Q C hr H locs ls hP hD hS (lv_sub hl ks hv)
theorem ev_iconst {n : Int} {v : Int32} (d : decode cc pc = .ok (.iconst n, 1)) (hv : Int32.ofInt n = v) (k : Ev y cc maxL ret fr lc g (pc + 1) (.int v :: st) lv h r h2) : Ev y cc maxL ret fr lc g pc (st) lv h r h2 := by
  intro p l e R s m args below meth c D cy A cells slots Q C hr H locs ls hP hD hS hl
  exact lv_iconst C.1 C.2.1 d hv (k p l e R s m args below meth c D cy A cells slots Q C hr H locs ls hP hD hS hl)
theorem ev_bipush {n : Int} {v : Int32} (d : decode cc pc = .ok (.bipush n, 2)) (hv : (Int8.ofInt n).toInt32 = v) (k : Ev y cc maxL ret fr lc g (pc + 2) (.int v :: st) lv h r h2) : Ev y cc maxL ret fr lc g pc (st) lv h r h2 := by
  intro p l e R s m args below meth c D cy A cells slots Q C hr H locs ls hP hD hS hl
  exact lv_bipush C.1 C.2.1 d hv (k p l e R s m args below meth c D cy A cells slots Q C hr H locs ls hP hD hS hl)
theorem ev_sipush {n : Int} {v : Int32} (d : decode cc pc = .ok (.sipush n, 3)) (hv : (Int16.ofInt n).toInt32 = v) (k : Ev y cc maxL ret fr lc g (pc + 3) (.int v :: st) lv h r h2) : Ev y cc maxL ret fr lc g pc (st) lv h r h2 := by
  intro p l e R s m args below meth c D cy A cells slots Q C hr H locs ls hP hD hS hl
  exact lv_sipush C.1 C.2.1 d hv (k p l e R s m args below meth c D cy A cells slots Q C hr H locs ls hP hD hS hl)
theorem ev_lconst {n : Fin 2} {v : Int64} (d : decode cc pc = .ok (.lconst n, 1)) (hv : Int64.ofNat (n : Nat) = v) (k : Ev y cc maxL ret fr lc g (pc + 1) (.long v :: st) lv h r h2) : Ev y cc maxL ret fr lc g pc (st) lv h r h2 := by
  intro p l e R s m args below meth c D cy A cells slots Q C hr H locs ls hP hD hS hl
  exact lv_lconst C.1 C.2.1 d hv (k p l e R s m args below meth c D cy A cells slots Q C hr H locs ls hP hD hS hl)
theorem ev_ldc {x : Nat} {v : Int32} (d : decode cc pc = .ok (.ldc x, 2)) (hw : Cond.constant y.cls x v ∈ lw_u) (k : Ev y cc maxL ret fr lc g (pc + 2) (.int v :: st) lv h r h2) : Ev y cc maxL ret fr lc g pc (st) lv h r h2 := by
  intro p l e R s m args below meth c D cy A cells slots Q C hr H locs ls hP hD hS hl
  exact lv_ldc C.1 C.2.1 (hown := C.2.2.2.1) (C.2.2.2.2.1 _ hw) d (k p l e R s m args below meth c D cy A cells slots Q C hr H locs ls hP hD hS hl)
theorem ev_ldcw {x : Nat} {v : Int32} (d : decode cc pc = .ok (.ldc_w x, 3)) (hw : Cond.constant y.cls x v ∈ lw_u) (k : Ev y cc maxL ret fr lc g (pc + 3) (.int v :: st) lv h r h2) : Ev y cc maxL ret fr lc g pc (st) lv h r h2 := by
  intro p l e R s m args below meth c D cy A cells slots Q C hr H locs ls hP hD hS hl
  exact lv_ldcw C.1 C.2.1 (hown := C.2.2.2.1) (C.2.2.2.2.1 _ hw) d (k p l e R s m args below meth c D cy A cells slots Q C hr H locs ls hP hD hS hl)
theorem ev_ldcf {x : Nat} {v : UInt32} (d : decode cc pc = .ok (.ldc x, 2)) (hw : Cond.constantFloat y.cls x v ∈ lw_u) (k : Ev y cc maxL ret fr lc g (pc + 2) (.float v :: st) lv h r h2) : Ev y cc maxL ret fr lc g pc (st) lv h r h2 := by
  intro p l e R s m args below meth c D cy A cells slots Q C hr H locs ls hP hD hS hl
  exact lv_ldcf C.1 C.2.1 (hown := C.2.2.2.1) (C.2.2.2.2.1 _ hw) d (k p l e R s m args below meth c D cy A cells slots Q C hr H locs ls hP hD hS hl)
theorem ev_ldc2 {x : Nat} {v : Int64} (d : decode cc pc = .ok (.ldc2_w x, 3)) (hw : Cond.constantLong y.cls x v ∈ lw_u) (k : Ev y cc maxL ret fr lc g (pc + 3) (.long v :: st) lv h r h2) : Ev y cc maxL ret fr lc g pc (st) lv h r h2 := by
  intro p l e R s m args below meth c D cy A cells slots Q C hr H locs ls hP hD hS hl
  exact lv_ldc2 C.1 C.2.1 (hown := C.2.2.2.1) (C.2.2.2.2.1 _ hw) d (k p l e R s m args below meth c D cy A cells slots Q C hr H locs ls hP hD hS hl)
theorem ev_ldc2d {x : Nat} {v : UInt64} (d : decode cc pc = .ok (.ldc2_w x, 3)) (hw : Cond.constantDouble y.cls x v ∈ lw_u) (k : Ev y cc maxL ret fr lc g (pc + 3) (.double v :: st) lv h r h2) : Ev y cc maxL ret fr lc g pc (st) lv h r h2 := by
  intro p l e R s m args below meth c D cy A cells slots Q C hr H locs ls hP hD hS hl
  exact lv_ldc2d C.1 C.2.1 (hown := C.2.2.2.1) (C.2.2.2.2.1 _ hw) d (k p l e R s m args below meth c D cy A cells slots Q C hr H locs ls hP hD hS hl)
theorem ev_dup {v : Value} (d : decode cc pc = .ok (.dup, 1)) (hv : v.category = 1) (k : Ev y cc maxL ret fr lc g (pc + 1) (v :: v :: st) lv h r h2) : Ev y cc maxL ret fr lc g pc (v :: st) lv h r h2 := by
  intro p l e R s m args below meth c D cy A cells slots Q C hr H locs ls hP hD hS hl
  exact lv_dup C.1 C.2.1 d hv (k p l e R s m args below meth c D cy A cells slots Q C hr H locs ls hP hD hS hl)
theorem ev_pop {v : Value} (d : decode cc pc = .ok (.pop, 1)) (hv : v.category = 1) (k : Ev y cc maxL ret fr lc g (pc + 1) (st) lv h r h2) : Ev y cc maxL ret fr lc g pc (v :: st) lv h r h2 := by
  intro p l e R s m args below meth c D cy A cells slots Q C hr H locs ls hP hD hS hl
  exact lv_pop C.1 C.2.1 d hv (k p l e R s m args below meth c D cy A cells slots Q C hr H locs ls hP hD hS hl)
theorem ev_dup2 {v u : Value} (d : decode cc pc = .ok (.dup2, 1)) (hv : v.category = 1) (hu : u.category = 1) (k : Ev y cc maxL ret fr lc g (pc + 1) (v :: u :: v :: u :: st) lv h r h2) : Ev y cc maxL ret fr lc g pc (v :: u :: st) lv h r h2 := by
  intro p l e R s m args below meth c D cy A cells slots Q C hr H locs ls hP hD hS hl
  exact lv_dup2_11 C.1 C.2.1 d hv hu (k p l e R s m args below meth c D cy A cells slots Q C hr H locs ls hP hD hS hl)
theorem ev_iadd {x z : Int32} (d : decode cc pc = .ok (.iadd, 1)) (k : Ev y cc maxL ret fr lc g (pc + 1) (.int (x + z) :: st) lv h r h2) : Ev y cc maxL ret fr lc g pc (.int z :: .int x :: st) lv h r h2 := by
  intro p l e R s m args below meth c D cy A cells slots Q C hr H locs ls hP hD hS hl
  exact lv_iadd C.1 C.2.1 d (k p l e R s m args below meth c D cy A cells slots Q C hr H locs ls hP hD hS hl)
theorem ev_isub {x z : Int32} (d : decode cc pc = .ok (.isub, 1)) (k : Ev y cc maxL ret fr lc g (pc + 1) (.int (x - z) :: st) lv h r h2) : Ev y cc maxL ret fr lc g pc (.int z :: .int x :: st) lv h r h2 := by
  intro p l e R s m args below meth c D cy A cells slots Q C hr H locs ls hP hD hS hl
  exact lv_isub C.1 C.2.1 d (k p l e R s m args below meth c D cy A cells slots Q C hr H locs ls hP hD hS hl)
theorem ev_imul {x z : Int32} (d : decode cc pc = .ok (.imul, 1)) (k : Ev y cc maxL ret fr lc g (pc + 1) (.int (x * z) :: st) lv h r h2) : Ev y cc maxL ret fr lc g pc (.int z :: .int x :: st) lv h r h2 := by
  intro p l e R s m args below meth c D cy A cells slots Q C hr H locs ls hP hD hS hl
  exact lv_imul C.1 C.2.1 d (k p l e R s m args below meth c D cy A cells slots Q C hr H locs ls hP hD hS hl)
theorem ev_iand {x z : Int32} (d : decode cc pc = .ok (.iand, 1)) (k : Ev y cc maxL ret fr lc g (pc + 1) (.int (x &&& z) :: st) lv h r h2) : Ev y cc maxL ret fr lc g pc (.int z :: .int x :: st) lv h r h2 := by
  intro p l e R s m args below meth c D cy A cells slots Q C hr H locs ls hP hD hS hl
  exact lv_iand C.1 C.2.1 d (k p l e R s m args below meth c D cy A cells slots Q C hr H locs ls hP hD hS hl)
theorem ev_ior {x z : Int32} (d : decode cc pc = .ok (.ior, 1)) (k : Ev y cc maxL ret fr lc g (pc + 1) (.int (x ||| z) :: st) lv h r h2) : Ev y cc maxL ret fr lc g pc (.int z :: .int x :: st) lv h r h2 := by
  intro p l e R s m args below meth c D cy A cells slots Q C hr H locs ls hP hD hS hl
  exact lv_ior C.1 C.2.1 d (k p l e R s m args below meth c D cy A cells slots Q C hr H locs ls hP hD hS hl)
theorem ev_ixor {x z : Int32} (d : decode cc pc = .ok (.ixor, 1)) (k : Ev y cc maxL ret fr lc g (pc + 1) (.int (x ^^^ z) :: st) lv h r h2) : Ev y cc maxL ret fr lc g pc (.int z :: .int x :: st) lv h r h2 := by
  intro p l e R s m args below meth c D cy A cells slots Q C hr H locs ls hP hD hS hl
  exact lv_ixor C.1 C.2.1 d (k p l e R s m args below meth c D cy A cells slots Q C hr H locs ls hP hD hS hl)
theorem ev_ishl {x z : Int32} (d : decode cc pc = .ok (.ishl, 1)) (k : Ev y cc maxL ret fr lc g (pc + 1) (.int (x <<< (z &&& 31)) :: st) lv h r h2) : Ev y cc maxL ret fr lc g pc (.int z :: .int x :: st) lv h r h2 := by
  intro p l e R s m args below meth c D cy A cells slots Q C hr H locs ls hP hD hS hl
  exact lv_ishl C.1 C.2.1 d (k p l e R s m args below meth c D cy A cells slots Q C hr H locs ls hP hD hS hl)
theorem ev_ishr {x z : Int32} (d : decode cc pc = .ok (.ishr, 1)) (k : Ev y cc maxL ret fr lc g (pc + 1) (.int (x >>> (z &&& 31)) :: st) lv h r h2) : Ev y cc maxL ret fr lc g pc (.int z :: .int x :: st) lv h r h2 := by
  intro p l e R s m args below meth c D cy A cells slots Q C hr H locs ls hP hD hS hl
  exact lv_ishr C.1 C.2.1 d (k p l e R s m args below meth c D cy A cells slots Q C hr H locs ls hP hD hS hl)
theorem ev_iushr {x z : Int32} (d : decode cc pc = .ok (.iushr, 1)) (k : Ev y cc maxL ret fr lc g (pc + 1) (.int ((x.toUInt32 >>> (z.toUInt32 &&& Int32.toUInt32 31)).toInt32) :: st) lv h r h2) : Ev y cc maxL ret fr lc g pc (.int z :: .int x :: st) lv h r h2 := by
  intro p l e R s m args below meth c D cy A cells slots Q C hr H locs ls hP hD hS hl
  exact lv_iushr C.1 C.2.1 d rfl (k p l e R s m args below meth c D cy A cells slots Q C hr H locs ls hP hD hS hl)
theorem ev_idiv {x z : Int32} (d : decode cc pc = .ok (.idiv, 1)) (hz : ¬ z = 0) (k : Ev y cc maxL ret fr lc g (pc + 1) (.int (x / z) :: st) lv h r h2) : Ev y cc maxL ret fr lc g pc (.int z :: .int x :: st) lv h r h2 := by
  intro p l e R s m args below meth c D cy A cells slots Q C hr H locs ls hP hD hS hl
  exact lv_idiv C.1 C.2.1 d hz (k p l e R s m args below meth c D cy A cells slots Q C hr H locs ls hP hD hS hl)
theorem ev_irem {x z : Int32} (d : decode cc pc = .ok (.irem, 1)) (hz : ¬ z = 0) (k : Ev y cc maxL ret fr lc g (pc + 1) (.int (x - x / z * z) :: st) lv h r h2) : Ev y cc maxL ret fr lc g pc (.int z :: .int x :: st) lv h r h2 := by
  intro p l e R s m args below meth c D cy A cells slots Q C hr H locs ls hP hD hS hl
  exact lv_irem C.1 C.2.1 d hz (k p l e R s m args below meth c D cy A cells slots Q C hr H locs ls hP hD hS hl)
theorem ev_ladd {x z : Int64} (d : decode cc pc = .ok (.ladd, 1)) (k : Ev y cc maxL ret fr lc g (pc + 1) (.long (x + z) :: st) lv h r h2) : Ev y cc maxL ret fr lc g pc (.long z :: .long x :: st) lv h r h2 := by
  intro p l e R s m args below meth c D cy A cells slots Q C hr H locs ls hP hD hS hl
  exact lv_ladd C.1 C.2.1 d (k p l e R s m args below meth c D cy A cells slots Q C hr H locs ls hP hD hS hl)
theorem ev_lsub {x z : Int64} (d : decode cc pc = .ok (.lsub, 1)) (k : Ev y cc maxL ret fr lc g (pc + 1) (.long (x - z) :: st) lv h r h2) : Ev y cc maxL ret fr lc g pc (.long z :: .long x :: st) lv h r h2 := by
  intro p l e R s m args below meth c D cy A cells slots Q C hr H locs ls hP hD hS hl
  exact lv_lsub C.1 C.2.1 d (k p l e R s m args below meth c D cy A cells slots Q C hr H locs ls hP hD hS hl)
theorem ev_lmul {x z : Int64} (d : decode cc pc = .ok (.lmul, 1)) (k : Ev y cc maxL ret fr lc g (pc + 1) (.long (x * z) :: st) lv h r h2) : Ev y cc maxL ret fr lc g pc (.long z :: .long x :: st) lv h r h2 := by
  intro p l e R s m args below meth c D cy A cells slots Q C hr H locs ls hP hD hS hl
  exact lv_lmul C.1 C.2.1 d (k p l e R s m args below meth c D cy A cells slots Q C hr H locs ls hP hD hS hl)
theorem ev_ldiv {x z : Int64} (d : decode cc pc = .ok (.ldiv, 1)) (hz : ¬ z = 0) (k : Ev y cc maxL ret fr lc g (pc + 1) (.long (x / z) :: st) lv h r h2) : Ev y cc maxL ret fr lc g pc (.long z :: .long x :: st) lv h r h2 := by
  intro p l e R s m args below meth c D cy A cells slots Q C hr H locs ls hP hD hS hl
  exact lv_ldiv C.1 C.2.1 d hz (k p l e R s m args below meth c D cy A cells slots Q C hr H locs ls hP hD hS hl)
theorem ev_lrem {x z : Int64} (d : decode cc pc = .ok (.lrem, 1)) (hz : ¬ z = 0) (k : Ev y cc maxL ret fr lc g (pc + 1) (.long (x - x / z * z) :: st) lv h r h2) : Ev y cc maxL ret fr lc g pc (.long z :: .long x :: st) lv h r h2 := by
  intro p l e R s m args below meth c D cy A cells slots Q C hr H locs ls hP hD hS hl
  exact lv_lrem C.1 C.2.1 d hz (k p l e R s m args below meth c D cy A cells slots Q C hr H locs ls hP hD hS hl)
theorem ev_lshl {x : Int64} {z : Int32} (d : decode cc pc = .ok (.lshl, 1)) (k : Ev y cc maxL ret fr lc g (pc + 1) (.long (x <<< (z.toInt64 &&& 63)) :: st) lv h r h2) : Ev y cc maxL ret fr lc g pc (.int z :: .long x :: st) lv h r h2 := by
  intro p l e R s m args below meth c D cy A cells slots Q C hr H locs ls hP hD hS hl
  exact lv_lshl C.1 C.2.1 d rfl (k p l e R s m args below meth c D cy A cells slots Q C hr H locs ls hP hD hS hl)
theorem ev_lcmp {x z : Int64} (d : decode cc pc = .ok (.lcmp, 1)) (k : Ev y cc maxL ret fr lc g (pc + 1) (.int (lg_cmp x z) :: st) lv h r h2) : Ev y cc maxL ret fr lc g pc (.long z :: .long x :: st) lv h r h2 := by
  intro p l e R s m args below meth c D cy A cells slots Q C hr H locs ls hP hD hS hl
  exact W.lcmp C.1 C.2.1 d (k p l e R s m args below meth c D cy A cells slots Q C hr H locs ls hP hD hS hl)
theorem ev_fadd {x z : UInt32} (d : decode cc pc = .ok (.fadd, 1)) (hz : vf_n32 (FP.fadd x z)) (k : Ev y cc maxL ret fr lc g (pc + 1) (.float (FP.fadd x z) :: st) lv h r h2) : Ev y cc maxL ret fr lc g pc (.float z :: .float x :: st) lv h r h2 := by
  intro p l e R s m args below meth c D cy A cells slots Q C hr H locs ls hP hD hS hl
  exact lv_fadd C.1 C.2.1 d hz (k p l e R s m args below meth c D cy A cells slots Q C hr H locs ls hP hD hS hl)
theorem ev_fsub {x z : UInt32} (d : decode cc pc = .ok (.fsub, 1)) (hz : vf_n32 (FP.fsub x z)) (k : Ev y cc maxL ret fr lc g (pc + 1) (.float (FP.fsub x z) :: st) lv h r h2) : Ev y cc maxL ret fr lc g pc (.float z :: .float x :: st) lv h r h2 := by
  intro p l e R s m args below meth c D cy A cells slots Q C hr H locs ls hP hD hS hl
  exact lv_fsub C.1 C.2.1 d hz (k p l e R s m args below meth c D cy A cells slots Q C hr H locs ls hP hD hS hl)
theorem ev_fmul {x z : UInt32} (d : decode cc pc = .ok (.fmul, 1)) (hz : vf_n32 (FP.fmul x z)) (k : Ev y cc maxL ret fr lc g (pc + 1) (.float (FP.fmul x z) :: st) lv h r h2) : Ev y cc maxL ret fr lc g pc (.float z :: .float x :: st) lv h r h2 := by
  intro p l e R s m args below meth c D cy A cells slots Q C hr H locs ls hP hD hS hl
  exact lv_fmul C.1 C.2.1 d hz (k p l e R s m args below meth c D cy A cells slots Q C hr H locs ls hP hD hS hl)
theorem ev_fdiv {x z : UInt32} (d : decode cc pc = .ok (.fdiv, 1)) (hz : vf_n32 (FP.fdiv x z)) (k : Ev y cc maxL ret fr lc g (pc + 1) (.float (FP.fdiv x z) :: st) lv h r h2) : Ev y cc maxL ret fr lc g pc (.float z :: .float x :: st) lv h r h2 := by
  intro p l e R s m args below meth c D cy A cells slots Q C hr H locs ls hP hD hS hl
  exact lv_fdiv C.1 C.2.1 d hz (k p l e R s m args below meth c D cy A cells slots Q C hr H locs ls hP hD hS hl)
theorem ev_dadd {x z : UInt64} (d : decode cc pc = .ok (.dadd, 1)) (hz : vf_n64 (FP.dadd x z)) (k : Ev y cc maxL ret fr lc g (pc + 1) (.double (FP.dadd x z) :: st) lv h r h2) : Ev y cc maxL ret fr lc g pc (.double z :: .double x :: st) lv h r h2 := by
  intro p l e R s m args below meth c D cy A cells slots Q C hr H locs ls hP hD hS hl
  exact lv_dadd C.1 C.2.1 d hz (k p l e R s m args below meth c D cy A cells slots Q C hr H locs ls hP hD hS hl)
theorem ev_dsub {x z : UInt64} (d : decode cc pc = .ok (.dsub, 1)) (hz : vf_n64 (FP.dsub x z)) (k : Ev y cc maxL ret fr lc g (pc + 1) (.double (FP.dsub x z) :: st) lv h r h2) : Ev y cc maxL ret fr lc g pc (.double z :: .double x :: st) lv h r h2 := by
  intro p l e R s m args below meth c D cy A cells slots Q C hr H locs ls hP hD hS hl
  exact lv_dsub C.1 C.2.1 d hz (k p l e R s m args below meth c D cy A cells slots Q C hr H locs ls hP hD hS hl)
theorem ev_dmul {x z : UInt64} (d : decode cc pc = .ok (.dmul, 1)) (hz : vf_n64 (FP.dmul x z)) (k : Ev y cc maxL ret fr lc g (pc + 1) (.double (FP.dmul x z) :: st) lv h r h2) : Ev y cc maxL ret fr lc g pc (.double z :: .double x :: st) lv h r h2 := by
  intro p l e R s m args below meth c D cy A cells slots Q C hr H locs ls hP hD hS hl
  exact lv_dmul C.1 C.2.1 d hz (k p l e R s m args below meth c D cy A cells slots Q C hr H locs ls hP hD hS hl)
theorem ev_ddiv {x z : UInt64} (d : decode cc pc = .ok (.ddiv, 1)) (hz : vf_n64 (FP.ddiv x z)) (k : Ev y cc maxL ret fr lc g (pc + 1) (.double (FP.ddiv x z) :: st) lv h r h2) : Ev y cc maxL ret fr lc g pc (.double z :: .double x :: st) lv h r h2 := by
  intro p l e R s m args below meth c D cy A cells slots Q C hr H locs ls hP hD hS hl
  exact lv_ddiv C.1 C.2.1 d hz (k p l e R s m args below meth c D cy A cells slots Q C hr H locs ls hP hD hS hl)
theorem ev_i2l {x : Int32} (d : decode cc pc = .ok (.i2l, 1)) (k : Ev y cc maxL ret fr lc g (pc + 1) (.long x.toInt64 :: st) lv h r h2) : Ev y cc maxL ret fr lc g pc (.int x :: st) lv h r h2 := by
  intro p l e R s m args below meth c D cy A cells slots Q C hr H locs ls hP hD hS hl
  exact lv_i2l C.1 C.2.1 d rfl (k p l e R s m args below meth c D cy A cells slots Q C hr H locs ls hP hD hS hl)
theorem ev_l2i {x : Int64} (d : decode cc pc = .ok (.l2i, 1)) (k : Ev y cc maxL ret fr lc g (pc + 1) (.int x.toInt32 :: st) lv h r h2) : Ev y cc maxL ret fr lc g pc (.long x :: st) lv h r h2 := by
  intro p l e R s m args below meth c D cy A cells slots Q C hr H locs ls hP hD hS hl
  exact lv_l2i C.1 C.2.1 d rfl (k p l e R s m args below meth c D cy A cells slots Q C hr H locs ls hP hD hS hl)
theorem ev_i2f {x : Int32} (d : decode cc pc = .ok (.i2f, 1)) (k : Ev y cc maxL ret fr lc g (pc + 1) (.float (FP.i2f x) :: st) lv h r h2) : Ev y cc maxL ret fr lc g pc (.int x :: st) lv h r h2 := by
  intro p l e R s m args below meth c D cy A cells slots Q C hr H locs ls hP hD hS hl
  exact lv_i2f C.1 C.2.1 d (k p l e R s m args below meth c D cy A cells slots Q C hr H locs ls hP hD hS hl)
theorem ev_i2d {x : Int32} (d : decode cc pc = .ok (.i2d, 1)) (k : Ev y cc maxL ret fr lc g (pc + 1) (.double (FP.i2d x) :: st) lv h r h2) : Ev y cc maxL ret fr lc g pc (.int x :: st) lv h r h2 := by
  intro p l e R s m args below meth c D cy A cells slots Q C hr H locs ls hP hD hS hl
  exact lv_i2d C.1 C.2.1 d (k p l e R s m args below meth c D cy A cells slots Q C hr H locs ls hP hD hS hl)
theorem ev_f2i {x : UInt32} (d : decode cc pc = .ok (.f2i, 1)) (k : Ev y cc maxL ret fr lc g (pc + 1) (.int (FP.f2i x) :: st) lv h r h2) : Ev y cc maxL ret fr lc g pc (.float x :: st) lv h r h2 := by
  intro p l e R s m args below meth c D cy A cells slots Q C hr H locs ls hP hD hS hl
  exact lv_f2i C.1 C.2.1 d (k p l e R s m args below meth c D cy A cells slots Q C hr H locs ls hP hD hS hl)
theorem ev_d2l {x : UInt64} (d : decode cc pc = .ok (.d2l, 1)) (k : Ev y cc maxL ret fr lc g (pc + 1) (.long (FP.d2l x) :: st) lv h r h2) : Ev y cc maxL ret fr lc g pc (.double x :: st) lv h r h2 := by
  intro p l e R s m args below meth c D cy A cells slots Q C hr H locs ls hP hD hS hl
  exact lv_d2l C.1 C.2.1 d (k p l e R s m args below meth c D cy A cells slots Q C hr H locs ls hP hD hS hl)
theorem ev_goto {off : Int} {tgt : Nat} (d : decode cc pc = .ok (.goto off, 3)) (ht : (pc : Int) + off = (tgt : Int)) (k : Ev y cc maxL ret fr lc g tgt st lv h r h2) : Ev y cc maxL ret fr lc g pc st lv h r h2 := by
  intro p l e R s m args below meth c D cy A cells slots Q C hr H locs ls hP hD hS hl
  exact lv_goto C.1 C.2.1 d ht (k p l e R s m args below meth c D cy A cells slots Q C hr H locs ls hP hD hS hl)
theorem ev_if_eq {x : Int32} {off : Int} {tgt : Nat} (d : decode cc pc = .ok (.ifCond .eq off, 3)) (ht : (pc : Int) + off = (tgt : Int)) (kt : x = 0 → Ev y cc maxL ret fr lc g tgt st lv h r h2) (kf : ¬ x = 0 → Ev y cc maxL ret fr lc g (pc + 3) st lv h r h2) : Ev y cc maxL ret fr lc g pc (.int x :: st) lv h r h2 := by
  intro p l e R s m args below meth c D cy A cells slots Q C hr H locs ls hP hD hS hl
  exact lv_if_eq C.1 C.2.1 d ht (fun c1 => kt c1 p l e R s m args below meth c D cy A cells slots Q C hr H locs ls hP hD hS hl) (fun c1 => kf c1 p l e R s m args below meth c D cy A cells slots Q C hr H locs ls hP hD hS hl)
theorem ev_icmp_eq {x y1 : Int32} {off : Int} {tgt : Nat} (d : decode cc pc = .ok (.if_icmp .eq off, 3)) (ht : (pc : Int) + off = (tgt : Int)) (kt : x = y1 → Ev y cc maxL ret fr lc g tgt st lv h r h2) (kf : ¬ x = y1 → Ev y cc maxL ret fr lc g (pc + 3) st lv h r h2) : Ev y cc maxL ret fr lc g pc (.int y1 :: .int x :: st) lv h r h2 := by
  intro p l e R s m args below meth c D cy A cells slots Q C hr H locs ls hP hD hS hl
  exact lv_icmp_eq C.1 C.2.1 d ht (fun c1 => kt c1 p l e R s m args below meth c D cy A cells slots Q C hr H locs ls hP hD hS hl) (fun c1 => kf c1 p l e R s m args below meth c D cy A cells slots Q C hr H locs ls hP hD hS hl)
theorem ev_if_ne {x : Int32} {off : Int} {tgt : Nat} (d : decode cc pc = .ok (.ifCond .ne off, 3)) (ht : (pc : Int) + off = (tgt : Int)) (kt : ¬ x = 0 → Ev y cc maxL ret fr lc g tgt st lv h r h2) (kf : x = 0 → Ev y cc maxL ret fr lc g (pc + 3) st lv h r h2) : Ev y cc maxL ret fr lc g pc (.int x :: st) lv h r h2 := by
  intro p l e R s m args below meth c D cy A cells slots Q C hr H locs ls hP hD hS hl
  exact lv_if_ne C.1 C.2.1 d ht (fun c1 => kt c1 p l e R s m args below meth c D cy A cells slots Q C hr H locs ls hP hD hS hl) (fun c1 => kf c1 p l e R s m args below meth c D cy A cells slots Q C hr H locs ls hP hD hS hl)
theorem ev_icmp_ne {x y1 : Int32} {off : Int} {tgt : Nat} (d : decode cc pc = .ok (.if_icmp .ne off, 3)) (ht : (pc : Int) + off = (tgt : Int)) (kt : ¬ x = y1 → Ev y cc maxL ret fr lc g tgt st lv h r h2) (kf : x = y1 → Ev y cc maxL ret fr lc g (pc + 3) st lv h r h2) : Ev y cc maxL ret fr lc g pc (.int y1 :: .int x :: st) lv h r h2 := by
  intro p l e R s m args below meth c D cy A cells slots Q C hr H locs ls hP hD hS hl
  exact lv_icmp_ne C.1 C.2.1 d ht (fun c1 => kt c1 p l e R s m args below meth c D cy A cells slots Q C hr H locs ls hP hD hS hl) (fun c1 => kf c1 p l e R s m args below meth c D cy A cells slots Q C hr H locs ls hP hD hS hl)
theorem ev_if_lt {x : Int32} {off : Int} {tgt : Nat} (d : decode cc pc = .ok (.ifCond .lt off, 3)) (ht : (pc : Int) + off = (tgt : Int)) (kt : x < 0 → Ev y cc maxL ret fr lc g tgt st lv h r h2) (kf : ¬ x < 0 → Ev y cc maxL ret fr lc g (pc + 3) st lv h r h2) : Ev y cc maxL ret fr lc g pc (.int x :: st) lv h r h2 := by
  intro p l e R s m args below meth c D cy A cells slots Q C hr H locs ls hP hD hS hl
  exact lv_if_lt C.1 C.2.1 d ht (fun c1 => kt c1 p l e R s m args below meth c D cy A cells slots Q C hr H locs ls hP hD hS hl) (fun c1 => kf c1 p l e R s m args below meth c D cy A cells slots Q C hr H locs ls hP hD hS hl)
theorem ev_icmp_lt {x y1 : Int32} {off : Int} {tgt : Nat} (d : decode cc pc = .ok (.if_icmp .lt off, 3)) (ht : (pc : Int) + off = (tgt : Int)) (kt : x < y1 → Ev y cc maxL ret fr lc g tgt st lv h r h2) (kf : ¬ x < y1 → Ev y cc maxL ret fr lc g (pc + 3) st lv h r h2) : Ev y cc maxL ret fr lc g pc (.int y1 :: .int x :: st) lv h r h2 := by
  intro p l e R s m args below meth c D cy A cells slots Q C hr H locs ls hP hD hS hl
  exact lv_icmp_lt C.1 C.2.1 d ht (fun c1 => kt c1 p l e R s m args below meth c D cy A cells slots Q C hr H locs ls hP hD hS hl) (fun c1 => kf c1 p l e R s m args below meth c D cy A cells slots Q C hr H locs ls hP hD hS hl)
theorem ev_if_ge {x : Int32} {off : Int} {tgt : Nat} (d : decode cc pc = .ok (.ifCond .ge off, 3)) (ht : (pc : Int) + off = (tgt : Int)) (kt : 0 ≤ x → Ev y cc maxL ret fr lc g tgt st lv h r h2) (kf : ¬ 0 ≤ x → Ev y cc maxL ret fr lc g (pc + 3) st lv h r h2) : Ev y cc maxL ret fr lc g pc (.int x :: st) lv h r h2 := by
  intro p l e R s m args below meth c D cy A cells slots Q C hr H locs ls hP hD hS hl
  exact lv_if_ge C.1 C.2.1 d ht (fun c1 => kt c1 p l e R s m args below meth c D cy A cells slots Q C hr H locs ls hP hD hS hl) (fun c1 => kf c1 p l e R s m args below meth c D cy A cells slots Q C hr H locs ls hP hD hS hl)
theorem ev_icmp_ge {x y1 : Int32} {off : Int} {tgt : Nat} (d : decode cc pc = .ok (.if_icmp .ge off, 3)) (ht : (pc : Int) + off = (tgt : Int)) (kt : y1 ≤ x → Ev y cc maxL ret fr lc g tgt st lv h r h2) (kf : ¬ y1 ≤ x → Ev y cc maxL ret fr lc g (pc + 3) st lv h r h2) : Ev y cc maxL ret fr lc g pc (.int y1 :: .int x :: st) lv h r h2 := by
  intro p l e R s m args below meth c D cy A cells slots Q C hr H locs ls hP hD hS hl
  exact lv_icmp_ge C.1 C.2.1 d ht (fun c1 => kt c1 p l e R s m args below meth c D cy A cells slots Q C hr H locs ls hP hD hS hl) (fun c1 => kf c1 p l e R s m args below meth c D cy A cells slots Q C hr H locs ls hP hD hS hl)
theorem ev_if_gt {x : Int32} {off : Int} {tgt : Nat} (d : decode cc pc = .ok (.ifCond .gt off, 3)) (ht : (pc : Int) + off = (tgt : Int)) (kt : 0 < x → Ev y cc maxL ret fr lc g tgt st lv h r h2) (kf : ¬ 0 < x → Ev y cc maxL ret fr lc g (pc + 3) st lv h r h2) : Ev y cc maxL ret fr lc g pc (.int x :: st) lv h r h2 := by
  intro p l e R s m args below meth c D cy A cells slots Q C hr H locs ls hP hD hS hl
  exact lv_if_gt C.1 C.2.1 d ht (fun c1 => kt c1 p l e R s m args below meth c D cy A cells slots Q C hr H locs ls hP hD hS hl) (fun c1 => kf c1 p l e R s m args below meth c D cy A cells slots Q C hr H locs ls hP hD hS hl)
theorem ev_icmp_gt {x y1 : Int32} {off : Int} {tgt : Nat} (d : decode cc pc = .ok (.if_icmp .gt off, 3)) (ht : (pc : Int) + off = (tgt : Int)) (kt : y1 < x → Ev y cc maxL ret fr lc g tgt st lv h r h2) (kf : ¬ y1 < x → Ev y cc maxL ret fr lc g (pc + 3) st lv h r h2) : Ev y cc maxL ret fr lc g pc (.int y1 :: .int x :: st) lv h r h2 := by
  intro p l e R s m args below meth c D cy A cells slots Q C hr H locs ls hP hD hS hl
  exact lv_icmp_gt C.1 C.2.1 d ht (fun c1 => kt c1 p l e R s m args below meth c D cy A cells slots Q C hr H locs ls hP hD hS hl) (fun c1 => kf c1 p l e R s m args below meth c D cy A cells slots Q C hr H locs ls hP hD hS hl)
theorem ev_if_le {x : Int32} {off : Int} {tgt : Nat} (d : decode cc pc = .ok (.ifCond .le off, 3)) (ht : (pc : Int) + off = (tgt : Int)) (kt : x ≤ 0 → Ev y cc maxL ret fr lc g tgt st lv h r h2) (kf : ¬ x ≤ 0 → Ev y cc maxL ret fr lc g (pc + 3) st lv h r h2) : Ev y cc maxL ret fr lc g pc (.int x :: st) lv h r h2 := by
  intro p l e R s m args below meth c D cy A cells slots Q C hr H locs ls hP hD hS hl
  exact lv_if_le C.1 C.2.1 d ht (fun c1 => kt c1 p l e R s m args below meth c D cy A cells slots Q C hr H locs ls hP hD hS hl) (fun c1 => kf c1 p l e R s m args below meth c D cy A cells slots Q C hr H locs ls hP hD hS hl)
theorem ev_icmp_le {x y1 : Int32} {off : Int} {tgt : Nat} (d : decode cc pc = .ok (.if_icmp .le off, 3)) (ht : (pc : Int) + off = (tgt : Int)) (kt : x ≤ y1 → Ev y cc maxL ret fr lc g tgt st lv h r h2) (kf : ¬ x ≤ y1 → Ev y cc maxL ret fr lc g (pc + 3) st lv h r h2) : Ev y cc maxL ret fr lc g pc (.int y1 :: .int x :: st) lv h r h2 := by
  intro p l e R s m args below meth c D cy A cells slots Q C hr H locs ls hP hD hS hl
  exact lv_icmp_le C.1 C.2.1 d ht (fun c1 => kt c1 p l e R s m args below meth c D cy A cells slots Q C hr H locs ls hP hD hS hl) (fun c1 => kf c1 p l e R s m args below meth c D cy A cells slots Q C hr H locs ls hP hD hS hl)
theorem ev_tableOut {dflt lo hi : Int} {offs : Array Int} {len : Nat} {x : Int32} {tgt : Nat} (d : decode cc pc = .ok (.tableswitch dflt lo hi offs, len)) (hx : x.toInt < lo ∨ hi < x.toInt) (ht : (pc : Int) + dflt = (tgt : Int)) (k : Ev y cc maxL ret fr lc g tgt st lv h r h2) : Ev y cc maxL ret fr lc g pc (.int x :: st) lv h r h2 := by
  intro p l e R s m args below meth c D cy A cells slots Q C hr H locs ls hP hD hS hl
  exact lv_tableOut C.1 C.2.1 d hx ht (k p l e R s m args below meth c D cy A cells slots Q C hr H locs ls hP hD hS hl)
theorem ev_tableIn {dflt lo hi : Int} {offs : Array Int} {len : Nat} {x : Int32} {off : Int} {tgt : Nat} (d : decode cc pc = .ok (.tableswitch dflt lo hi offs, len)) (h1 : ¬ x.toInt < lo) (h3 : ¬ hi < x.toInt) (ho : offs[(x.toInt - lo).toNat]? = some off) (ht : (pc : Int) + off = (tgt : Int)) (k : Ev y cc maxL ret fr lc g tgt st lv h r h2) : Ev y cc maxL ret fr lc g pc (.int x :: st) lv h r h2 := by
  intro p l e R s m args below meth c D cy A cells slots Q C hr H locs ls hP hD hS hl
  exact lv_tableIn C.1 C.2.1 d h1 h3 ho ht (k p l e R s m args below meth c D cy A cells slots Q C hr H locs ls hP hD hS hl)
theorem ev_lookup {dflt : Int} {ps : Array (Int × Int)} {len : Nat} {x : Int32} {off : Int} {tgt : Nat} (d : decode cc pc = .ok (.lookupswitch dflt ps, len)) (hp : (ps.toList.zip (ps.toList.drop 1)).all (fun (a, next) => a.1 < next.1) = true) (ho : Op.lookupswitch.offset ps.toList dflt x.toInt = off) (ht : (pc : Int) + off = (tgt : Int)) (k : Ev y cc maxL ret fr lc g tgt st lv h r h2) : Ev y cc maxL ret fr lc g pc (.int x :: st) lv h r h2 := by
  intro p l e R s m args below meth c D cy A cells slots Q C hr H locs ls hP hD hS hl
  exact lv_lookup C.1 C.2.1 d hp ho ht (k p l e R s m args below meth c D cy A cells slots Q C hr H locs ls hP hD hS hl)
theorem ev_fconst0 (d : decode cc pc = .ok (.fconst 0, 1)) (k : Ev y cc maxL ret fr lc g (pc + 1) (.float FP.fconst0 :: st) lv h r h2) : Ev y cc maxL ret fr lc g pc (st) lv h r h2 := by
  intro p l e R s m args below meth c D cy A cells slots Q C hr H locs ls hP hD hS hl
  exact lv_fconst0 C.1 C.2.1 d (k p l e R s m args below meth c D cy A cells slots Q C hr H locs ls hP hD hS hl)
theorem ev_fconst1 (d : decode cc pc = .ok (.fconst 1, 1)) (k : Ev y cc maxL ret fr lc g (pc + 1) (.float FP.fconst1 :: st) lv h r h2) : Ev y cc maxL ret fr lc g pc (st) lv h r h2 := by
  intro p l e R s m args below meth c D cy A cells slots Q C hr H locs ls hP hD hS hl
  exact lv_fconst1 C.1 C.2.1 d (k p l e R s m args below meth c D cy A cells slots Q C hr H locs ls hP hD hS hl)
theorem ev_fconst2 (d : decode cc pc = .ok (.fconst 2, 1)) (k : Ev y cc maxL ret fr lc g (pc + 1) (.float FP.fconst2 :: st) lv h r h2) : Ev y cc maxL ret fr lc g pc (st) lv h r h2 := by
  intro p l e R s m args below meth c D cy A cells slots Q C hr H locs ls hP hD hS hl
  exact lv_fconst2 C.1 C.2.1 d (k p l e R s m args below meth c D cy A cells slots Q C hr H locs ls hP hD hS hl)
theorem ev_dconst0 (d : decode cc pc = .ok (.dconst 0, 1)) (k : Ev y cc maxL ret fr lc g (pc + 1) (.double FP.dconst0 :: st) lv h r h2) : Ev y cc maxL ret fr lc g pc (st) lv h r h2 := by
  intro p l e R s m args below meth c D cy A cells slots Q C hr H locs ls hP hD hS hl
  exact lv_dconst0 C.1 C.2.1 d (k p l e R s m args below meth c D cy A cells slots Q C hr H locs ls hP hD hS hl)
theorem ev_dconst1 (d : decode cc pc = .ok (.dconst 1, 1)) (k : Ev y cc maxL ret fr lc g (pc + 1) (.double FP.dconst1 :: st) lv h r h2) : Ev y cc maxL ret fr lc g pc (st) lv h r h2 := by
  intro p l e R s m args below meth c D cy A cells slots Q C hr H locs ls hP hD hS hl
  exact lv_dconst1 C.1 C.2.1 d (k p l e R s m args below meth c D cy A cells slots Q C hr H locs ls hP hD hS hl)
theorem ev_fcmp {x y1 : UInt32} {op : CmpOp} (d : decode cc pc = .ok (.fcmp op, 1)) (k : Ev y cc maxL ret fr lc g (pc + 1) (.int (Op.cmpValue (FP.fcmp x y1) op) :: st) lv h r h2) : Ev y cc maxL ret fr lc g pc (.float y1 :: .float x :: st) lv h r h2 := by
  intro p l e R s m args below meth c D cy A cells slots Q C hr H locs ls hP hD hS hl
  exact lv_fcmp C.1 C.2.1 d (k p l e R s m args below meth c D cy A cells slots Q C hr H locs ls hP hD hS hl)
theorem ev_dcmp {x y1 : UInt64} {op : CmpOp} (d : decode cc pc = .ok (.dcmp op, 1)) (k : Ev y cc maxL ret fr lc g (pc + 1) (.int (Op.cmpValue (FP.dcmp x y1) op) :: st) lv h r h2) : Ev y cc maxL ret fr lc g pc (.double y1 :: .double x :: st) lv h r h2 := by
  intro p l e R s m args below meth c D cy A cells slots Q C hr H locs ls hP hD hS hl
  exact lv_dcmp C.1 C.2.1 d (k p l e R s m args below meth c D cy A cells slots Q C hr H locs ls hP hD hS hl)
theorem ev_return_  (d : decode cc pc = .ok (.return_, 1)) (ho : retOK ret (none)) : Ev y cc maxL ret fr lc g pc [] lv h (none) h := by
  intro p l e R s m args below meth c D cy A cells slots Q C hr H locs ls hP hD hS hl
  exact hr H locs ls pc _ rfl ho d hP hS
theorem ev_ireturn {v : Int32} (d : decode cc pc = .ok (.ireturn, 1)) (ho : retOK ret (some (.int v))) : Ev y cc maxL ret fr lc g pc [.int v] lv h (some (.int v)) h := by
  intro p l e R s m args below meth c D cy A cells slots Q C hr H locs ls hP hD hS hl
  exact hr H locs ls pc _ rfl ho d hP hS
theorem ev_lreturn {v : Int64} (d : decode cc pc = .ok (.lreturn, 1)) (ho : retOK ret (some (.long v))) : Ev y cc maxL ret fr lc g pc [.long v] lv h (some (.long v)) h := by
  intro p l e R s m args below meth c D cy A cells slots Q C hr H locs ls hP hD hS hl
  exact hr H locs ls pc _ rfl ho d hP hS
theorem ev_freturn {v : UInt32} (d : decode cc pc = .ok (.freturn, 1)) (ho : retOK ret (some (.float v))) : Ev y cc maxL ret fr lc g pc [.float v] lv h (some (.float v)) h := by
  intro p l e R s m args below meth c D cy A cells slots Q C hr H locs ls hP hD hS hl
  exact hr H locs ls pc _ rfl ho d hP hS
theorem ev_dreturn {v : UInt64} (d : decode cc pc = .ok (.dreturn, 1)) (ho : retOK ret (some (.double v))) : Ev y cc maxL ret fr lc g pc [.double v] lv h (some (.double v)) h := by
  intro p l e R s m args below meth c D cy A cells slots Q C hr H locs ls hP hD hS hl
  exact hr H locs ls pc _ rfl ho d hP hS
end EvRows
end
section
theorem ac_nat : Cond.native arraycopyName ∈ lw_u := by decide +kernel
theorem ac_stat : Cond.static arraycopyName ∈ lw_u := by decide +kernel
theorem ac_ini : Cond.initialized "java/lang/System" ∈ lw_u := by decide +kernel
theorem inUX1 : ∀ w ∈ wsX10, w ∈ lw_u := by decide +kernel
theorem inUX2 : ∀ w ∈ wsX20, w ∈ lw_u := by decide +kernel
theorem inUX3 : ∀ w ∈ wsX30, w ∈ lw_u := by decide +kernel
theorem inUX4 : ∀ w ∈ wsX40, w ∈ lw_u := by decide +kernel
theorem inUX5 : ∀ w ∈ wsX50, w ∈ lw_u := by decide +kernel
theorem inUX6 : ∀ w ∈ wsX60, w ∈ lw_u := by decide +kernel
theorem cls_in {c N : Nat} {C : String} {T : u_T} (hc : vcls[c]? = some (C, T, N)) : ∀ w ∈ u_ws C T N, w ∈ lw_u := by
  match c, hc with
  | 0, hc => cases hc; exact inUX1
  | 1, hc => cases hc; exact inUX2
  | 2, hc => cases hc; exact inUX3
  | 3, hc => cases hc; exact inUX4
  | 4, hc => cases hc; exact inUX5
  | 5, hc => cases hc; exact inUX6
  | k + 6, hc => simp [vcls] at hc
theorem cls_ok {c N : Nat} {C : String} {T : u_T} (hc : vcls[c]? = some (C, T, N)) : ∃ ty0 : Nat → FieldType, (∀ k, k < N → parseFieldDescriptor (T k).2.2.1 = some (ty0 k)) ∧ (∀ a, a < N → ∀ b, b < N → a ≠ b → (T a).2.1 ≠ (T b).2.1) := by
  match c, hc with
  | 0, hc => cases hc; exact ⟨tyX1, tyX1_ok, nmX1⟩
  | 1, hc => cases hc; exact ⟨tyX2, tyX2_ok, nmX2⟩
  | 2, hc => cases hc; exact ⟨tyX3, tyX3_ok, nmX3⟩
  | 3, hc => cases hc; exact ⟨tyX4, tyX4_ok, nmX4⟩
  | 4, hc => cases hc; exact ⟨tyX5, tyX5_ok, nmX5⟩
  | 5, hc => cases hc; exact ⟨tyX6, tyX6_ok, nmX6⟩
  | k + 6, hc => simp [vcls] at hc
theorem cls_lt {c N : Nat} {C : String} {T : u_T} (hc : vcls[c]? = some (C, T, N)) : c < 6 := (List.getElem?_eq_some_iff.mp hc).1
theorem celU_obj {cy : Nat → ClassId} {c n a : Nat} (hc : c < 6) (u : Nat → Int32) (w : Nat → Int64) (f : Nat → UInt32) : celU cy (c, n) a u w f = .inr (c, fl c a u w) := by
  rcases (show c = 0 ∨ c = 1 ∨ c = 2 ∨ c = 3 ∨ c = 4 ∨ c = 5 by omega) with rfl | rfl | rfl | rfl | rfl | rfl <;> rfl
def isB (x : Int32) : Prop := x = 0 ∨ x = 1
theorem isB_nar {x : Int32} (h : isB x) : narrow .boolean (.int x) = .int x := by rcases h with rfl | rfl <;> decide
theorem isB_vp {x : Int32} (h : isB x) : vp_nar .boolean x = x := by rcases h with rfl | rfl <;> decide
theorem isB_fit {x : Int32} (h : isB x) : fits .boolean (.int x) = true := by rcases h with rfl | rfl <;> decide
section EvHeap
variable {y : MethodName} {cc : ByteArray} {maxL fr lc : Nat} {ret : Option FieldType} {g : Gl} {pc : Nat} {st : List Value} {lv lv2 : List (Nat × Value)} {h h2 : Hp} {r : Option Value} {a c n : Nat}
theorem ev_get (z : Nat) {x N : Nat} {v : Value} {C : String} {T : u_T} (hkd : KD g.1 a c n) (hc : vcls[c]? = some (C, T, N)) (hk : z < N) (hv : (fl c a (h.1 a) (h.2.1 a))[z]? = some v) (hw : Cond.fieldLink y.cls x (T z).1 (T z).2.1 (T z).2.2.1 ∈ lw_u) (d : decode cc pc = .ok (.getfield x, 3)) (k : Ev y cc maxL ret fr lc g (pc + 3) (v :: st) lv h r h2) : Ev y cc maxL ret fr lc g pc (.ref a :: st) lv h r h2 := by
  intro p l e R s m args below meth co D cy A cells slots Q C hr H locs ls hP hD hS hl
  exact va_get (D := D) (ci := c) C.1 C.2.1 C.2.2.2.2.1 (cls_in hc) C.2.2.2.1 C.2.2.2.2.2.2.2.1 hP (a - g.1) (wsO_obj hkd (cls_lt hc)) hc z hk (C.2.2.2.2.1 _ hw) (fun _ h9 => h9) hv d (k p l e R s m args below meth co D cy A cells slots Q C hr H locs ls hP hD hS hl)
theorem ev_putI (z : Nat) {x N : Nat} {v : Int32} {C : String} {T : u_T} (hkd : KD g.1 a c n) (hc : vcls[c]? = some (C, T, N)) (hk : z < N) (hf : (T z).2.2.2 = false) (hp : parseFieldDescriptor (T z).2.2.1 = some .int) (hset : fl c a (upd (h.1 a) z v) (h.2.1 a) = (fl c a (h.1 a) (h.2.1 a)).set z (.int v)) (hlen : z < (fl c a (h.1 a) (h.2.1 a)).length) (hw : Cond.fieldLink y.cls x (T z).1 (T z).2.1 (T z).2.2.1 ∈ lw_u) (d : decode cc pc = .ok (.putfield x, 3)) (k : Ev y cc maxL ret fr lc g (pc + 3) st lv (sI h a z v) r h2) : Ev y cc maxL ret fr lc g pc (.int v :: .ref a :: st) lv h r h2 := by
  intro p l e R s m args below meth co D cy A cells slots Q C hr H locs ls hP hD hS hl
  obtain ⟨ty0, o1, o2⟩ := cls_ok hc
  refine va_put (D := D) (ci := c) (v := .int v) (ty := .int) C.1 C.2.1 C.2.2.2.2.1 (cls_in hc) ty0 o1 o2 C.2.2.2.1 C.2.2.2.2.2.2.2.1 hP hD hS (a - g.1) (wsO_obj hkd (cls_lt hc)) hc z hk (C.2.2.2.2.1 _ hw) (fun _ h9 => h9) hf hp rfl rfl hlen d (fun H locs hP hD hS => ?_)
  rw [wsO_set (h2 := sI h a z v) hkd (by show celU cy (c, n) a (ufn h.1 a (upd (h.1 a) z v) a) (h.2.1 a) (h.2.2 a) = _; rw [ufn_same, celU_obj (cls_lt hc), hset]) (sI_ne _ _ _ _)] at hP hD
  exact k p l e R s m args below meth co D cy A cells slots Q C hr H locs ls hP hD hS hl
theorem ev_putZ (z : Nat) {x N : Nat} {v : Int32} {C : String} {T : u_T} (hkd : KD g.1 a c n) (hc : vcls[c]? = some (C, T, N)) (hk : z < N) (hf : (T z).2.2.2 = false) (hp : parseFieldDescriptor (T z).2.2.1 = some .boolean) (hb : isB v) (hset : fl c a (upd (h.1 a) z v) (h.2.1 a) = (fl c a (h.1 a) (h.2.1 a)).set z (.int v)) (hlen : z < (fl c a (h.1 a) (h.2.1 a)).length) (hw : Cond.fieldLink y.cls x (T z).1 (T z).2.1 (T z).2.2.1 ∈ lw_u) (d : decode cc pc = .ok (.putfield x, 3)) (k : Ev y cc maxL ret fr lc g (pc + 3) st lv (sI h a z v) r h2) : Ev y cc maxL ret fr lc g pc (.int v :: .ref a :: st) lv h r h2 := by
  intro p l e R s m args below meth co D cy A cells slots Q C hr H locs ls hP hD hS hl
  obtain ⟨ty0, o1, o2⟩ := cls_ok hc
  refine va_put (D := D) (ci := c) (v := .int v) (ty := .boolean) C.1 C.2.1 C.2.2.2.2.1 (cls_in hc) ty0 o1 o2 C.2.2.2.1 C.2.2.2.2.2.2.2.1 hP hD hS (a - g.1) (wsO_obj hkd (cls_lt hc)) hc z hk (C.2.2.2.2.1 _ hw) (fun _ h9 => h9) hf hp (isB_nar hb) (isB_fit hb) hlen d (fun H locs hP hD hS => ?_)
  rw [wsO_set (h2 := sI h a z v) hkd (by show celU cy (c, n) a (ufn h.1 a (upd (h.1 a) z v) a) (h.2.1 a) (h.2.2 a) = _; rw [ufn_same, celU_obj (cls_lt hc), hset]) (sI_ne _ _ _ _)] at hP hD
  exact k p l e R s m args below meth co D cy A cells slots Q C hr H locs ls hP hD hS hl
theorem ev_putL (z : Nat) {x N : Nat} {v : Int64} {C : String} {T : u_T} (hkd : KD g.1 a c n) (hc : vcls[c]? = some (C, T, N)) (hk : z < N) (hf : (T z).2.2.2 = false) (hp : parseFieldDescriptor (T z).2.2.1 = some .long) (hset : fl c a (h.1 a) (vp_updL (h.2.1 a) z v) = (fl c a (h.1 a) (h.2.1 a)).set z (.long v)) (hlen : z < (fl c a (h.1 a) (h.2.1 a)).length) (hw : Cond.fieldLink y.cls x (T z).1 (T z).2.1 (T z).2.2.1 ∈ lw_u) (d : decode cc pc = .ok (.putfield x, 3)) (k : Ev y cc maxL ret fr lc g (pc + 3) st lv (sL h a z v) r h2) : Ev y cc maxL ret fr lc g pc (.long v :: .ref a :: st) lv h r h2 := by
  intro p l e R s m args below meth co D cy A cells slots Q C hr H locs ls hP hD hS hl
  obtain ⟨ty0, o1, o2⟩ := cls_ok hc
  refine va_put (D := D) (ci := c) (v := .long v) (ty := .long) C.1 C.2.1 C.2.2.2.2.1 (cls_in hc) ty0 o1 o2 C.2.2.2.1 C.2.2.2.2.2.2.2.1 hP hD hS (a - g.1) (wsO_obj hkd (cls_lt hc)) hc z hk (C.2.2.2.2.1 _ hw) (fun _ h9 => h9) hf hp rfl rfl hlen d (fun H locs hP hD hS => ?_)
  rw [wsO_set (h2 := sL h a z v) hkd (by show celU cy (c, n) a (h.1 a) (ufn h.2.1 a (vp_updL (h.2.1 a) z v) a) (h.2.2 a) = _; rw [ufn_same, celU_obj (cls_lt hc), hset]) (sL_ne _ _ _ _)] at hP hD
  exact k p l e R s m args below meth co D cy A cells slots Q C hr H locs ls hP hD hS hl
theorem ev_iald {i : Int32} (hkd : KD g.1 a 6 n) (hi : vp_in i n) (d : decode cc pc = .ok (.iaload, 1)) (k : Ev y cc maxL ret fr lc g (pc + 1) (.int (hI h a i.toNatClampNeg) :: st) lv h r h2) : Ev y cc maxL ret fr lc g pc (.int i :: .ref a :: st) lv h r h2 := by
  intro p l e R s m args below meth co D cy A cells slots Q C hr H locs ls hP hD hS hl
  exact va_iald (D := D) C.1 C.2.1 C.2.2.2.2.2.2.2.1 hP (a - g.1) 0 (wsO_k hkd) rfl hi d (k p l e R s m args below meth co D cy A cells slots Q C hr H locs ls hP hD hS hl)
theorem ev_fald {i : Int32} (hkd : KD g.1 a 7 n) (hi : vp_in i n) (d : decode cc pc = .ok (.faload, 1)) (k : Ev y cc maxL ret fr lc g (pc + 1) (.float (hF h a i.toNatClampNeg) :: st) lv h r h2) : Ev y cc maxL ret fr lc g pc (.int i :: .ref a :: st) lv h r h2 := by
  intro p l e R s m args below meth co D cy A cells slots Q C hr H locs ls hP hD hS hl
  exact va_fald (D := D) C.1 C.2.1 C.2.2.2.2.2.2.2.1 hP (a - g.1) 1 (wsO_k hkd) rfl hi d (k p l e R s m args below meth co D cy A cells slots Q C hr H locs ls hP hD hS hl)
theorem ev_lald {i : Int32} (hkd : KD g.1 a 8 n) (hi : vp_in i n) (d : decode cc pc = .ok (.laload, 1)) (k : Ev y cc maxL ret fr lc g (pc + 1) (.long (hL h a i.toNatClampNeg) :: st) lv h r h2) : Ev y cc maxL ret fr lc g pc (.int i :: .ref a :: st) lv h r h2 := by
  intro p l e R s m args below meth co D cy A cells slots Q C hr H locs ls hP hD hS hl
  exact va_lald (D := D) C.1 C.2.1 C.2.2.2.2.2.2.2.1 hP (a - g.1) 2 (wsO_k hkd) rfl hi d (k p l e R s m args below meth co D cy A cells slots Q C hr H locs ls hP hD hS hl)
theorem ev_zald {i : Int32} (hkd : KD g.1 a 9 n) (hi : vp_in i n) (d : decode cc pc = .ok (.baload, 1)) (k : Ev y cc maxL ret fr lc g (pc + 1) (.int (hI h a i.toNatClampNeg) :: st) lv h r h2) : Ev y cc maxL ret fr lc g pc (.int i :: .ref a :: st) lv h r h2 := by
  intro p l e R s m args below meth co D cy A cells slots Q C hr H locs ls hP hD hS hl
  exact va_zald (D := D) C.1 C.2.1 C.2.2.2.2.2.2.2.1 hP (a - g.1) 3 (wsO_k hkd) rfl hi d (k p l e R s m args below meth co D cy A cells slots Q C hr H locs ls hP hD hS hl)
theorem ev_iast {i : Int32} {v : Int32} (hkd : KD g.1 a 6 n) (hi : vp_in i n) (d : decode cc pc = .ok (.iastore, 1)) (k : Ev y cc maxL ret fr lc g (pc + 1) st lv (sI h a i.toNatClampNeg v) r h2) : Ev y cc maxL ret fr lc g pc (.int v :: .int i :: .ref a :: st) lv h r h2 := by
  intro p l e R s m args below meth co D cy A cells slots Q C hr H locs ls hP hD hS hl
  refine va_iast (D := D) C.1 C.2.1 C.2.2.2.2.2.2.2.1 hP hD hS (a - g.1) 0 (wsO_k hkd) rfl hi d (fun H locs hP hD hS => ?_)
  rw [wsO_set (h2 := sI h a i.toNatClampNeg v) hkd (by show celU cy (6, n) a (ufn h.1 a _ a) _ _ = _; rw [ufn_same]; rfl) (sI_ne _ _ _ _)] at hP hD
  exact k p l e R s m args below meth co D cy A cells slots Q C hr H locs ls hP hD hS hl
theorem ev_fast {i : Int32} {v : UInt32} (hkd : KD g.1 a 7 n) (hi : vp_in i n) (d : decode cc pc = .ok (.fastore, 1)) (k : Ev y cc maxL ret fr lc g (pc + 1) st lv (sF h a i.toNatClampNeg v) r h2) : Ev y cc maxL ret fr lc g pc (.float v :: .int i :: .ref a :: st) lv h r h2 := by
  intro p l e R s m args below meth co D cy A cells slots Q C hr H locs ls hP hD hS hl
  refine va_fast (D := D) C.1 C.2.1 C.2.2.2.2.2.2.2.1 hP hD hS (a - g.1) 1 (wsO_k hkd) rfl hi d (fun H locs hP hD hS => ?_)
  rw [wsO_set (h2 := sF h a i.toNatClampNeg v) hkd (by show celU cy (7, n) a _ _ (ufn h.2.2 a _ a) = _; rw [ufn_same]; rfl) (sF_ne _ _ _ _)] at hP hD
  exact k p l e R s m args below meth co D cy A cells slots Q C hr H locs ls hP hD hS hl
theorem ev_last {i : Int32} {v : Int64} (hkd : KD g.1 a 8 n) (hi : vp_in i n) (d : decode cc pc = .ok (.lastore, 1)) (k : Ev y cc maxL ret fr lc g (pc + 1) st lv (sL h a i.toNatClampNeg v) r h2) : Ev y cc maxL ret fr lc g pc (.long v :: .int i :: .ref a :: st) lv h r h2 := by
  intro p l e R s m args below meth co D cy A cells slots Q C hr H locs ls hP hD hS hl
  refine va_last (D := D) C.1 C.2.1 C.2.2.2.2.2.2.2.1 hP hD hS (a - g.1) 2 (wsO_k hkd) rfl hi d (fun H locs hP hD hS => ?_)
  rw [wsO_set (h2 := sL h a i.toNatClampNeg v) hkd (by show celU cy (8, n) a _ (ufn h.2.1 a _ a) _ = _; rw [ufn_same]; rfl) (sL_ne _ _ _ _)] at hP hD
  exact k p l e R s m args below meth co D cy A cells slots Q C hr H locs ls hP hD hS hl
theorem ev_zast {i : Int32} {v : Int32} (hkd : KD g.1 a 9 n) (hi : vp_in i n) (hb : isB v) (d : decode cc pc = .ok (.bastore, 1)) (k : Ev y cc maxL ret fr lc g (pc + 1) st lv (sI h a i.toNatClampNeg v) r h2) : Ev y cc maxL ret fr lc g pc (.int v :: .int i :: .ref a :: st) lv h r h2 := by
  intro p l e R s m args below meth co D cy A cells slots Q C hr H locs ls hP hD hS hl
  refine va_zast (D := D) C.1 C.2.1 C.2.2.2.2.2.2.2.1 hP hD hS (a - g.1) 3 (wsO_k hkd) rfl hi d (fun H locs hP hD hS => ?_)
  rw [isB_vp hb] at hP hD
  rw [wsO_set (h2 := sI h a i.toNatClampNeg v) hkd (by show celU cy (9, n) a (ufn h.1 a _ a) _ _ = _; rw [ufn_same]; rfl) (sI_ne _ _ _ _)] at hP hD
  exact k p l e R s m args below meth co D cy A cells slots Q C hr H locs ls hP hD hS hl
theorem ev_aaldP {i : Int32} (hkd : KD g.1 a 10 n) (hi : vp_in i n) (d : decode cc pc = .ok (.aaload, 1)) (k : Ev y cc maxL ret fr lc g (pc + 1) (.ref (a + 1 + 4 * i.toNatClampNeg) :: st) lv h r h2) : Ev y cc maxL ret fr lc g pc (.int i :: .ref a :: st) lv h r h2 := by
  intro p l e R s m args below meth co D cy A cells slots Q C hr H locs ls hP hD hS hl
  exact va_aldq (D := D) (C := "PieceSwarm$Peer") C.1 C.2.1 C.2.2.2.2.2.2.2.1 hP (a - g.1) 4 (wsO_k hkd) rfl hi d (k p l e R s m args below meth co D cy A cells slots Q C hr H locs ls hP hD hS hl)
theorem ev_aaldS {i : Int32} (hkd : KD g.1 a 11 n) (hi : vp_in i n) (d : decode cc pc = .ok (.aaload, 1)) (k : Ev y cc maxL ret fr lc g (pc + 1) (.ref (a + 1 + 27 * i.toNatClampNeg) :: st) lv h r h2) : Ev y cc maxL ret fr lc g pc (.int i :: .ref a :: st) lv h r h2 := by
  intro p l e R s m args below meth co D cy A cells slots Q C hr H locs ls hP hD hS hl
  exact va_aldq (D := D) (C := "PieceSwarm$Swarm") C.1 C.2.1 C.2.2.2.2.2.2.2.1 hP (a - g.1) 5 (wsO_k hkd) rfl hi d (k p l e R s m args below meth co D cy A cells slots Q C hr H locs ls hP hD hS hl)
theorem ev_alenI {v : Int32} (hkd : KD g.1 a 6 n) (hv : Int32.ofNat n = v) (d : decode cc pc = .ok (.arraylength, 1)) (k : Ev y cc maxL ret fr lc g (pc + 1) (.int v :: st) lv h r h2) : Ev y cc maxL ret fr lc g pc (.ref a :: st) lv h r h2 := by
  intro p l e R s m args below meth co D cy A cells slots Q C hr H locs ls hP hD hS hl
  exact va_alen (D := D) C.1 C.2.1 C.2.2.2.2.2.2.2.1 hP (a - g.1) 0 (wsO_k hkd) rfl hv d (k p l e R s m args below meth co D cy A cells slots Q C hr H locs ls hP hD hS hl)
theorem ev_alenF {v : Int32} (hkd : KD g.1 a 7 n) (hv : Int32.ofNat n = v) (d : decode cc pc = .ok (.arraylength, 1)) (k : Ev y cc maxL ret fr lc g (pc + 1) (.int v :: st) lv h r h2) : Ev y cc maxL ret fr lc g pc (.ref a :: st) lv h r h2 := by
  intro p l e R s m args below meth co D cy A cells slots Q C hr H locs ls hP hD hS hl
  exact va_alen (D := D) C.1 C.2.1 C.2.2.2.2.2.2.2.1 hP (a - g.1) 1 (wsO_k hkd) rfl hv d (k p l e R s m args below meth co D cy A cells slots Q C hr H locs ls hP hD hS hl)
theorem ev_tabld {i : Int32} (z : Nat) (hz : z < 4) (hi : vp_in i (tbN g z)) (d : decode cc pc = .ok (.iaload, 1)) (k : Ev y cc maxL ret fr lc g (pc + 1) (.int (tbF g z i.toNatClampNeg) :: st) lv h r h2) : Ev y cc maxL ret fr lc g pc (.int i :: .ref (g.2.1 z) :: st) lv h r h2 := by
  intro p l e R s m args below meth co D cy A cells slots Q C hr H locs ls hP hD hS hl
  exact va_ti C.1 C.2.1 (C.2.2.2.2.2.2.2.2.1.1 z hz) hS hi rfl d (k p l e R s m args below meth co D cy A cells slots Q C hr H locs ls hP hD hS hl)
theorem ev_tablen (z : Nat) {v : Int32} (hz : z < 4) (hv : Int32.ofNat (tbN g z) = v) (d : decode cc pc = .ok (.arraylength, 1)) (k : Ev y cc maxL ret fr lc g (pc + 1) (.int v :: st) lv h r h2) : Ev y cc maxL ret fr lc g pc (.ref (g.2.1 z) :: st) lv h r h2 := by
  intro p l e R s m args below meth co D cy A cells slots Q C hr H locs ls hP hD hS hl
  exact va_tlen C.1 C.2.1 (C.2.2.2.2.2.2.2.2.1.1 z hz) hS hv d (k p l e R s m args below meth co D cy A cells slots Q C hr H locs ls hP hD hS hl)
theorem ev_gets (z : Nat) {x : Nat} (hz : z < 3) (hx : saI z = x) (hy : y.cls = "PieceSwarm$Swarm") (d : decode cc pc = .ok (.getstatic x, 3)) (k : Ev y cc maxL ret fr lc g (pc + 3) (.ref (g.2.1 z) :: st) lv h r h2) : Ev y cc maxL ret fr lc g pc st lv h r h2 := by
  intro p l e R s m args below meth co D cy A cells slots Q C hr H locs ls hP hD hS hl
  subst hx
  have hZ := C.2.2.2.2.2.2.2.2.1.2 z hz
  exact va_getsN (own := "PieceSwarm$Swarm") (host := "PieceSwarm") C.1 C.2.1 hZ.1 hS (by rw [← hy]; exact C.2.2.2.1) (hZ.2.use rfl) (fun _ h9 => h9) d (k p l e R s m args below meth co D cy A cells slots Q C hr H locs ls hP hD hS hl)
theorem ev_copyI {a0 x : Nat} (hk0 : KD g.1 a0 6 n) (hkd : KD g.1 a 6 n) (hn : n < 2 ^ 31) (hfr : 1 ≤ fr) (hlc : (st.map fun v => v.category).sum + (nativeFrameWords "java/lang/System" "arraycopy" 5 + 11) ≤ lc) (hw : Cond.methodLink y.cls x arraycopyName ∈ lw_u) (d : decode cc pc = .ok (.invokestatic x, 3)) (k : Ev y cc maxL ret fr lc g (pc + 3) st lv (cpI h a0 a n) r h2) : Ev y cc maxL ret fr lc g pc (.int (nI n) :: .int 0 :: .ref a :: .int 0 :: .ref a0 :: st) lv h r h2 := by
  intro p l e R s m args below meth co D cy A cells slots Q C hr H locs ls hP hD hS hl
  have hz : ((0 : Int32)).toNatClampNeg = 0 := rfl
  have hnn : (nI n).toNatClampNeg = n := nI_clamp hn
  refine va_copyi (D := D) C.1 C.2.1 (C.2.2.1.trans hl.1.symm) C.2.2.2.1 (C.2.2.2.2.1 _ hw) (C.2.2.2.2.1 _ ac_nat) (C.2.2.2.2.1 _ ac_stat) (C.2.2.2.2.1 _ ac_ini) C.2.2.2.2.2.2.2.1 hP hD hS (a0 - g.1) (a - g.1) 0 0 (wsO_k hk0) (wsO_k hkd) rfl rfl rfl (by decide) (by decide) (nI_pos hn) (by rw [hz, hnn]; exact Nat.le_of_eq (Nat.zero_add n)) (by rw [hz, hnn]; exact Nat.le_of_eq (Nat.zero_add n)) (fun _ _ => rfl) (Nat.le_trans hfr C.2.2.2.2.2.1.1) (Nat.le_trans hlc C.2.2.2.2.2.1.2) d (fun H locs hP hD hS => ?_)
  rw [wsO_set (h2 := cpI h a0 a n) hkd (by show celU cy (6, n) a (ufn h.1 a _ a) _ _ = _; rw [ufn_same, hnn]; rfl) (cpI_ne _ _ _ _)] at hP hD
  exact k p l e R s m args below meth co D cy A cells slots Q C hr H locs ls hP hD hS hl
theorem ev_copyF {a0 x : Nat} (hk0 : KD g.1 a0 7 n) (hkd : KD g.1 a 7 n) (hn : n < 2 ^ 31) (hfr : 1 ≤ fr) (hlc : (st.map fun v => v.category).sum + (nativeFrameWords "java/lang/System" "arraycopy" 5 + 11) ≤ lc) (hw : Cond.methodLink y.cls x arraycopyName ∈ lw_u) (d : decode cc pc = .ok (.invokestatic x, 3)) (k : Ev y cc maxL ret fr lc g (pc + 3) st lv (cpF h a0 a n) r h2) : Ev y cc maxL ret fr lc g pc (.int (nI n) :: .int 0 :: .ref a :: .int 0 :: .ref a0 :: st) lv h r h2 := by
  intro p l e R s m args below meth co D cy A cells slots Q C hr H locs ls hP hD hS hl
  have hz : ((0 : Int32)).toNatClampNeg = 0 := rfl
  have hnn : (nI n).toNatClampNeg = n := nI_clamp hn
  refine va_copyf (D := D) C.1 C.2.1 (C.2.2.1.trans hl.1.symm) C.2.2.2.1 (C.2.2.2.2.1 _ hw) (C.2.2.2.2.1 _ ac_nat) (C.2.2.2.2.1 _ ac_stat) (C.2.2.2.2.1 _ ac_ini) C.2.2.2.2.2.2.2.1 hP hD hS (a0 - g.1) (a - g.1) 1 1 (wsO_k hk0) (wsO_k hkd) rfl rfl rfl (by decide) (by decide) (nI_pos hn) (by rw [hz, hnn]; exact Nat.le_of_eq (Nat.zero_add n)) (by rw [hz, hnn]; exact Nat.le_of_eq (Nat.zero_add n)) (fun _ _ => rfl) (Nat.le_trans hfr C.2.2.2.2.2.1.1) (Nat.le_trans hlc C.2.2.2.2.2.1.2) d (fun H locs hP hD hS => ?_)
  rw [wsO_set (h2 := cpF h a0 a n) hkd (by show celU cy (7, n) a _ _ (ufn h.2.2 a _ a) = _; rw [ufn_same, hnn]; rfl) (cpF_ne _ _ _ _)] at hP hD
  exact k p l e R s m args below meth co D cy A cells slots Q C hr H locs ls hP hD hS hl
end EvHeap
end
section
def Pre (g : Gl) (D : va_G) (cy : Nat → ClassId) (h : Hp) (sz : Nat) (U : State) : Prop := U.heap.size = sz ∧ va_P D vcls (wsO cy h g.1) U.heap ∧ va_D (fun _ => True) (wsO cy h g.1) ∧ va_K D vcls (tysO cy) U ∧ St g (va_A (wsO cy h g.1) sz) U
def Post (g : Gl) (D : va_G) (cy : Nat → ClassId) (h2 : Hp) (r : Option Value) (A : Nat → Prop) (st : State) (oc : Outcome) (t : State) : Prop := (oc = .returned r ∧ va_P D vcls (wsO cy h2 g.1) t.heap) ∧ va_F A st t
theorem St_same {g : Gl} {A : Nat → Prop} {u U : State} (hv : u.vm = U.vm) (hh : U.heap = u.heap) (h : St g A u) : St g A U := by
  have hal : u.vm.Alike U.vm := by rw [hv]; exact Vm.Alike.refl _
  refine ⟨fun k hk => ?_, fun k hk => ⟨?_, (h.2 k hk).2.same rfl hv⟩⟩
  · rw [hh]; exact (h.1 k hk).moved hal
  · rw [hh]; exact (h.2 k hk).1.moved hal
theorem St_call {g : Gl} {A A1 : Nat → Prop} {s U : State} {H : Heap} {locs : List Loc} (h : St g A s) (hS : va_S A s.heap H locs) (hU : U.heap = H) (hW : s.WarmedH U.vm) (hAA : ∀ q, A1 q → A q) : St g A1 U := by
  refine ⟨fun k hk => ?_, fun k hk => ⟨?_, (h.2 k hk).2.warmF hW⟩⟩
  · rw [hU]; exact (((h.1 k hk).kept (fun a h1 h2 => hS.2.1 a h1 h2)).moved hW.alike).narrow hAA
  · rw [hU]; exact (((h.2 k hk).1.kept (fun a h1 h2 => hS.2.1 a h1 h2)).moved hW.alike).narrow hAA
theorem Pre_blind {g : Gl} {D : va_G} {cy : Nat → ClassId} {h : Hp} {sz : Nat} {As : List Value} : FrameBlind (va_Pc As (Pre g D cy h sz)) := by
  intro a U f mk q
  obtain ⟨q0, q1, qP, qD, qK, qS⟩ := q
  exact ⟨q0, q1, qP, qD, va_K.moved (u := U) (U := U.calling f mk a) (Vm.Alike.refl U.vm) qK, St_same (u := U) (U := U.calling f mk a) rfl rfl qS⟩
section EvCall
variable {y y1 : MethodName} {cc cc1 : ByteArray} {maxL fr lc maxL1 fr1 lc1 : Nat} {ret : Option FieldType} {g : Gl} {pc : Nat} {st st0 : List Value} {lv lv2 : List (Nat × Value)} {h h1 h2 : Hp} {r r1 : Option Value} {ret1 : Option FieldType} {As : List Value}
theorem met_of (hy : plainName y.cls = true) (hlen : (lg_sl As).length ≤ maxL) (E : Ev y cc maxL ret fr lc g 0 [] (lv_args 0 As) h r h2) (l : Launch) (D : va_G) (cy : Nat → ClassId) (sz : Nat) :
    Met l y (.code y cc maxL ret :: lw_u) { frames := fr, cells := 0, slots := 0, locals := lc } (va_Pc As (Pre g D cy h sz)) (fun _ st oc t => Post g D cy h2 r (va_A (wsO cy h g.1) sz) st oc t) 0 0 (va_A (wsO cy h g.1) sz) := by
  refine Met.ofW (cc := cc) (maxL := maxL) (ret := ret) hy rfl ?_
  intro p e s m args below meth c s₁ B hml hv
  obtain ⟨rfl, hsz, hP, hD0, hK, hSt⟩ := hv
  have hts := atoms_spec (ws := .code y cc maxL ret :: lw_u) B.pre
  have hown : s.vm.findClass y.cls = some m.cls := findClass_of_methodNamed B.named
  have hlocks := B.notSynchronized
  have hr := B.returns
  subst hsz
  have hD := hD0.self (sz := s.heap.size)
  have C : Cx y cc maxL fr lc g D cy (va_A (wsO cy h g.1) s.heap.size) p (headSpec (.code y cc maxL ret :: lw_u) { frames := fr, cells := 0, slots := 0, locals := lc }).room s m As.toArray c 0 0 := ⟨B.exec, B.bytes, hml, hown, fun w hw => hts w (List.mem_cons_of_mem _ hw), ⟨Nat.le_refl _, Nat.le_refl _⟩, ⟨Nat.le_refl _, Nat.le_refl _⟩, hK, hSt, fun q hq => Or.inr hq⟩
  have hl := lv_entry As (n := maxL) hlen
  rw [lg_entry_eq]
  refine E p l e _ s m _ below meth c D cy _ 0 0 _ C ?_ s.heap [] _ hP hD va_S.rf hl
  intro H1 locs1 ls1 pc1 ig hri hret hd hP1 hS1
  match r, hret, hri with
  | none, hret, hri =>
    cases hri
    exact W.vret B.exec B.bytes (hr.trans hret) (fun t ht hW => ⟨⟨rfl, by rw [ht]; exact hP1⟩, hS1.F ht⟩) hS1.2.2 hd
  | some (.int v), hret, hri =>
    cases hri
    obtain ⟨ty, e1, e2⟩ := hret
    exact W.zret B.exec B.bytes (hr.trans e1) e2 (fun t ht hW => ⟨⟨rfl, by rw [ht]; exact hP1⟩, hS1.F ht⟩) hS1.2.2 hd
  | some (.long v), hret, hri =>
    cases hri
    exact W.lret B.exec B.bytes (hr.trans hret) (fun t ht hW => ⟨⟨rfl, by rw [ht]; exact hP1⟩, hS1.F ht⟩) hS1.2.2 hd
  | some (.float v), hret, hri =>
    cases hri
    exact W.fret B.exec B.bytes (hr.trans hret) (fun t ht hW => ⟨⟨rfl, by rw [ht]; exact hP1⟩, hS1.F ht⟩) hS1.2.2 hd
  | some (.double v), hret, hri =>
    cases hri
    exact W.dret B.exec B.bytes (hr.trans hret) (fun t ht hW => ⟨⟨rfl, by rw [ht]; exact hP1⟩, hS1.F ht⟩) hS1.2.2 hd
theorem ev_run {p : Program} {l : Launch} {e : Env} {R : Room} {s : State} {m : MethodId} {args : Array Value} {below : List Frame} {meth : Method} {c : Code} {H H0 : Heap} {locs : List Loc} {cells slots : Nat} {Q : State → Prop} {D : va_G} {cy : Nat → ClassId} {ls : Array Slot} {A0 A1 : Nat → Prop} {free : Addr → Prop}
    (hr : va_Run p l e R s m args below meth c H locs cells slots 0 0 (F0 m pc ls st0) st (fun st oc t => Post g D cy h1 r1 A1 st oc t) free) (hS : va_S A0 H0 H locs) (hA : ∀ q, q < H.size → A1 q → A0 q) (hf : ∀ q, free q → A0 q)
    (kk : ∀ (H1 : Heap) (locs1 : List Loc), va_P D vcls (wsO cy h1 g.1) H1 → va_S A0 H0 H1 locs1 → W p l e R s m args below meth c H1 locs1 cells slots Q (F0 m (pc + 3) ls (r1.toList ++ st))) : W p l e R s m args below meth c H locs cells slots Q (F0 m pc ls st0) := by
  intro T hT X
  obtain ⟨v, st₀, t, T', L, h0, X', hL, e1, e2, ⟨⟨hv, hb⟩, hz, hk⟩, st⟩ := hr T hT X
  cases hv
  rw [h0] at hz hk
  obtain ⟨t2, a1, b1⟩ := kk T'.heap (locs ++ L) (by rw [e1]; exact hb)
    ⟨Nat.le_trans hS.1 (by rw [e1]; exact hz), fun q g1 g2 => by rw [e1, hk q (Nat.lt_of_lt_of_le g1 hS.1) (fun z => g2 (hA q (Nat.lt_of_lt_of_le g1 hS.1) z))]; exact hS.2.1 q g1 g2, fun q hq => by
      rcases List.mem_append.mp hq with z | z
      · exact hS.2.2 q z
      · exact hf _ (hL q z)⟩ T' rfl X'
  exact ⟨t2, st t2 a1, b1⟩
def CalV (y : MethodName) (cc : ByteArray) (maxL : Nat) (ret : Option FieldType) (n : Nat) : Prop := (Cond.instanceMethod y ∈ lw_u ∧ Cond.selects y.cls y y ∈ lw_u ∧ Cond.initialized y.cls ∈ lw_u ∧ Cond.code y cc maxL ret ∈ lw_u) ∧ (y.cls ≠ "java/lang/invoke/MethodHandle" ∧ y.cls ≠ "java/lang/invoke/VarHandle" ∧ (parseMethodDescriptor y.desc).map (fun d => d.parameters.length) = some n) ∧ plainName y.cls = true
def CalS (y : MethodName) (cc : ByteArray) (maxL : Nat) (ret : Option FieldType) (n : Nat) : Prop := (Cond.static y ∈ lw_u ∧ Cond.initialized y.cls ∈ lw_u ∧ Cond.code y cc maxL ret ∈ lw_u) ∧ (y.cls ≠ "java/lang/invoke/MethodHandle" ∧ y.cls ≠ "java/lang/invoke/VarHandle" ∧ (parseMethodDescriptor y.desc).map (fun d => d.parameters.length) = some n) ∧ plainName y.cls = true
theorem wsO_free {cy : Nat → ClassId} {h : Hp} {o : Nat} {A : Nat → Prop} {H0 H : Heap} {locs : List Loc} (hD : va_D A (wsO cy h o)) (hS : va_S A H0 H locs) (hA : ∀ q, H0.size ≤ q → A q) : ∀ q, va_A (wsO cy h o) H.size q → A q := by
  intro q hq
  rcases hq with ⟨k, e, hk⟩ | hq
  · exact hD.2 k (q, e) hk
  · exact hA q (Nat.le_trans hS.1 hq)
theorem ev_callV {n1 b cb nb x N : Nat} {T : u_T} (cal : CalV y1 cc1 maxL1 ret1 n1) (hkd : KD g.1 b cb nb) (hcb : vcls[cb]? = some (y1.cls, T, N)) (E1 : Ev y1 cc1 maxL1 ret1 fr1 lc1 g 0 [] (lv_args 0 (.ref b :: As)) h r1 h1) (hlen : (lg_sl (.ref b :: As)).length ≤ maxL1) (hn : As.length = n1) (hw : Cond.methodLink y.cls x y1 ∈ lw_u) (hfr : fr1 + 1 ≤ fr) (hlc : 8 + (maxL1 + 11) + lc1 ≤ lc) (hst : (st.map fun v => v.category).sum ≤ 8) (d : decode cc pc = .ok (.invokevirtual x, 3)) (hs0 : st0 = As.reverse ++ .ref b :: st) (k : Ev y cc maxL ret fr lc g (pc + 3) (r1.toList ++ st) lv h1 r h2) : Ev y cc maxL ret fr lc g pc st0 lv h r h2 := by
  intro p l e R s m args below meth co D cy A cells slots Q C hr H locs ls hP hD hS hl
  have hF := wsO_free hD hS C.2.2.2.2.2.2.2.2.2
  have hM := met_of cal.2.2 hlen E1 l D cy H.size
  have hpc : ∀ U : State, U.heap = H → s.WarmedH U.vm → Pre g D cy h H.size U := fun U hU hW => ⟨by rw [hU], by rw [hU]; exact hP, hD.weaken (fun _ _ _ _ => trivial), va_K.moved hW.alike C.2.2.2.2.2.2.2.1, St_call C.2.2.2.2.2.2.2.2.1 hS hU hW hF⟩
  have hG : GoodIn lw_u (wsV y.cls x y1.cls y1 (.code y1 cc1 maxL1 ret1 :: lw_u)) := goodInU (fun w hh => by
    unfold wsV at hh
    rcases List.mem_append.mp hh with hh | hh
    · simp only [List.mem_cons, List.not_mem_nil, or_false] at hh
      rcases hh with rfl | rfl | rfl | rfl
      · exact hw
      · exact cal.1.1
      · exact cal.1.2.1
      · exact cal.1.2.2.1
    · rcases List.mem_cons.mp hh with rfl | hh
      · exact cal.1.2.2.2
      · exact hh)
  refine ev_run (va_runV (As := As) (rest := st) ⟨C.1, C.2.1, C.2.2.1, C.2.2.2.1, C.2.2.2.2.1⟩ hM (cwV n1 C.2.2.2.2.1 hG rfl rfl rfl ⟨rfl, cal.2.1⟩ ⟨Nat.le_trans hfr C.2.2.2.2.2.1.1, Nat.le_trans hlc C.2.2.2.2.2.1.2⟩) ⟨Pre_blind, va_recv C.2.2.2.2.2.2.2.1 hP hcb (wsO_obj hkd (cls_lt hcb)), fun U hU hW => ⟨rfl, hpc U hU hW⟩⟩ rfl hn hl.1 hs0 (lv_room hst) d ⟨C.2.2.2.2.2.2.1.1, C.2.2.2.2.2.2.1.2⟩) hS (fun q _ hq => hF q hq) hF (fun H locs hP hS => ?_)
  exact k p l e R s m args below meth co D cy A cells slots Q C hr H locs ls hP (wsO_D hD) hS hl
theorem ev_callS {n1 x : Nat} (cal : CalS y1 cc1 maxL1 ret1 n1) (E1 : Ev y1 cc1 maxL1 ret1 fr1 lc1 g 0 [] (lv_args 0 As) h r1 h1) (hlen : (lg_sl As).length ≤ maxL1) (hn : As.length = n1) (hw : Cond.methodLink y.cls x y1 ∈ lw_u) (hfr : fr1 + 1 ≤ fr) (hlc : 8 + (maxL1 + 11) + lc1 ≤ lc) (hst : (st.map fun v => v.category).sum ≤ 8) (d : decode cc pc = .ok (.invokestatic x, 3)) (hs0 : st0 = As.reverse ++ st) (k : Ev y cc maxL ret fr lc g (pc + 3) (r1.toList ++ st) lv h1 r h2) : Ev y cc maxL ret fr lc g pc st0 lv h r h2 := by
  intro p l e R s m args below meth co D cy A cells slots Q C hr H locs ls hP hD hS hl
  have hF := wsO_free hD hS C.2.2.2.2.2.2.2.2.2
  have hM := met_of cal.2.2 hlen E1 l D cy H.size
  have hpc : ∀ U : State, U.heap = H → s.WarmedH U.vm → Pre g D cy h H.size U := fun U hU hW => ⟨by rw [hU], by rw [hU]; exact hP, hD.weaken (fun _ _ _ _ => trivial), va_K.moved hW.alike C.2.2.2.2.2.2.2.1, St_call C.2.2.2.2.2.2.2.2.1 hS hU hW hF⟩
  have hG : GoodIn lw_u (va_wsS y.cls x y1 (.code y1 cc1 maxL1 ret1 :: lw_u)) := goodInU (fun w hh => by
    unfold va_wsS at hh
    rcases List.mem_append.mp hh with hh | hh
    · simp only [List.mem_cons, List.not_mem_nil, or_false] at hh
      rcases hh with rfl | rfl | rfl
      · exact hw
      · exact cal.1.1
      · exact cal.1.2.1
    · rcases List.mem_cons.mp hh with rfl | hh
      · exact cal.1.2.2
      · exact hh)
  refine ev_run (va_runS (As := As) (rest := st) ⟨C.1, C.2.1, C.2.2.1, C.2.2.2.1, C.2.2.2.2.1⟩ hM (va_cwS n1 C.2.2.2.2.1 hG rfl rfl rfl cal.2.1 ⟨Nat.le_trans hfr C.2.2.2.2.2.1.1, Nat.le_trans hlc C.2.2.2.2.2.1.2⟩) ⟨Pre_blind, fun U hU hW => ⟨rfl, hpc U hU hW⟩⟩ rfl hn hl.1 hs0 (lv_room hst) d ⟨C.2.2.2.2.2.2.1.1, C.2.2.2.2.2.2.1.2⟩) hS (fun q _ hq => hF q hq) hF (fun H locs hP hS => ?_)
  exact k p l e R s m args below meth co D cy A cells slots Q C hr H locs ls hP (wsO_D hD) hS hl
theorem ev_f2iRaw {x : Nat} {v : UInt32} (hfr : 1 ≤ fr) (hlc : (st.map fun v => v.category).sum + 15 ≤ lc) (hw : Cond.methodLink y.cls x ⟨"java/lang/Float", "floatToRawIntBits", "(F)I"⟩ ∈ lw_u) (h3 : Cond.native ⟨"java/lang/Float", "floatToRawIntBits", "(F)I"⟩ ∈ lw_u) (h4 : Cond.static ⟨"java/lang/Float", "floatToRawIntBits", "(F)I"⟩ ∈ lw_u) (h5 : Cond.initialized "java/lang/Float" ∈ lw_u) (d : decode cc pc = .ok (.invokestatic x, 3)) (k : Ev y cc maxL ret fr lc g (pc + 3) (.int v.toInt32 :: st) lv h r h2) : Ev y cc maxL ret fr lc g pc (.float v :: st) lv h r h2 := by
  intro p l e R s m args below meth co D cy A cells slots Q C hr H locs ls hP hD hS hl
  exact vn_f2i C.1 C.2.1 (C.2.2.1.trans hl.1.symm) C.2.2.2.1 (C.2.2.2.2.1 _ hw) (C.2.2.2.2.1 _ h3) (C.2.2.2.2.1 _ h4) (C.2.2.2.2.1 _ h5) (Nat.le_trans hfr C.2.2.2.2.2.1.1) (Nat.le_trans hlc C.2.2.2.2.2.1.2) d (k p l e R s m args below meth co D cy A cells slots Q C hr H locs ls hP hD hS hl)
theorem ev_d2lRaw {x : Nat} {v : UInt64} (hfr : 1 ≤ fr) (hlc : (st.map fun v => v.category).sum + 15 ≤ lc) (hw : Cond.methodLink y.cls x ⟨"java/lang/Double", "doubleToRawLongBits", "(D)J"⟩ ∈ lw_u) (h3 : Cond.native ⟨"java/lang/Double", "doubleToRawLongBits", "(D)J"⟩ ∈ lw_u) (h4 : Cond.static ⟨"java/lang/Double", "doubleToRawLongBits", "(D)J"⟩ ∈ lw_u) (h5 : Cond.initialized "java/lang/Double" ∈ lw_u) (d : decode cc pc = .ok (.invokestatic x, 3)) (k : Ev y cc maxL ret fr lc g (pc + 3) (.long v.toInt64 :: st) lv h r h2) : Ev y cc maxL ret fr lc g pc (.double v :: st) lv h r h2 := by
  intro p l e R s m args below meth co D cy A cells slots Q C hr H locs ls hP hD hS hl
  exact vn_d2l C.1 C.2.1 (C.2.2.1.trans hl.1.symm) C.2.2.2.1 (C.2.2.2.2.1 _ hw) (C.2.2.2.2.1 _ h3) (C.2.2.2.2.1 _ h4) (C.2.2.2.2.1 _ h5) (Nat.le_trans hfr C.2.2.2.2.2.1.1) (Nat.le_trans hlc C.2.2.2.2.2.1.2) d (k p l e R s m args below meth co D cy A cells slots Q C hr H locs ls hP hD hS hl)
theorem ev_callVi {v : Int32} {n1 b cb nb x N : Nat} {T : u_T} (cal : CalV y1 cc1 maxL1 ret1 n1) (hkd : KD g.1 b cb nb) (hcb : vcls[cb]? = some (y1.cls, T, N)) (E1 : Ev y1 cc1 maxL1 ret1 fr1 lc1 g 0 [] (lv_args 0 (.ref b :: As)) h (some (.int v)) h1) (hlen : (lg_sl (.ref b :: As)).length ≤ maxL1) (hn : As.length = n1) (hw : Cond.methodLink y.cls x y1 ∈ lw_u) (hfr : fr1 + 1 ≤ fr) (hlc : 8 + (maxL1 + 11) + lc1 ≤ lc) (hst : (st.map fun v => v.category).sum ≤ 8) (d : decode cc pc = .ok (.invokevirtual x, 3)) (hs0 : st0 = As.reverse ++ .ref b :: st) (k : Ev y cc maxL ret fr lc g (pc + 3) (.int v :: st) lv h1 r h2) : Ev y cc maxL ret fr lc g pc st0 lv h r h2 := ev_callV cal hkd hcb E1 hlen hn hw hfr hlc hst d hs0 k
theorem ev_callVl {v : Int64} {n1 b cb nb x N : Nat} {T : u_T} (cal : CalV y1 cc1 maxL1 ret1 n1) (hkd : KD g.1 b cb nb) (hcb : vcls[cb]? = some (y1.cls, T, N)) (E1 : Ev y1 cc1 maxL1 ret1 fr1 lc1 g 0 [] (lv_args 0 (.ref b :: As)) h (some (.long v)) h1) (hlen : (lg_sl (.ref b :: As)).length ≤ maxL1) (hn : As.length = n1) (hw : Cond.methodLink y.cls x y1 ∈ lw_u) (hfr : fr1 + 1 ≤ fr) (hlc : 8 + (maxL1 + 11) + lc1 ≤ lc) (hst : (st.map fun v => v.category).sum ≤ 8) (d : decode cc pc = .ok (.invokevirtual x, 3)) (hs0 : st0 = As.reverse ++ .ref b :: st) (k : Ev y cc maxL ret fr lc g (pc + 3) (.long v :: st) lv h1 r h2) : Ev y cc maxL ret fr lc g pc st0 lv h r h2 := ev_callV cal hkd hcb E1 hlen hn hw hfr hlc hst d hs0 k
theorem ev_callVf {v : UInt32} {n1 b cb nb x N : Nat} {T : u_T} (cal : CalV y1 cc1 maxL1 ret1 n1) (hkd : KD g.1 b cb nb) (hcb : vcls[cb]? = some (y1.cls, T, N)) (E1 : Ev y1 cc1 maxL1 ret1 fr1 lc1 g 0 [] (lv_args 0 (.ref b :: As)) h (some (.float v)) h1) (hlen : (lg_sl (.ref b :: As)).length ≤ maxL1) (hn : As.length = n1) (hw : Cond.methodLink y.cls x y1 ∈ lw_u) (hfr : fr1 + 1 ≤ fr) (hlc : 8 + (maxL1 + 11) + lc1 ≤ lc) (hst : (st.map fun v => v.category).sum ≤ 8) (d : decode cc pc = .ok (.invokevirtual x, 3)) (hs0 : st0 = As.reverse ++ .ref b :: st) (k : Ev y cc maxL ret fr lc g (pc + 3) (.float v :: st) lv h1 r h2) : Ev y cc maxL ret fr lc g pc st0 lv h r h2 := ev_callV cal hkd hcb E1 hlen hn hw hfr hlc hst d hs0 k
theorem ev_callVv  {n1 b cb nb x N : Nat} {T : u_T} (cal : CalV y1 cc1 maxL1 ret1 n1) (hkd : KD g.1 b cb nb) (hcb : vcls[cb]? = some (y1.cls, T, N)) (E1 : Ev y1 cc1 maxL1 ret1 fr1 lc1 g 0 [] (lv_args 0 (.ref b :: As)) h (none) h1) (hlen : (lg_sl (.ref b :: As)).length ≤ maxL1) (hn : As.length = n1) (hw : Cond.methodLink y.cls x y1 ∈ lw_u) (hfr : fr1 + 1 ≤ fr) (hlc : 8 + (maxL1 + 11) + lc1 ≤ lc) (hst : (st.map fun v => v.category).sum ≤ 8) (d : decode cc pc = .ok (.invokevirtual x, 3)) (hs0 : st0 = As.reverse ++ .ref b :: st) (k : Ev y cc maxL ret fr lc g (pc + 3) (st) lv h1 r h2) : Ev y cc maxL ret fr lc g pc st0 lv h r h2 := ev_callV cal hkd hcb E1 hlen hn hw hfr hlc hst d hs0 k
theorem ev_callSi {v : Int32} {n1 x : Nat} (cal : CalS y1 cc1 maxL1 ret1 n1) (E1 : Ev y1 cc1 maxL1 ret1 fr1 lc1 g 0 [] (lv_args 0 As) h (some (.int v)) h1) (hlen : (lg_sl As).length ≤ maxL1) (hn : As.length = n1) (hw : Cond.methodLink y.cls x y1 ∈ lw_u) (hfr : fr1 + 1 ≤ fr) (hlc : 8 + (maxL1 + 11) + lc1 ≤ lc) (hst : (st.map fun v => v.category).sum ≤ 8) (d : decode cc pc = .ok (.invokestatic x, 3)) (hs0 : st0 = As.reverse ++ st) (k : Ev y cc maxL ret fr lc g (pc + 3) (.int v :: st) lv h1 r h2) : Ev y cc maxL ret fr lc g pc st0 lv h r h2 := ev_callS cal E1 hlen hn hw hfr hlc hst d hs0 k
theorem ev_callSl {v : Int64} {n1 x : Nat} (cal : CalS y1 cc1 maxL1 ret1 n1) (E1 : Ev y1 cc1 maxL1 ret1 fr1 lc1 g 0 [] (lv_args 0 As) h (some (.long v)) h1) (hlen : (lg_sl As).length ≤ maxL1) (hn : As.length = n1) (hw : Cond.methodLink y.cls x y1 ∈ lw_u) (hfr : fr1 + 1 ≤ fr) (hlc : 8 + (maxL1 + 11) + lc1 ≤ lc) (hst : (st.map fun v => v.category).sum ≤ 8) (d : decode cc pc = .ok (.invokestatic x, 3)) (hs0 : st0 = As.reverse ++ st) (k : Ev y cc maxL ret fr lc g (pc + 3) (.long v :: st) lv h1 r h2) : Ev y cc maxL ret fr lc g pc st0 lv h r h2 := ev_callS cal E1 hlen hn hw hfr hlc hst d hs0 k
theorem ev_callSf {v : UInt32} {n1 x : Nat} (cal : CalS y1 cc1 maxL1 ret1 n1) (E1 : Ev y1 cc1 maxL1 ret1 fr1 lc1 g 0 [] (lv_args 0 As) h (some (.float v)) h1) (hlen : (lg_sl As).length ≤ maxL1) (hn : As.length = n1) (hw : Cond.methodLink y.cls x y1 ∈ lw_u) (hfr : fr1 + 1 ≤ fr) (hlc : 8 + (maxL1 + 11) + lc1 ≤ lc) (hst : (st.map fun v => v.category).sum ≤ 8) (d : decode cc pc = .ok (.invokestatic x, 3)) (hs0 : st0 = As.reverse ++ st) (k : Ev y cc maxL ret fr lc g (pc + 3) (.float v :: st) lv h1 r h2) : Ev y cc maxL ret fr lc g pc st0 lv h r h2 := ev_callS cal E1 hlen hn hw hfr hlc hst d hs0 k
theorem ev_callSv  {n1 x : Nat} (cal : CalS y1 cc1 maxL1 ret1 n1) (E1 : Ev y1 cc1 maxL1 ret1 fr1 lc1 g 0 [] (lv_args 0 As) h (none) h1) (hlen : (lg_sl As).length ≤ maxL1) (hn : As.length = n1) (hw : Cond.methodLink y.cls x y1 ∈ lw_u) (hfr : fr1 + 1 ≤ fr) (hlc : 8 + (maxL1 + 11) + lc1 ≤ lc) (hst : (st.map fun v => v.category).sum ≤ 8) (d : decode cc pc = .ok (.invokestatic x, 3)) (hs0 : st0 = As.reverse ++ st) (k : Ev y cc maxL ret fr lc g (pc + 3) (st) lv h1 r h2) : Ev y cc maxL ret fr lc g pc st0 lv h r h2 := ev_callS cal E1 hlen hn hw hfr hlc hst d hs0 k
end EvCall
end
