theorem dX6_areDone_0 : decode cX6_areDone 0 = .ok (.iconst 1, 1) := by decide +kernel
theorem dX6_areDone_1 : decode cX6_areDone 1 = .ok (.istore_n 1, 1) := by decide +kernel
theorem dX6_areDone_2 : decode cX6_areDone 2 = .ok (.iconst 0, 1) := by decide +kernel
theorem dX6_areDone_3 : decode cX6_areDone 3 = .ok (.istore_n 2, 1) := by decide +kernel
theorem dX6_areDone_4 : decode cX6_areDone 4 = .ok (.iload_n 2, 1) := by decide +kernel
theorem dX6_areDone_5 : decode cX6_areDone 5 = .ok (.aload_n 0, 1) := by decide +kernel
theorem dX6_areDone_6 : decode cX6_areDone 6 = .ok (.getfield 13, 3) := by decide +kernel
theorem dX6_areDone_9 : decode cX6_areDone 9 = .ok (.iconst 0, 1) := by decide +kernel
theorem dX6_areDone_10 : decode cX6_areDone 10 = .ok (.iaload, 1) := by decide +kernel
theorem dX6_areDone_11 : decode cX6_areDone 11 = .ok (.if_icmp .ge 41, 3) := by decide +kernel
theorem dX6_areDone_14 : decode cX6_areDone 14 = .ok (.iload_n 1, 1) := by decide +kernel
theorem dX6_areDone_15 : decode cX6_areDone 15 = .ok (.ifCond .eq 29, 3) := by decide +kernel
theorem dX6_areDone_18 : decode cX6_areDone 18 = .ok (.aload_n 0, 1) := by decide +kernel
theorem dX6_areDone_19 : decode cX6_areDone 19 = .ok (.iload_n 2, 1) := by decide +kernel
theorem dX6_areDone_20 : decode cX6_areDone 20 = .ok (.iconst 0, 1) := by decide +kernel
theorem dX6_areDone_21 : decode cX6_areDone 21 = .ok (.invokevirtual 76, 3) := by decide +kernel
theorem dX6_areDone_24 : decode cX6_areDone 24 = .ok (.ifCond .ne 16, 3) := by decide +kernel
theorem dX6_areDone_27 : decode cX6_areDone 27 = .ok (.aload_n 0, 1) := by decide +kernel
theorem dX6_areDone_28 : decode cX6_areDone 28 = .ok (.iload_n 2, 1) := by decide +kernel
theorem dX6_areDone_29 : decode cX6_areDone 29 = .ok (.iconst 2, 1) := by decide +kernel
theorem dX6_areDone_30 : decode cX6_areDone 30 = .ok (.invokevirtual 76, 3) := by decide +kernel
theorem dX6_areDone_33 : decode cX6_areDone 33 = .ok (.aload_n 0, 1) := by decide +kernel
theorem dX6_areDone_34 : decode cX6_areDone 34 = .ok (.invokevirtual 80, 3) := by decide +kernel
theorem dX6_areDone_37 : decode cX6_areDone 37 = .ok (.if_icmp .ne 7, 3) := by decide +kernel
theorem dX6_areDone_40 : decode cX6_areDone 40 = .ok (.iconst 1, 1) := by decide +kernel
theorem dX6_areDone_41 : decode cX6_areDone 41 = .ok (.goto 4, 3) := by decide +kernel
theorem dX6_areDone_44 : decode cX6_areDone 44 = .ok (.iconst 0, 1) := by decide +kernel
theorem dX6_areDone_45 : decode cX6_areDone 45 = .ok (.istore_n 1, 1) := by decide +kernel
theorem dX6_areDone_46 : decode cX6_areDone 46 = .ok (.iinc 2 1, 3) := by decide +kernel
theorem dX6_areDone_49 : decode cX6_areDone 49 = .ok (.goto (-45), 3) := by decide +kernel
theorem dX6_areDone_52 : decode cX6_areDone 52 = .ok (.iload_n 1, 1) := by decide +kernel
theorem dX6_areDone_53 : decode cX6_areDone 53 = .ok (.ireturn, 1) := by decide +kernel
theorem dX6_honest_0 : decode cX6_honest 0 = .ok (.iconst 0, 1) := by decide +kernel
theorem dX6_honest_1 : decode cX6_honest 1 = .ok (.istore_n 1, 1) := by decide +kernel
theorem dX6_honest_2 : decode cX6_honest 2 = .ok (.iconst 0, 1) := by decide +kernel
theorem dX6_honest_3 : decode cX6_honest 3 = .ok (.istore_n 2, 1) := by decide +kernel
theorem dX6_honest_4 : decode cX6_honest 4 = .ok (.iload_n 2, 1) := by decide +kernel
theorem dX6_honest_5 : decode cX6_honest 5 = .ok (.aload_n 0, 1) := by decide +kernel
theorem dX6_honest_6 : decode cX6_honest 6 = .ok (.getfield 13, 3) := by decide +kernel
theorem dX6_honest_9 : decode cX6_honest 9 = .ok (.iconst 0, 1) := by decide +kernel
theorem dX6_honest_10 : decode cX6_honest 10 = .ok (.iaload, 1) := by decide +kernel
theorem dX6_honest_11 : decode cX6_honest 11 = .ok (.if_icmp .ge 26, 3) := by decide +kernel
theorem dX6_honest_14 : decode cX6_honest 14 = .ok (.iload_n 1, 1) := by decide +kernel
theorem dX6_honest_15 : decode cX6_honest 15 = .ok (.aload_n 0, 1) := by decide +kernel
theorem dX6_honest_16 : decode cX6_honest 16 = .ok (.iload_n 2, 1) := by decide +kernel
theorem dX6_honest_17 : decode cX6_honest 17 = .ok (.iconst 0, 1) := by decide +kernel
theorem dX6_honest_18 : decode cX6_honest 18 = .ok (.invokevirtual 76, 3) := by decide +kernel
theorem dX6_honest_21 : decode cX6_honest 21 = .ok (.ifCond .ne 7, 3) := by decide +kernel
theorem dX6_honest_24 : decode cX6_honest 24 = .ok (.iconst 1, 1) := by decide +kernel
theorem dX6_honest_25 : decode cX6_honest 25 = .ok (.goto 4, 3) := by decide +kernel
theorem dX6_honest_28 : decode cX6_honest 28 = .ok (.iconst 0, 1) := by decide +kernel
theorem dX6_honest_29 : decode cX6_honest 29 = .ok (.iadd, 1) := by decide +kernel
theorem dX6_honest_30 : decode cX6_honest 30 = .ok (.istore_n 1, 1) := by decide +kernel
theorem dX6_honest_31 : decode cX6_honest 31 = .ok (.iinc 2 1, 3) := by decide +kernel
theorem dX6_honest_34 : decode cX6_honest 34 = .ok (.goto (-30), 3) := by decide +kernel
theorem dX6_honest_37 : decode cX6_honest 37 = .ok (.iload_n 1, 1) := by decide +kernel
theorem dX6_honest_38 : decode cX6_honest 38 = .ok (.ireturn, 1) := by decide +kernel
theorem dX6_canPeer_0 : decode cX6_canPeer 0 = .ok (.iload_n 1, 1) := by decide +kernel
theorem dX6_canPeer_1 : decode cX6_canPeer 1 = .ok (.iconst 0, 1) := by decide +kernel
theorem dX6_canPeer_2 : decode cX6_canPeer 2 = .ok (.iconst 2, 1) := by decide +kernel
theorem dX6_canPeer_3 : decode cX6_canPeer 3 = .ok (.invokestatic 72, 3) := by decide +kernel
theorem dX6_canPeer_6 : decode cX6_canPeer 6 = .ok (.ifCond .eq 12, 3) := by decide +kernel
theorem dX6_canPeer_9 : decode cX6_canPeer 9 = .ok (.iload_n 2, 1) := by decide +kernel
theorem dX6_canPeer_10 : decode cX6_canPeer 10 = .ok (.iconst 1, 1) := by decide +kernel
theorem dX6_canPeer_11 : decode cX6_canPeer 11 = .ok (.iconst 4, 1) := by decide +kernel
theorem dX6_canPeer_12 : decode cX6_canPeer 12 = .ok (.invokestatic 72, 3) := by decide +kernel
theorem dX6_canPeer_15 : decode cX6_canPeer 15 = .ok (.ifCond .ne 8, 3) := by decide +kernel
theorem dX6_canPeer_18 : decode cX6_canPeer 18 = .ok (.bipush (-2), 2) := by decide +kernel
theorem dX6_canPeer_20 : decode cX6_canPeer 20 = .ok (.goto 20, 3) := by decide +kernel
theorem dX6_canPeer_23 : decode cX6_canPeer 23 = .ok (.aload_n 0, 1) := by decide +kernel
theorem dX6_canPeer_24 : decode cX6_canPeer 24 = .ok (.getfield 13, 3) := by decide +kernel
theorem dX6_canPeer_27 : decode cX6_canPeer 27 = .ok (.iconst 0, 1) := by decide +kernel
theorem dX6_canPeer_28 : decode cX6_canPeer 28 = .ok (.iaload, 1) := by decide +kernel
theorem dX6_canPeer_29 : decode cX6_canPeer 29 = .ok (.bipush 6, 2) := by decide +kernel
theorem dX6_canPeer_31 : decode cX6_canPeer 31 = .ok (.if_icmp .ne 8, 3) := by decide +kernel
theorem dX6_canPeer_34 : decode cX6_canPeer 34 = .ok (.bipush (-4), 2) := by decide +kernel
theorem dX6_canPeer_36 : decode cX6_canPeer 36 = .ok (.goto 4, 3) := by decide +kernel
theorem dX6_canPeer_39 : decode cX6_canPeer 39 = .ok (.iconst 0, 1) := by decide +kernel
theorem dX6_canPeer_40 : decode cX6_canPeer 40 = .ok (.ireturn, 1) := by decide +kernel
theorem dX6_peerComes_0 : decode cX6_peerComes 0 = .ok (.aload_n 0, 1) := by decide +kernel
theorem dX6_peerComes_1 : decode cX6_peerComes 1 = .ok (.getfield 13, 3) := by decide +kernel
theorem dX6_peerComes_4 : decode cX6_peerComes 4 = .ok (.iconst 0, 1) := by decide +kernel
theorem dX6_peerComes_5 : decode cX6_peerComes 5 = .ok (.iaload, 1) := by decide +kernel
theorem dX6_peerComes_6 : decode cX6_peerComes 6 = .ok (.istore_n 3, 1) := by decide +kernel
theorem dX6_peerComes_7 : decode cX6_peerComes 7 = .ok (.iconst 0, 1) := by decide +kernel
theorem dX6_peerComes_8 : decode cX6_peerComes 8 = .ok (.istore 4, 2) := by decide +kernel
theorem dX6_peerComes_10 : decode cX6_peerComes 10 = .ok (.iload 4, 2) := by decide +kernel
theorem dX6_peerComes_12 : decode cX6_peerComes 12 = .ok (.bipush 48, 2) := by decide +kernel
theorem dX6_peerComes_14 : decode cX6_peerComes 14 = .ok (.if_icmp .ge 33, 3) := by decide +kernel
theorem dX6_peerComes_17 : decode cX6_peerComes 17 = .ok (.aload_n 0, 1) := by decide +kernel
theorem dX6_peerComes_18 : decode cX6_peerComes 18 = .ok (.getfield 13, 3) := by decide +kernel
theorem dX6_peerComes_21 : decode cX6_peerComes 21 = .ok (.iload_n 3, 1) := by decide +kernel
theorem dX6_peerComes_22 : decode cX6_peerComes 22 = .ok (.invokestatic 68, 3) := by decide +kernel
theorem dX6_peerComes_25 : decode cX6_peerComes 25 = .ok (.iload 4, 2) := by decide +kernel
theorem dX6_peerComes_27 : decode cX6_peerComes 27 = .ok (.iadd, 1) := by decide +kernel
theorem dX6_peerComes_28 : decode cX6_peerComes 28 = .ok (.iload 4, 2) := by decide +kernel
theorem dX6_peerComes_30 : decode cX6_peerComes 30 = .ok (.bipush 15, 2) := by decide +kernel
theorem dX6_peerComes_32 : decode cX6_peerComes 32 = .ok (.if_icmp .ge 7, 3) := by decide +kernel
theorem dX6_peerComes_35 : decode cX6_peerComes 35 = .ok (.iconst 0, 1) := by decide +kernel
theorem dX6_peerComes_36 : decode cX6_peerComes 36 = .ok (.goto 4, 3) := by decide +kernel
theorem dX6_peerComes_39 : decode cX6_peerComes 39 = .ok (.iconst (-1), 1) := by decide +kernel
theorem dX6_peerComes_40 : decode cX6_peerComes 40 = .ok (.iastore, 1) := by decide +kernel
theorem dX6_peerComes_41 : decode cX6_peerComes 41 = .ok (.iinc 4 1, 3) := by decide +kernel
theorem dX6_peerComes_44 : decode cX6_peerComes 44 = .ok (.goto (-34), 3) := by decide +kernel
theorem dX6_peerComes_47 : decode cX6_peerComes 47 = .ok (.aload_n 0, 1) := by decide +kernel
theorem dX6_peerComes_48 : decode cX6_peerComes 48 = .ok (.getfield 13, 3) := by decide +kernel
theorem dX6_peerComes_51 : decode cX6_peerComes 51 = .ok (.iload_n 3, 1) := by decide +kernel
theorem dX6_peerComes_52 : decode cX6_peerComes 52 = .ok (.invokestatic 68, 3) := by decide +kernel
theorem dX6_peerComes_55 : decode cX6_peerComes 55 = .ok (.iconst 0, 1) := by decide +kernel
theorem dX6_peerComes_56 : decode cX6_peerComes 56 = .ok (.iadd, 1) := by decide +kernel
theorem dX6_peerComes_57 : decode cX6_peerComes 57 = .ok (.iload_n 1, 1) := by decide +kernel
theorem dX6_peerComes_58 : decode cX6_peerComes 58 = .ok (.iastore, 1) := by decide +kernel
theorem dX6_peerComes_59 : decode cX6_peerComes 59 = .ok (.aload_n 0, 1) := by decide +kernel
theorem dX6_peerComes_60 : decode cX6_peerComes 60 = .ok (.getfield 13, 3) := by decide +kernel
theorem dX6_peerComes_63 : decode cX6_peerComes 63 = .ok (.iload_n 3, 1) := by decide +kernel
theorem dX6_peerComes_64 : decode cX6_peerComes 64 = .ok (.invokestatic 68, 3) := by decide +kernel
theorem dX6_peerComes_67 : decode cX6_peerComes 67 = .ok (.iconst 1, 1) := by decide +kernel
theorem dX6_peerComes_68 : decode cX6_peerComes 68 = .ok (.iadd, 1) := by decide +kernel
theorem dX6_peerComes_69 : decode cX6_peerComes 69 = .ok (.iload_n 2, 1) := by decide +kernel
theorem dX6_peerComes_70 : decode cX6_peerComes 70 = .ok (.iastore, 1) := by decide +kernel
theorem dX6_peerComes_71 : decode cX6_peerComes 71 = .ok (.aload_n 0, 1) := by decide +kernel
theorem dX6_peerComes_72 : decode cX6_peerComes 72 = .ok (.getfield 13, 3) := by decide +kernel
theorem dX6_peerComes_75 : decode cX6_peerComes 75 = .ok (.iload_n 3, 1) := by decide +kernel
theorem dX6_peerComes_76 : decode cX6_peerComes 76 = .ok (.invokestatic 68, 3) := by decide +kernel
theorem dX6_peerComes_79 : decode cX6_peerComes 79 = .ok (.iconst 4, 1) := by decide +kernel
theorem dX6_peerComes_80 : decode cX6_peerComes 80 = .ok (.iadd, 1) := by decide +kernel
theorem dX6_peerComes_81 : decode cX6_peerComes 81 = .ok (.iconst (-1), 1) := by decide +kernel
theorem dX6_peerComes_82 : decode cX6_peerComes 82 = .ok (.iastore, 1) := by decide +kernel
theorem dX6_peerComes_83 : decode cX6_peerComes 83 = .ok (.aload_n 0, 1) := by decide +kernel
theorem dX6_peerComes_84 : decode cX6_peerComes 84 = .ok (.getfield 13, 3) := by decide +kernel
theorem dX6_peerComes_87 : decode cX6_peerComes 87 = .ok (.iconst 0, 1) := by decide +kernel
theorem dX6_peerComes_88 : decode cX6_peerComes 88 = .ok (.dup2, 1) := by decide +kernel
theorem dX6_peerComes_89 : decode cX6_peerComes 89 = .ok (.iaload, 1) := by decide +kernel
theorem dX6_peerComes_90 : decode cX6_peerComes 90 = .ok (.iconst 1, 1) := by decide +kernel
theorem dX6_peerComes_91 : decode cX6_peerComes 91 = .ok (.iadd, 1) := by decide +kernel
theorem dX6_peerComes_92 : decode cX6_peerComes 92 = .ok (.iastore, 1) := by decide +kernel
theorem dX6_peerComes_93 : decode cX6_peerComes 93 = .ok (.iload_n 3, 1) := by decide +kernel
theorem dX6_peerComes_94 : decode cX6_peerComes 94 = .ok (.ireturn, 1) := by decide +kernel
theorem dX6_canGive_0 : decode cX6_canGive 0 = .ok (.aload_n 0, 1) := by decide +kernel
theorem dX6_canGive_1 : decode cX6_canGive 1 = .ok (.iload_n 1, 1) := by decide +kernel
theorem dX6_canGive_2 : decode cX6_canGive 2 = .ok (.invokevirtual 169, 3) := by decide +kernel
theorem dX6_canGive_5 : decode cX6_canGive 5 = .ok (.ifCond .eq 19, 3) := by decide +kernel
theorem dX6_canGive_8 : decode cX6_canGive 8 = .ok (.iload_n 2, 1) := by decide +kernel
theorem dX6_canGive_9 : decode cX6_canGive 9 = .ok (.iconst 0, 1) := by decide +kernel
theorem dX6_canGive_10 : decode cX6_canGive 10 = .ok (.aload_n 0, 1) := by decide +kernel
theorem dX6_canGive_11 : decode cX6_canGive 11 = .ok (.getfield 13, 3) := by decide +kernel
theorem dX6_canGive_14 : decode cX6_canGive 14 = .ok (.iconst 1, 1) := by decide +kernel
theorem dX6_canGive_15 : decode cX6_canGive 15 = .ok (.iaload, 1) := by decide +kernel
theorem dX6_canGive_16 : decode cX6_canGive 16 = .ok (.iconst 1, 1) := by decide +kernel
theorem dX6_canGive_17 : decode cX6_canGive 17 = .ok (.isub, 1) := by decide +kernel
theorem dX6_canGive_18 : decode cX6_canGive 18 = .ok (.invokestatic 72, 3) := by decide +kernel
theorem dX6_canGive_21 : decode cX6_canGive 21 = .ok (.ifCond .ne 6, 3) := by decide +kernel
theorem dX6_canGive_24 : decode cX6_canGive 24 = .ok (.bipush (-2), 2) := by decide +kernel
theorem dX6_canGive_26 : decode cX6_canGive 26 = .ok (.ireturn, 1) := by decide +kernel
theorem dX6_canGive_27 : decode cX6_canGive 27 = .ok (.aload_n 0, 1) := by decide +kernel
theorem dX6_canGive_28 : decode cX6_canGive 28 = .ok (.iload_n 1, 1) := by decide +kernel
theorem dX6_canGive_29 : decode cX6_canGive 29 = .ok (.iload_n 2, 1) := by decide +kernel
theorem dX6_canGive_30 : decode cX6_canGive 30 = .ok (.invokevirtual 86, 3) := by decide +kernel
theorem dX6_canGive_33 : decode cX6_canGive 33 = .ok (.ifCond .ne 13, 3) := by decide +kernel
theorem dX6_canGive_36 : decode cX6_canGive 36 = .ok (.aload_n 0, 1) := by decide +kernel
theorem dX6_canGive_37 : decode cX6_canGive 37 = .ok (.iload_n 1, 1) := by decide +kernel
theorem dX6_canGive_38 : decode cX6_canGive 38 = .ok (.iconst 0, 1) := by decide +kernel
theorem dX6_canGive_39 : decode cX6_canGive 39 = .ok (.invokevirtual 76, 3) := by decide +kernel
theorem dX6_canGive_42 : decode cX6_canGive 42 = .ok (.iconst 2, 1) := by decide +kernel
theorem dX6_canGive_43 : decode cX6_canGive 43 = .ok (.if_icmp .ne 8, 3) := by decide +kernel
theorem dX6_canGive_46 : decode cX6_canGive 46 = .ok (.bipush (-3), 2) := by decide +kernel
theorem dX6_canGive_48 : decode cX6_canGive 48 = .ok (.goto 4, 3) := by decide +kernel
theorem dX6_canGive_51 : decode cX6_canGive 51 = .ok (.iconst 0, 1) := by decide +kernel
theorem dX6_canGive_52 : decode cX6_canGive 52 = .ok (.ireturn, 1) := by decide +kernel
theorem dX6_pieces_0 : decode cX6_pieces 0 = .ok (.iconst 0, 1) := by decide +kernel
theorem dX6_pieces_1 : decode cX6_pieces 1 = .ok (.istore_n 1, 1) := by decide +kernel
theorem dX6_pieces_2 : decode cX6_pieces 2 = .ok (.iconst 0, 1) := by decide +kernel
theorem dX6_pieces_3 : decode cX6_pieces 3 = .ok (.istore_n 2, 1) := by decide +kernel
theorem dX6_pieces_4 : decode cX6_pieces 4 = .ok (.iload_n 2, 1) := by decide +kernel
theorem dX6_pieces_5 : decode cX6_pieces 5 = .ok (.bipush 8, 2) := by decide +kernel
theorem dX6_pieces_7 : decode cX6_pieces 7 = .ok (.if_icmp .ge 17, 3) := by decide +kernel
theorem dX6_pieces_10 : decode cX6_pieces 10 = .ok (.iload_n 1, 1) := by decide +kernel
theorem dX6_pieces_11 : decode cX6_pieces 11 = .ok (.iload_n 0, 1) := by decide +kernel
theorem dX6_pieces_12 : decode cX6_pieces 12 = .ok (.iload_n 2, 1) := by decide +kernel
theorem dX6_pieces_13 : decode cX6_pieces 13 = .ok (.ishr, 1) := by decide +kernel
theorem dX6_pieces_14 : decode cX6_pieces 14 = .ok (.iconst 1, 1) := by decide +kernel
theorem dX6_pieces_15 : decode cX6_pieces 15 = .ok (.iand, 1) := by decide +kernel
theorem dX6_pieces_16 : decode cX6_pieces 16 = .ok (.iadd, 1) := by decide +kernel
theorem dX6_pieces_17 : decode cX6_pieces 17 = .ok (.istore_n 1, 1) := by decide +kernel
theorem dX6_pieces_18 : decode cX6_pieces 18 = .ok (.iinc 2 1, 3) := by decide +kernel
theorem dX6_pieces_21 : decode cX6_pieces 21 = .ok (.goto (-17), 3) := by decide +kernel
theorem dX6_pieces_24 : decode cX6_pieces 24 = .ok (.iload_n 1, 1) := by decide +kernel
theorem dX6_pieces_25 : decode cX6_pieces 25 = .ok (.ireturn, 1) := by decide +kernel
theorem dX6_give_0 : decode cX6_give 0 = .ok (.aload_n 0, 1) := by decide +kernel
theorem dX6_give_1 : decode cX6_give 1 = .ok (.getfield 13, 3) := by decide +kernel
theorem dX6_give_4 : decode cX6_give 4 = .ok (.iload_n 1, 1) := by decide +kernel
theorem dX6_give_5 : decode cX6_give 5 = .ok (.invokestatic 68, 3) := by decide +kernel
theorem dX6_give_8 : decode cX6_give 8 = .ok (.iconst 2, 1) := by decide +kernel
theorem dX6_give_9 : decode cX6_give 9 = .ok (.iadd, 1) := by decide +kernel
theorem dX6_give_10 : decode cX6_give 10 = .ok (.dup2, 1) := by decide +kernel
theorem dX6_give_11 : decode cX6_give 11 = .ok (.iaload, 1) := by decide +kernel
theorem dX6_give_12 : decode cX6_give 12 = .ok (.iconst 1, 1) := by decide +kernel
theorem dX6_give_13 : decode cX6_give 13 = .ok (.iload_n 2, 1) := by decide +kernel
theorem dX6_give_14 : decode cX6_give 14 = .ok (.ishl, 1) := by decide +kernel
theorem dX6_give_15 : decode cX6_give 15 = .ok (.ior, 1) := by decide +kernel
theorem dX6_give_16 : decode cX6_give 16 = .ok (.iastore, 1) := by decide +kernel
theorem dX6_give_17 : decode cX6_give 17 = .ok (.iconst 0, 1) := by decide +kernel
theorem dX6_give_18 : decode cX6_give 18 = .ok (.istore_n 3, 1) := by decide +kernel
theorem dX6_give_19 : decode cX6_give 19 = .ok (.iload_n 3, 1) := by decide +kernel
theorem dX6_give_20 : decode cX6_give 20 = .ok (.iconst 4, 1) := by decide +kernel
theorem dX6_give_21 : decode cX6_give 21 = .ok (.if_icmp .ge 28, 3) := by decide +kernel
theorem dX6_give_24 : decode cX6_give 24 = .ok (.aload_n 0, 1) := by decide +kernel
theorem dX6_give_25 : decode cX6_give 25 = .ok (.getfield 13, 3) := by decide +kernel
theorem dX6_give_28 : decode cX6_give 28 = .ok (.iload_n 1, 1) := by decide +kernel
theorem dX6_give_29 : decode cX6_give 29 = .ok (.invokestatic 68, 3) := by decide +kernel
theorem dX6_give_32 : decode cX6_give 32 = .ok (.bipush 15, 2) := by decide +kernel
theorem dX6_give_34 : decode cX6_give 34 = .ok (.iadd, 1) := by decide +kernel
theorem dX6_give_35 : decode cX6_give 35 = .ok (.iconst 4, 1) := by decide +kernel
theorem dX6_give_36 : decode cX6_give 36 = .ok (.iload_n 2, 1) := by decide +kernel
theorem dX6_give_37 : decode cX6_give 37 = .ok (.imul, 1) := by decide +kernel
theorem dX6_give_38 : decode cX6_give 38 = .ok (.iadd, 1) := by decide +kernel
theorem dX6_give_39 : decode cX6_give 39 = .ok (.iload_n 3, 1) := by decide +kernel
theorem dX6_give_40 : decode cX6_give 40 = .ok (.iadd, 1) := by decide +kernel
theorem dX6_give_41 : decode cX6_give 41 = .ok (.iconst (-1), 1) := by decide +kernel
theorem dX6_give_42 : decode cX6_give 42 = .ok (.iastore, 1) := by decide +kernel
theorem dX6_give_43 : decode cX6_give 43 = .ok (.iinc 3 1, 3) := by decide +kernel
theorem dX6_give_46 : decode cX6_give 46 = .ok (.goto (-27), 3) := by decide +kernel
theorem dX6_give_49 : decode cX6_give 49 = .ok (.aload_n 0, 1) := by decide +kernel
theorem dX6_give_50 : decode cX6_give 50 = .ok (.iload_n 1, 1) := by decide +kernel
theorem dX6_give_51 : decode cX6_give 51 = .ok (.iconst 2, 1) := by decide +kernel
theorem dX6_give_52 : decode cX6_give 52 = .ok (.invokevirtual 76, 3) := by decide +kernel
theorem dX6_give_55 : decode cX6_give 55 = .ok (.invokestatic 173, 3) := by decide +kernel
theorem dX6_give_58 : decode cX6_give 58 = .ok (.ireturn, 1) := by decide +kernel
theorem dX6_lowest_0 : decode cX6_lowest 0 = .ok (.iload_n 0, 1) := by decide +kernel
theorem dX6_lowest_1 : decode cX6_lowest 1 = .ok (.ifCond .eq 8, 3) := by decide +kernel
theorem dX6_lowest_4 : decode cX6_lowest 4 = .ok (.iload_n 0, 1) := by decide +kernel
theorem dX6_lowest_5 : decode cX6_lowest 5 = .ok (.iconst 3, 1) := by decide +kernel
theorem dX6_lowest_6 : decode cX6_lowest 6 = .ok (.if_icmp .ne 7, 3) := by decide +kernel
theorem dX6_lowest_9 : decode cX6_lowest 9 = .ok (.iconst 1, 1) := by decide +kernel
theorem dX6_lowest_10 : decode cX6_lowest 10 = .ok (.goto 4, 3) := by decide +kernel
theorem dX6_lowest_13 : decode cX6_lowest 13 = .ok (.iconst 0, 1) := by decide +kernel
theorem dX6_lowest_14 : decode cX6_lowest 14 = .ok (.ireturn, 1) := by decide +kernel
theorem dX6_highest_0 : decode cX6_highest 0 = .ok (.iload_n 0, 1) := by decide +kernel
theorem dX6_highest_1 : decode cX6_highest 1 = .ok (.ifCond .ne 7, 3) := by decide +kernel
theorem dX6_highest_4 : decode cX6_highest 4 = .ok (.iconst 4, 1) := by decide +kernel
theorem dX6_highest_5 : decode cX6_highest 5 = .ok (.goto 15, 3) := by decide +kernel
theorem dX6_highest_8 : decode cX6_highest 8 = .ok (.iload_n 0, 1) := by decide +kernel
theorem dX6_highest_9 : decode cX6_highest 9 = .ok (.iconst 2, 1) := by decide +kernel
theorem dX6_highest_10 : decode cX6_highest 10 = .ok (.if_icmp .ne 8, 3) := by decide +kernel
theorem dX6_highest_13 : decode cX6_highest 13 = .ok (.bipush 8, 2) := by decide +kernel
theorem dX6_highest_15 : decode cX6_highest 15 = .ok (.goto 5, 3) := by decide +kernel
theorem dX6_highest_18 : decode cX6_highest 18 = .ok (.bipush 9, 2) := by decide +kernel
theorem dX6_highest_20 : decode cX6_highest 20 = .ok (.ireturn, 1) := by decide +kernel
theorem dX6_canSet_0 : decode cX6_canSet 0 = .ok (.iload_n 0, 1) := by decide +kernel
theorem dX6_canSet_1 : decode cX6_canSet 1 = .ok (.iconst 0, 1) := by decide +kernel
theorem dX6_canSet_2 : decode cX6_canSet 2 = .ok (.iconst 3, 1) := by decide +kernel
theorem dX6_canSet_3 : decode cX6_canSet 3 = .ok (.invokestatic 72, 3) := by decide +kernel
theorem dX6_canSet_6 : decode cX6_canSet 6 = .ok (.ifCond .eq 22, 3) := by decide +kernel
theorem dX6_canSet_9 : decode cX6_canSet 9 = .ok (.iload_n 1, 1) := by decide +kernel
theorem dX6_canSet_10 : decode cX6_canSet 10 = .ok (.iload_n 0, 1) := by decide +kernel
theorem dX6_canSet_11 : decode cX6_canSet 11 = .ok (.invokestatic 176, 3) := by decide +kernel
theorem dX6_canSet_14 : decode cX6_canSet 14 = .ok (.iload_n 0, 1) := by decide +kernel
theorem dX6_canSet_15 : decode cX6_canSet 15 = .ok (.invokestatic 179, 3) := by decide +kernel
theorem dX6_canSet_18 : decode cX6_canSet 18 = .ok (.invokestatic 72, 3) := by decide +kernel
theorem dX6_canSet_21 : decode cX6_canSet 21 = .ok (.ifCond .eq 7, 3) := by decide +kernel
theorem dX6_canSet_24 : decode cX6_canSet 24 = .ok (.iconst 0, 1) := by decide +kernel
theorem dX6_canSet_25 : decode cX6_canSet 25 = .ok (.goto 5, 3) := by decide +kernel
theorem dX6_canSet_28 : decode cX6_canSet 28 = .ok (.bipush (-2), 2) := by decide +kernel
theorem dX6_canSet_30 : decode cX6_canSet 30 = .ok (.ireturn, 1) := by decide +kernel
theorem dX6_set_0 : decode cX6_set 0 = .ok (.aload_n 0, 1) := by decide +kernel
theorem dX6_set_1 : decode cX6_set 1 = .ok (.getfield 13, 3) := by decide +kernel
theorem dX6_set_4 : decode cX6_set 4 = .ok (.bipush 8, 2) := by decide +kernel
theorem dX6_set_6 : decode cX6_set 6 = .ok (.iload_n 1, 1) := by decide +kernel
theorem dX6_set_7 : decode cX6_set 7 = .ok (.iadd, 1) := by decide +kernel
theorem dX6_set_8 : decode cX6_set 8 = .ok (.iaload, 1) := by decide +kernel
theorem dX6_set_9 : decode cX6_set 9 = .ok (.istore_n 3, 1) := by decide +kernel
theorem dX6_set_10 : decode cX6_set 10 = .ok (.aload_n 0, 1) := by decide +kernel
theorem dX6_set_11 : decode cX6_set 11 = .ok (.getfield 13, 3) := by decide +kernel
theorem dX6_set_14 : decode cX6_set 14 = .ok (.bipush 8, 2) := by decide +kernel
theorem dX6_set_16 : decode cX6_set 16 = .ok (.iload_n 1, 1) := by decide +kernel
theorem dX6_set_17 : decode cX6_set 17 = .ok (.iadd, 1) := by decide +kernel
theorem dX6_set_18 : decode cX6_set 18 = .ok (.iload_n 2, 1) := by decide +kernel
theorem dX6_set_19 : decode cX6_set 19 = .ok (.iastore, 1) := by decide +kernel
theorem dX6_set_20 : decode cX6_set 20 = .ok (.iload_n 3, 1) := by decide +kernel
theorem dX6_set_21 : decode cX6_set 21 = .ok (.ireturn, 1) := by decide +kernel
theorem dX6_goRounds_0 : decode cX6_goRounds 0 = .ok (.iconst 0, 1) := by decide +kernel
theorem dX6_goRounds_1 : decode cX6_goRounds 1 = .ok (.istore_n 2, 1) := by decide +kernel
theorem dX6_goRounds_2 : decode cX6_goRounds 2 = .ok (.iload_n 2, 1) := by decide +kernel
theorem dX6_goRounds_3 : decode cX6_goRounds 3 = .ok (.iload_n 1, 1) := by decide +kernel
theorem dX6_goRounds_4 : decode cX6_goRounds 4 = .ok (.if_icmp .ge 13, 3) := by decide +kernel
theorem dX6_goRounds_7 : decode cX6_goRounds 7 = .ok (.aload_n 0, 1) := by decide +kernel
theorem dX6_goRounds_8 : decode cX6_goRounds 8 = .ok (.invokevirtual 182, 3) := by decide +kernel
theorem dX6_goRounds_11 : decode cX6_goRounds 11 = .ok (.iinc 2 1, 3) := by decide +kernel
theorem dX6_goRounds_14 : decode cX6_goRounds 14 = .ok (.goto (-12), 3) := by decide +kernel
theorem dX6_goRounds_17 : decode cX6_goRounds 17 = .ok (.aload_n 0, 1) := by decide +kernel
theorem dX6_goRounds_18 : decode cX6_goRounds 18 = .ok (.getfield 13, 3) := by decide +kernel
theorem dX6_goRounds_21 : decode cX6_goRounds 21 = .ok (.iconst 3, 1) := by decide +kernel
theorem dX6_goRounds_22 : decode cX6_goRounds 22 = .ok (.iaload, 1) := by decide +kernel
theorem dX6_goRounds_23 : decode cX6_goRounds 23 = .ok (.ireturn, 1) := by decide +kernel
theorem dX6_begins_0 : decode cX6_begins 0 = .ok (.iload_n 1, 1) := by decide +kernel
theorem dX6_begins_1 : decode cX6_begins 1 = .ok (.iconst 1, 1) := by decide +kernel
theorem dX6_begins_2 : decode cX6_begins 2 = .ok (.bipush 8, 2) := by decide +kernel
theorem dX6_begins_4 : decode cX6_begins 4 = .ok (.invokestatic 72, 3) := by decide +kernel
theorem dX6_begins_7 : decode cX6_begins 7 = .ok (.ifCond .eq 12, 3) := by decide +kernel
theorem dX6_begins_10 : decode cX6_begins 10 = .ok (.iload_n 2, 1) := by decide +kernel
theorem dX6_begins_11 : decode cX6_begins 11 = .ok (.iconst 1, 1) := by decide +kernel
theorem dX6_begins_12 : decode cX6_begins 12 = .ok (.iconst 4, 1) := by decide +kernel
theorem dX6_begins_13 : decode cX6_begins 13 = .ok (.invokestatic 72, 3) := by decide +kernel
theorem dX6_begins_16 : decode cX6_begins 16 = .ok (.ifCond .ne 8, 3) := by decide +kernel
theorem dX6_begins_19 : decode cX6_begins 19 = .ok (.aload_n 0, 1) := by decide +kernel
theorem dX6_begins_20 : decode cX6_begins 20 = .ok (.invokevirtual 50, 3) := by decide +kernel
theorem dX6_begins_23 : decode cX6_begins 23 = .ok (.ireturn, 1) := by decide +kernel
theorem dX6_begins_24 : decode cX6_begins 24 = .ok (.aload_n 0, 1) := by decide +kernel
theorem dX6_begins_25 : decode cX6_begins 25 = .ok (.invokevirtual 185, 3) := by decide +kernel
theorem dX6_begins_28 : decode cX6_begins 28 = .ok (.aload_n 0, 1) := by decide +kernel
theorem dX6_begins_29 : decode cX6_begins 29 = .ok (.getfield 13, 3) := by decide +kernel
theorem dX6_begins_32 : decode cX6_begins 32 = .ok (.iconst 0, 1) := by decide +kernel
theorem dX6_begins_33 : decode cX6_begins 33 = .ok (.iaload, 1) := by decide +kernel
theorem dX6_begins_34 : decode cX6_begins 34 = .ok (.istore_n 3, 1) := by decide +kernel
theorem dX6_begins_35 : decode cX6_begins 35 = .ok (.aload_n 0, 1) := by decide +kernel
theorem dX6_begins_36 : decode cX6_begins 36 = .ok (.iload_n 1, 1) := by decide +kernel
theorem dX6_begins_37 : decode cX6_begins 37 = .ok (.iload_n 2, 1) := by decide +kernel
theorem dX6_begins_38 : decode cX6_begins 38 = .ok (.invokevirtual 46, 3) := by decide +kernel
theorem dX6_begins_41 : decode cX6_begins 41 = .ok (.iload_n 3, 1) := by decide +kernel
theorem dX6_begins_42 : decode cX6_begins 42 = .ok (.ireturn, 1) := by decide +kernel
theorem dX6_peer_0 : decode cX6_peer 0 = .ok (.aload_n 0, 1) := by decide +kernel
theorem dX6_peer_1 : decode cX6_peer 1 = .ok (.iload_n 1, 1) := by decide +kernel
theorem dX6_peer_2 : decode cX6_peer 2 = .ok (.iload_n 2, 1) := by decide +kernel
theorem dX6_peer_3 : decode cX6_peer 3 = .ok (.invokevirtual 188, 3) := by decide +kernel
theorem dX6_peer_6 : decode cX6_peer 6 = .ok (.istore_n 3, 1) := by decide +kernel
theorem dX6_peer_7 : decode cX6_peer 7 = .ok (.iload_n 3, 1) := by decide +kernel
theorem dX6_peer_8 : decode cX6_peer 8 = .ok (.ifCond .ge 9, 3) := by decide +kernel
theorem dX6_peer_11 : decode cX6_peer 11 = .ok (.aload_n 0, 1) := by decide +kernel
theorem dX6_peer_12 : decode cX6_peer 12 = .ok (.iload_n 3, 1) := by decide +kernel
theorem dX6_peer_13 : decode cX6_peer 13 = .ok (.invokevirtual 191, 3) := by decide +kernel
theorem dX6_peer_16 : decode cX6_peer 16 = .ok (.ireturn, 1) := by decide +kernel
theorem dX6_peer_17 : decode cX6_peer 17 = .ok (.aload_n 0, 1) := by decide +kernel
theorem dX6_peer_18 : decode cX6_peer 18 = .ok (.invokevirtual 185, 3) := by decide +kernel
theorem dX6_peer_21 : decode cX6_peer 21 = .ok (.aload_n 0, 1) := by decide +kernel
theorem dX6_peer_22 : decode cX6_peer 22 = .ok (.iload_n 1, 1) := by decide +kernel
theorem dX6_peer_23 : decode cX6_peer 23 = .ok (.iload_n 2, 1) := by decide +kernel
theorem dX6_peer_24 : decode cX6_peer 24 = .ok (.invokevirtual 194, 3) := by decide +kernel
theorem dX6_peer_27 : decode cX6_peer 27 = .ok (.ireturn, 1) := by decide +kernel
theorem dX6_gives_0 : decode cX6_gives 0 = .ok (.aload_n 0, 1) := by decide +kernel
theorem dX6_gives_1 : decode cX6_gives 1 = .ok (.iload_n 1, 1) := by decide +kernel
theorem dX6_gives_2 : decode cX6_gives 2 = .ok (.iload_n 2, 1) := by decide +kernel
theorem dX6_gives_3 : decode cX6_gives 3 = .ok (.invokevirtual 197, 3) := by decide +kernel
theorem dX6_gives_6 : decode cX6_gives 6 = .ok (.istore_n 3, 1) := by decide +kernel
theorem dX6_gives_7 : decode cX6_gives 7 = .ok (.iload_n 3, 1) := by decide +kernel
theorem dX6_gives_8 : decode cX6_gives 8 = .ok (.ifCond .ge 9, 3) := by decide +kernel
theorem dX6_gives_11 : decode cX6_gives 11 = .ok (.aload_n 0, 1) := by decide +kernel
theorem dX6_gives_12 : decode cX6_gives 12 = .ok (.iload_n 3, 1) := by decide +kernel
theorem dX6_gives_13 : decode cX6_gives 13 = .ok (.invokevirtual 191, 3) := by decide +kernel
theorem dX6_gives_16 : decode cX6_gives 16 = .ok (.ireturn, 1) := by decide +kernel
theorem dX6_gives_17 : decode cX6_gives 17 = .ok (.aload_n 0, 1) := by decide +kernel
theorem dX6_gives_18 : decode cX6_gives 18 = .ok (.invokevirtual 185, 3) := by decide +kernel
theorem dX6_gives_21 : decode cX6_gives 21 = .ok (.aload_n 0, 1) := by decide +kernel
theorem dX6_gives_22 : decode cX6_gives 22 = .ok (.iload_n 1, 1) := by decide +kernel
theorem dX6_gives_23 : decode cX6_gives 23 = .ok (.iload_n 2, 1) := by decide +kernel
theorem dX6_gives_24 : decode cX6_gives 24 = .ok (.invokevirtual 200, 3) := by decide +kernel
theorem dX6_gives_27 : decode cX6_gives 27 = .ok (.ireturn, 1) := by decide +kernel
theorem dX6_sets_0 : decode cX6_sets 0 = .ok (.iload_n 1, 1) := by decide +kernel
theorem dX6_sets_1 : decode cX6_sets 1 = .ok (.iload_n 2, 1) := by decide +kernel
theorem dX6_sets_2 : decode cX6_sets 2 = .ok (.invokestatic 203, 3) := by decide +kernel
theorem dX6_sets_5 : decode cX6_sets 5 = .ok (.ifCond .ge 8, 3) := by decide +kernel
theorem dX6_sets_8 : decode cX6_sets 8 = .ok (.aload_n 0, 1) := by decide +kernel
theorem dX6_sets_9 : decode cX6_sets 9 = .ok (.invokevirtual 50, 3) := by decide +kernel
theorem dX6_sets_12 : decode cX6_sets 12 = .ok (.ireturn, 1) := by decide +kernel
theorem dX6_sets_13 : decode cX6_sets 13 = .ok (.aload_n 0, 1) := by decide +kernel
theorem dX6_sets_14 : decode cX6_sets 14 = .ok (.invokevirtual 185, 3) := by decide +kernel
theorem dX6_sets_17 : decode cX6_sets 17 = .ok (.aload_n 0, 1) := by decide +kernel
theorem dX6_sets_18 : decode cX6_sets 18 = .ok (.iload_n 1, 1) := by decide +kernel
theorem dX6_sets_19 : decode cX6_sets 19 = .ok (.iload_n 2, 1) := by decide +kernel
theorem dX6_sets_20 : decode cX6_sets 20 = .ok (.invokevirtual 206, 3) := by decide +kernel
theorem dX6_sets_23 : decode cX6_sets 23 = .ok (.ireturn, 1) := by decide +kernel
theorem dX6_rounds_0 : decode cX6_rounds 0 = .ok (.iload_n 1, 1) := by decide +kernel
theorem dX6_rounds_1 : decode cX6_rounds 1 = .ok (.iconst 1, 1) := by decide +kernel
theorem dX6_rounds_2 : decode cX6_rounds 2 = .ok (.bipush 30, 2) := by decide +kernel
theorem dX6_rounds_4 : decode cX6_rounds 4 = .ok (.invokestatic 72, 3) := by decide +kernel
theorem dX6_rounds_7 : decode cX6_rounds 7 = .ok (.ifCond .ne 8, 3) := by decide +kernel
theorem dX6_rounds_10 : decode cX6_rounds 10 = .ok (.aload_n 0, 1) := by decide +kernel
theorem dX6_rounds_11 : decode cX6_rounds 11 = .ok (.invokevirtual 50, 3) := by decide +kernel
theorem dX6_rounds_14 : decode cX6_rounds 14 = .ok (.ireturn, 1) := by decide +kernel
theorem dX6_rounds_15 : decode cX6_rounds 15 = .ok (.aload_n 0, 1) := by decide +kernel
theorem dX6_rounds_16 : decode cX6_rounds 16 = .ok (.invokevirtual 185, 3) := by decide +kernel
theorem dX6_rounds_19 : decode cX6_rounds 19 = .ok (.aload_n 0, 1) := by decide +kernel
theorem dX6_rounds_20 : decode cX6_rounds 20 = .ok (.iload_n 1, 1) := by decide +kernel
theorem dX6_rounds_21 : decode cX6_rounds 21 = .ok (.invokevirtual 209, 3) := by decide +kernel
theorem dX6_rounds_24 : decode cX6_rounds 24 = .ok (.ireturn, 1) := by decide +kernel
theorem dX6_finishes_0 : decode cX6_finishes 0 = .ok (.iload_n 1, 1) := by decide +kernel
theorem dX6_finishes_1 : decode cX6_finishes 1 = .ok (.iconst 1, 1) := by decide +kernel
theorem dX6_finishes_2 : decode cX6_finishes 2 = .ok (.bipush 90, 2) := by decide +kernel
theorem dX6_finishes_4 : decode cX6_finishes 4 = .ok (.invokestatic 72, 3) := by decide +kernel
theorem dX6_finishes_7 : decode cX6_finishes 7 = .ok (.ifCond .ne 8, 3) := by decide +kernel
theorem dX6_finishes_10 : decode cX6_finishes 10 = .ok (.aload_n 0, 1) := by decide +kernel
theorem dX6_finishes_11 : decode cX6_finishes 11 = .ok (.invokevirtual 50, 3) := by decide +kernel
theorem dX6_finishes_14 : decode cX6_finishes 14 = .ok (.ireturn, 1) := by decide +kernel
theorem dX6_finishes_15 : decode cX6_finishes 15 = .ok (.aload_n 0, 1) := by decide +kernel
theorem dX6_finishes_16 : decode cX6_finishes 16 = .ok (.invokevirtual 212, 3) := by decide +kernel
theorem dX6_finishes_19 : decode cX6_finishes 19 = .ok (.ifCond .ne 8, 3) := by decide +kernel
theorem dX6_finishes_22 : decode cX6_finishes 22 = .ok (.aload_n 0, 1) := by decide +kernel
theorem dX6_finishes_23 : decode cX6_finishes 23 = .ok (.invokevirtual 54, 3) := by decide +kernel
theorem dX6_finishes_26 : decode cX6_finishes 26 = .ok (.ireturn, 1) := by decide +kernel
theorem dX6_finishes_27 : decode cX6_finishes 27 = .ok (.aload_n 0, 1) := by decide +kernel
theorem dX6_finishes_28 : decode cX6_finishes 28 = .ok (.invokevirtual 185, 3) := by decide +kernel
theorem dX6_finishes_31 : decode cX6_finishes 31 = .ok (.iconst 0, 1) := by decide +kernel
theorem dX6_finishes_32 : decode cX6_finishes 32 = .ok (.istore_n 2, 1) := by decide +kernel
theorem dX6_finishes_33 : decode cX6_finishes 33 = .ok (.iload_n 2, 1) := by decide +kernel
theorem dX6_finishes_34 : decode cX6_finishes 34 = .ok (.iload_n 1, 1) := by decide +kernel
theorem dX6_finishes_35 : decode cX6_finishes 35 = .ok (.if_icmp .ge 20, 3) := by decide +kernel
theorem dX6_finishes_38 : decode cX6_finishes 38 = .ok (.aload_n 0, 1) := by decide +kernel
theorem dX6_finishes_39 : decode cX6_finishes 39 = .ok (.invokevirtual 215, 3) := by decide +kernel
theorem dX6_finishes_42 : decode cX6_finishes 42 = .ok (.ifCond .ne 13, 3) := by decide +kernel
theorem dX6_finishes_45 : decode cX6_finishes 45 = .ok (.aload_n 0, 1) := by decide +kernel
theorem dX6_finishes_46 : decode cX6_finishes 46 = .ok (.invokevirtual 182, 3) := by decide +kernel
theorem dX6_finishes_49 : decode cX6_finishes 49 = .ok (.iinc 2 1, 3) := by decide +kernel
theorem dX6_finishes_52 : decode cX6_finishes 52 = .ok (.goto (-19), 3) := by decide +kernel
theorem dX6_finishes_55 : decode cX6_finishes 55 = .ok (.aload_n 0, 1) := by decide +kernel
theorem dX6_finishes_56 : decode cX6_finishes 56 = .ok (.invokevirtual 215, 3) := by decide +kernel
theorem dX6_finishes_59 : decode cX6_finishes 59 = .ok (.ifCond .eq 7, 3) := by decide +kernel
theorem dX6_finishes_62 : decode cX6_finishes 62 = .ok (.iload_n 2, 1) := by decide +kernel
theorem dX6_finishes_63 : decode cX6_finishes 63 = .ok (.goto 4, 3) := by decide +kernel
theorem dX6_finishes_66 : decode cX6_finishes 66 = .ok (.iconst (-1), 1) := by decide +kernel
theorem dX6_finishes_67 : decode cX6_finishes 67 = .ok (.ireturn, 1) := by decide +kernel
theorem dX6_ofPeer_0 : decode cX6_ofPeer 0 = .ok (.iload_n 2, 1) := by decide +kernel
theorem dX6_ofPeer_1 : decode cX6_ofPeer 1 = .ok (.tableswitch 115 0 8 #[51, 58, 65, 72, 78, 85, 92, 99, 107], 51) := by decide +kernel
theorem dX6_ofPeer_52 : decode cX6_ofPeer 52 = .ok (.aload_n 0, 1) := by decide +kernel
theorem dX6_ofPeer_53 : decode cX6_ofPeer 53 = .ok (.iload_n 1, 1) := by decide +kernel
theorem dX6_ofPeer_54 : decode cX6_ofPeer 54 = .ok (.iconst 0, 1) := by decide +kernel
theorem dX6_ofPeer_55 : decode cX6_ofPeer 55 = .ok (.invokevirtual 76, 3) := by decide +kernel
theorem dX6_ofPeer_58 : decode cX6_ofPeer 58 = .ok (.ireturn, 1) := by decide +kernel
theorem dX6_ofPeer_59 : decode cX6_ofPeer 59 = .ok (.aload_n 0, 1) := by decide +kernel
theorem dX6_ofPeer_60 : decode cX6_ofPeer 60 = .ok (.iload_n 1, 1) := by decide +kernel
theorem dX6_ofPeer_61 : decode cX6_ofPeer 61 = .ok (.iconst 1, 1) := by decide +kernel
theorem dX6_ofPeer_62 : decode cX6_ofPeer 62 = .ok (.invokevirtual 76, 3) := by decide +kernel
theorem dX6_ofPeer_65 : decode cX6_ofPeer 65 = .ok (.ireturn, 1) := by decide +kernel
theorem dX6_ofPeer_66 : decode cX6_ofPeer 66 = .ok (.aload_n 0, 1) := by decide +kernel
theorem dX6_ofPeer_67 : decode cX6_ofPeer 67 = .ok (.iload_n 1, 1) := by decide +kernel
theorem dX6_ofPeer_68 : decode cX6_ofPeer 68 = .ok (.iconst 2, 1) := by decide +kernel
theorem dX6_ofPeer_69 : decode cX6_ofPeer 69 = .ok (.invokevirtual 76, 3) := by decide +kernel
theorem dX6_ofPeer_72 : decode cX6_ofPeer 72 = .ok (.ireturn, 1) := by decide +kernel
theorem dX6_ofPeer_73 : decode cX6_ofPeer 73 = .ok (.aload_n 0, 1) := by decide +kernel
theorem dX6_ofPeer_74 : decode cX6_ofPeer 74 = .ok (.iload_n 1, 1) := by decide +kernel
theorem dX6_ofPeer_75 : decode cX6_ofPeer 75 = .ok (.invokevirtual 139, 3) := by decide +kernel
theorem dX6_ofPeer_78 : decode cX6_ofPeer 78 = .ok (.ireturn, 1) := by decide +kernel
theorem dX6_ofPeer_79 : decode cX6_ofPeer 79 = .ok (.aload_n 0, 1) := by decide +kernel
theorem dX6_ofPeer_80 : decode cX6_ofPeer 80 = .ok (.iload_n 1, 1) := by decide +kernel
theorem dX6_ofPeer_81 : decode cX6_ofPeer 81 = .ok (.iconst 3, 1) := by decide +kernel
theorem dX6_ofPeer_82 : decode cX6_ofPeer 82 = .ok (.invokevirtual 76, 3) := by decide +kernel
theorem dX6_ofPeer_85 : decode cX6_ofPeer 85 = .ok (.ireturn, 1) := by decide +kernel
theorem dX6_ofPeer_86 : decode cX6_ofPeer 86 = .ok (.aload_n 0, 1) := by decide +kernel
theorem dX6_ofPeer_87 : decode cX6_ofPeer 87 = .ok (.iload_n 1, 1) := by decide +kernel
theorem dX6_ofPeer_88 : decode cX6_ofPeer 88 = .ok (.iconst 4, 1) := by decide +kernel
theorem dX6_ofPeer_89 : decode cX6_ofPeer 89 = .ok (.invokevirtual 76, 3) := by decide +kernel
theorem dX6_ofPeer_92 : decode cX6_ofPeer 92 = .ok (.ireturn, 1) := by decide +kernel
theorem dX6_ofPeer_93 : decode cX6_ofPeer 93 = .ok (.aload_n 0, 1) := by decide +kernel
theorem dX6_ofPeer_94 : decode cX6_ofPeer 94 = .ok (.iload_n 1, 1) := by decide +kernel
theorem dX6_ofPeer_95 : decode cX6_ofPeer 95 = .ok (.iconst 5, 1) := by decide +kernel
theorem dX6_ofPeer_96 : decode cX6_ofPeer 96 = .ok (.invokevirtual 76, 3) := by decide +kernel
theorem dX6_ofPeer_99 : decode cX6_ofPeer 99 = .ok (.ireturn, 1) := by decide +kernel
theorem dX6_ofPeer_100 : decode cX6_ofPeer 100 = .ok (.aload_n 0, 1) := by decide +kernel
theorem dX6_ofPeer_101 : decode cX6_ofPeer 101 = .ok (.iload_n 1, 1) := by decide +kernel
theorem dX6_ofPeer_102 : decode cX6_ofPeer 102 = .ok (.bipush 6, 2) := by decide +kernel
theorem dX6_ofPeer_104 : decode cX6_ofPeer 104 = .ok (.invokevirtual 76, 3) := by decide +kernel
theorem dX6_ofPeer_107 : decode cX6_ofPeer 107 = .ok (.ireturn, 1) := by decide +kernel
theorem dX6_ofPeer_108 : decode cX6_ofPeer 108 = .ok (.aload_n 0, 1) := by decide +kernel
theorem dX6_ofPeer_109 : decode cX6_ofPeer 109 = .ok (.iload_n 1, 1) := by decide +kernel
theorem dX6_ofPeer_110 : decode cX6_ofPeer 110 = .ok (.bipush 7, 2) := by decide +kernel
theorem dX6_ofPeer_112 : decode cX6_ofPeer 112 = .ok (.invokevirtual 76, 3) := by decide +kernel
theorem dX6_ofPeer_115 : decode cX6_ofPeer 115 = .ok (.ireturn, 1) := by decide +kernel
theorem dX6_ofPeer_116 : decode cX6_ofPeer 116 = .ok (.aload_n 0, 1) := by decide +kernel
theorem dX6_ofPeer_117 : decode cX6_ofPeer 117 = .ok (.iload_n 1, 1) := by decide +kernel
theorem dX6_ofPeer_118 : decode cX6_ofPeer 118 = .ok (.invokevirtual 83, 3) := by decide +kernel
theorem dX6_ofPeer_121 : decode cX6_ofPeer 121 = .ok (.ireturn, 1) := by decide +kernel
theorem dX6_of_0 : decode cX6_of 0 = .ok (.aload_n 0, 1) := by decide +kernel
theorem dX6_of_1 : decode cX6_of 1 = .ok (.iload_n 1, 1) := by decide +kernel
theorem dX6_of_2 : decode cX6_of 2 = .ok (.invokevirtual 169, 3) := by decide +kernel
theorem dX6_of_5 : decode cX6_of 5 = .ok (.ifCond .eq 22, 3) := by decide +kernel
theorem dX6_of_8 : decode cX6_of 8 = .ok (.iload_n 2, 1) := by decide +kernel
theorem dX6_of_9 : decode cX6_of 9 = .ok (.iconst 0, 1) := by decide +kernel
theorem dX6_of_10 : decode cX6_of 10 = .ok (.bipush 9, 2) := by decide +kernel
theorem dX6_of_12 : decode cX6_of 12 = .ok (.invokestatic 72, 3) := by decide +kernel
theorem dX6_of_15 : decode cX6_of 15 = .ok (.ifCond .eq 12, 3) := by decide +kernel
theorem dX6_of_18 : decode cX6_of 18 = .ok (.aload_n 0, 1) := by decide +kernel
theorem dX6_of_19 : decode cX6_of 19 = .ok (.iload_n 1, 1) := by decide +kernel
theorem dX6_of_20 : decode cX6_of 20 = .ok (.iload_n 2, 1) := by decide +kernel
theorem dX6_of_21 : decode cX6_of 21 = .ok (.invokevirtual 219, 3) := by decide +kernel
theorem dX6_of_24 : decode cX6_of 24 = .ok (.goto 7, 3) := by decide +kernel
theorem dX6_of_27 : decode cX6_of 27 = .ok (.aload_n 0, 1) := by decide +kernel
theorem dX6_of_28 : decode cX6_of 28 = .ok (.invokevirtual 50, 3) := by decide +kernel
theorem dX6_of_31 : decode cX6_of 31 = .ok (.ireturn, 1) := by decide +kernel
theorem dX6_blockOf_0 : decode cX6_blockOf 0 = .ok (.aload_n 0, 1) := by decide +kernel
theorem dX6_blockOf_1 : decode cX6_blockOf 1 = .ok (.iload_n 1, 1) := by decide +kernel
theorem dX6_blockOf_2 : decode cX6_blockOf 2 = .ok (.iload_n 2, 1) := by decide +kernel
theorem dX6_blockOf_3 : decode cX6_blockOf 3 = .ok (.invokevirtual 86, 3) := by decide +kernel
theorem dX6_blockOf_6 : decode cX6_blockOf 6 = .ok (.ifCond .eq 8, 3) := by decide +kernel
theorem dX6_blockOf_9 : decode cX6_blockOf 9 = .ok (.bipush 100, 2) := by decide +kernel
theorem dX6_blockOf_11 : decode cX6_blockOf 11 = .ok (.goto 10, 3) := by decide +kernel
theorem dX6_blockOf_14 : decode cX6_blockOf 14 = .ok (.aload_n 0, 1) := by decide +kernel
theorem dX6_blockOf_15 : decode cX6_blockOf 15 = .ok (.iload_n 1, 1) := by decide +kernel
theorem dX6_blockOf_16 : decode cX6_blockOf 16 = .ok (.iload_n 2, 1) := by decide +kernel
theorem dX6_blockOf_17 : decode cX6_blockOf 17 = .ok (.iload_n 3, 1) := by decide +kernel
theorem dX6_blockOf_18 : decode cX6_blockOf 18 = .ok (.invokevirtual 90, 3) := by decide +kernel
theorem dX6_blockOf_21 : decode cX6_blockOf 21 = .ok (.ireturn, 1) := by decide +kernel
theorem dX6_block_0 : decode cX6_block 0 = .ok (.aload_n 0, 1) := by decide +kernel
theorem dX6_block_1 : decode cX6_block 1 = .ok (.iload_n 1, 1) := by decide +kernel
theorem dX6_block_2 : decode cX6_block 2 = .ok (.invokevirtual 169, 3) := by decide +kernel
theorem dX6_block_5 : decode cX6_block 5 = .ok (.ifCond .eq 45, 3) := by decide +kernel
theorem dX6_block_8 : decode cX6_block 8 = .ok (.iload_n 2, 1) := by decide +kernel
theorem dX6_block_9 : decode cX6_block 9 = .ok (.iconst 0, 1) := by decide +kernel
theorem dX6_block_10 : decode cX6_block 10 = .ok (.aload_n 0, 1) := by decide +kernel
theorem dX6_block_11 : decode cX6_block 11 = .ok (.getfield 13, 3) := by decide +kernel
theorem dX6_block_14 : decode cX6_block 14 = .ok (.iconst 1, 1) := by decide +kernel
theorem dX6_block_15 : decode cX6_block 15 = .ok (.iaload, 1) := by decide +kernel
theorem dX6_block_16 : decode cX6_block 16 = .ok (.iconst 1, 1) := by decide +kernel
theorem dX6_block_17 : decode cX6_block 17 = .ok (.isub, 1) := by decide +kernel
theorem dX6_block_18 : decode cX6_block 18 = .ok (.invokestatic 72, 3) := by decide +kernel
theorem dX6_block_21 : decode cX6_block 21 = .ok (.ifCond .eq 29, 3) := by decide +kernel
theorem dX6_block_24 : decode cX6_block 24 = .ok (.iload_n 3, 1) := by decide +kernel
theorem dX6_block_25 : decode cX6_block 25 = .ok (.iconst 0, 1) := by decide +kernel
theorem dX6_block_26 : decode cX6_block 26 = .ok (.aload_n 0, 1) := by decide +kernel
theorem dX6_block_27 : decode cX6_block 27 = .ok (.getfield 13, 3) := by decide +kernel
theorem dX6_block_30 : decode cX6_block 30 = .ok (.iconst 2, 1) := by decide +kernel
theorem dX6_block_31 : decode cX6_block 31 = .ok (.iaload, 1) := by decide +kernel
theorem dX6_block_32 : decode cX6_block 32 = .ok (.iconst 1, 1) := by decide +kernel
theorem dX6_block_33 : decode cX6_block 33 = .ok (.isub, 1) := by decide +kernel
theorem dX6_block_34 : decode cX6_block 34 = .ok (.invokestatic 72, 3) := by decide +kernel
theorem dX6_block_37 : decode cX6_block 37 = .ok (.ifCond .eq 13, 3) := by decide +kernel
theorem dX6_block_40 : decode cX6_block 40 = .ok (.aload_n 0, 1) := by decide +kernel
theorem dX6_block_41 : decode cX6_block 41 = .ok (.iload_n 1, 1) := by decide +kernel
theorem dX6_block_42 : decode cX6_block 42 = .ok (.iload_n 2, 1) := by decide +kernel
theorem dX6_block_43 : decode cX6_block 43 = .ok (.iload_n 3, 1) := by decide +kernel
theorem dX6_block_44 : decode cX6_block 44 = .ok (.invokevirtual 222, 3) := by decide +kernel
theorem dX6_block_47 : decode cX6_block 47 = .ok (.goto 7, 3) := by decide +kernel
theorem dX6_block_50 : decode cX6_block 50 = .ok (.aload_n 0, 1) := by decide +kernel
theorem dX6_block_51 : decode cX6_block 51 = .ok (.invokevirtual 50, 3) := by decide +kernel
theorem dX6_block_54 : decode cX6_block 54 = .ok (.ireturn, 1) := by decide +kernel
theorem dX6_areTwo_0 : decode cX6_areTwo 0 = .ok (.aload_n 0, 1) := by decide +kernel
theorem dX6_areTwo_1 : decode cX6_areTwo 1 = .ok (.iload_n 1, 1) := by decide +kernel
theorem dX6_areTwo_2 : decode cX6_areTwo 2 = .ok (.invokevirtual 169, 3) := by decide +kernel
theorem dX6_areTwo_5 : decode cX6_areTwo 5 = .ok (.ifCond .eq 20, 3) := by decide +kernel
theorem dX6_areTwo_8 : decode cX6_areTwo 8 = .ok (.aload_n 0, 1) := by decide +kernel
theorem dX6_areTwo_9 : decode cX6_areTwo 9 = .ok (.iload_n 2, 1) := by decide +kernel
theorem dX6_areTwo_10 : decode cX6_areTwo 10 = .ok (.invokevirtual 169, 3) := by decide +kernel
theorem dX6_areTwo_13 : decode cX6_areTwo 13 = .ok (.ifCond .eq 12, 3) := by decide +kernel
theorem dX6_areTwo_16 : decode cX6_areTwo 16 = .ok (.iload_n 1, 1) := by decide +kernel
theorem dX6_areTwo_17 : decode cX6_areTwo 17 = .ok (.iload_n 2, 1) := by decide +kernel
theorem dX6_areTwo_18 : decode cX6_areTwo 18 = .ok (.if_icmp .eq 7, 3) := by decide +kernel
theorem dX6_areTwo_21 : decode cX6_areTwo 21 = .ok (.iconst 1, 1) := by decide +kernel
theorem dX6_areTwo_22 : decode cX6_areTwo 22 = .ok (.goto 4, 3) := by decide +kernel
theorem dX6_areTwo_25 : decode cX6_areTwo 25 = .ok (.iconst 0, 1) := by decide +kernel
theorem dX6_areTwo_26 : decode cX6_areTwo 26 = .ok (.ireturn, 1) := by decide +kernel
theorem dX6_rateOf_0 : decode cX6_rateOf 0 = .ok (.aload_n 0, 1) := by decide +kernel
theorem dX6_rateOf_1 : decode cX6_rateOf 1 = .ok (.getfield 16, 3) := by decide +kernel
theorem dX6_rateOf_4 : decode cX6_rateOf 4 = .ok (.bipush 6, 2) := by decide +kernel
theorem dX6_rateOf_6 : decode cX6_rateOf 6 = .ok (.iload_n 1, 1) := by decide +kernel
theorem dX6_rateOf_7 : decode cX6_rateOf 7 = .ok (.imul, 1) := by decide +kernel
theorem dX6_rateOf_8 : decode cX6_rateOf 8 = .ok (.iload_n 2, 1) := by decide +kernel
theorem dX6_rateOf_9 : decode cX6_rateOf 9 = .ok (.iadd, 1) := by decide +kernel
theorem dX6_rateOf_10 : decode cX6_rateOf 10 = .ok (.faload, 1) := by decide +kernel
theorem dX6_rateOf_11 : decode cX6_rateOf 11 = .ok (.invokestatic 225, 3) := by decide +kernel
theorem dX6_rateOf_14 : decode cX6_rateOf 14 = .ok (.ireturn, 1) := by decide +kernel
theorem dX6_rate_0 : decode cX6_rate 0 = .ok (.aload_n 0, 1) := by decide +kernel
theorem dX6_rate_1 : decode cX6_rate 1 = .ok (.iload_n 1, 1) := by decide +kernel
theorem dX6_rate_2 : decode cX6_rate 2 = .ok (.iload_n 2, 1) := by decide +kernel
theorem dX6_rate_3 : decode cX6_rate 3 = .ok (.invokevirtual 231, 3) := by decide +kernel
theorem dX6_rate_6 : decode cX6_rate 6 = .ok (.ifCond .eq 12, 3) := by decide +kernel
theorem dX6_rate_9 : decode cX6_rate 9 = .ok (.aload_n 0, 1) := by decide +kernel
theorem dX6_rate_10 : decode cX6_rate 10 = .ok (.iload_n 1, 1) := by decide +kernel
theorem dX6_rate_11 : decode cX6_rate 11 = .ok (.iload_n 2, 1) := by decide +kernel
theorem dX6_rate_12 : decode cX6_rate 12 = .ok (.invokevirtual 234, 3) := by decide +kernel
theorem dX6_rate_15 : decode cX6_rate 15 = .ok (.goto 7, 3) := by decide +kernel
theorem dX6_rate_18 : decode cX6_rate 18 = .ok (.aload_n 0, 1) := by decide +kernel
theorem dX6_rate_19 : decode cX6_rate 19 = .ok (.invokevirtual 50, 3) := by decide +kernel
theorem dX6_rate_22 : decode cX6_rate 22 = .ok (.ireturn, 1) := by decide +kernel
theorem dX6_suspects_0 : decode cX6_suspects 0 = .ok (.aload_n 0, 1) := by decide +kernel
theorem dX6_suspects_1 : decode cX6_suspects 1 = .ok (.iload_n 1, 1) := by decide +kernel
theorem dX6_suspects_2 : decode cX6_suspects 2 = .ok (.iload_n 2, 1) := by decide +kernel
theorem dX6_suspects_3 : decode cX6_suspects 3 = .ok (.invokevirtual 231, 3) := by decide +kernel
theorem dX6_suspects_6 : decode cX6_suspects 6 = .ok (.ifCond .eq 15, 3) := by decide +kernel
theorem dX6_suspects_9 : decode cX6_suspects 9 = .ok (.aload_n 0, 1) := by decide +kernel
theorem dX6_suspects_10 : decode cX6_suspects 10 = .ok (.iload_n 1, 1) := by decide +kernel
theorem dX6_suspects_11 : decode cX6_suspects 11 = .ok (.bipush 8, 2) := by decide +kernel
theorem dX6_suspects_13 : decode cX6_suspects 13 = .ok (.iload_n 2, 1) := by decide +kernel
theorem dX6_suspects_14 : decode cX6_suspects 14 = .ok (.iadd, 1) := by decide +kernel
theorem dX6_suspects_15 : decode cX6_suspects 15 = .ok (.invokevirtual 76, 3) := by decide +kernel
theorem dX6_suspects_18 : decode cX6_suspects 18 = .ok (.goto 7, 3) := by decide +kernel
theorem dX6_suspects_21 : decode cX6_suspects 21 = .ok (.aload_n 0, 1) := by decide +kernel
theorem dX6_suspects_22 : decode cX6_suspects 22 = .ok (.invokevirtual 50, 3) := by decide +kernel
theorem dX6_suspects_25 : decode cX6_suspects 25 = .ok (.ireturn, 1) := by decide +kernel
theorem dX6_copies_0 : decode cX6_copies 0 = .ok (.iload_n 1, 1) := by decide +kernel
theorem dX6_copies_1 : decode cX6_copies 1 = .ok (.iconst 0, 1) := by decide +kernel
theorem dX6_copies_2 : decode cX6_copies 2 = .ok (.aload_n 0, 1) := by decide +kernel
theorem dX6_copies_3 : decode cX6_copies 3 = .ok (.getfield 13, 3) := by decide +kernel
theorem dX6_copies_6 : decode cX6_copies 6 = .ok (.iconst 1, 1) := by decide +kernel
theorem dX6_copies_7 : decode cX6_copies 7 = .ok (.iaload, 1) := by decide +kernel
theorem dX6_copies_8 : decode cX6_copies 8 = .ok (.iconst 1, 1) := by decide +kernel
theorem dX6_copies_9 : decode cX6_copies 9 = .ok (.isub, 1) := by decide +kernel
theorem dX6_copies_10 : decode cX6_copies 10 = .ok (.invokestatic 72, 3) := by decide +kernel
theorem dX6_copies_13 : decode cX6_copies 13 = .ok (.ifCond .eq 11, 3) := by decide +kernel
theorem dX6_copies_16 : decode cX6_copies 16 = .ok (.aload_n 0, 1) := by decide +kernel
theorem dX6_copies_17 : decode cX6_copies 17 = .ok (.iload_n 1, 1) := by decide +kernel
theorem dX6_copies_18 : decode cX6_copies 18 = .ok (.invokevirtual 130, 3) := by decide +kernel
theorem dX6_copies_21 : decode cX6_copies 21 = .ok (.goto 7, 3) := by decide +kernel
theorem dX6_copies_24 : decode cX6_copies 24 = .ok (.aload_n 0, 1) := by decide +kernel
theorem dX6_copies_25 : decode cX6_copies 25 = .ok (.invokevirtual 50, 3) := by decide +kernel
theorem dX6_copies_28 : decode cX6_copies 28 = .ok (.ireturn, 1) := by decide +kernel
theorem dX6_rarest_0 : decode cX6_rarest 0 = .ok (.iconst (-1), 1) := by decide +kernel
theorem dX6_rarest_1 : decode cX6_rarest 1 = .ok (.istore_n 1, 1) := by decide +kernel
theorem dX6_rarest_2 : decode cX6_rarest 2 = .ok (.iconst 0, 1) := by decide +kernel
theorem dX6_rarest_3 : decode cX6_rarest 3 = .ok (.istore_n 2, 1) := by decide +kernel
theorem dX6_rarest_4 : decode cX6_rarest 4 = .ok (.iload_n 2, 1) := by decide +kernel
theorem dX6_rarest_5 : decode cX6_rarest 5 = .ok (.aload_n 0, 1) := by decide +kernel
theorem dX6_rarest_6 : decode cX6_rarest 6 = .ok (.getfield 13, 3) := by decide +kernel
theorem dX6_rarest_9 : decode cX6_rarest 9 = .ok (.iconst 1, 1) := by decide +kernel
theorem dX6_rarest_10 : decode cX6_rarest 10 = .ok (.iaload, 1) := by decide +kernel
theorem dX6_rarest_11 : decode cX6_rarest 11 = .ok (.if_icmp .ge 37, 3) := by decide +kernel
theorem dX6_rarest_14 : decode cX6_rarest 14 = .ok (.aload_n 0, 1) := by decide +kernel
theorem dX6_rarest_15 : decode cX6_rarest 15 = .ok (.iload_n 2, 1) := by decide +kernel
theorem dX6_rarest_16 : decode cX6_rarest 16 = .ok (.invokevirtual 130, 3) := by decide +kernel
theorem dX6_rarest_19 : decode cX6_rarest 19 = .ok (.ifCond .le 23, 3) := by decide +kernel
theorem dX6_rarest_22 : decode cX6_rarest 22 = .ok (.iload_n 1, 1) := by decide +kernel
theorem dX6_rarest_23 : decode cX6_rarest 23 = .ok (.iconst (-1), 1) := by decide +kernel
theorem dX6_rarest_24 : decode cX6_rarest 24 = .ok (.if_icmp .eq 16, 3) := by decide +kernel
theorem dX6_rarest_27 : decode cX6_rarest 27 = .ok (.aload_n 0, 1) := by decide +kernel
theorem dX6_rarest_28 : decode cX6_rarest 28 = .ok (.iload_n 2, 1) := by decide +kernel
theorem dX6_rarest_29 : decode cX6_rarest 29 = .ok (.invokevirtual 130, 3) := by decide +kernel
theorem dX6_rarest_32 : decode cX6_rarest 32 = .ok (.aload_n 0, 1) := by decide +kernel
theorem dX6_rarest_33 : decode cX6_rarest 33 = .ok (.iload_n 1, 1) := by decide +kernel
theorem dX6_rarest_34 : decode cX6_rarest 34 = .ok (.invokevirtual 130, 3) := by decide +kernel
theorem dX6_rarest_37 : decode cX6_rarest 37 = .ok (.if_icmp .ge 5, 3) := by decide +kernel
theorem dX6_rarest_40 : decode cX6_rarest 40 = .ok (.iload_n 2, 1) := by decide +kernel
theorem dX6_rarest_41 : decode cX6_rarest 41 = .ok (.istore_n 1, 1) := by decide +kernel
theorem dX6_rarest_42 : decode cX6_rarest 42 = .ok (.iinc 2 1, 3) := by decide +kernel
theorem dX6_rarest_45 : decode cX6_rarest 45 = .ok (.goto (-41), 3) := by decide +kernel
theorem dX6_rarest_48 : decode cX6_rarest 48 = .ok (.iload_n 1, 1) := by decide +kernel
theorem dX6_rarest_49 : decode cX6_rarest 49 = .ok (.ireturn, 1) := by decide +kernel
theorem dX6_ratio_0 : decode cX6_ratio 0 = .ok (.aload_n 0, 1) := by decide +kernel
theorem dX6_ratio_1 : decode cX6_ratio 1 = .ok (.iload_n 1, 1) := by decide +kernel
theorem dX6_ratio_2 : decode cX6_ratio 2 = .ok (.invokevirtual 169, 3) := by decide +kernel
theorem dX6_ratio_5 : decode cX6_ratio 5 = .ok (.ifCond .ne 8, 3) := by decide +kernel
theorem dX6_ratio_8 : decode cX6_ratio 8 = .ok (.aload_n 0, 1) := by decide +kernel
theorem dX6_ratio_9 : decode cX6_ratio 9 = .ok (.invokevirtual 50, 3) := by decide +kernel
theorem dX6_ratio_12 : decode cX6_ratio 12 = .ok (.ireturn, 1) := by decide +kernel
theorem dX6_ratio_13 : decode cX6_ratio 13 = .ok (.aload_n 0, 1) := by decide +kernel
theorem dX6_ratio_14 : decode cX6_ratio 14 = .ok (.iload_n 1, 1) := by decide +kernel
theorem dX6_ratio_15 : decode cX6_ratio 15 = .ok (.bipush 7, 2) := by decide +kernel
theorem dX6_ratio_17 : decode cX6_ratio 17 = .ok (.invokevirtual 76, 3) := by decide +kernel
theorem dX6_ratio_20 : decode cX6_ratio 20 = .ok (.i2f, 1) := by decide +kernel
theorem dX6_ratio_21 : decode cX6_ratio 21 = .ok (.fstore_n 2, 1) := by decide +kernel
theorem dX6_ratio_22 : decode cX6_ratio 22 = .ok (.aload_n 0, 1) := by decide +kernel
theorem dX6_ratio_23 : decode cX6_ratio 23 = .ok (.iload_n 1, 1) := by decide +kernel
theorem dX6_ratio_24 : decode cX6_ratio 24 = .ok (.bipush 6, 2) := by decide +kernel
theorem dX6_ratio_26 : decode cX6_ratio 26 = .ok (.invokevirtual 76, 3) := by decide +kernel
theorem dX6_ratio_29 : decode cX6_ratio 29 = .ok (.i2f, 1) := by decide +kernel
theorem dX6_ratio_30 : decode cX6_ratio 30 = .ok (.fstore_n 3, 1) := by decide +kernel
theorem dX6_ratio_31 : decode cX6_ratio 31 = .ok (.aload_n 0, 1) := by decide +kernel
theorem dX6_ratio_32 : decode cX6_ratio 32 = .ok (.iload_n 1, 1) := by decide +kernel
theorem dX6_ratio_33 : decode cX6_ratio 33 = .ok (.bipush 7, 2) := by decide +kernel
theorem dX6_ratio_35 : decode cX6_ratio 35 = .ok (.invokevirtual 76, 3) := by decide +kernel
theorem dX6_ratio_38 : decode cX6_ratio 38 = .ok (.ifCond .ne 7, 3) := by decide +kernel
theorem dX6_ratio_41 : decode cX6_ratio 41 = .ok (.fconst 0, 1) := by decide +kernel
theorem dX6_ratio_42 : decode cX6_ratio 42 = .ok (.goto 6, 3) := by decide +kernel
theorem dX6_ratio_45 : decode cX6_ratio 45 = .ok (.fload_n 3, 1) := by decide +kernel
theorem dX6_ratio_46 : decode cX6_ratio 46 = .ok (.fload_n 2, 1) := by decide +kernel
theorem dX6_ratio_47 : decode cX6_ratio 47 = .ok (.fdiv, 1) := by decide +kernel
theorem dX6_ratio_48 : decode cX6_ratio 48 = .ok (.invokestatic 225, 3) := by decide +kernel
theorem dX6_ratio_51 : decode cX6_ratio 51 = .ok (.ireturn, 1) := by decide +kernel
theorem dX6_spread_0 : decode cX6_spread 0 = .ok (.iconst 0, 1) := by decide +kernel
theorem dX6_spread_1 : decode cX6_spread 1 = .ok (.istore_n 1, 1) := by decide +kernel
theorem dX6_spread_2 : decode cX6_spread 2 = .ok (.iconst 0, 1) := by decide +kernel
theorem dX6_spread_3 : decode cX6_spread 3 = .ok (.istore_n 2, 1) := by decide +kernel
theorem dX6_spread_4 : decode cX6_spread 4 = .ok (.iload_n 2, 1) := by decide +kernel
theorem dX6_spread_5 : decode cX6_spread 5 = .ok (.aload_n 0, 1) := by decide +kernel
theorem dX6_spread_6 : decode cX6_spread 6 = .ok (.getfield 13, 3) := by decide +kernel
theorem dX6_spread_9 : decode cX6_spread 9 = .ok (.iconst 1, 1) := by decide +kernel
theorem dX6_spread_10 : decode cX6_spread 10 = .ok (.iaload, 1) := by decide +kernel
theorem dX6_spread_11 : decode cX6_spread 11 = .ok (.if_icmp .ge 17, 3) := by decide +kernel
theorem dX6_spread_14 : decode cX6_spread 14 = .ok (.iload_n 1, 1) := by decide +kernel
theorem dX6_spread_15 : decode cX6_spread 15 = .ok (.aload_n 0, 1) := by decide +kernel
theorem dX6_spread_16 : decode cX6_spread 16 = .ok (.iload_n 2, 1) := by decide +kernel
theorem dX6_spread_17 : decode cX6_spread 17 = .ok (.invokevirtual 130, 3) := by decide +kernel
theorem dX6_spread_20 : decode cX6_spread 20 = .ok (.iadd, 1) := by decide +kernel
theorem dX6_spread_21 : decode cX6_spread 21 = .ok (.istore_n 1, 1) := by decide +kernel
theorem dX6_spread_22 : decode cX6_spread 22 = .ok (.iinc 2 1, 3) := by decide +kernel
theorem dX6_spread_25 : decode cX6_spread 25 = .ok (.goto (-21), 3) := by decide +kernel
theorem dX6_spread_28 : decode cX6_spread 28 = .ok (.iload_n 1, 1) := by decide +kernel
theorem dX6_spread_29 : decode cX6_spread 29 = .ok (.i2f, 1) := by decide +kernel
theorem dX6_spread_30 : decode cX6_spread 30 = .ok (.fstore_n 2, 1) := by decide +kernel
theorem dX6_spread_31 : decode cX6_spread 31 = .ok (.aload_n 0, 1) := by decide +kernel
theorem dX6_spread_32 : decode cX6_spread 32 = .ok (.getfield 13, 3) := by decide +kernel
theorem dX6_spread_35 : decode cX6_spread 35 = .ok (.iconst 1, 1) := by decide +kernel
theorem dX6_spread_36 : decode cX6_spread 36 = .ok (.iaload, 1) := by decide +kernel
theorem dX6_spread_37 : decode cX6_spread 37 = .ok (.i2f, 1) := by decide +kernel
theorem dX6_spread_38 : decode cX6_spread 38 = .ok (.fstore_n 3, 1) := by decide +kernel
theorem dX6_spread_39 : decode cX6_spread 39 = .ok (.fload_n 2, 1) := by decide +kernel
theorem dX6_spread_40 : decode cX6_spread 40 = .ok (.fload_n 3, 1) := by decide +kernel
theorem dX6_spread_41 : decode cX6_spread 41 = .ok (.fdiv, 1) := by decide +kernel
theorem dX6_spread_42 : decode cX6_spread 42 = .ok (.invokestatic 225, 3) := by decide +kernel
theorem dX6_spread_45 : decode cX6_spread 45 = .ok (.ireturn, 1) := by decide +kernel
theorem dX6_fairness_0 : decode cX6_fairness 0 = .ok (.dconst 0, 1) := by decide +kernel
theorem dX6_fairness_1 : decode cX6_fairness 1 = .ok (.dstore_n 1, 1) := by decide +kernel
theorem dX6_fairness_2 : decode cX6_fairness 2 = .ok (.dconst 0, 1) := by decide +kernel
theorem dX6_fairness_3 : decode cX6_fairness 3 = .ok (.dstore_n 3, 1) := by decide +kernel
theorem dX6_fairness_4 : decode cX6_fairness 4 = .ok (.iconst 0, 1) := by decide +kernel
theorem dX6_fairness_5 : decode cX6_fairness 5 = .ok (.istore 5, 2) := by decide +kernel
theorem dX6_fairness_7 : decode cX6_fairness 7 = .ok (.iload 5, 2) := by decide +kernel
theorem dX6_fairness_9 : decode cX6_fairness 9 = .ok (.aload_n 0, 1) := by decide +kernel
theorem dX6_fairness_10 : decode cX6_fairness 10 = .ok (.getfield 13, 3) := by decide +kernel
theorem dX6_fairness_13 : decode cX6_fairness 13 = .ok (.iconst 0, 1) := by decide +kernel
theorem dX6_fairness_14 : decode cX6_fairness 14 = .ok (.iaload, 1) := by decide +kernel
theorem dX6_fairness_15 : decode cX6_fairness 15 = .ok (.if_icmp .ge 33, 3) := by decide +kernel
theorem dX6_fairness_18 : decode cX6_fairness 18 = .ok (.aload_n 0, 1) := by decide +kernel
theorem dX6_fairness_19 : decode cX6_fairness 19 = .ok (.iload 5, 2) := by decide +kernel
theorem dX6_fairness_21 : decode cX6_fairness 21 = .ok (.bipush 6, 2) := by decide +kernel
theorem dX6_fairness_23 : decode cX6_fairness 23 = .ok (.invokevirtual 76, 3) := by decide +kernel
theorem dX6_fairness_26 : decode cX6_fairness 26 = .ok (.i2d, 1) := by decide +kernel
theorem dX6_fairness_27 : decode cX6_fairness 27 = .ok (.dstore 6, 2) := by decide +kernel
theorem dX6_fairness_29 : decode cX6_fairness 29 = .ok (.dload_n 1, 1) := by decide +kernel
theorem dX6_fairness_30 : decode cX6_fairness 30 = .ok (.dload 6, 2) := by decide +kernel
theorem dX6_fairness_32 : decode cX6_fairness 32 = .ok (.dadd, 1) := by decide +kernel
theorem dX6_fairness_33 : decode cX6_fairness 33 = .ok (.dstore_n 1, 1) := by decide +kernel
theorem dX6_fairness_34 : decode cX6_fairness 34 = .ok (.dload_n 3, 1) := by decide +kernel
theorem dX6_fairness_35 : decode cX6_fairness 35 = .ok (.dload 6, 2) := by decide +kernel
theorem dX6_fairness_37 : decode cX6_fairness 37 = .ok (.dload 6, 2) := by decide +kernel
theorem dX6_fairness_39 : decode cX6_fairness 39 = .ok (.dmul, 1) := by decide +kernel
theorem dX6_fairness_40 : decode cX6_fairness 40 = .ok (.dadd, 1) := by decide +kernel
theorem dX6_fairness_41 : decode cX6_fairness 41 = .ok (.dstore_n 3, 1) := by decide +kernel
theorem dX6_fairness_42 : decode cX6_fairness 42 = .ok (.iinc 5 1, 3) := by decide +kernel
theorem dX6_fairness_45 : decode cX6_fairness 45 = .ok (.goto (-38), 3) := by decide +kernel
theorem dX6_fairness_48 : decode cX6_fairness 48 = .ok (.aload_n 0, 1) := by decide +kernel
theorem dX6_fairness_49 : decode cX6_fairness 49 = .ok (.getfield 13, 3) := by decide +kernel
theorem dX6_fairness_52 : decode cX6_fairness 52 = .ok (.iconst 0, 1) := by decide +kernel
theorem dX6_fairness_53 : decode cX6_fairness 53 = .ok (.iaload, 1) := by decide +kernel
theorem dX6_fairness_54 : decode cX6_fairness 54 = .ok (.i2d, 1) := by decide +kernel
theorem dX6_fairness_55 : decode cX6_fairness 55 = .ok (.dstore 5, 2) := by decide +kernel
theorem dX6_fairness_57 : decode cX6_fairness 57 = .ok (.dload_n 3, 1) := by decide +kernel
theorem dX6_fairness_58 : decode cX6_fairness 58 = .ok (.dconst 0, 1) := by decide +kernel
theorem dX6_fairness_59 : decode cX6_fairness 59 = .ok (.dcmp .l, 1) := by decide +kernel
theorem dX6_fairness_60 : decode cX6_fairness 60 = .ok (.ifCond .ne 7, 3) := by decide +kernel
theorem dX6_fairness_63 : decode cX6_fairness 63 = .ok (.dconst 1, 1) := by decide +kernel
theorem dX6_fairness_64 : decode cX6_fairness 64 = .ok (.goto 11, 3) := by decide +kernel
theorem dX6_fairness_67 : decode cX6_fairness 67 = .ok (.dload_n 1, 1) := by decide +kernel
theorem dX6_fairness_68 : decode cX6_fairness 68 = .ok (.dload_n 1, 1) := by decide +kernel
theorem dX6_fairness_69 : decode cX6_fairness 69 = .ok (.dmul, 1) := by decide +kernel
theorem dX6_fairness_70 : decode cX6_fairness 70 = .ok (.dload 5, 2) := by decide +kernel
theorem dX6_fairness_72 : decode cX6_fairness 72 = .ok (.dload_n 3, 1) := by decide +kernel
theorem dX6_fairness_73 : decode cX6_fairness 73 = .ok (.dmul, 1) := by decide +kernel
theorem dX6_fairness_74 : decode cX6_fairness 74 = .ok (.ddiv, 1) := by decide +kernel
theorem dX6_fairness_75 : decode cX6_fairness 75 = .ok (.invokestatic 237, 3) := by decide +kernel
theorem dX6_fairness_78 : decode cX6_fairness 78 = .ok (.lreturn, 1) := by decide +kernel
