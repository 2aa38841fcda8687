theorem dX5_refuse_0 : decode cX5_refuse 0 = .ok (.iload_n 1, 1) := by decide +kernel
theorem dX5_refuse_1 : decode cX5_refuse 1 = .ok (.bipush (-2), 2) := by decide +kernel
theorem dX5_refuse_3 : decode cX5_refuse 3 = .ok (.if_icmp .ne 16, 3) := by decide +kernel
theorem dX5_refuse_6 : decode cX5_refuse 6 = .ok (.aload_n 0, 1) := by decide +kernel
theorem dX5_refuse_7 : decode cX5_refuse 7 = .ok (.dup, 1) := by decide +kernel
theorem dX5_refuse_8 : decode cX5_refuse 8 = .ok (.getfield 181, 3) := by decide +kernel
theorem dX5_refuse_11 : decode cX5_refuse 11 = .ok (.iconst 1, 1) := by decide +kernel
theorem dX5_refuse_12 : decode cX5_refuse 12 = .ok (.iadd, 1) := by decide +kernel
theorem dX5_refuse_13 : decode cX5_refuse 13 = .ok (.putfield 181, 3) := by decide +kernel
theorem dX5_refuse_16 : decode cX5_refuse 16 = .ok (.goto 32, 3) := by decide +kernel
theorem dX5_refuse_19 : decode cX5_refuse 19 = .ok (.iload_n 1, 1) := by decide +kernel
theorem dX5_refuse_20 : decode cX5_refuse 20 = .ok (.bipush (-3), 2) := by decide +kernel
theorem dX5_refuse_22 : decode cX5_refuse 22 = .ok (.if_icmp .ne 16, 3) := by decide +kernel
theorem dX5_refuse_25 : decode cX5_refuse 25 = .ok (.aload_n 0, 1) := by decide +kernel
theorem dX5_refuse_26 : decode cX5_refuse 26 = .ok (.dup, 1) := by decide +kernel
theorem dX5_refuse_27 : decode cX5_refuse 27 = .ok (.getfield 184, 3) := by decide +kernel
theorem dX5_refuse_30 : decode cX5_refuse 30 = .ok (.iconst 1, 1) := by decide +kernel
theorem dX5_refuse_31 : decode cX5_refuse 31 = .ok (.iadd, 1) := by decide +kernel
theorem dX5_refuse_32 : decode cX5_refuse 32 = .ok (.putfield 184, 3) := by decide +kernel
theorem dX5_refuse_35 : decode cX5_refuse 35 = .ok (.goto 13, 3) := by decide +kernel
theorem dX5_refuse_38 : decode cX5_refuse 38 = .ok (.aload_n 0, 1) := by decide +kernel
theorem dX5_refuse_39 : decode cX5_refuse 39 = .ok (.dup, 1) := by decide +kernel
theorem dX5_refuse_40 : decode cX5_refuse 40 = .ok (.getfield 187, 3) := by decide +kernel
theorem dX5_refuse_43 : decode cX5_refuse 43 = .ok (.iconst 1, 1) := by decide +kernel
theorem dX5_refuse_44 : decode cX5_refuse 44 = .ok (.iadd, 1) := by decide +kernel
theorem dX5_refuse_45 : decode cX5_refuse 45 = .ok (.putfield 187, 3) := by decide +kernel
theorem dX5_refuse_48 : decode cX5_refuse 48 = .ok (.iload_n 1, 1) := by decide +kernel
theorem dX5_refuse_49 : decode cX5_refuse 49 = .ok (.ireturn, 1) := by decide +kernel
theorem dX5_keepState_0 : decode cX5_keepState 0 = .ok (.aload_n 0, 1) := by decide +kernel
theorem dX5_keepState_1 : decode cX5_keepState 1 = .ok (.aload_n 0, 1) := by decide +kernel
theorem dX5_keepState_2 : decode cX5_keepState 2 = .ok (.getfield 174, 3) := by decide +kernel
theorem dX5_keepState_5 : decode cX5_keepState 5 = .ok (.iconst 1, 1) := by decide +kernel
theorem dX5_keepState_6 : decode cX5_keepState 6 = .ok (.iadd, 1) := by decide +kernel
theorem dX5_keepState_7 : decode cX5_keepState 7 = .ok (.iconst 5, 1) := by decide +kernel
theorem dX5_keepState_8 : decode cX5_keepState 8 = .ok (.irem, 1) := by decide +kernel
theorem dX5_keepState_9 : decode cX5_keepState 9 = .ok (.putfield 174, 3) := by decide +kernel
theorem dX5_keepState_12 : decode cX5_keepState 12 = .ok (.aload_n 0, 1) := by decide +kernel
theorem dX5_keepState_13 : decode cX5_keepState 13 = .ok (.getfield 16, 3) := by decide +kernel
theorem dX5_keepState_16 : decode cX5_keepState 16 = .ok (.aload_n 0, 1) := by decide +kernel
theorem dX5_keepState_17 : decode cX5_keepState 17 = .ok (.getfield 174, 3) := by decide +kernel
theorem dX5_keepState_20 : decode cX5_keepState 20 = .ok (.aaload, 1) := by decide +kernel
theorem dX5_keepState_21 : decode cX5_keepState 21 = .ok (.aload_n 0, 1) := by decide +kernel
theorem dX5_keepState_22 : decode cX5_keepState 22 = .ok (.getfield 10, 3) := by decide +kernel
theorem dX5_keepState_25 : decode cX5_keepState 25 = .ok (.invokevirtual 177, 3) := by decide +kernel
theorem dX5_keepState_28 : decode cX5_keepState 28 = .ok (.aload_n 0, 1) := by decide +kernel
theorem dX5_keepState_29 : decode cX5_keepState 29 = .ok (.getfield 171, 3) := by decide +kernel
theorem dX5_keepState_32 : decode cX5_keepState 32 = .ok (.iconst 5, 1) := by decide +kernel
theorem dX5_keepState_33 : decode cX5_keepState 33 = .ok (.if_icmp .ge 13, 3) := by decide +kernel
theorem dX5_keepState_36 : decode cX5_keepState 36 = .ok (.aload_n 0, 1) := by decide +kernel
theorem dX5_keepState_37 : decode cX5_keepState 37 = .ok (.dup, 1) := by decide +kernel
theorem dX5_keepState_38 : decode cX5_keepState 38 = .ok (.getfield 171, 3) := by decide +kernel
theorem dX5_keepState_41 : decode cX5_keepState 41 = .ok (.iconst 1, 1) := by decide +kernel
theorem dX5_keepState_42 : decode cX5_keepState 42 = .ok (.iadd, 1) := by decide +kernel
theorem dX5_keepState_43 : decode cX5_keepState 43 = .ok (.putfield 171, 3) := by decide +kernel
theorem dX5_keepState_46 : decode cX5_keepState 46 = .ok (.return_, 1) := by decide +kernel
theorem dX5_begins_0 : decode cX5_begins 0 = .ok (.iload_n 1, 1) := by decide +kernel
theorem dX5_begins_1 : decode cX5_begins 1 = .ok (.iconst 1, 1) := by decide +kernel
theorem dX5_begins_2 : decode cX5_begins 2 = .ok (.if_icmp .lt 19, 3) := by decide +kernel
theorem dX5_begins_5 : decode cX5_begins 5 = .ok (.iload_n 1, 1) := by decide +kernel
theorem dX5_begins_6 : decode cX5_begins 6 = .ok (.bipush 8, 2) := by decide +kernel
theorem dX5_begins_8 : decode cX5_begins 8 = .ok (.if_icmp .gt 13, 3) := by decide +kernel
theorem dX5_begins_11 : decode cX5_begins 11 = .ok (.iload_n 2, 1) := by decide +kernel
theorem dX5_begins_12 : decode cX5_begins 12 = .ok (.iconst 1, 1) := by decide +kernel
theorem dX5_begins_13 : decode cX5_begins 13 = .ok (.if_icmp .lt 8, 3) := by decide +kernel
theorem dX5_begins_16 : decode cX5_begins 16 = .ok (.iload_n 2, 1) := by decide +kernel
theorem dX5_begins_17 : decode cX5_begins 17 = .ok (.iconst 4, 1) := by decide +kernel
theorem dX5_begins_18 : decode cX5_begins 18 = .ok (.if_icmp .le 10, 3) := by decide +kernel
theorem dX5_begins_21 : decode cX5_begins 21 = .ok (.aload_n 0, 1) := by decide +kernel
theorem dX5_begins_22 : decode cX5_begins 22 = .ok (.bipush (-2), 2) := by decide +kernel
theorem dX5_begins_24 : decode cX5_begins 24 = .ok (.invokevirtual 34, 3) := by decide +kernel
theorem dX5_begins_27 : decode cX5_begins 27 = .ok (.ireturn, 1) := by decide +kernel
theorem dX5_begins_28 : decode cX5_begins 28 = .ok (.aload_n 0, 1) := by decide +kernel
theorem dX5_begins_29 : decode cX5_begins 29 = .ok (.invokevirtual 38, 3) := by decide +kernel
theorem dX5_begins_32 : decode cX5_begins 32 = .ok (.aload_n 0, 1) := by decide +kernel
theorem dX5_begins_33 : decode cX5_begins 33 = .ok (.getfield 10, 3) := by decide +kernel
theorem dX5_begins_36 : decode cX5_begins 36 = .ok (.getfield 41, 3) := by decide +kernel
theorem dX5_begins_39 : decode cX5_begins 39 = .ok (.istore_n 3, 1) := by decide +kernel
theorem dX5_begins_40 : decode cX5_begins 40 = .ok (.aload_n 0, 1) := by decide +kernel
theorem dX5_begins_41 : decode cX5_begins 41 = .ok (.getfield 10, 3) := by decide +kernel
theorem dX5_begins_44 : decode cX5_begins 44 = .ok (.iload_n 1, 1) := by decide +kernel
theorem dX5_begins_45 : decode cX5_begins 45 = .ok (.iload_n 2, 1) := by decide +kernel
theorem dX5_begins_46 : decode cX5_begins 46 = .ok (.invokevirtual 45, 3) := by decide +kernel
theorem dX5_begins_49 : decode cX5_begins 49 = .ok (.iload_n 3, 1) := by decide +kernel
theorem dX5_begins_50 : decode cX5_begins 50 = .ok (.ireturn, 1) := by decide +kernel
theorem dX5_peer_0 : decode cX5_peer 0 = .ok (.aload_n 0, 1) := by decide +kernel
theorem dX5_peer_1 : decode cX5_peer 1 = .ok (.getfield 10, 3) := by decide +kernel
theorem dX5_peer_4 : decode cX5_peer 4 = .ok (.iload_n 1, 1) := by decide +kernel
theorem dX5_peer_5 : decode cX5_peer 5 = .ok (.iload_n 2, 1) := by decide +kernel
theorem dX5_peer_6 : decode cX5_peer 6 = .ok (.invokevirtual 49, 3) := by decide +kernel
theorem dX5_peer_9 : decode cX5_peer 9 = .ok (.istore_n 3, 1) := by decide +kernel
theorem dX5_peer_10 : decode cX5_peer 10 = .ok (.iload_n 3, 1) := by decide +kernel
theorem dX5_peer_11 : decode cX5_peer 11 = .ok (.ifCond .eq 9, 3) := by decide +kernel
theorem dX5_peer_14 : decode cX5_peer 14 = .ok (.aload_n 0, 1) := by decide +kernel
theorem dX5_peer_15 : decode cX5_peer 15 = .ok (.iload_n 3, 1) := by decide +kernel
theorem dX5_peer_16 : decode cX5_peer 16 = .ok (.invokevirtual 34, 3) := by decide +kernel
theorem dX5_peer_19 : decode cX5_peer 19 = .ok (.ireturn, 1) := by decide +kernel
theorem dX5_peer_20 : decode cX5_peer 20 = .ok (.aload_n 0, 1) := by decide +kernel
theorem dX5_peer_21 : decode cX5_peer 21 = .ok (.invokevirtual 38, 3) := by decide +kernel
theorem dX5_peer_24 : decode cX5_peer 24 = .ok (.aload_n 0, 1) := by decide +kernel
theorem dX5_peer_25 : decode cX5_peer 25 = .ok (.getfield 10, 3) := by decide +kernel
theorem dX5_peer_28 : decode cX5_peer 28 = .ok (.iload_n 1, 1) := by decide +kernel
theorem dX5_peer_29 : decode cX5_peer 29 = .ok (.iload_n 2, 1) := by decide +kernel
theorem dX5_peer_30 : decode cX5_peer 30 = .ok (.invokevirtual 53, 3) := by decide +kernel
theorem dX5_peer_33 : decode cX5_peer 33 = .ok (.ireturn, 1) := by decide +kernel
theorem dX5_gives_0 : decode cX5_gives 0 = .ok (.aload_n 0, 1) := by decide +kernel
theorem dX5_gives_1 : decode cX5_gives 1 = .ok (.getfield 10, 3) := by decide +kernel
theorem dX5_gives_4 : decode cX5_gives 4 = .ok (.iload_n 1, 1) := by decide +kernel
theorem dX5_gives_5 : decode cX5_gives 5 = .ok (.iload_n 2, 1) := by decide +kernel
theorem dX5_gives_6 : decode cX5_gives 6 = .ok (.invokevirtual 56, 3) := by decide +kernel
theorem dX5_gives_9 : decode cX5_gives 9 = .ok (.istore_n 3, 1) := by decide +kernel
theorem dX5_gives_10 : decode cX5_gives 10 = .ok (.iload_n 3, 1) := by decide +kernel
theorem dX5_gives_11 : decode cX5_gives 11 = .ok (.ifCond .eq 9, 3) := by decide +kernel
theorem dX5_gives_14 : decode cX5_gives 14 = .ok (.aload_n 0, 1) := by decide +kernel
theorem dX5_gives_15 : decode cX5_gives 15 = .ok (.iload_n 3, 1) := by decide +kernel
theorem dX5_gives_16 : decode cX5_gives 16 = .ok (.invokevirtual 34, 3) := by decide +kernel
theorem dX5_gives_19 : decode cX5_gives 19 = .ok (.ireturn, 1) := by decide +kernel
theorem dX5_gives_20 : decode cX5_gives 20 = .ok (.aload_n 0, 1) := by decide +kernel
theorem dX5_gives_21 : decode cX5_gives 21 = .ok (.invokevirtual 38, 3) := by decide +kernel
theorem dX5_gives_24 : decode cX5_gives 24 = .ok (.aload_n 0, 1) := by decide +kernel
theorem dX5_gives_25 : decode cX5_gives 25 = .ok (.getfield 10, 3) := by decide +kernel
theorem dX5_gives_28 : decode cX5_gives 28 = .ok (.iload_n 1, 1) := by decide +kernel
theorem dX5_gives_29 : decode cX5_gives 29 = .ok (.iload_n 2, 1) := by decide +kernel
theorem dX5_gives_30 : decode cX5_gives 30 = .ok (.invokevirtual 59, 3) := by decide +kernel
theorem dX5_gives_33 : decode cX5_gives 33 = .ok (.ireturn, 1) := by decide +kernel
theorem dX5_sets_0 : decode cX5_sets 0 = .ok (.aload_n 0, 1) := by decide +kernel
theorem dX5_sets_1 : decode cX5_sets 1 = .ok (.getfield 10, 3) := by decide +kernel
theorem dX5_sets_4 : decode cX5_sets 4 = .ok (.iload_n 1, 1) := by decide +kernel
theorem dX5_sets_5 : decode cX5_sets 5 = .ok (.iload_n 2, 1) := by decide +kernel
theorem dX5_sets_6 : decode cX5_sets 6 = .ok (.invokevirtual 62, 3) := by decide +kernel
theorem dX5_sets_9 : decode cX5_sets 9 = .ok (.istore_n 3, 1) := by decide +kernel
theorem dX5_sets_10 : decode cX5_sets 10 = .ok (.iload_n 3, 1) := by decide +kernel
theorem dX5_sets_11 : decode cX5_sets 11 = .ok (.ifCond .eq 9, 3) := by decide +kernel
theorem dX5_sets_14 : decode cX5_sets 14 = .ok (.aload_n 0, 1) := by decide +kernel
theorem dX5_sets_15 : decode cX5_sets 15 = .ok (.iload_n 3, 1) := by decide +kernel
theorem dX5_sets_16 : decode cX5_sets 16 = .ok (.invokevirtual 34, 3) := by decide +kernel
theorem dX5_sets_19 : decode cX5_sets 19 = .ok (.ireturn, 1) := by decide +kernel
theorem dX5_sets_20 : decode cX5_sets 20 = .ok (.aload_n 0, 1) := by decide +kernel
theorem dX5_sets_21 : decode cX5_sets 21 = .ok (.invokevirtual 38, 3) := by decide +kernel
theorem dX5_sets_24 : decode cX5_sets 24 = .ok (.aload_n 0, 1) := by decide +kernel
theorem dX5_sets_25 : decode cX5_sets 25 = .ok (.getfield 10, 3) := by decide +kernel
theorem dX5_sets_28 : decode cX5_sets 28 = .ok (.iload_n 1, 1) := by decide +kernel
theorem dX5_sets_29 : decode cX5_sets 29 = .ok (.iload_n 2, 1) := by decide +kernel
theorem dX5_sets_30 : decode cX5_sets 30 = .ok (.invokevirtual 65, 3) := by decide +kernel
theorem dX5_sets_33 : decode cX5_sets 33 = .ok (.ireturn, 1) := by decide +kernel
theorem dX5_areRounds_0 : decode cX5_areRounds 0 = .ok (.iload_n 0, 1) := by decide +kernel
theorem dX5_areRounds_1 : decode cX5_areRounds 1 = .ok (.iconst 1, 1) := by decide +kernel
theorem dX5_areRounds_2 : decode cX5_areRounds 2 = .ok (.if_icmp .lt 13, 3) := by decide +kernel
theorem dX5_areRounds_5 : decode cX5_areRounds 5 = .ok (.iload_n 0, 1) := by decide +kernel
theorem dX5_areRounds_6 : decode cX5_areRounds 6 = .ok (.bipush 30, 2) := by decide +kernel
theorem dX5_areRounds_8 : decode cX5_areRounds 8 = .ok (.if_icmp .gt 7, 3) := by decide +kernel
theorem dX5_areRounds_11 : decode cX5_areRounds 11 = .ok (.iconst 1, 1) := by decide +kernel
theorem dX5_areRounds_12 : decode cX5_areRounds 12 = .ok (.goto 4, 3) := by decide +kernel
theorem dX5_areRounds_15 : decode cX5_areRounds 15 = .ok (.iconst 0, 1) := by decide +kernel
theorem dX5_areRounds_16 : decode cX5_areRounds 16 = .ok (.ireturn, 1) := by decide +kernel
theorem dX5_rounds_0 : decode cX5_rounds 0 = .ok (.iload_n 1, 1) := by decide +kernel
theorem dX5_rounds_1 : decode cX5_rounds 1 = .ok (.invokestatic 68, 3) := by decide +kernel
theorem dX5_rounds_4 : decode cX5_rounds 4 = .ok (.ifCond .ne 10, 3) := by decide +kernel
theorem dX5_rounds_7 : decode cX5_rounds 7 = .ok (.aload_n 0, 1) := by decide +kernel
theorem dX5_rounds_8 : decode cX5_rounds 8 = .ok (.bipush (-2), 2) := by decide +kernel
theorem dX5_rounds_10 : decode cX5_rounds 10 = .ok (.invokevirtual 34, 3) := by decide +kernel
theorem dX5_rounds_13 : decode cX5_rounds 13 = .ok (.ireturn, 1) := by decide +kernel
theorem dX5_rounds_14 : decode cX5_rounds 14 = .ok (.aload_n 0, 1) := by decide +kernel
theorem dX5_rounds_15 : decode cX5_rounds 15 = .ok (.invokevirtual 38, 3) := by decide +kernel
theorem dX5_rounds_18 : decode cX5_rounds 18 = .ok (.aload_n 0, 1) := by decide +kernel
theorem dX5_rounds_19 : decode cX5_rounds 19 = .ok (.getfield 23, 3) := by decide +kernel
theorem dX5_rounds_22 : decode cX5_rounds 22 = .ok (.aload_n 0, 1) := by decide +kernel
theorem dX5_rounds_23 : decode cX5_rounds 23 = .ok (.getfield 10, 3) := by decide +kernel
theorem dX5_rounds_26 : decode cX5_rounds 26 = .ok (.iload_n 1, 1) := by decide +kernel
theorem dX5_rounds_27 : decode cX5_rounds 27 = .ok (.invokevirtual 72, 3) := by decide +kernel
theorem dX5_rounds_30 : decode cX5_rounds 30 = .ok (.aload_n 0, 1) := by decide +kernel
theorem dX5_rounds_31 : decode cX5_rounds 31 = .ok (.getfield 10, 3) := by decide +kernel
theorem dX5_rounds_34 : decode cX5_rounds 34 = .ok (.getfield 76, 3) := by decide +kernel
theorem dX5_rounds_37 : decode cX5_rounds 37 = .ok (.ireturn, 1) := by decide +kernel
theorem dX5_finishes_0 : decode cX5_finishes 0 = .ok (.iload_n 1, 1) := by decide +kernel
theorem dX5_finishes_1 : decode cX5_finishes 1 = .ok (.iconst 1, 1) := by decide +kernel
theorem dX5_finishes_2 : decode cX5_finishes 2 = .ok (.if_icmp .lt 9, 3) := by decide +kernel
theorem dX5_finishes_5 : decode cX5_finishes 5 = .ok (.iload_n 1, 1) := by decide +kernel
theorem dX5_finishes_6 : decode cX5_finishes 6 = .ok (.bipush 90, 2) := by decide +kernel
theorem dX5_finishes_8 : decode cX5_finishes 8 = .ok (.if_icmp .le 10, 3) := by decide +kernel
theorem dX5_finishes_11 : decode cX5_finishes 11 = .ok (.aload_n 0, 1) := by decide +kernel
theorem dX5_finishes_12 : decode cX5_finishes 12 = .ok (.bipush (-2), 2) := by decide +kernel
theorem dX5_finishes_14 : decode cX5_finishes 14 = .ok (.invokevirtual 34, 3) := by decide +kernel
theorem dX5_finishes_17 : decode cX5_finishes 17 = .ok (.ireturn, 1) := by decide +kernel
theorem dX5_finishes_18 : decode cX5_finishes 18 = .ok (.aload_n 0, 1) := by decide +kernel
theorem dX5_finishes_19 : decode cX5_finishes 19 = .ok (.getfield 10, 3) := by decide +kernel
theorem dX5_finishes_22 : decode cX5_finishes 22 = .ok (.invokevirtual 79, 3) := by decide +kernel
theorem dX5_finishes_25 : decode cX5_finishes 25 = .ok (.ifCond .ne 10, 3) := by decide +kernel
theorem dX5_finishes_28 : decode cX5_finishes 28 = .ok (.aload_n 0, 1) := by decide +kernel
theorem dX5_finishes_29 : decode cX5_finishes 29 = .ok (.bipush (-3), 2) := by decide +kernel
theorem dX5_finishes_31 : decode cX5_finishes 31 = .ok (.invokevirtual 34, 3) := by decide +kernel
theorem dX5_finishes_34 : decode cX5_finishes 34 = .ok (.ireturn, 1) := by decide +kernel
theorem dX5_finishes_35 : decode cX5_finishes 35 = .ok (.aload_n 0, 1) := by decide +kernel
theorem dX5_finishes_36 : decode cX5_finishes 36 = .ok (.invokevirtual 38, 3) := by decide +kernel
theorem dX5_finishes_39 : decode cX5_finishes 39 = .ok (.iconst 0, 1) := by decide +kernel
theorem dX5_finishes_40 : decode cX5_finishes 40 = .ok (.istore_n 2, 1) := by decide +kernel
theorem dX5_finishes_41 : decode cX5_finishes 41 = .ok (.iconst 0, 1) := by decide +kernel
theorem dX5_finishes_42 : decode cX5_finishes 42 = .ok (.istore_n 3, 1) := by decide +kernel
theorem dX5_finishes_43 : decode cX5_finishes 43 = .ok (.iload_n 3, 1) := by decide +kernel
theorem dX5_finishes_44 : decode cX5_finishes 44 = .ok (.iload_n 1, 1) := by decide +kernel
theorem dX5_finishes_45 : decode cX5_finishes 45 = .ok (.if_icmp .ge 34, 3) := by decide +kernel
theorem dX5_finishes_48 : decode cX5_finishes 48 = .ok (.aload_n 0, 1) := by decide +kernel
theorem dX5_finishes_49 : decode cX5_finishes 49 = .ok (.getfield 10, 3) := by decide +kernel
theorem dX5_finishes_52 : decode cX5_finishes 52 = .ok (.invokevirtual 83, 3) := by decide +kernel
theorem dX5_finishes_55 : decode cX5_finishes 55 = .ok (.ifCond .ne 24, 3) := by decide +kernel
theorem dX5_finishes_58 : decode cX5_finishes 58 = .ok (.aload_n 0, 1) := by decide +kernel
theorem dX5_finishes_59 : decode cX5_finishes 59 = .ok (.getfield 23, 3) := by decide +kernel
theorem dX5_finishes_62 : decode cX5_finishes 62 = .ok (.aload_n 0, 1) := by decide +kernel
theorem dX5_finishes_63 : decode cX5_finishes 63 = .ok (.getfield 10, 3) := by decide +kernel
theorem dX5_finishes_66 : decode cX5_finishes 66 = .ok (.iconst 1, 1) := by decide +kernel
theorem dX5_finishes_67 : decode cX5_finishes 67 = .ok (.invokevirtual 72, 3) := by decide +kernel
theorem dX5_finishes_70 : decode cX5_finishes 70 = .ok (.iinc 2 1, 3) := by decide +kernel
theorem dX5_finishes_73 : decode cX5_finishes 73 = .ok (.iinc 3 1, 3) := by decide +kernel
theorem dX5_finishes_76 : decode cX5_finishes 76 = .ok (.goto (-33), 3) := by decide +kernel
theorem dX5_finishes_79 : decode cX5_finishes 79 = .ok (.aload_n 0, 1) := by decide +kernel
theorem dX5_finishes_80 : decode cX5_finishes 80 = .ok (.getfield 10, 3) := by decide +kernel
theorem dX5_finishes_83 : decode cX5_finishes 83 = .ok (.invokevirtual 83, 3) := by decide +kernel
theorem dX5_finishes_86 : decode cX5_finishes 86 = .ok (.ifCond .eq 7, 3) := by decide +kernel
theorem dX5_finishes_89 : decode cX5_finishes 89 = .ok (.iload_n 2, 1) := by decide +kernel
theorem dX5_finishes_90 : decode cX5_finishes 90 = .ok (.goto 4, 3) := by decide +kernel
theorem dX5_finishes_93 : decode cX5_finishes 93 = .ok (.iconst (-1), 1) := by decide +kernel
theorem dX5_finishes_94 : decode cX5_finishes 94 = .ok (.ireturn, 1) := by decide +kernel
theorem dX5_of_0 : decode cX5_of 0 = .ok (.aload_n 0, 1) := by decide +kernel
theorem dX5_of_1 : decode cX5_of 1 = .ok (.getfield 10, 3) := by decide +kernel
theorem dX5_of_4 : decode cX5_of 4 = .ok (.iload_n 1, 1) := by decide +kernel
theorem dX5_of_5 : decode cX5_of 5 = .ok (.invokevirtual 86, 3) := by decide +kernel
theorem dX5_of_8 : decode cX5_of 8 = .ok (.ifCond .eq 13, 3) := by decide +kernel
theorem dX5_of_11 : decode cX5_of 11 = .ok (.iload_n 2, 1) := by decide +kernel
theorem dX5_of_12 : decode cX5_of 12 = .ok (.ifCond .lt 9, 3) := by decide +kernel
theorem dX5_of_15 : decode cX5_of 15 = .ok (.iload_n 2, 1) := by decide +kernel
theorem dX5_of_16 : decode cX5_of 16 = .ok (.bipush 9, 2) := by decide +kernel
theorem dX5_of_18 : decode cX5_of 18 = .ok (.if_icmp .le 10, 3) := by decide +kernel
theorem dX5_of_21 : decode cX5_of 21 = .ok (.aload_n 0, 1) := by decide +kernel
theorem dX5_of_22 : decode cX5_of 22 = .ok (.bipush (-2), 2) := by decide +kernel
theorem dX5_of_24 : decode cX5_of 24 = .ok (.invokevirtual 34, 3) := by decide +kernel
theorem dX5_of_27 : decode cX5_of 27 = .ok (.ireturn, 1) := by decide +kernel
theorem dX5_of_28 : decode cX5_of 28 = .ok (.aload_n 0, 1) := by decide +kernel
theorem dX5_of_29 : decode cX5_of 29 = .ok (.getfield 10, 3) := by decide +kernel
theorem dX5_of_32 : decode cX5_of 32 = .ok (.iload_n 1, 1) := by decide +kernel
theorem dX5_of_33 : decode cX5_of 33 = .ok (.iload_n 2, 1) := by decide +kernel
theorem dX5_of_34 : decode cX5_of 34 = .ok (.invokevirtual 89, 3) := by decide +kernel
theorem dX5_of_37 : decode cX5_of 37 = .ok (.ireturn, 1) := by decide +kernel
theorem dX5_block_0 : decode cX5_block 0 = .ok (.aload_n 0, 1) := by decide +kernel
theorem dX5_block_1 : decode cX5_block 1 = .ok (.getfield 10, 3) := by decide +kernel
theorem dX5_block_4 : decode cX5_block 4 = .ok (.iload_n 1, 1) := by decide +kernel
theorem dX5_block_5 : decode cX5_block 5 = .ok (.invokevirtual 86, 3) := by decide +kernel
theorem dX5_block_8 : decode cX5_block 8 = .ok (.ifCond .eq 29, 3) := by decide +kernel
theorem dX5_block_11 : decode cX5_block 11 = .ok (.aload_n 0, 1) := by decide +kernel
theorem dX5_block_12 : decode cX5_block 12 = .ok (.getfield 10, 3) := by decide +kernel
theorem dX5_block_15 : decode cX5_block 15 = .ok (.iload_n 2, 1) := by decide +kernel
theorem dX5_block_16 : decode cX5_block 16 = .ok (.invokevirtual 92, 3) := by decide +kernel
theorem dX5_block_19 : decode cX5_block 19 = .ok (.ifCond .eq 18, 3) := by decide +kernel
theorem dX5_block_22 : decode cX5_block 22 = .ok (.iload_n 3, 1) := by decide +kernel
theorem dX5_block_23 : decode cX5_block 23 = .ok (.ifCond .lt 14, 3) := by decide +kernel
theorem dX5_block_26 : decode cX5_block 26 = .ok (.iload_n 3, 1) := by decide +kernel
theorem dX5_block_27 : decode cX5_block 27 = .ok (.aload_n 0, 1) := by decide +kernel
theorem dX5_block_28 : decode cX5_block 28 = .ok (.getfield 10, 3) := by decide +kernel
theorem dX5_block_31 : decode cX5_block 31 = .ok (.getfield 95, 3) := by decide +kernel
theorem dX5_block_34 : decode cX5_block 34 = .ok (.if_icmp .lt 10, 3) := by decide +kernel
theorem dX5_block_37 : decode cX5_block 37 = .ok (.aload_n 0, 1) := by decide +kernel
theorem dX5_block_38 : decode cX5_block 38 = .ok (.bipush (-2), 2) := by decide +kernel
theorem dX5_block_40 : decode cX5_block 40 = .ok (.invokevirtual 34, 3) := by decide +kernel
theorem dX5_block_43 : decode cX5_block 43 = .ok (.ireturn, 1) := by decide +kernel
theorem dX5_block_44 : decode cX5_block 44 = .ok (.aload_n 0, 1) := by decide +kernel
theorem dX5_block_45 : decode cX5_block 45 = .ok (.getfield 10, 3) := by decide +kernel
theorem dX5_block_48 : decode cX5_block 48 = .ok (.getfield 98, 3) := by decide +kernel
theorem dX5_block_51 : decode cX5_block 51 = .ok (.iload_n 1, 1) := by decide +kernel
theorem dX5_block_52 : decode cX5_block 52 = .ok (.aaload, 1) := by decide +kernel
theorem dX5_block_53 : decode cX5_block 53 = .ok (.iload_n 2, 1) := by decide +kernel
theorem dX5_block_54 : decode cX5_block 54 = .ok (.iload_n 3, 1) := by decide +kernel
theorem dX5_block_55 : decode cX5_block 55 = .ok (.invokevirtual 102, 3) := by decide +kernel
theorem dX5_block_58 : decode cX5_block 58 = .ok (.ireturn, 1) := by decide +kernel
theorem dX5_rate_0 : decode cX5_rate 0 = .ok (.aload_n 0, 1) := by decide +kernel
theorem dX5_rate_1 : decode cX5_rate 1 = .ok (.getfield 10, 3) := by decide +kernel
theorem dX5_rate_4 : decode cX5_rate 4 = .ok (.iload_n 1, 1) := by decide +kernel
theorem dX5_rate_5 : decode cX5_rate 5 = .ok (.iload_n 2, 1) := by decide +kernel
theorem dX5_rate_6 : decode cX5_rate 6 = .ok (.invokevirtual 107, 3) := by decide +kernel
theorem dX5_rate_9 : decode cX5_rate 9 = .ok (.ifCond .ne 10, 3) := by decide +kernel
theorem dX5_rate_12 : decode cX5_rate 12 = .ok (.aload_n 0, 1) := by decide +kernel
theorem dX5_rate_13 : decode cX5_rate 13 = .ok (.bipush (-2), 2) := by decide +kernel
theorem dX5_rate_15 : decode cX5_rate 15 = .ok (.invokevirtual 34, 3) := by decide +kernel
theorem dX5_rate_18 : decode cX5_rate 18 = .ok (.ireturn, 1) := by decide +kernel
theorem dX5_rate_19 : decode cX5_rate 19 = .ok (.aload_n 0, 1) := by decide +kernel
theorem dX5_rate_20 : decode cX5_rate 20 = .ok (.getfield 10, 3) := by decide +kernel
theorem dX5_rate_23 : decode cX5_rate 23 = .ok (.getfield 98, 3) := by decide +kernel
theorem dX5_rate_26 : decode cX5_rate 26 = .ok (.iload_n 1, 1) := by decide +kernel
theorem dX5_rate_27 : decode cX5_rate 27 = .ok (.aaload, 1) := by decide +kernel
theorem dX5_rate_28 : decode cX5_rate 28 = .ok (.getfield 111, 3) := by decide +kernel
theorem dX5_rate_31 : decode cX5_rate 31 = .ok (.iload_n 2, 1) := by decide +kernel
theorem dX5_rate_32 : decode cX5_rate 32 = .ok (.faload, 1) := by decide +kernel
theorem dX5_rate_33 : decode cX5_rate 33 = .ok (.invokestatic 115, 3) := by decide +kernel
theorem dX5_rate_36 : decode cX5_rate 36 = .ok (.ireturn, 1) := by decide +kernel
theorem dX5_suspects_0 : decode cX5_suspects 0 = .ok (.aload_n 0, 1) := by decide +kernel
theorem dX5_suspects_1 : decode cX5_suspects 1 = .ok (.getfield 10, 3) := by decide +kernel
theorem dX5_suspects_4 : decode cX5_suspects 4 = .ok (.iload_n 1, 1) := by decide +kernel
theorem dX5_suspects_5 : decode cX5_suspects 5 = .ok (.iload_n 2, 1) := by decide +kernel
theorem dX5_suspects_6 : decode cX5_suspects 6 = .ok (.invokevirtual 107, 3) := by decide +kernel
theorem dX5_suspects_9 : decode cX5_suspects 9 = .ok (.ifCond .ne 10, 3) := by decide +kernel
theorem dX5_suspects_12 : decode cX5_suspects 12 = .ok (.aload_n 0, 1) := by decide +kernel
theorem dX5_suspects_13 : decode cX5_suspects 13 = .ok (.bipush (-2), 2) := by decide +kernel
theorem dX5_suspects_15 : decode cX5_suspects 15 = .ok (.invokevirtual 34, 3) := by decide +kernel
theorem dX5_suspects_18 : decode cX5_suspects 18 = .ok (.ireturn, 1) := by decide +kernel
theorem dX5_suspects_19 : decode cX5_suspects 19 = .ok (.aload_n 0, 1) := by decide +kernel
theorem dX5_suspects_20 : decode cX5_suspects 20 = .ok (.getfield 10, 3) := by decide +kernel
theorem dX5_suspects_23 : decode cX5_suspects 23 = .ok (.getfield 98, 3) := by decide +kernel
theorem dX5_suspects_26 : decode cX5_suspects 26 = .ok (.iload_n 1, 1) := by decide +kernel
theorem dX5_suspects_27 : decode cX5_suspects 27 = .ok (.aaload, 1) := by decide +kernel
theorem dX5_suspects_28 : decode cX5_suspects 28 = .ok (.getfield 121, 3) := by decide +kernel
theorem dX5_suspects_31 : decode cX5_suspects 31 = .ok (.iload_n 2, 1) := by decide +kernel
theorem dX5_suspects_32 : decode cX5_suspects 32 = .ok (.iaload, 1) := by decide +kernel
theorem dX5_suspects_33 : decode cX5_suspects 33 = .ok (.ireturn, 1) := by decide +kernel
theorem dX5_copies_0 : decode cX5_copies 0 = .ok (.aload_n 0, 1) := by decide +kernel
theorem dX5_copies_1 : decode cX5_copies 1 = .ok (.getfield 10, 3) := by decide +kernel
theorem dX5_copies_4 : decode cX5_copies 4 = .ok (.iload_n 1, 1) := by decide +kernel
theorem dX5_copies_5 : decode cX5_copies 5 = .ok (.invokevirtual 92, 3) := by decide +kernel
theorem dX5_copies_8 : decode cX5_copies 8 = .ok (.ifCond .ne 10, 3) := by decide +kernel
theorem dX5_copies_11 : decode cX5_copies 11 = .ok (.aload_n 0, 1) := by decide +kernel
theorem dX5_copies_12 : decode cX5_copies 12 = .ok (.bipush (-2), 2) := by decide +kernel
theorem dX5_copies_14 : decode cX5_copies 14 = .ok (.invokevirtual 34, 3) := by decide +kernel
theorem dX5_copies_17 : decode cX5_copies 17 = .ok (.ireturn, 1) := by decide +kernel
theorem dX5_copies_18 : decode cX5_copies 18 = .ok (.aload_n 0, 1) := by decide +kernel
theorem dX5_copies_19 : decode cX5_copies 19 = .ok (.getfield 10, 3) := by decide +kernel
theorem dX5_copies_22 : decode cX5_copies 22 = .ok (.iload_n 1, 1) := by decide +kernel
theorem dX5_copies_23 : decode cX5_copies 23 = .ok (.invokevirtual 125, 3) := by decide +kernel
theorem dX5_copies_26 : decode cX5_copies 26 = .ok (.ireturn, 1) := by decide +kernel
theorem dX5_rarest_0 : decode cX5_rarest 0 = .ok (.iconst (-1), 1) := by decide +kernel
theorem dX5_rarest_1 : decode cX5_rarest 1 = .ok (.istore_n 1, 1) := by decide +kernel
theorem dX5_rarest_2 : decode cX5_rarest 2 = .ok (.bipush 7, 2) := by decide +kernel
theorem dX5_rarest_4 : decode cX5_rarest 4 = .ok (.istore_n 2, 1) := by decide +kernel
theorem dX5_rarest_5 : decode cX5_rarest 5 = .ok (.iconst 0, 1) := by decide +kernel
theorem dX5_rarest_6 : decode cX5_rarest 6 = .ok (.istore_n 3, 1) := by decide +kernel
theorem dX5_rarest_7 : decode cX5_rarest 7 = .ok (.iload_n 3, 1) := by decide +kernel
theorem dX5_rarest_8 : decode cX5_rarest 8 = .ok (.aload_n 0, 1) := by decide +kernel
theorem dX5_rarest_9 : decode cX5_rarest 9 = .ok (.getfield 10, 3) := by decide +kernel
theorem dX5_rarest_12 : decode cX5_rarest 12 = .ok (.getfield 128, 3) := by decide +kernel
theorem dX5_rarest_15 : decode cX5_rarest 15 = .ok (.if_icmp .ge 36, 3) := by decide +kernel
theorem dX5_rarest_18 : decode cX5_rarest 18 = .ok (.aload_n 0, 1) := by decide +kernel
theorem dX5_rarest_19 : decode cX5_rarest 19 = .ok (.getfield 10, 3) := by decide +kernel
theorem dX5_rarest_22 : decode cX5_rarest 22 = .ok (.iload_n 3, 1) := by decide +kernel
theorem dX5_rarest_23 : decode cX5_rarest 23 = .ok (.invokevirtual 125, 3) := by decide +kernel
theorem dX5_rarest_26 : decode cX5_rarest 26 = .ok (.istore 4, 2) := by decide +kernel
theorem dX5_rarest_28 : decode cX5_rarest 28 = .ok (.iload 4, 2) := by decide +kernel
theorem dX5_rarest_30 : decode cX5_rarest 30 = .ok (.iconst 1, 1) := by decide +kernel
theorem dX5_rarest_31 : decode cX5_rarest 31 = .ok (.if_icmp .lt 14, 3) := by decide +kernel
theorem dX5_rarest_34 : decode cX5_rarest 34 = .ok (.iload 4, 2) := by decide +kernel
theorem dX5_rarest_36 : decode cX5_rarest 36 = .ok (.iload_n 2, 1) := by decide +kernel
theorem dX5_rarest_37 : decode cX5_rarest 37 = .ok (.if_icmp .ge 8, 3) := by decide +kernel
theorem dX5_rarest_40 : decode cX5_rarest 40 = .ok (.iload_n 3, 1) := by decide +kernel
theorem dX5_rarest_41 : decode cX5_rarest 41 = .ok (.istore_n 1, 1) := by decide +kernel
theorem dX5_rarest_42 : decode cX5_rarest 42 = .ok (.iload 4, 2) := by decide +kernel
theorem dX5_rarest_44 : decode cX5_rarest 44 = .ok (.istore_n 2, 1) := by decide +kernel
theorem dX5_rarest_45 : decode cX5_rarest 45 = .ok (.iinc 3 1, 3) := by decide +kernel
theorem dX5_rarest_48 : decode cX5_rarest 48 = .ok (.goto (-41), 3) := by decide +kernel
theorem dX5_rarest_51 : decode cX5_rarest 51 = .ok (.iload_n 1, 1) := by decide +kernel
theorem dX5_rarest_52 : decode cX5_rarest 52 = .ok (.ireturn, 1) := by decide +kernel
theorem dX5_ratio_0 : decode cX5_ratio 0 = .ok (.aload_n 0, 1) := by decide +kernel
theorem dX5_ratio_1 : decode cX5_ratio 1 = .ok (.getfield 10, 3) := by decide +kernel
theorem dX5_ratio_4 : decode cX5_ratio 4 = .ok (.iload_n 1, 1) := by decide +kernel
theorem dX5_ratio_5 : decode cX5_ratio 5 = .ok (.invokevirtual 86, 3) := by decide +kernel
theorem dX5_ratio_8 : decode cX5_ratio 8 = .ok (.ifCond .ne 10, 3) := by decide +kernel
theorem dX5_ratio_11 : decode cX5_ratio 11 = .ok (.aload_n 0, 1) := by decide +kernel
theorem dX5_ratio_12 : decode cX5_ratio 12 = .ok (.bipush (-2), 2) := by decide +kernel
theorem dX5_ratio_14 : decode cX5_ratio 14 = .ok (.invokevirtual 34, 3) := by decide +kernel
theorem dX5_ratio_17 : decode cX5_ratio 17 = .ok (.ireturn, 1) := by decide +kernel
theorem dX5_ratio_18 : decode cX5_ratio 18 = .ok (.aload_n 0, 1) := by decide +kernel
theorem dX5_ratio_19 : decode cX5_ratio 19 = .ok (.getfield 10, 3) := by decide +kernel
theorem dX5_ratio_22 : decode cX5_ratio 22 = .ok (.getfield 98, 3) := by decide +kernel
theorem dX5_ratio_25 : decode cX5_ratio 25 = .ok (.iload_n 1, 1) := by decide +kernel
theorem dX5_ratio_26 : decode cX5_ratio 26 = .ok (.aaload, 1) := by decide +kernel
theorem dX5_ratio_27 : decode cX5_ratio 27 = .ok (.astore_n 2, 1) := by decide +kernel
theorem dX5_ratio_28 : decode cX5_ratio 28 = .ok (.aload_n 2, 1) := by decide +kernel
theorem dX5_ratio_29 : decode cX5_ratio 29 = .ok (.getfield 131, 3) := by decide +kernel
theorem dX5_ratio_32 : decode cX5_ratio 32 = .ok (.ifCond .ne 8, 3) := by decide +kernel
theorem dX5_ratio_35 : decode cX5_ratio 35 = .ok (.fconst 0, 1) := by decide +kernel
theorem dX5_ratio_36 : decode cX5_ratio 36 = .ok (.invokestatic 115, 3) := by decide +kernel
theorem dX5_ratio_39 : decode cX5_ratio 39 = .ok (.ireturn, 1) := by decide +kernel
theorem dX5_ratio_40 : decode cX5_ratio 40 = .ok (.aload_n 2, 1) := by decide +kernel
theorem dX5_ratio_41 : decode cX5_ratio 41 = .ok (.getfield 134, 3) := by decide +kernel
theorem dX5_ratio_44 : decode cX5_ratio 44 = .ok (.i2f, 1) := by decide +kernel
theorem dX5_ratio_45 : decode cX5_ratio 45 = .ok (.aload_n 2, 1) := by decide +kernel
theorem dX5_ratio_46 : decode cX5_ratio 46 = .ok (.getfield 131, 3) := by decide +kernel
theorem dX5_ratio_49 : decode cX5_ratio 49 = .ok (.i2f, 1) := by decide +kernel
theorem dX5_ratio_50 : decode cX5_ratio 50 = .ok (.fdiv, 1) := by decide +kernel
theorem dX5_ratio_51 : decode cX5_ratio 51 = .ok (.invokestatic 115, 3) := by decide +kernel
theorem dX5_ratio_54 : decode cX5_ratio 54 = .ok (.ireturn, 1) := by decide +kernel
theorem dX5_spread_0 : decode cX5_spread 0 = .ok (.iconst 0, 1) := by decide +kernel
theorem dX5_spread_1 : decode cX5_spread 1 = .ok (.istore_n 1, 1) := by decide +kernel
theorem dX5_spread_2 : decode cX5_spread 2 = .ok (.iconst 0, 1) := by decide +kernel
theorem dX5_spread_3 : decode cX5_spread 3 = .ok (.istore_n 2, 1) := by decide +kernel
theorem dX5_spread_4 : decode cX5_spread 4 = .ok (.iload_n 2, 1) := by decide +kernel
theorem dX5_spread_5 : decode cX5_spread 5 = .ok (.aload_n 0, 1) := by decide +kernel
theorem dX5_spread_6 : decode cX5_spread 6 = .ok (.getfield 10, 3) := by decide +kernel
theorem dX5_spread_9 : decode cX5_spread 9 = .ok (.getfield 128, 3) := by decide +kernel
theorem dX5_spread_12 : decode cX5_spread 12 = .ok (.if_icmp .ge 20, 3) := by decide +kernel
theorem dX5_spread_15 : decode cX5_spread 15 = .ok (.iload_n 1, 1) := by decide +kernel
theorem dX5_spread_16 : decode cX5_spread 16 = .ok (.aload_n 0, 1) := by decide +kernel
theorem dX5_spread_17 : decode cX5_spread 17 = .ok (.getfield 10, 3) := by decide +kernel
theorem dX5_spread_20 : decode cX5_spread 20 = .ok (.iload_n 2, 1) := by decide +kernel
theorem dX5_spread_21 : decode cX5_spread 21 = .ok (.invokevirtual 125, 3) := by decide +kernel
theorem dX5_spread_24 : decode cX5_spread 24 = .ok (.iadd, 1) := by decide +kernel
theorem dX5_spread_25 : decode cX5_spread 25 = .ok (.istore_n 1, 1) := by decide +kernel
theorem dX5_spread_26 : decode cX5_spread 26 = .ok (.iinc 2 1, 3) := by decide +kernel
theorem dX5_spread_29 : decode cX5_spread 29 = .ok (.goto (-25), 3) := by decide +kernel
theorem dX5_spread_32 : decode cX5_spread 32 = .ok (.iload_n 1, 1) := by decide +kernel
theorem dX5_spread_33 : decode cX5_spread 33 = .ok (.i2f, 1) := by decide +kernel
theorem dX5_spread_34 : decode cX5_spread 34 = .ok (.aload_n 0, 1) := by decide +kernel
theorem dX5_spread_35 : decode cX5_spread 35 = .ok (.getfield 10, 3) := by decide +kernel
theorem dX5_spread_38 : decode cX5_spread 38 = .ok (.getfield 128, 3) := by decide +kernel
theorem dX5_spread_41 : decode cX5_spread 41 = .ok (.i2f, 1) := by decide +kernel
theorem dX5_spread_42 : decode cX5_spread 42 = .ok (.fdiv, 1) := by decide +kernel
theorem dX5_spread_43 : decode cX5_spread 43 = .ok (.invokestatic 115, 3) := by decide +kernel
theorem dX5_spread_46 : decode cX5_spread 46 = .ok (.ireturn, 1) := by decide +kernel
theorem dX5_fairness_0 : decode cX5_fairness 0 = .ok (.dconst 0, 1) := by decide +kernel
theorem dX5_fairness_1 : decode cX5_fairness 1 = .ok (.dstore_n 1, 1) := by decide +kernel
theorem dX5_fairness_2 : decode cX5_fairness 2 = .ok (.dconst 0, 1) := by decide +kernel
theorem dX5_fairness_3 : decode cX5_fairness 3 = .ok (.dstore_n 3, 1) := by decide +kernel
theorem dX5_fairness_4 : decode cX5_fairness 4 = .ok (.iconst 0, 1) := by decide +kernel
theorem dX5_fairness_5 : decode cX5_fairness 5 = .ok (.istore 5, 2) := by decide +kernel
theorem dX5_fairness_7 : decode cX5_fairness 7 = .ok (.iload 5, 2) := by decide +kernel
theorem dX5_fairness_9 : decode cX5_fairness 9 = .ok (.aload_n 0, 1) := by decide +kernel
theorem dX5_fairness_10 : decode cX5_fairness 10 = .ok (.getfield 10, 3) := by decide +kernel
theorem dX5_fairness_13 : decode cX5_fairness 13 = .ok (.getfield 41, 3) := by decide +kernel
theorem dX5_fairness_16 : decode cX5_fairness 16 = .ok (.if_icmp .ge 38, 3) := by decide +kernel
theorem dX5_fairness_19 : decode cX5_fairness 19 = .ok (.aload_n 0, 1) := by decide +kernel
theorem dX5_fairness_20 : decode cX5_fairness 20 = .ok (.getfield 10, 3) := by decide +kernel
theorem dX5_fairness_23 : decode cX5_fairness 23 = .ok (.getfield 98, 3) := by decide +kernel
theorem dX5_fairness_26 : decode cX5_fairness 26 = .ok (.iload 5, 2) := by decide +kernel
theorem dX5_fairness_28 : decode cX5_fairness 28 = .ok (.aaload, 1) := by decide +kernel
theorem dX5_fairness_29 : decode cX5_fairness 29 = .ok (.getfield 134, 3) := by decide +kernel
theorem dX5_fairness_32 : decode cX5_fairness 32 = .ok (.i2d, 1) := by decide +kernel
theorem dX5_fairness_33 : decode cX5_fairness 33 = .ok (.dstore 6, 2) := by decide +kernel
theorem dX5_fairness_35 : decode cX5_fairness 35 = .ok (.dload_n 1, 1) := by decide +kernel
theorem dX5_fairness_36 : decode cX5_fairness 36 = .ok (.dload 6, 2) := by decide +kernel
theorem dX5_fairness_38 : decode cX5_fairness 38 = .ok (.dadd, 1) := by decide +kernel
theorem dX5_fairness_39 : decode cX5_fairness 39 = .ok (.dstore_n 1, 1) := by decide +kernel
theorem dX5_fairness_40 : decode cX5_fairness 40 = .ok (.dload_n 3, 1) := by decide +kernel
theorem dX5_fairness_41 : decode cX5_fairness 41 = .ok (.dload 6, 2) := by decide +kernel
theorem dX5_fairness_43 : decode cX5_fairness 43 = .ok (.dload 6, 2) := by decide +kernel
theorem dX5_fairness_45 : decode cX5_fairness 45 = .ok (.dmul, 1) := by decide +kernel
theorem dX5_fairness_46 : decode cX5_fairness 46 = .ok (.dadd, 1) := by decide +kernel
theorem dX5_fairness_47 : decode cX5_fairness 47 = .ok (.dstore_n 3, 1) := by decide +kernel
theorem dX5_fairness_48 : decode cX5_fairness 48 = .ok (.iinc 5 1, 3) := by decide +kernel
theorem dX5_fairness_51 : decode cX5_fairness 51 = .ok (.goto (-44), 3) := by decide +kernel
theorem dX5_fairness_54 : decode cX5_fairness 54 = .ok (.dload_n 3, 1) := by decide +kernel
theorem dX5_fairness_55 : decode cX5_fairness 55 = .ok (.dconst 0, 1) := by decide +kernel
theorem dX5_fairness_56 : decode cX5_fairness 56 = .ok (.dcmp .l, 1) := by decide +kernel
theorem dX5_fairness_57 : decode cX5_fairness 57 = .ok (.ifCond .ne 8, 3) := by decide +kernel
theorem dX5_fairness_60 : decode cX5_fairness 60 = .ok (.dconst 1, 1) := by decide +kernel
theorem dX5_fairness_61 : decode cX5_fairness 61 = .ok (.invokestatic 137, 3) := by decide +kernel
theorem dX5_fairness_64 : decode cX5_fairness 64 = .ok (.lreturn, 1) := by decide +kernel
theorem dX5_fairness_65 : decode cX5_fairness 65 = .ok (.dload_n 1, 1) := by decide +kernel
theorem dX5_fairness_66 : decode cX5_fairness 66 = .ok (.dload_n 1, 1) := by decide +kernel
theorem dX5_fairness_67 : decode cX5_fairness 67 = .ok (.dmul, 1) := by decide +kernel
theorem dX5_fairness_68 : decode cX5_fairness 68 = .ok (.aload_n 0, 1) := by decide +kernel
theorem dX5_fairness_69 : decode cX5_fairness 69 = .ok (.getfield 10, 3) := by decide +kernel
theorem dX5_fairness_72 : decode cX5_fairness 72 = .ok (.getfield 41, 3) := by decide +kernel
theorem dX5_fairness_75 : decode cX5_fairness 75 = .ok (.i2d, 1) := by decide +kernel
theorem dX5_fairness_76 : decode cX5_fairness 76 = .ok (.dload_n 3, 1) := by decide +kernel
theorem dX5_fairness_77 : decode cX5_fairness 77 = .ok (.dmul, 1) := by decide +kernel
theorem dX5_fairness_78 : decode cX5_fairness 78 = .ok (.ddiv, 1) := by decide +kernel
theorem dX5_fairness_79 : decode cX5_fairness 79 = .ok (.invokestatic 137, 3) := by decide +kernel
theorem dX5_fairness_82 : decode cX5_fairness 82 = .ok (.lreturn, 1) := by decide +kernel
theorem dX5_count_0 : decode cX5_count 0 = .ok (.iload_n 1, 1) := by decide +kernel
theorem dX5_count_1 : decode cX5_count 1 = .ok (.ifCond .lt 9, 3) := by decide +kernel
theorem dX5_count_4 : decode cX5_count 4 = .ok (.iload_n 1, 1) := by decide +kernel
theorem dX5_count_5 : decode cX5_count 5 = .ok (.bipush 9, 2) := by decide +kernel
theorem dX5_count_7 : decode cX5_count 7 = .ok (.if_icmp .le 10, 3) := by decide +kernel
theorem dX5_count_10 : decode cX5_count 10 = .ok (.aload_n 0, 1) := by decide +kernel
theorem dX5_count_11 : decode cX5_count 11 = .ok (.bipush (-2), 2) := by decide +kernel
theorem dX5_count_13 : decode cX5_count 13 = .ok (.invokevirtual 34, 3) := by decide +kernel
theorem dX5_count_16 : decode cX5_count 16 = .ok (.ireturn, 1) := by decide +kernel
theorem dX5_count_17 : decode cX5_count 17 = .ok (.aload_n 0, 1) := by decide +kernel
theorem dX5_count_18 : decode cX5_count 18 = .ok (.getfield 10, 3) := by decide +kernel
theorem dX5_count_21 : decode cX5_count 21 = .ok (.iload_n 1, 1) := by decide +kernel
theorem dX5_count_22 : decode cX5_count 22 = .ok (.invokevirtual 141, 3) := by decide +kernel
theorem dX5_count_25 : decode cX5_count 25 = .ok (.ireturn, 1) := by decide +kernel
theorem dX5_type_0 : decode cX5_type 0 = .ok (.iload_n 1, 1) := by decide +kernel
theorem dX5_type_1 : decode cX5_type 1 = .ok (.ifCond .lt 9, 3) := by decide +kernel
theorem dX5_type_4 : decode cX5_type 4 = .ok (.iload_n 1, 1) := by decide +kernel
theorem dX5_type_5 : decode cX5_type 5 = .ok (.bipush 127, 2) := by decide +kernel
theorem dX5_type_7 : decode cX5_type 7 = .ok (.if_icmp .le 10, 3) := by decide +kernel
theorem dX5_type_10 : decode cX5_type 10 = .ok (.aload_n 0, 1) := by decide +kernel
theorem dX5_type_11 : decode cX5_type 11 = .ok (.bipush (-2), 2) := by decide +kernel
theorem dX5_type_13 : decode cX5_type 13 = .ok (.invokevirtual 34, 3) := by decide +kernel
theorem dX5_type_16 : decode cX5_type 16 = .ok (.ireturn, 1) := by decide +kernel
theorem dX5_type_17 : decode cX5_type 17 = .ok (.aload_n 0, 1) := by decide +kernel
theorem dX5_type_18 : decode cX5_type 18 = .ok (.getfield 30, 3) := by decide +kernel
theorem dX5_type_21 : decode cX5_type 21 = .ok (.getfield 144, 3) := by decide +kernel
theorem dX5_type_24 : decode cX5_type 24 = .ok (.bipush 120, 2) := by decide +kernel
theorem dX5_type_26 : decode cX5_type 26 = .ok (.if_icmp .lt 10, 3) := by decide +kernel
theorem dX5_type_29 : decode cX5_type 29 = .ok (.aload_n 0, 1) := by decide +kernel
theorem dX5_type_30 : decode cX5_type 30 = .ok (.bipush (-4), 2) := by decide +kernel
theorem dX5_type_32 : decode cX5_type 32 = .ok (.invokevirtual 34, 3) := by decide +kernel
theorem dX5_type_35 : decode cX5_type 35 = .ok (.ireturn, 1) := by decide +kernel
theorem dX5_type_36 : decode cX5_type 36 = .ok (.aload_n 0, 1) := by decide +kernel
theorem dX5_type_37 : decode cX5_type 37 = .ok (.getfield 30, 3) := by decide +kernel
theorem dX5_type_40 : decode cX5_type 40 = .ok (.iload_n 1, 1) := by decide +kernel
theorem dX5_type_41 : decode cX5_type 41 = .ok (.invokevirtual 147, 3) := by decide +kernel
theorem dX5_type_44 : decode cX5_type 44 = .ok (.aload_n 0, 1) := by decide +kernel
theorem dX5_type_45 : decode cX5_type 45 = .ok (.getfield 30, 3) := by decide +kernel
theorem dX5_type_48 : decode cX5_type 48 = .ok (.getfield 144, 3) := by decide +kernel
theorem dX5_type_51 : decode cX5_type 51 = .ok (.ireturn, 1) := by decide +kernel
theorem dX5_clear_0 : decode cX5_clear 0 = .ok (.aload_n 0, 1) := by decide +kernel
theorem dX5_clear_1 : decode cX5_clear 1 = .ok (.getfield 30, 3) := by decide +kernel
theorem dX5_clear_4 : decode cX5_clear 4 = .ok (.getfield 144, 3) := by decide +kernel
theorem dX5_clear_7 : decode cX5_clear 7 = .ok (.istore_n 1, 1) := by decide +kernel
theorem dX5_clear_8 : decode cX5_clear 8 = .ok (.aload_n 0, 1) := by decide +kernel
theorem dX5_clear_9 : decode cX5_clear 9 = .ok (.getfield 30, 3) := by decide +kernel
theorem dX5_clear_12 : decode cX5_clear 12 = .ok (.iconst 0, 1) := by decide +kernel
theorem dX5_clear_13 : decode cX5_clear 13 = .ok (.putfield 144, 3) := by decide +kernel
theorem dX5_clear_16 : decode cX5_clear 16 = .ok (.iload_n 1, 1) := by decide +kernel
theorem dX5_clear_17 : decode cX5_clear 17 = .ok (.ireturn, 1) := by decide +kernel
theorem dX5_obey_0 : decode cX5_obey 0 = .ok (.iload_n 1, 1) := by decide +kernel
theorem dX5_obey_1 : decode cX5_obey 1 = .ok (.lookupswitch 113 #[(103, 61), (112, 35), (115, 87)], 35) := by decide +kernel
theorem dX5_obey_36 : decode cX5_obey 36 = .ok (.aload_n 0, 1) := by decide +kernel
theorem dX5_obey_37 : decode cX5_obey 37 = .ok (.getfield 10, 3) := by decide +kernel
theorem dX5_obey_40 : decode cX5_obey 40 = .ok (.iload_n 2, 1) := by decide +kernel
theorem dX5_obey_41 : decode cX5_obey 41 = .ok (.iload_n 3, 1) := by decide +kernel
theorem dX5_obey_42 : decode cX5_obey 42 = .ok (.invokevirtual 49, 3) := by decide +kernel
theorem dX5_obey_45 : decode cX5_obey 45 = .ok (.ifCond .eq 5, 3) := by decide +kernel
theorem dX5_obey_48 : decode cX5_obey 48 = .ok (.iconst 0, 1) := by decide +kernel
theorem dX5_obey_49 : decode cX5_obey 49 = .ok (.ireturn, 1) := by decide +kernel
theorem dX5_obey_50 : decode cX5_obey 50 = .ok (.aload_n 0, 1) := by decide +kernel
theorem dX5_obey_51 : decode cX5_obey 51 = .ok (.getfield 10, 3) := by decide +kernel
theorem dX5_obey_54 : decode cX5_obey 54 = .ok (.iload_n 2, 1) := by decide +kernel
theorem dX5_obey_55 : decode cX5_obey 55 = .ok (.iload_n 3, 1) := by decide +kernel
theorem dX5_obey_56 : decode cX5_obey 56 = .ok (.invokevirtual 53, 3) := by decide +kernel
theorem dX5_obey_59 : decode cX5_obey 59 = .ok (.pop, 1) := by decide +kernel
theorem dX5_obey_60 : decode cX5_obey 60 = .ok (.iconst 1, 1) := by decide +kernel
theorem dX5_obey_61 : decode cX5_obey 61 = .ok (.ireturn, 1) := by decide +kernel
theorem dX5_obey_62 : decode cX5_obey 62 = .ok (.aload_n 0, 1) := by decide +kernel
theorem dX5_obey_63 : decode cX5_obey 63 = .ok (.getfield 10, 3) := by decide +kernel
theorem dX5_obey_66 : decode cX5_obey 66 = .ok (.iload_n 2, 1) := by decide +kernel
theorem dX5_obey_67 : decode cX5_obey 67 = .ok (.iload_n 3, 1) := by decide +kernel
theorem dX5_obey_68 : decode cX5_obey 68 = .ok (.invokevirtual 56, 3) := by decide +kernel
theorem dX5_obey_71 : decode cX5_obey 71 = .ok (.ifCond .eq 5, 3) := by decide +kernel
theorem dX5_obey_74 : decode cX5_obey 74 = .ok (.iconst 0, 1) := by decide +kernel
theorem dX5_obey_75 : decode cX5_obey 75 = .ok (.ireturn, 1) := by decide +kernel
theorem dX5_obey_76 : decode cX5_obey 76 = .ok (.aload_n 0, 1) := by decide +kernel
theorem dX5_obey_77 : decode cX5_obey 77 = .ok (.getfield 10, 3) := by decide +kernel
theorem dX5_obey_80 : decode cX5_obey 80 = .ok (.iload_n 2, 1) := by decide +kernel
theorem dX5_obey_81 : decode cX5_obey 81 = .ok (.iload_n 3, 1) := by decide +kernel
theorem dX5_obey_82 : decode cX5_obey 82 = .ok (.invokevirtual 59, 3) := by decide +kernel
theorem dX5_obey_85 : decode cX5_obey 85 = .ok (.pop, 1) := by decide +kernel
theorem dX5_obey_86 : decode cX5_obey 86 = .ok (.iconst 1, 1) := by decide +kernel
theorem dX5_obey_87 : decode cX5_obey 87 = .ok (.ireturn, 1) := by decide +kernel
theorem dX5_obey_88 : decode cX5_obey 88 = .ok (.aload_n 0, 1) := by decide +kernel
theorem dX5_obey_89 : decode cX5_obey 89 = .ok (.getfield 10, 3) := by decide +kernel
theorem dX5_obey_92 : decode cX5_obey 92 = .ok (.iload_n 2, 1) := by decide +kernel
theorem dX5_obey_93 : decode cX5_obey 93 = .ok (.iload_n 3, 1) := by decide +kernel
theorem dX5_obey_94 : decode cX5_obey 94 = .ok (.invokevirtual 62, 3) := by decide +kernel
theorem dX5_obey_97 : decode cX5_obey 97 = .ok (.ifCond .eq 5, 3) := by decide +kernel
theorem dX5_obey_100 : decode cX5_obey 100 = .ok (.iconst 0, 1) := by decide +kernel
theorem dX5_obey_101 : decode cX5_obey 101 = .ok (.ireturn, 1) := by decide +kernel
theorem dX5_obey_102 : decode cX5_obey 102 = .ok (.aload_n 0, 1) := by decide +kernel
theorem dX5_obey_103 : decode cX5_obey 103 = .ok (.getfield 10, 3) := by decide +kernel
theorem dX5_obey_106 : decode cX5_obey 106 = .ok (.iload_n 2, 1) := by decide +kernel
theorem dX5_obey_107 : decode cX5_obey 107 = .ok (.iload_n 3, 1) := by decide +kernel
theorem dX5_obey_108 : decode cX5_obey 108 = .ok (.invokevirtual 65, 3) := by decide +kernel
theorem dX5_obey_111 : decode cX5_obey 111 = .ok (.pop, 1) := by decide +kernel
theorem dX5_obey_112 : decode cX5_obey 112 = .ok (.iconst 1, 1) := by decide +kernel
theorem dX5_obey_113 : decode cX5_obey 113 = .ok (.ireturn, 1) := by decide +kernel
theorem dX5_obey_114 : decode cX5_obey 114 = .ok (.iload_n 2, 1) := by decide +kernel
theorem dX5_obey_115 : decode cX5_obey 115 = .ok (.invokestatic 68, 3) := by decide +kernel
theorem dX5_obey_118 : decode cX5_obey 118 = .ok (.ifCond .ne 5, 3) := by decide +kernel
theorem dX5_obey_121 : decode cX5_obey 121 = .ok (.iconst 0, 1) := by decide +kernel
theorem dX5_obey_122 : decode cX5_obey 122 = .ok (.ireturn, 1) := by decide +kernel
theorem dX5_obey_123 : decode cX5_obey 123 = .ok (.aload_n 0, 1) := by decide +kernel
theorem dX5_obey_124 : decode cX5_obey 124 = .ok (.getfield 23, 3) := by decide +kernel
theorem dX5_obey_127 : decode cX5_obey 127 = .ok (.aload_n 0, 1) := by decide +kernel
theorem dX5_obey_128 : decode cX5_obey 128 = .ok (.getfield 10, 3) := by decide +kernel
theorem dX5_obey_131 : decode cX5_obey 131 = .ok (.iload_n 2, 1) := by decide +kernel
theorem dX5_obey_132 : decode cX5_obey 132 = .ok (.invokevirtual 72, 3) := by decide +kernel
theorem dX5_obey_135 : decode cX5_obey 135 = .ok (.iconst 1, 1) := by decide +kernel
theorem dX5_obey_136 : decode cX5_obey 136 = .ok (.ireturn, 1) := by decide +kernel
theorem dX5_does_0 : decode cX5_does 0 = .ok (.aload_n 0, 1) := by decide +kernel
theorem dX5_does_1 : decode cX5_does 1 = .ok (.getfield 30, 3) := by decide +kernel
theorem dX5_does_4 : decode cX5_does 4 = .ok (.invokevirtual 151, 3) := by decide +kernel
theorem dX5_does_7 : decode cX5_does 7 = .ok (.istore_n 1, 1) := by decide +kernel
theorem dX5_does_8 : decode cX5_does 8 = .ok (.iload_n 1, 1) := by decide +kernel
theorem dX5_does_9 : decode cX5_does 9 = .ok (.iconst (-1), 1) := by decide +kernel
theorem dX5_does_10 : decode cX5_does 10 = .ok (.if_icmp .eq 8, 3) := by decide +kernel
theorem dX5_does_13 : decode cX5_does 13 = .ok (.bipush (-10), 2) := by decide +kernel
theorem dX5_does_15 : decode cX5_does 15 = .ok (.iload_n 1, 1) := by decide +kernel
theorem dX5_does_16 : decode cX5_does 16 = .ok (.isub, 1) := by decide +kernel
theorem dX5_does_17 : decode cX5_does 17 = .ok (.ireturn, 1) := by decide +kernel
theorem dX5_does_18 : decode cX5_does 18 = .ok (.aload_n 0, 1) := by decide +kernel
theorem dX5_does_19 : decode cX5_does 19 = .ok (.invokevirtual 38, 3) := by decide +kernel
theorem dX5_does_22 : decode cX5_does 22 = .ok (.iconst 0, 1) := by decide +kernel
theorem dX5_does_23 : decode cX5_does 23 = .ok (.istore_n 2, 1) := by decide +kernel
theorem dX5_does_24 : decode cX5_does 24 = .ok (.iconst 0, 1) := by decide +kernel
theorem dX5_does_25 : decode cX5_does 25 = .ok (.istore_n 3, 1) := by decide +kernel
theorem dX5_does_26 : decode cX5_does 26 = .ok (.iload_n 3, 1) := by decide +kernel
theorem dX5_does_27 : decode cX5_does 27 = .ok (.aload_n 0, 1) := by decide +kernel
theorem dX5_does_28 : decode cX5_does 28 = .ok (.getfield 30, 3) := by decide +kernel
theorem dX5_does_31 : decode cX5_does 31 = .ok (.getfield 155, 3) := by decide +kernel
theorem dX5_does_34 : decode cX5_does 34 = .ok (.if_icmp .ge 46, 3) := by decide +kernel
theorem dX5_does_37 : decode cX5_does 37 = .ok (.aload_n 0, 1) := by decide +kernel
theorem dX5_does_38 : decode cX5_does 38 = .ok (.aload_n 0, 1) := by decide +kernel
theorem dX5_does_39 : decode cX5_does 39 = .ok (.getfield 30, 3) := by decide +kernel
theorem dX5_does_42 : decode cX5_does 42 = .ok (.getfield 158, 3) := by decide +kernel
theorem dX5_does_45 : decode cX5_does 45 = .ok (.iload_n 3, 1) := by decide +kernel
theorem dX5_does_46 : decode cX5_does 46 = .ok (.iaload, 1) := by decide +kernel
theorem dX5_does_47 : decode cX5_does 47 = .ok (.aload_n 0, 1) := by decide +kernel
theorem dX5_does_48 : decode cX5_does 48 = .ok (.getfield 30, 3) := by decide +kernel
theorem dX5_does_51 : decode cX5_does 51 = .ok (.getfield 161, 3) := by decide +kernel
theorem dX5_does_54 : decode cX5_does 54 = .ok (.iload_n 3, 1) := by decide +kernel
theorem dX5_does_55 : decode cX5_does 55 = .ok (.iaload, 1) := by decide +kernel
theorem dX5_does_56 : decode cX5_does 56 = .ok (.aload_n 0, 1) := by decide +kernel
theorem dX5_does_57 : decode cX5_does 57 = .ok (.getfield 30, 3) := by decide +kernel
theorem dX5_does_60 : decode cX5_does 60 = .ok (.getfield 164, 3) := by decide +kernel
theorem dX5_does_63 : decode cX5_does 63 = .ok (.iload_n 3, 1) := by decide +kernel
theorem dX5_does_64 : decode cX5_does 64 = .ok (.iaload, 1) := by decide +kernel
theorem dX5_does_65 : decode cX5_does 65 = .ok (.invokevirtual 167, 3) := by decide +kernel
theorem dX5_does_68 : decode cX5_does 68 = .ok (.ifCond .eq 6, 3) := by decide +kernel
theorem dX5_does_71 : decode cX5_does 71 = .ok (.iinc 2 1, 3) := by decide +kernel
theorem dX5_does_74 : decode cX5_does 74 = .ok (.iinc 3 1, 3) := by decide +kernel
theorem dX5_does_77 : decode cX5_does 77 = .ok (.goto (-51), 3) := by decide +kernel
theorem dX5_does_80 : decode cX5_does 80 = .ok (.iload_n 2, 1) := by decide +kernel
theorem dX5_does_81 : decode cX5_does 81 = .ok (.ireturn, 1) := by decide +kernel
theorem dX5_back_0 : decode cX5_back 0 = .ok (.aload_n 0, 1) := by decide +kernel
theorem dX5_back_1 : decode cX5_back 1 = .ok (.getfield 171, 3) := by decide +kernel
theorem dX5_back_4 : decode cX5_back 4 = .ok (.ifCond .ne 10, 3) := by decide +kernel
theorem dX5_back_7 : decode cX5_back 7 = .ok (.aload_n 0, 1) := by decide +kernel
theorem dX5_back_8 : decode cX5_back 8 = .ok (.bipush (-3), 2) := by decide +kernel
theorem dX5_back_10 : decode cX5_back 10 = .ok (.invokevirtual 34, 3) := by decide +kernel
theorem dX5_back_13 : decode cX5_back 13 = .ok (.ireturn, 1) := by decide +kernel
theorem dX5_back_14 : decode cX5_back 14 = .ok (.aload_n 0, 1) := by decide +kernel
theorem dX5_back_15 : decode cX5_back 15 = .ok (.getfield 10, 3) := by decide +kernel
theorem dX5_back_18 : decode cX5_back 18 = .ok (.aload_n 0, 1) := by decide +kernel
theorem dX5_back_19 : decode cX5_back 19 = .ok (.getfield 16, 3) := by decide +kernel
theorem dX5_back_22 : decode cX5_back 22 = .ok (.aload_n 0, 1) := by decide +kernel
theorem dX5_back_23 : decode cX5_back 23 = .ok (.getfield 174, 3) := by decide +kernel
theorem dX5_back_26 : decode cX5_back 26 = .ok (.aaload, 1) := by decide +kernel
theorem dX5_back_27 : decode cX5_back 27 = .ok (.invokevirtual 177, 3) := by decide +kernel
theorem dX5_back_30 : decode cX5_back 30 = .ok (.aload_n 0, 1) := by decide +kernel
theorem dX5_back_31 : decode cX5_back 31 = .ok (.aload_n 0, 1) := by decide +kernel
theorem dX5_back_32 : decode cX5_back 32 = .ok (.getfield 174, 3) := by decide +kernel
theorem dX5_back_35 : decode cX5_back 35 = .ok (.iconst 5, 1) := by decide +kernel
theorem dX5_back_36 : decode cX5_back 36 = .ok (.iadd, 1) := by decide +kernel
theorem dX5_back_37 : decode cX5_back 37 = .ok (.iconst 1, 1) := by decide +kernel
theorem dX5_back_38 : decode cX5_back 38 = .ok (.isub, 1) := by decide +kernel
theorem dX5_back_39 : decode cX5_back 39 = .ok (.iconst 5, 1) := by decide +kernel
theorem dX5_back_40 : decode cX5_back 40 = .ok (.irem, 1) := by decide +kernel
theorem dX5_back_41 : decode cX5_back 41 = .ok (.putfield 174, 3) := by decide +kernel
theorem dX5_back_44 : decode cX5_back 44 = .ok (.aload_n 0, 1) := by decide +kernel
theorem dX5_back_45 : decode cX5_back 45 = .ok (.dup, 1) := by decide +kernel
theorem dX5_back_46 : decode cX5_back 46 = .ok (.getfield 171, 3) := by decide +kernel
theorem dX5_back_49 : decode cX5_back 49 = .ok (.iconst 1, 1) := by decide +kernel
theorem dX5_back_50 : decode cX5_back 50 = .ok (.isub, 1) := by decide +kernel
theorem dX5_back_51 : decode cX5_back 51 = .ok (.putfield 171, 3) := by decide +kernel
theorem dX5_back_54 : decode cX5_back 54 = .ok (.aload_n 0, 1) := by decide +kernel
theorem dX5_back_55 : decode cX5_back 55 = .ok (.getfield 171, 3) := by decide +kernel
theorem dX5_back_58 : decode cX5_back 58 = .ok (.ireturn, 1) := by decide +kernel
theorem dX5_told_0 : decode cX5_told 0 = .ok (.iload_n 1, 1) := by decide +kernel
theorem dX5_told_1 : decode cX5_told 1 = .ok (.ifCond .lt 9, 3) := by decide +kernel
theorem dX5_told_4 : decode cX5_told 4 = .ok (.iload_n 1, 1) := by decide +kernel
theorem dX5_told_5 : decode cX5_told 5 = .ok (.bipush 8, 2) := by decide +kernel
theorem dX5_told_7 : decode cX5_told 7 = .ok (.if_icmp .le 10, 3) := by decide +kernel
theorem dX5_told_10 : decode cX5_told 10 = .ok (.aload_n 0, 1) := by decide +kernel
theorem dX5_told_11 : decode cX5_told 11 = .ok (.bipush (-2), 2) := by decide +kernel
theorem dX5_told_13 : decode cX5_told 13 = .ok (.invokevirtual 34, 3) := by decide +kernel
theorem dX5_told_16 : decode cX5_told 16 = .ok (.ireturn, 1) := by decide +kernel
theorem dX5_told_17 : decode cX5_told 17 = .ok (.iload_n 1, 1) := by decide +kernel
theorem dX5_told_18 : decode cX5_told 18 = .ok (.tableswitch 109 0 7 #[46, 51, 56, 61, 71, 81, 91, 101], 46) := by decide +kernel
theorem dX5_told_64 : decode cX5_told 64 = .ok (.aload_n 0, 1) := by decide +kernel
theorem dX5_told_65 : decode cX5_told 65 = .ok (.getfield 181, 3) := by decide +kernel
theorem dX5_told_68 : decode cX5_told 68 = .ok (.ireturn, 1) := by decide +kernel
theorem dX5_told_69 : decode cX5_told 69 = .ok (.aload_n 0, 1) := by decide +kernel
theorem dX5_told_70 : decode cX5_told 70 = .ok (.getfield 184, 3) := by decide +kernel
theorem dX5_told_73 : decode cX5_told 73 = .ok (.ireturn, 1) := by decide +kernel
theorem dX5_told_74 : decode cX5_told 74 = .ok (.aload_n 0, 1) := by decide +kernel
theorem dX5_told_75 : decode cX5_told 75 = .ok (.getfield 187, 3) := by decide +kernel
theorem dX5_told_78 : decode cX5_told 78 = .ok (.ireturn, 1) := by decide +kernel
theorem dX5_told_79 : decode cX5_told 79 = .ok (.aload_n 0, 1) := by decide +kernel
theorem dX5_told_80 : decode cX5_told 80 = .ok (.getfield 10, 3) := by decide +kernel
theorem dX5_told_83 : decode cX5_told 83 = .ok (.getfield 190, 3) := by decide +kernel
theorem dX5_told_86 : decode cX5_told 86 = .ok (.iconst 0, 1) := by decide +kernel
theorem dX5_told_87 : decode cX5_told 87 = .ok (.iaload, 1) := by decide +kernel
theorem dX5_told_88 : decode cX5_told 88 = .ok (.ireturn, 1) := by decide +kernel
theorem dX5_told_89 : decode cX5_told 89 = .ok (.aload_n 0, 1) := by decide +kernel
theorem dX5_told_90 : decode cX5_told 90 = .ok (.getfield 10, 3) := by decide +kernel
theorem dX5_told_93 : decode cX5_told 93 = .ok (.getfield 190, 3) := by decide +kernel
theorem dX5_told_96 : decode cX5_told 96 = .ok (.iconst 1, 1) := by decide +kernel
theorem dX5_told_97 : decode cX5_told 97 = .ok (.iaload, 1) := by decide +kernel
theorem dX5_told_98 : decode cX5_told 98 = .ok (.ireturn, 1) := by decide +kernel
theorem dX5_told_99 : decode cX5_told 99 = .ok (.aload_n 0, 1) := by decide +kernel
theorem dX5_told_100 : decode cX5_told 100 = .ok (.getfield 10, 3) := by decide +kernel
theorem dX5_told_103 : decode cX5_told 103 = .ok (.getfield 190, 3) := by decide +kernel
theorem dX5_told_106 : decode cX5_told 106 = .ok (.iconst 2, 1) := by decide +kernel
theorem dX5_told_107 : decode cX5_told 107 = .ok (.iaload, 1) := by decide +kernel
theorem dX5_told_108 : decode cX5_told 108 = .ok (.ireturn, 1) := by decide +kernel
theorem dX5_told_109 : decode cX5_told 109 = .ok (.aload_n 0, 1) := by decide +kernel
theorem dX5_told_110 : decode cX5_told 110 = .ok (.getfield 10, 3) := by decide +kernel
theorem dX5_told_113 : decode cX5_told 113 = .ok (.getfield 190, 3) := by decide +kernel
theorem dX5_told_116 : decode cX5_told 116 = .ok (.iconst 3, 1) := by decide +kernel
theorem dX5_told_117 : decode cX5_told 117 = .ok (.iaload, 1) := by decide +kernel
theorem dX5_told_118 : decode cX5_told 118 = .ok (.ireturn, 1) := by decide +kernel
theorem dX5_told_119 : decode cX5_told 119 = .ok (.aload_n 0, 1) := by decide +kernel
theorem dX5_told_120 : decode cX5_told 120 = .ok (.getfield 30, 3) := by decide +kernel
theorem dX5_told_123 : decode cX5_told 123 = .ok (.getfield 144, 3) := by decide +kernel
theorem dX5_told_126 : decode cX5_told 126 = .ok (.ireturn, 1) := by decide +kernel
theorem dX5_told_127 : decode cX5_told 127 = .ok (.aload_n 0, 1) := by decide +kernel
theorem dX5_told_128 : decode cX5_told 128 = .ok (.getfield 171, 3) := by decide +kernel
theorem dX5_told_131 : decode cX5_told 131 = .ok (.ireturn, 1) := by decide +kernel
