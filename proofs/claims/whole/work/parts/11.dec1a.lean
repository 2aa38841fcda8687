theorem dX2_wants_0 : decode cX2_wants 0 = .ok (.aload_n 0, 1) := by decide +kernel
theorem dX2_wants_1 : decode cX2_wants 1 = .ok (.getfield 53, 3) := by decide +kernel
theorem dX2_wants_4 : decode cX2_wants 4 = .ok (.iload_n 1, 1) := by decide +kernel
theorem dX2_wants_5 : decode cX2_wants 5 = .ok (.aaload, 1) := by decide +kernel
theorem dX2_wants_6 : decode cX2_wants 6 = .ok (.astore_n 3, 1) := by decide +kernel
theorem dX2_wants_7 : decode cX2_wants 7 = .ok (.iload_n 2, 1) := by decide +kernel
theorem dX2_wants_8 : decode cX2_wants 8 = .ok (.iload_n 1, 1) := by decide +kernel
theorem dX2_wants_9 : decode cX2_wants 9 = .ok (.if_icmp .eq 11, 3) := by decide +kernel
theorem dX2_wants_12 : decode cX2_wants 12 = .ok (.aload_n 3, 1) := by decide +kernel
theorem dX2_wants_13 : decode cX2_wants 13 = .ok (.getfield 57, 3) := by decide +kernel
theorem dX2_wants_16 : decode cX2_wants 16 = .ok (.iconst 2, 1) := by decide +kernel
theorem dX2_wants_17 : decode cX2_wants 17 = .ok (.if_icmp .ne 5, 3) := by decide +kernel
theorem dX2_wants_20 : decode cX2_wants 20 = .ok (.iconst 0, 1) := by decide +kernel
theorem dX2_wants_21 : decode cX2_wants 21 = .ok (.ireturn, 1) := by decide +kernel
theorem dX2_wants_22 : decode cX2_wants 22 = .ok (.aload_n 3, 1) := by decide +kernel
theorem dX2_wants_23 : decode cX2_wants 23 = .ok (.getfield 62, 3) := by decide +kernel
theorem dX2_wants_26 : decode cX2_wants 26 = .ok (.iload_n 2, 1) := by decide +kernel
theorem dX2_wants_27 : decode cX2_wants 27 = .ok (.ishr, 1) := by decide +kernel
theorem dX2_wants_28 : decode cX2_wants 28 = .ok (.iconst 1, 1) := by decide +kernel
theorem dX2_wants_29 : decode cX2_wants 29 = .ok (.iand, 1) := by decide +kernel
theorem dX2_wants_30 : decode cX2_wants 30 = .ok (.ifCond .ne 19, 3) := by decide +kernel
theorem dX2_wants_33 : decode cX2_wants 33 = .ok (.aload_n 0, 1) := by decide +kernel
theorem dX2_wants_34 : decode cX2_wants 34 = .ok (.getfield 53, 3) := by decide +kernel
theorem dX2_wants_37 : decode cX2_wants 37 = .ok (.iload_n 2, 1) := by decide +kernel
theorem dX2_wants_38 : decode cX2_wants 38 = .ok (.aaload, 1) := by decide +kernel
theorem dX2_wants_39 : decode cX2_wants 39 = .ok (.getfield 62, 3) := by decide +kernel
theorem dX2_wants_42 : decode cX2_wants 42 = .ok (.iload_n 1, 1) := by decide +kernel
theorem dX2_wants_43 : decode cX2_wants 43 = .ok (.ishr, 1) := by decide +kernel
theorem dX2_wants_44 : decode cX2_wants 44 = .ok (.iconst 1, 1) := by decide +kernel
theorem dX2_wants_45 : decode cX2_wants 45 = .ok (.iand, 1) := by decide +kernel
theorem dX2_wants_46 : decode cX2_wants 46 = .ok (.ifCond .eq 5, 3) := by decide +kernel
theorem dX2_wants_49 : decode cX2_wants 49 = .ok (.iconst 0, 1) := by decide +kernel
theorem dX2_wants_50 : decode cX2_wants 50 = .ok (.ireturn, 1) := by decide +kernel
theorem dX2_wants_51 : decode cX2_wants 51 = .ok (.aload_n 0, 1) := by decide +kernel
theorem dX2_wants_52 : decode cX2_wants 52 = .ok (.iload_n 2, 1) := by decide +kernel
theorem dX2_wants_53 : decode cX2_wants 53 = .ok (.invokevirtual 65, 3) := by decide +kernel
theorem dX2_wants_56 : decode cX2_wants 56 = .ok (.aload_n 3, 1) := by decide +kernel
theorem dX2_wants_57 : decode cX2_wants 57 = .ok (.getfield 69, 3) := by decide +kernel
theorem dX2_wants_60 : decode cX2_wants 60 = .ok (.iconst (-1), 1) := by decide +kernel
theorem dX2_wants_61 : decode cX2_wants 61 = .ok (.ixor, 1) := by decide +kernel
theorem dX2_wants_62 : decode cX2_wants 62 = .ok (.iand, 1) := by decide +kernel
theorem dX2_wants_63 : decode cX2_wants 63 = .ok (.ifCond .eq 7, 3) := by decide +kernel
theorem dX2_wants_66 : decode cX2_wants 66 = .ok (.iconst 1, 1) := by decide +kernel
theorem dX2_wants_67 : decode cX2_wants 67 = .ok (.goto 4, 3) := by decide +kernel
theorem dX2_wants_70 : decode cX2_wants 70 = .ok (.iconst 0, 1) := by decide +kernel
theorem dX2_wants_71 : decode cX2_wants 71 = .ok (.ireturn, 1) := by decide +kernel
theorem dX2_findWanters_0 : decode cX2_findWanters 0 = .ok (.iconst 0, 1) := by decide +kernel
theorem dX2_findWanters_1 : decode cX2_findWanters 1 = .ok (.istore_n 2, 1) := by decide +kernel
theorem dX2_findWanters_2 : decode cX2_findWanters 2 = .ok (.iload_n 2, 1) := by decide +kernel
theorem dX2_findWanters_3 : decode cX2_findWanters 3 = .ok (.aload_n 1, 1) := by decide +kernel
theorem dX2_findWanters_4 : decode cX2_findWanters 4 = .ok (.getfield 46, 3) := by decide +kernel
theorem dX2_findWanters_7 : decode cX2_findWanters 7 = .ok (.if_icmp .ge 53, 3) := by decide +kernel
theorem dX2_findWanters_10 : decode cX2_findWanters 10 = .ok (.iconst 0, 1) := by decide +kernel
theorem dX2_findWanters_11 : decode cX2_findWanters 11 = .ok (.istore_n 3, 1) := by decide +kernel
theorem dX2_findWanters_12 : decode cX2_findWanters 12 = .ok (.iconst 0, 1) := by decide +kernel
theorem dX2_findWanters_13 : decode cX2_findWanters 13 = .ok (.istore 4, 2) := by decide +kernel
theorem dX2_findWanters_15 : decode cX2_findWanters 15 = .ok (.iload 4, 2) := by decide +kernel
theorem dX2_findWanters_17 : decode cX2_findWanters 17 = .ok (.aload_n 1, 1) := by decide +kernel
theorem dX2_findWanters_18 : decode cX2_findWanters 18 = .ok (.getfield 46, 3) := by decide +kernel
theorem dX2_findWanters_21 : decode cX2_findWanters 21 = .ok (.if_icmp .ge 26, 3) := by decide +kernel
theorem dX2_findWanters_24 : decode cX2_findWanters 24 = .ok (.aload_n 1, 1) := by decide +kernel
theorem dX2_findWanters_25 : decode cX2_findWanters 25 = .ok (.iload 4, 2) := by decide +kernel
theorem dX2_findWanters_27 : decode cX2_findWanters 27 = .ok (.iload_n 2, 1) := by decide +kernel
theorem dX2_findWanters_28 : decode cX2_findWanters 28 = .ok (.invokestatic 49, 3) := by decide +kernel
theorem dX2_findWanters_31 : decode cX2_findWanters 31 = .ok (.ifCond .eq 10, 3) := by decide +kernel
theorem dX2_findWanters_34 : decode cX2_findWanters 34 = .ok (.iload_n 3, 1) := by decide +kernel
theorem dX2_findWanters_35 : decode cX2_findWanters 35 = .ok (.iconst 1, 1) := by decide +kernel
theorem dX2_findWanters_36 : decode cX2_findWanters 36 = .ok (.iload 4, 2) := by decide +kernel
theorem dX2_findWanters_38 : decode cX2_findWanters 38 = .ok (.ishl, 1) := by decide +kernel
theorem dX2_findWanters_39 : decode cX2_findWanters 39 = .ok (.ior, 1) := by decide +kernel
theorem dX2_findWanters_40 : decode cX2_findWanters 40 = .ok (.istore_n 3, 1) := by decide +kernel
theorem dX2_findWanters_41 : decode cX2_findWanters 41 = .ok (.iinc 4 1, 3) := by decide +kernel
theorem dX2_findWanters_44 : decode cX2_findWanters 44 = .ok (.goto (-29), 3) := by decide +kernel
theorem dX2_findWanters_47 : decode cX2_findWanters 47 = .ok (.aload_n 0, 1) := by decide +kernel
theorem dX2_findWanters_48 : decode cX2_findWanters 48 = .ok (.getfield 9, 3) := by decide +kernel
theorem dX2_findWanters_51 : decode cX2_findWanters 51 = .ok (.iload_n 2, 1) := by decide +kernel
theorem dX2_findWanters_52 : decode cX2_findWanters 52 = .ok (.iload_n 3, 1) := by decide +kernel
theorem dX2_findWanters_53 : decode cX2_findWanters 53 = .ok (.iastore, 1) := by decide +kernel
theorem dX2_findWanters_54 : decode cX2_findWanters 54 = .ok (.iinc 2 1, 3) := by decide +kernel
theorem dX2_findWanters_57 : decode cX2_findWanters 57 = .ok (.goto (-55), 3) := by decide +kernel
theorem dX2_findWanters_60 : decode cX2_findWanters 60 = .ok (.return_, 1) := by decide +kernel
theorem dX2_worthOf_0 : decode cX2_worthOf 0 = .ok (.aload_n 0, 1) := by decide +kernel
theorem dX2_worthOf_1 : decode cX2_worthOf 1 = .ok (.getfield 53, 3) := by decide +kernel
theorem dX2_worthOf_4 : decode cX2_worthOf 4 = .ok (.iload_n 1, 1) := by decide +kernel
theorem dX2_worthOf_5 : decode cX2_worthOf 5 = .ok (.aaload, 1) := by decide +kernel
theorem dX2_worthOf_6 : decode cX2_worthOf 6 = .ok (.astore_n 3, 1) := by decide +kernel
theorem dX2_worthOf_7 : decode cX2_worthOf 7 = .ok (.aload_n 3, 1) := by decide +kernel
theorem dX2_worthOf_8 : decode cX2_worthOf 8 = .ok (.getfield 57, 3) := by decide +kernel
theorem dX2_worthOf_11 : decode cX2_worthOf 11 = .ok (.iconst 2, 1) := by decide +kernel
theorem dX2_worthOf_12 : decode cX2_worthOf 12 = .ok (.if_icmp .eq 14, 3) := by decide +kernel
theorem dX2_worthOf_15 : decode cX2_worthOf 15 = .ok (.aload_n 3, 1) := by decide +kernel
theorem dX2_worthOf_16 : decode cX2_worthOf 16 = .ok (.getfield 69, 3) := by decide +kernel
theorem dX2_worthOf_19 : decode cX2_worthOf 19 = .ok (.aload_n 0, 1) := by decide +kernel
theorem dX2_worthOf_20 : decode cX2_worthOf 20 = .ok (.getfield 97, 3) := by decide +kernel
theorem dX2_worthOf_23 : decode cX2_worthOf 23 = .ok (.if_icmp .ne 7, 3) := by decide +kernel
theorem dX2_worthOf_26 : decode cX2_worthOf 26 = .ok (.iconst 1, 1) := by decide +kernel
theorem dX2_worthOf_27 : decode cX2_worthOf 27 = .ok (.goto 4, 3) := by decide +kernel
theorem dX2_worthOf_30 : decode cX2_worthOf 30 = .ok (.iconst 0, 1) := by decide +kernel
theorem dX2_worthOf_31 : decode cX2_worthOf 31 = .ok (.istore 4, 2) := by decide +kernel
theorem dX2_worthOf_33 : decode cX2_worthOf 33 = .ok (.iload 4, 2) := by decide +kernel
theorem dX2_worthOf_35 : decode cX2_worthOf 35 = .ok (.ifCond .eq 17, 3) := by decide +kernel
theorem dX2_worthOf_38 : decode cX2_worthOf 38 = .ok (.aload_n 0, 1) := by decide +kernel
theorem dX2_worthOf_39 : decode cX2_worthOf 39 = .ok (.getfield 53, 3) := by decide +kernel
theorem dX2_worthOf_42 : decode cX2_worthOf 42 = .ok (.iload_n 2, 1) := by decide +kernel
theorem dX2_worthOf_43 : decode cX2_worthOf 43 = .ok (.aaload, 1) := by decide +kernel
theorem dX2_worthOf_44 : decode cX2_worthOf 44 = .ok (.getfield 100, 3) := by decide +kernel
theorem dX2_worthOf_47 : decode cX2_worthOf 47 = .ok (.iload_n 1, 1) := by decide +kernel
theorem dX2_worthOf_48 : decode cX2_worthOf 48 = .ok (.faload, 1) := by decide +kernel
theorem dX2_worthOf_49 : decode cX2_worthOf 49 = .ok (.goto 9, 3) := by decide +kernel
theorem dX2_worthOf_52 : decode cX2_worthOf 52 = .ok (.aload_n 3, 1) := by decide +kernel
theorem dX2_worthOf_53 : decode cX2_worthOf 53 = .ok (.getfield 100, 3) := by decide +kernel
theorem dX2_worthOf_56 : decode cX2_worthOf 56 = .ok (.iload_n 2, 1) := by decide +kernel
theorem dX2_worthOf_57 : decode cX2_worthOf 57 = .ok (.faload, 1) := by decide +kernel
theorem dX2_worthOf_58 : decode cX2_worthOf 58 = .ok (.freturn, 1) := by decide +kernel
theorem dX2_mostWorth_0 : decode cX2_mostWorth 0 = .ok (.iconst (-1), 1) := by decide +kernel
theorem dX2_mostWorth_1 : decode cX2_mostWorth 1 = .ok (.istore_n 3, 1) := by decide +kernel
theorem dX2_mostWorth_2 : decode cX2_mostWorth 2 = .ok (.fconst 0, 1) := by decide +kernel
theorem dX2_mostWorth_3 : decode cX2_mostWorth 3 = .ok (.fstore 4, 2) := by decide +kernel
theorem dX2_mostWorth_5 : decode cX2_mostWorth 5 = .ok (.iconst 0, 1) := by decide +kernel
theorem dX2_mostWorth_6 : decode cX2_mostWorth 6 = .ok (.istore 5, 2) := by decide +kernel
theorem dX2_mostWorth_8 : decode cX2_mostWorth 8 = .ok (.iload 5, 2) := by decide +kernel
theorem dX2_mostWorth_10 : decode cX2_mostWorth 10 = .ok (.aload_n 0, 1) := by decide +kernel
theorem dX2_mostWorth_11 : decode cX2_mostWorth 11 = .ok (.getfield 46, 3) := by decide +kernel
theorem dX2_mostWorth_14 : decode cX2_mostWorth 14 = .ok (.if_icmp .ge 46, 3) := by decide +kernel
theorem dX2_mostWorth_17 : decode cX2_mostWorth 17 = .ok (.iload_n 2, 1) := by decide +kernel
theorem dX2_mostWorth_18 : decode cX2_mostWorth 18 = .ok (.iload 5, 2) := by decide +kernel
theorem dX2_mostWorth_20 : decode cX2_mostWorth 20 = .ok (.ishr, 1) := by decide +kernel
theorem dX2_mostWorth_21 : decode cX2_mostWorth 21 = .ok (.iconst 1, 1) := by decide +kernel
theorem dX2_mostWorth_22 : decode cX2_mostWorth 22 = .ok (.iand, 1) := by decide +kernel
theorem dX2_mostWorth_23 : decode cX2_mostWorth 23 = .ok (.ifCond .eq 31, 3) := by decide +kernel
theorem dX2_mostWorth_26 : decode cX2_mostWorth 26 = .ok (.aload_n 0, 1) := by decide +kernel
theorem dX2_mostWorth_27 : decode cX2_mostWorth 27 = .ok (.iload_n 1, 1) := by decide +kernel
theorem dX2_mostWorth_28 : decode cX2_mostWorth 28 = .ok (.iload 5, 2) := by decide +kernel
theorem dX2_mostWorth_30 : decode cX2_mostWorth 30 = .ok (.invokestatic 93, 3) := by decide +kernel
theorem dX2_mostWorth_33 : decode cX2_mostWorth 33 = .ok (.fstore 6, 2) := by decide +kernel
theorem dX2_mostWorth_35 : decode cX2_mostWorth 35 = .ok (.iload_n 3, 1) := by decide +kernel
theorem dX2_mostWorth_36 : decode cX2_mostWorth 36 = .ok (.ifCond .lt 11, 3) := by decide +kernel
theorem dX2_mostWorth_39 : decode cX2_mostWorth 39 = .ok (.fload 6, 2) := by decide +kernel
theorem dX2_mostWorth_41 : decode cX2_mostWorth 41 = .ok (.fload 4, 2) := by decide +kernel
theorem dX2_mostWorth_43 : decode cX2_mostWorth 43 = .ok (.fcmp .l, 1) := by decide +kernel
theorem dX2_mostWorth_44 : decode cX2_mostWorth 44 = .ok (.ifCond .le 10, 3) := by decide +kernel
theorem dX2_mostWorth_47 : decode cX2_mostWorth 47 = .ok (.iload 5, 2) := by decide +kernel
theorem dX2_mostWorth_49 : decode cX2_mostWorth 49 = .ok (.istore_n 3, 1) := by decide +kernel
theorem dX2_mostWorth_50 : decode cX2_mostWorth 50 = .ok (.fload 6, 2) := by decide +kernel
theorem dX2_mostWorth_52 : decode cX2_mostWorth 52 = .ok (.fstore 4, 2) := by decide +kernel
theorem dX2_mostWorth_54 : decode cX2_mostWorth 54 = .ok (.iinc 5 1, 3) := by decide +kernel
theorem dX2_mostWorth_57 : decode cX2_mostWorth 57 = .ok (.goto (-49), 3) := by decide +kernel
theorem dX2_mostWorth_60 : decode cX2_mostWorth 60 = .ok (.iload_n 3, 1) := by decide +kernel
theorem dX2_mostWorth_61 : decode cX2_mostWorth 61 = .ok (.ireturn, 1) := by decide +kernel
theorem dX2_pickRegular_0 : decode cX2_pickRegular 0 = .ok (.iconst 0, 1) := by decide +kernel
theorem dX2_pickRegular_1 : decode cX2_pickRegular 1 = .ok (.istore_n 3, 1) := by decide +kernel
theorem dX2_pickRegular_2 : decode cX2_pickRegular 2 = .ok (.iconst 1, 1) := by decide +kernel
theorem dX2_pickRegular_3 : decode cX2_pickRegular 3 = .ok (.istore 4, 2) := by decide +kernel
theorem dX2_pickRegular_5 : decode cX2_pickRegular 5 = .ok (.iload 4, 2) := by decide +kernel
theorem dX2_pickRegular_7 : decode cX2_pickRegular 7 = .ok (.aload_n 1, 1) := by decide +kernel
theorem dX2_pickRegular_8 : decode cX2_pickRegular 8 = .ok (.getfield 86, 3) := by decide +kernel
theorem dX2_pickRegular_11 : decode cX2_pickRegular 11 = .ok (.iconst 0, 1) := by decide +kernel
theorem dX2_pickRegular_12 : decode cX2_pickRegular 12 = .ok (.iaload, 1) := by decide +kernel
theorem dX2_pickRegular_13 : decode cX2_pickRegular 13 = .ok (.if_icmp .ge 38, 3) := by decide +kernel
theorem dX2_pickRegular_16 : decode cX2_pickRegular 16 = .ok (.aload_n 1, 1) := by decide +kernel
theorem dX2_pickRegular_17 : decode cX2_pickRegular 17 = .ok (.iload_n 2, 1) := by decide +kernel
theorem dX2_pickRegular_18 : decode cX2_pickRegular 18 = .ok (.aload_n 0, 1) := by decide +kernel
theorem dX2_pickRegular_19 : decode cX2_pickRegular 19 = .ok (.getfield 9, 3) := by decide +kernel
theorem dX2_pickRegular_22 : decode cX2_pickRegular 22 = .ok (.iload_n 2, 1) := by decide +kernel
theorem dX2_pickRegular_23 : decode cX2_pickRegular 23 = .ok (.iaload, 1) := by decide +kernel
theorem dX2_pickRegular_24 : decode cX2_pickRegular 24 = .ok (.iload_n 3, 1) := by decide +kernel
theorem dX2_pickRegular_25 : decode cX2_pickRegular 25 = .ok (.iconst (-1), 1) := by decide +kernel
theorem dX2_pickRegular_26 : decode cX2_pickRegular 26 = .ok (.ixor, 1) := by decide +kernel
theorem dX2_pickRegular_27 : decode cX2_pickRegular 27 = .ok (.iand, 1) := by decide +kernel
theorem dX2_pickRegular_28 : decode cX2_pickRegular 28 = .ok (.invokestatic 89, 3) := by decide +kernel
theorem dX2_pickRegular_31 : decode cX2_pickRegular 31 = .ok (.istore 5, 2) := by decide +kernel
theorem dX2_pickRegular_33 : decode cX2_pickRegular 33 = .ok (.iload 5, 2) := by decide +kernel
theorem dX2_pickRegular_35 : decode cX2_pickRegular 35 = .ok (.ifCond .lt 10, 3) := by decide +kernel
theorem dX2_pickRegular_38 : decode cX2_pickRegular 38 = .ok (.iload_n 3, 1) := by decide +kernel
theorem dX2_pickRegular_39 : decode cX2_pickRegular 39 = .ok (.iconst 1, 1) := by decide +kernel
theorem dX2_pickRegular_40 : decode cX2_pickRegular 40 = .ok (.iload 5, 2) := by decide +kernel
theorem dX2_pickRegular_42 : decode cX2_pickRegular 42 = .ok (.ishl, 1) := by decide +kernel
theorem dX2_pickRegular_43 : decode cX2_pickRegular 43 = .ok (.ior, 1) := by decide +kernel
theorem dX2_pickRegular_44 : decode cX2_pickRegular 44 = .ok (.istore_n 3, 1) := by decide +kernel
theorem dX2_pickRegular_45 : decode cX2_pickRegular 45 = .ok (.iinc 4 1, 3) := by decide +kernel
theorem dX2_pickRegular_48 : decode cX2_pickRegular 48 = .ok (.goto (-43), 3) := by decide +kernel
theorem dX2_pickRegular_51 : decode cX2_pickRegular 51 = .ok (.iload_n 3, 1) := by decide +kernel
theorem dX2_pickRegular_52 : decode cX2_pickRegular 52 = .ok (.ireturn, 1) := by decide +kernel
theorem dX2_pickNumber_0 : decode cX2_pickNumber 0 = .ok (.iconst 0, 1) := by decide +kernel
theorem dX2_pickNumber_1 : decode cX2_pickNumber 1 = .ok (.istore_n 2, 1) := by decide +kernel
theorem dX2_pickNumber_2 : decode cX2_pickNumber 2 = .ok (.iconst 0, 1) := by decide +kernel
theorem dX2_pickNumber_3 : decode cX2_pickNumber 3 = .ok (.istore_n 3, 1) := by decide +kernel
theorem dX2_pickNumber_4 : decode cX2_pickNumber 4 = .ok (.iload_n 3, 1) := by decide +kernel
theorem dX2_pickNumber_5 : decode cX2_pickNumber 5 = .ok (.bipush 6, 2) := by decide +kernel
theorem dX2_pickNumber_7 : decode cX2_pickNumber 7 = .ok (.if_icmp .ge 27, 3) := by decide +kernel
theorem dX2_pickNumber_10 : decode cX2_pickNumber 10 = .ok (.iload_n 0, 1) := by decide +kernel
theorem dX2_pickNumber_11 : decode cX2_pickNumber 11 = .ok (.iload_n 3, 1) := by decide +kernel
theorem dX2_pickNumber_12 : decode cX2_pickNumber 12 = .ok (.ishr, 1) := by decide +kernel
theorem dX2_pickNumber_13 : decode cX2_pickNumber 13 = .ok (.iconst 1, 1) := by decide +kernel
theorem dX2_pickNumber_14 : decode cX2_pickNumber 14 = .ok (.iand, 1) := by decide +kernel
theorem dX2_pickNumber_15 : decode cX2_pickNumber 15 = .ok (.ifCond .eq 13, 3) := by decide +kernel
theorem dX2_pickNumber_18 : decode cX2_pickNumber 18 = .ok (.iload_n 2, 1) := by decide +kernel
theorem dX2_pickNumber_19 : decode cX2_pickNumber 19 = .ok (.iload_n 1, 1) := by decide +kernel
theorem dX2_pickNumber_20 : decode cX2_pickNumber 20 = .ok (.if_icmp .ne 5, 3) := by decide +kernel
theorem dX2_pickNumber_23 : decode cX2_pickNumber 23 = .ok (.iload_n 3, 1) := by decide +kernel
theorem dX2_pickNumber_24 : decode cX2_pickNumber 24 = .ok (.ireturn, 1) := by decide +kernel
theorem dX2_pickNumber_25 : decode cX2_pickNumber 25 = .ok (.iinc 2 1, 3) := by decide +kernel
theorem dX2_pickNumber_28 : decode cX2_pickNumber 28 = .ok (.iinc 3 1, 3) := by decide +kernel
theorem dX2_pickNumber_31 : decode cX2_pickNumber 31 = .ok (.goto (-27), 3) := by decide +kernel
theorem dX2_pickNumber_34 : decode cX2_pickNumber 34 = .ok (.iconst (-1), 1) := by decide +kernel
theorem dX2_pickNumber_35 : decode cX2_pickNumber 35 = .ok (.ireturn, 1) := by decide +kernel
theorem dX2_pickLucky_0 : decode cX2_pickLucky 0 = .ok (.aload_n 0, 1) := by decide +kernel
theorem dX2_pickLucky_1 : decode cX2_pickLucky 1 = .ok (.getfield 86, 3) := by decide +kernel
theorem dX2_pickLucky_4 : decode cX2_pickLucky 4 = .ok (.iconst 3, 1) := by decide +kernel
theorem dX2_pickLucky_5 : decode cX2_pickLucky 5 = .ok (.iaload, 1) := by decide +kernel
theorem dX2_pickLucky_6 : decode cX2_pickLucky 6 = .ok (.istore_n 3, 1) := by decide +kernel
theorem dX2_pickLucky_7 : decode cX2_pickLucky 7 = .ok (.iload_n 3, 1) := by decide +kernel
theorem dX2_pickLucky_8 : decode cX2_pickLucky 8 = .ok (.ifCond .le 16, 3) := by decide +kernel
theorem dX2_pickLucky_11 : decode cX2_pickLucky 11 = .ok (.aload_n 0, 1) := by decide +kernel
theorem dX2_pickLucky_12 : decode cX2_pickLucky 12 = .ok (.getfield 40, 3) := by decide +kernel
theorem dX2_pickLucky_15 : decode cX2_pickLucky 15 = .ok (.iload_n 3, 1) := by decide +kernel
theorem dX2_pickLucky_16 : decode cX2_pickLucky 16 = .ok (.irem, 1) := by decide +kernel
theorem dX2_pickLucky_17 : decode cX2_pickLucky 17 = .ok (.ifCond .eq 7, 3) := by decide +kernel
theorem dX2_pickLucky_20 : decode cX2_pickLucky 20 = .ok (.iconst 1, 1) := by decide +kernel
theorem dX2_pickLucky_21 : decode cX2_pickLucky 21 = .ok (.goto 4, 3) := by decide +kernel
theorem dX2_pickLucky_24 : decode cX2_pickLucky 24 = .ok (.iconst 0, 1) := by decide +kernel
theorem dX2_pickLucky_25 : decode cX2_pickLucky 25 = .ok (.istore 4, 2) := by decide +kernel
theorem dX2_pickLucky_27 : decode cX2_pickLucky 27 = .ok (.iload 4, 2) := by decide +kernel
theorem dX2_pickLucky_29 : decode cX2_pickLucky 29 = .ok (.ifCond .eq 26, 3) := by decide +kernel
theorem dX2_pickLucky_32 : decode cX2_pickLucky 32 = .ok (.aload_n 1, 1) := by decide +kernel
theorem dX2_pickLucky_33 : decode cX2_pickLucky 33 = .ok (.getfield 80, 3) := by decide +kernel
theorem dX2_pickLucky_36 : decode cX2_pickLucky 36 = .ok (.ifCond .lt 19, 3) := by decide +kernel
theorem dX2_pickLucky_39 : decode cX2_pickLucky 39 = .ok (.iload_n 2, 1) := by decide +kernel
theorem dX2_pickLucky_40 : decode cX2_pickLucky 40 = .ok (.aload_n 1, 1) := by decide +kernel
theorem dX2_pickLucky_41 : decode cX2_pickLucky 41 = .ok (.getfield 80, 3) := by decide +kernel
theorem dX2_pickLucky_44 : decode cX2_pickLucky 44 = .ok (.ishr, 1) := by decide +kernel
theorem dX2_pickLucky_45 : decode cX2_pickLucky 45 = .ok (.iconst 1, 1) := by decide +kernel
theorem dX2_pickLucky_46 : decode cX2_pickLucky 46 = .ok (.iand, 1) := by decide +kernel
theorem dX2_pickLucky_47 : decode cX2_pickLucky 47 = .ok (.ifCond .eq 8, 3) := by decide +kernel
theorem dX2_pickLucky_50 : decode cX2_pickLucky 50 = .ok (.aload_n 1, 1) := by decide +kernel
theorem dX2_pickLucky_51 : decode cX2_pickLucky 51 = .ok (.getfield 80, 3) := by decide +kernel
theorem dX2_pickLucky_54 : decode cX2_pickLucky 54 = .ok (.ireturn, 1) := by decide +kernel
theorem dX2_pickLucky_55 : decode cX2_pickLucky 55 = .ok (.iload_n 2, 1) := by decide +kernel
theorem dX2_pickLucky_56 : decode cX2_pickLucky 56 = .ok (.ifCond .ne 5, 3) := by decide +kernel
theorem dX2_pickLucky_59 : decode cX2_pickLucky 59 = .ok (.iconst (-1), 1) := by decide +kernel
theorem dX2_pickLucky_60 : decode cX2_pickLucky 60 = .ok (.ireturn, 1) := by decide +kernel
theorem dX2_pickLucky_61 : decode cX2_pickLucky 61 = .ok (.iload_n 2, 1) := by decide +kernel
theorem dX2_pickLucky_62 : decode cX2_pickLucky 62 = .ok (.aload_n 0, 1) := by decide +kernel
theorem dX2_pickLucky_63 : decode cX2_pickLucky 63 = .ok (.iload_n 2, 1) := by decide +kernel
theorem dX2_pickLucky_64 : decode cX2_pickLucky 64 = .ok (.invokestatic 104, 3) := by decide +kernel
theorem dX2_pickLucky_67 : decode cX2_pickLucky 67 = .ok (.invokevirtual 109, 3) := by decide +kernel
theorem dX2_pickLucky_70 : decode cX2_pickLucky 70 = .ok (.invokestatic 112, 3) := by decide +kernel
theorem dX2_pickLucky_73 : decode cX2_pickLucky 73 = .ok (.ireturn, 1) := by decide +kernel
theorem dX2_openSlots_0 : decode cX2_openSlots 0 = .ok (.iconst 0, 1) := by decide +kernel
theorem dX2_openSlots_1 : decode cX2_openSlots 1 = .ok (.istore_n 2, 1) := by decide +kernel
theorem dX2_openSlots_2 : decode cX2_openSlots 2 = .ok (.iload_n 2, 1) := by decide +kernel
theorem dX2_openSlots_3 : decode cX2_openSlots 3 = .ok (.aload_n 1, 1) := by decide +kernel
theorem dX2_openSlots_4 : decode cX2_openSlots 4 = .ok (.getfield 46, 3) := by decide +kernel
theorem dX2_openSlots_7 : decode cX2_openSlots 7 = .ok (.if_icmp .ge 77, 3) := by decide +kernel
theorem dX2_openSlots_10 : decode cX2_openSlots 10 = .ok (.aload_n 1, 1) := by decide +kernel
theorem dX2_openSlots_11 : decode cX2_openSlots 11 = .ok (.getfield 53, 3) := by decide +kernel
theorem dX2_openSlots_14 : decode cX2_openSlots 14 = .ok (.iload_n 2, 1) := by decide +kernel
theorem dX2_openSlots_15 : decode cX2_openSlots 15 = .ok (.aaload, 1) := by decide +kernel
theorem dX2_openSlots_16 : decode cX2_openSlots 16 = .ok (.astore_n 3, 1) := by decide +kernel
theorem dX2_openSlots_17 : decode cX2_openSlots 17 = .ok (.aload_n 3, 1) := by decide +kernel
theorem dX2_openSlots_18 : decode cX2_openSlots 18 = .ok (.getfield 57, 3) := by decide +kernel
theorem dX2_openSlots_21 : decode cX2_openSlots 21 = .ok (.iconst 1, 1) := by decide +kernel
theorem dX2_openSlots_22 : decode cX2_openSlots 22 = .ok (.if_icmp .eq 56, 3) := by decide +kernel
theorem dX2_openSlots_25 : decode cX2_openSlots 25 = .ok (.aload_n 0, 1) := by decide +kernel
theorem dX2_openSlots_26 : decode cX2_openSlots 26 = .ok (.aload_n 1, 1) := by decide +kernel
theorem dX2_openSlots_27 : decode cX2_openSlots 27 = .ok (.iload_n 2, 1) := by decide +kernel
theorem dX2_openSlots_28 : decode cX2_openSlots 28 = .ok (.invokevirtual 72, 3) := by decide +kernel
theorem dX2_openSlots_31 : decode cX2_openSlots 31 = .ok (.istore 4, 2) := by decide +kernel
theorem dX2_openSlots_33 : decode cX2_openSlots 33 = .ok (.aload_n 3, 1) := by decide +kernel
theorem dX2_openSlots_34 : decode cX2_openSlots 34 = .ok (.aload_n 1, 1) := by decide +kernel
theorem dX2_openSlots_35 : decode cX2_openSlots 35 = .ok (.aload_n 3, 1) := by decide +kernel
theorem dX2_openSlots_36 : decode cX2_openSlots 36 = .ok (.aload_n 0, 1) := by decide +kernel
theorem dX2_openSlots_37 : decode cX2_openSlots 37 = .ok (.getfield 9, 3) := by decide +kernel
theorem dX2_openSlots_40 : decode cX2_openSlots 40 = .ok (.iload_n 2, 1) := by decide +kernel
theorem dX2_openSlots_41 : decode cX2_openSlots 41 = .ok (.iaload, 1) := by decide +kernel
theorem dX2_openSlots_42 : decode cX2_openSlots 42 = .ok (.iload 4, 2) := by decide +kernel
theorem dX2_openSlots_44 : decode cX2_openSlots 44 = .ok (.iconst (-1), 1) := by decide +kernel
theorem dX2_openSlots_45 : decode cX2_openSlots 45 = .ok (.ixor, 1) := by decide +kernel
theorem dX2_openSlots_46 : decode cX2_openSlots 46 = .ok (.iand, 1) := by decide +kernel
theorem dX2_openSlots_47 : decode cX2_openSlots 47 = .ok (.invokestatic 76, 3) := by decide +kernel
theorem dX2_openSlots_50 : decode cX2_openSlots 50 = .ok (.putfield 80, 3) := by decide +kernel
theorem dX2_openSlots_53 : decode cX2_openSlots 53 = .ok (.aload_n 3, 1) := by decide +kernel
theorem dX2_openSlots_54 : decode cX2_openSlots 54 = .ok (.aload_n 3, 1) := by decide +kernel
theorem dX2_openSlots_55 : decode cX2_openSlots 55 = .ok (.getfield 80, 3) := by decide +kernel
theorem dX2_openSlots_58 : decode cX2_openSlots 58 = .ok (.ifCond .ge 8, 3) := by decide +kernel
theorem dX2_openSlots_61 : decode cX2_openSlots 61 = .ok (.iload 4, 2) := by decide +kernel
theorem dX2_openSlots_63 : decode cX2_openSlots 63 = .ok (.goto 12, 3) := by decide +kernel
theorem dX2_openSlots_66 : decode cX2_openSlots 66 = .ok (.iload 4, 2) := by decide +kernel
theorem dX2_openSlots_68 : decode cX2_openSlots 68 = .ok (.iconst 1, 1) := by decide +kernel
theorem dX2_openSlots_69 : decode cX2_openSlots 69 = .ok (.aload_n 3, 1) := by decide +kernel
theorem dX2_openSlots_70 : decode cX2_openSlots 70 = .ok (.getfield 80, 3) := by decide +kernel
theorem dX2_openSlots_73 : decode cX2_openSlots 73 = .ok (.ishl, 1) := by decide +kernel
theorem dX2_openSlots_74 : decode cX2_openSlots 74 = .ok (.ior, 1) := by decide +kernel
theorem dX2_openSlots_75 : decode cX2_openSlots 75 = .ok (.putfield 83, 3) := by decide +kernel
theorem dX2_openSlots_78 : decode cX2_openSlots 78 = .ok (.iinc 2 1, 3) := by decide +kernel
theorem dX2_openSlots_81 : decode cX2_openSlots 81 = .ok (.goto (-79), 3) := by decide +kernel
theorem dX2_openSlots_84 : decode cX2_openSlots 84 = .ok (.return_, 1) := by decide +kernel
theorem dX2_hasMissing_0 : decode cX2_hasMissing 0 = .ok (.iload_n 2, 1) := by decide +kernel
theorem dX2_hasMissing_1 : decode cX2_hasMissing 1 = .ok (.iload_n 1, 1) := by decide +kernel
theorem dX2_hasMissing_2 : decode cX2_hasMissing 2 = .ok (.iconst 4, 1) := by decide +kernel
theorem dX2_hasMissing_3 : decode cX2_hasMissing 3 = .ok (.imul, 1) := by decide +kernel
theorem dX2_hasMissing_4 : decode cX2_hasMissing 4 = .ok (.iushr, 1) := by decide +kernel
theorem dX2_hasMissing_5 : decode cX2_hasMissing 5 = .ok (.aload_n 0, 1) := by decide +kernel
theorem dX2_hasMissing_6 : decode cX2_hasMissing 6 = .ok (.getfield 145, 3) := by decide +kernel
theorem dX2_hasMissing_9 : decode cX2_hasMissing 9 = .ok (.iand, 1) := by decide +kernel
theorem dX2_hasMissing_10 : decode cX2_hasMissing 10 = .ok (.aload_n 0, 1) := by decide +kernel
theorem dX2_hasMissing_11 : decode cX2_hasMissing 11 = .ok (.getfield 145, 3) := by decide +kernel
theorem dX2_hasMissing_14 : decode cX2_hasMissing 14 = .ok (.if_icmp .eq 7, 3) := by decide +kernel
theorem dX2_hasMissing_17 : decode cX2_hasMissing 17 = .ok (.iconst 1, 1) := by decide +kernel
theorem dX2_hasMissing_18 : decode cX2_hasMissing 18 = .ok (.goto 4, 3) := by decide +kernel
theorem dX2_hasMissing_21 : decode cX2_hasMissing 21 = .ok (.iconst 0, 1) := by decide +kernel
theorem dX2_hasMissing_22 : decode cX2_hasMissing 22 = .ok (.ireturn, 1) := by decide +kernel
theorem dX2_rarestFree_0 : decode cX2_rarestFree 0 = .ok (.iconst (-1), 1) := by decide +kernel
theorem dX2_rarestFree_1 : decode cX2_rarestFree 1 = .ok (.istore 4, 2) := by decide +kernel
theorem dX2_rarestFree_3 : decode cX2_rarestFree 3 = .ok (.iconst 0, 1) := by decide +kernel
theorem dX2_rarestFree_4 : decode cX2_rarestFree 4 = .ok (.istore 5, 2) := by decide +kernel
theorem dX2_rarestFree_6 : decode cX2_rarestFree 6 = .ok (.iconst 0, 1) := by decide +kernel
theorem dX2_rarestFree_7 : decode cX2_rarestFree 7 = .ok (.istore 6, 2) := by decide +kernel
theorem dX2_rarestFree_9 : decode cX2_rarestFree 9 = .ok (.iload 6, 2) := by decide +kernel
theorem dX2_rarestFree_11 : decode cX2_rarestFree 11 = .ok (.aload_n 1, 1) := by decide +kernel
theorem dX2_rarestFree_12 : decode cX2_rarestFree 12 = .ok (.getfield 116, 3) := by decide +kernel
theorem dX2_rarestFree_15 : decode cX2_rarestFree 15 = .ok (.if_icmp .ge 96, 3) := by decide +kernel
theorem dX2_rarestFree_18 : decode cX2_rarestFree 18 = .ok (.iload_n 2, 1) := by decide +kernel
theorem dX2_rarestFree_19 : decode cX2_rarestFree 19 = .ok (.iload 6, 2) := by decide +kernel
theorem dX2_rarestFree_21 : decode cX2_rarestFree 21 = .ok (.ishr, 1) := by decide +kernel
theorem dX2_rarestFree_22 : decode cX2_rarestFree 22 = .ok (.iconst 1, 1) := by decide +kernel
theorem dX2_rarestFree_23 : decode cX2_rarestFree 23 = .ok (.iand, 1) := by decide +kernel
theorem dX2_rarestFree_24 : decode cX2_rarestFree 24 = .ok (.ifCond .eq 81, 3) := by decide +kernel
theorem dX2_rarestFree_27 : decode cX2_rarestFree 27 = .ok (.aload_n 1, 1) := by decide +kernel
theorem dX2_rarestFree_28 : decode cX2_rarestFree 28 = .ok (.iload 6, 2) := by decide +kernel
theorem dX2_rarestFree_30 : decode cX2_rarestFree 30 = .ok (.iload_n 3, 1) := by decide +kernel
theorem dX2_rarestFree_31 : decode cX2_rarestFree 31 = .ok (.invokestatic 142, 3) := by decide +kernel
theorem dX2_rarestFree_34 : decode cX2_rarestFree 34 = .ok (.ifCond .eq 71, 3) := by decide +kernel
theorem dX2_rarestFree_37 : decode cX2_rarestFree 37 = .ok (.iload_n 3, 1) := by decide +kernel
theorem dX2_rarestFree_38 : decode cX2_rarestFree 38 = .ok (.iload 6, 2) := by decide +kernel
theorem dX2_rarestFree_40 : decode cX2_rarestFree 40 = .ok (.iconst 4, 1) := by decide +kernel
theorem dX2_rarestFree_41 : decode cX2_rarestFree 41 = .ok (.imul, 1) := by decide +kernel
theorem dX2_rarestFree_42 : decode cX2_rarestFree 42 = .ok (.iushr, 1) := by decide +kernel
theorem dX2_rarestFree_43 : decode cX2_rarestFree 43 = .ok (.aload_n 1, 1) := by decide +kernel
theorem dX2_rarestFree_44 : decode cX2_rarestFree 44 = .ok (.getfield 145, 3) := by decide +kernel
theorem dX2_rarestFree_47 : decode cX2_rarestFree 47 = .ok (.iand, 1) := by decide +kernel
theorem dX2_rarestFree_48 : decode cX2_rarestFree 48 = .ok (.ifCond .eq 7, 3) := by decide +kernel
theorem dX2_rarestFree_51 : decode cX2_rarestFree 51 = .ok (.iconst 1, 1) := by decide +kernel
theorem dX2_rarestFree_52 : decode cX2_rarestFree 52 = .ok (.goto 4, 3) := by decide +kernel
theorem dX2_rarestFree_55 : decode cX2_rarestFree 55 = .ok (.iconst 0, 1) := by decide +kernel
theorem dX2_rarestFree_56 : decode cX2_rarestFree 56 = .ok (.istore 7, 2) := by decide +kernel
theorem dX2_rarestFree_58 : decode cX2_rarestFree 58 = .ok (.iload 4, 2) := by decide +kernel
theorem dX2_rarestFree_60 : decode cX2_rarestFree 60 = .ok (.ifCond .lt 37, 3) := by decide +kernel
theorem dX2_rarestFree_63 : decode cX2_rarestFree 63 = .ok (.iload 7, 2) := by decide +kernel
theorem dX2_rarestFree_65 : decode cX2_rarestFree 65 = .ok (.ifCond .eq 8, 3) := by decide +kernel
theorem dX2_rarestFree_68 : decode cX2_rarestFree 68 = .ok (.iload 5, 2) := by decide +kernel
theorem dX2_rarestFree_70 : decode cX2_rarestFree 70 = .ok (.ifCond .eq 27, 3) := by decide +kernel
theorem dX2_rarestFree_73 : decode cX2_rarestFree 73 = .ok (.iload 7, 2) := by decide +kernel
theorem dX2_rarestFree_75 : decode cX2_rarestFree 75 = .ok (.iload 5, 2) := by decide +kernel
theorem dX2_rarestFree_77 : decode cX2_rarestFree 77 = .ok (.if_icmp .ne 28, 3) := by decide +kernel
theorem dX2_rarestFree_80 : decode cX2_rarestFree 80 = .ok (.aload_n 0, 1) := by decide +kernel
theorem dX2_rarestFree_81 : decode cX2_rarestFree 81 = .ok (.getfield 15, 3) := by decide +kernel
theorem dX2_rarestFree_84 : decode cX2_rarestFree 84 = .ok (.iload 6, 2) := by decide +kernel
theorem dX2_rarestFree_86 : decode cX2_rarestFree 86 = .ok (.iaload, 1) := by decide +kernel
theorem dX2_rarestFree_87 : decode cX2_rarestFree 87 = .ok (.aload_n 0, 1) := by decide +kernel
theorem dX2_rarestFree_88 : decode cX2_rarestFree 88 = .ok (.getfield 15, 3) := by decide +kernel
theorem dX2_rarestFree_91 : decode cX2_rarestFree 91 = .ok (.iload 4, 2) := by decide +kernel
theorem dX2_rarestFree_93 : decode cX2_rarestFree 93 = .ok (.iaload, 1) := by decide +kernel
theorem dX2_rarestFree_94 : decode cX2_rarestFree 94 = .ok (.if_icmp .ge 11, 3) := by decide +kernel
theorem dX2_rarestFree_97 : decode cX2_rarestFree 97 = .ok (.iload 6, 2) := by decide +kernel
theorem dX2_rarestFree_99 : decode cX2_rarestFree 99 = .ok (.istore 4, 2) := by decide +kernel
theorem dX2_rarestFree_101 : decode cX2_rarestFree 101 = .ok (.iload 7, 2) := by decide +kernel
theorem dX2_rarestFree_103 : decode cX2_rarestFree 103 = .ok (.istore 5, 2) := by decide +kernel
theorem dX2_rarestFree_105 : decode cX2_rarestFree 105 = .ok (.iinc 6 1, 3) := by decide +kernel
theorem dX2_rarestFree_108 : decode cX2_rarestFree 108 = .ok (.goto (-99), 3) := by decide +kernel
theorem dX2_rarestFree_111 : decode cX2_rarestFree 111 = .ok (.iload 4, 2) := by decide +kernel
theorem dX2_rarestFree_113 : decode cX2_rarestFree 113 = .ok (.ireturn, 1) := by decide +kernel
theorem dX2_leastMissing_0 : decode cX2_leastMissing 0 = .ok (.iconst 0, 1) := by decide +kernel
theorem dX2_leastMissing_1 : decode cX2_leastMissing 1 = .ok (.istore_n 3, 1) := by decide +kernel
theorem dX2_leastMissing_2 : decode cX2_leastMissing 2 = .ok (.iload_n 3, 1) := by decide +kernel
theorem dX2_leastMissing_3 : decode cX2_leastMissing 3 = .ok (.aload_n 0, 1) := by decide +kernel
theorem dX2_leastMissing_4 : decode cX2_leastMissing 4 = .ok (.getfield 148, 3) := by decide +kernel
theorem dX2_leastMissing_7 : decode cX2_leastMissing 7 = .ok (.if_icmp .ge 28, 3) := by decide +kernel
theorem dX2_leastMissing_10 : decode cX2_leastMissing 10 = .ok (.iload_n 1, 1) := by decide +kernel
theorem dX2_leastMissing_11 : decode cX2_leastMissing 11 = .ok (.iconst 4, 1) := by decide +kernel
theorem dX2_leastMissing_12 : decode cX2_leastMissing 12 = .ok (.imul, 1) := by decide +kernel
theorem dX2_leastMissing_13 : decode cX2_leastMissing 13 = .ok (.iload_n 3, 1) := by decide +kernel
theorem dX2_leastMissing_14 : decode cX2_leastMissing 14 = .ok (.iadd, 1) := by decide +kernel
theorem dX2_leastMissing_15 : decode cX2_leastMissing 15 = .ok (.istore 4, 2) := by decide +kernel
theorem dX2_leastMissing_17 : decode cX2_leastMissing 17 = .ok (.iload_n 2, 1) := by decide +kernel
theorem dX2_leastMissing_18 : decode cX2_leastMissing 18 = .ok (.iload 4, 2) := by decide +kernel
theorem dX2_leastMissing_20 : decode cX2_leastMissing 20 = .ok (.iushr, 1) := by decide +kernel
theorem dX2_leastMissing_21 : decode cX2_leastMissing 21 = .ok (.iconst 1, 1) := by decide +kernel
theorem dX2_leastMissing_22 : decode cX2_leastMissing 22 = .ok (.iand, 1) := by decide +kernel
theorem dX2_leastMissing_23 : decode cX2_leastMissing 23 = .ok (.ifCond .ne 6, 3) := by decide +kernel
theorem dX2_leastMissing_26 : decode cX2_leastMissing 26 = .ok (.iload 4, 2) := by decide +kernel
theorem dX2_leastMissing_28 : decode cX2_leastMissing 28 = .ok (.ireturn, 1) := by decide +kernel
theorem dX2_leastMissing_29 : decode cX2_leastMissing 29 = .ok (.iinc 3 1, 3) := by decide +kernel
theorem dX2_leastMissing_32 : decode cX2_leastMissing 32 = .ok (.goto (-30), 3) := by decide +kernel
theorem dX2_leastMissing_35 : decode cX2_leastMissing 35 = .ok (.iconst (-1), 1) := by decide +kernel
theorem dX2_leastMissing_36 : decode cX2_leastMissing 36 = .ok (.ireturn, 1) := by decide +kernel
theorem dX2_leastFree_0 : decode cX2_leastFree 0 = .ok (.iconst 0, 1) := by decide +kernel
theorem dX2_leastFree_1 : decode cX2_leastFree 1 = .ok (.istore_n 3, 1) := by decide +kernel
theorem dX2_leastFree_2 : decode cX2_leastFree 2 = .ok (.iload_n 3, 1) := by decide +kernel
theorem dX2_leastFree_3 : decode cX2_leastFree 3 = .ok (.aload_n 0, 1) := by decide +kernel
theorem dX2_leastFree_4 : decode cX2_leastFree 4 = .ok (.getfield 116, 3) := by decide +kernel
theorem dX2_leastFree_7 : decode cX2_leastFree 7 = .ok (.if_icmp .ge 28, 3) := by decide +kernel
theorem dX2_leastFree_10 : decode cX2_leastFree 10 = .ok (.iload_n 1, 1) := by decide +kernel
theorem dX2_leastFree_11 : decode cX2_leastFree 11 = .ok (.iload_n 3, 1) := by decide +kernel
theorem dX2_leastFree_12 : decode cX2_leastFree 12 = .ok (.ishr, 1) := by decide +kernel
theorem dX2_leastFree_13 : decode cX2_leastFree 13 = .ok (.iconst 1, 1) := by decide +kernel
theorem dX2_leastFree_14 : decode cX2_leastFree 14 = .ok (.iand, 1) := by decide +kernel
theorem dX2_leastFree_15 : decode cX2_leastFree 15 = .ok (.ifCond .eq 14, 3) := by decide +kernel
theorem dX2_leastFree_18 : decode cX2_leastFree 18 = .ok (.aload_n 0, 1) := by decide +kernel
theorem dX2_leastFree_19 : decode cX2_leastFree 19 = .ok (.iload_n 3, 1) := by decide +kernel
theorem dX2_leastFree_20 : decode cX2_leastFree 20 = .ok (.iload_n 2, 1) := by decide +kernel
theorem dX2_leastFree_21 : decode cX2_leastFree 21 = .ok (.invokestatic 142, 3) := by decide +kernel
theorem dX2_leastFree_24 : decode cX2_leastFree 24 = .ok (.ifCond .eq 5, 3) := by decide +kernel
theorem dX2_leastFree_27 : decode cX2_leastFree 27 = .ok (.iload_n 3, 1) := by decide +kernel
theorem dX2_leastFree_28 : decode cX2_leastFree 28 = .ok (.ireturn, 1) := by decide +kernel
theorem dX2_leastFree_29 : decode cX2_leastFree 29 = .ok (.iinc 3 1, 3) := by decide +kernel
theorem dX2_leastFree_32 : decode cX2_leastFree 32 = .ok (.goto (-30), 3) := by decide +kernel
theorem dX2_leastFree_35 : decode cX2_leastFree 35 = .ok (.iconst (-1), 1) := by decide +kernel
theorem dX2_leastFree_36 : decode cX2_leastFree 36 = .ok (.ireturn, 1) := by decide +kernel
theorem dX2_chooseSpot_0 : decode cX2_chooseSpot 0 = .ok (.aload_n 1, 1) := by decide +kernel
theorem dX2_chooseSpot_1 : decode cX2_chooseSpot 1 = .ok (.getfield 53, 3) := by decide +kernel
theorem dX2_chooseSpot_4 : decode cX2_chooseSpot 4 = .ok (.iload_n 2, 1) := by decide +kernel
theorem dX2_chooseSpot_5 : decode cX2_chooseSpot 5 = .ok (.aaload, 1) := by decide +kernel
theorem dX2_chooseSpot_6 : decode cX2_chooseSpot 6 = .ok (.astore 5, 2) := by decide +kernel
theorem dX2_chooseSpot_8 : decode cX2_chooseSpot 8 = .ok (.aload_n 1, 1) := by decide +kernel
theorem dX2_chooseSpot_9 : decode cX2_chooseSpot 9 = .ok (.iload_n 3, 1) := by decide +kernel
theorem dX2_chooseSpot_10 : decode cX2_chooseSpot 10 = .ok (.invokevirtual 65, 3) := by decide +kernel
theorem dX2_chooseSpot_13 : decode cX2_chooseSpot 13 = .ok (.aload 5, 2) := by decide +kernel
theorem dX2_chooseSpot_15 : decode cX2_chooseSpot 15 = .ok (.getfield 69, 3) := by decide +kernel
theorem dX2_chooseSpot_18 : decode cX2_chooseSpot 18 = .ok (.iconst (-1), 1) := by decide +kernel
theorem dX2_chooseSpot_19 : decode cX2_chooseSpot 19 = .ok (.ixor, 1) := by decide +kernel
theorem dX2_chooseSpot_20 : decode cX2_chooseSpot 20 = .ok (.iand, 1) := by decide +kernel
theorem dX2_chooseSpot_21 : decode cX2_chooseSpot 21 = .ok (.istore 6, 2) := by decide +kernel
theorem dX2_chooseSpot_23 : decode cX2_chooseSpot 23 = .ok (.aload 5, 2) := by decide +kernel
theorem dX2_chooseSpot_25 : decode cX2_chooseSpot 25 = .ok (.getfield 126, 3) := by decide +kernel
theorem dX2_chooseSpot_28 : decode cX2_chooseSpot 28 = .ok (.iload 4, 2) := by decide +kernel
theorem dX2_chooseSpot_30 : decode cX2_chooseSpot 30 = .ok (.ior, 1) := by decide +kernel
theorem dX2_chooseSpot_31 : decode cX2_chooseSpot 31 = .ok (.istore 7, 2) := by decide +kernel
theorem dX2_chooseSpot_33 : decode cX2_chooseSpot 33 = .ok (.aload_n 0, 1) := by decide +kernel
theorem dX2_chooseSpot_34 : decode cX2_chooseSpot 34 = .ok (.aload_n 1, 1) := by decide +kernel
theorem dX2_chooseSpot_35 : decode cX2_chooseSpot 35 = .ok (.iload 6, 2) := by decide +kernel
theorem dX2_chooseSpot_37 : decode cX2_chooseSpot 37 = .ok (.iload 7, 2) := by decide +kernel
theorem dX2_chooseSpot_39 : decode cX2_chooseSpot 39 = .ok (.invokevirtual 129, 3) := by decide +kernel
theorem dX2_chooseSpot_42 : decode cX2_chooseSpot 42 = .ok (.istore 8, 2) := by decide +kernel
theorem dX2_chooseSpot_44 : decode cX2_chooseSpot 44 = .ok (.iload 8, 2) := by decide +kernel
theorem dX2_chooseSpot_46 : decode cX2_chooseSpot 46 = .ok (.ifCond .lt 12, 3) := by decide +kernel
theorem dX2_chooseSpot_49 : decode cX2_chooseSpot 49 = .ok (.aload_n 1, 1) := by decide +kernel
theorem dX2_chooseSpot_50 : decode cX2_chooseSpot 50 = .ok (.iload 8, 2) := by decide +kernel
theorem dX2_chooseSpot_52 : decode cX2_chooseSpot 52 = .ok (.iload 7, 2) := by decide +kernel
theorem dX2_chooseSpot_54 : decode cX2_chooseSpot 54 = .ok (.invokestatic 132, 3) := by decide +kernel
theorem dX2_chooseSpot_57 : decode cX2_chooseSpot 57 = .ok (.ireturn, 1) := by decide +kernel
theorem dX2_chooseSpot_58 : decode cX2_chooseSpot 58 = .ok (.aload_n 1, 1) := by decide +kernel
theorem dX2_chooseSpot_59 : decode cX2_chooseSpot 59 = .ok (.aload 5, 2) := by decide +kernel
theorem dX2_chooseSpot_61 : decode cX2_chooseSpot 61 = .ok (.invokevirtual 135, 3) := by decide +kernel
theorem dX2_chooseSpot_64 : decode cX2_chooseSpot 64 = .ok (.aload_n 1, 1) := by decide +kernel
theorem dX2_chooseSpot_65 : decode cX2_chooseSpot 65 = .ok (.getfield 86, 3) := by decide +kernel
theorem dX2_chooseSpot_68 : decode cX2_chooseSpot 68 = .ok (.iconst 2, 1) := by decide +kernel
theorem dX2_chooseSpot_69 : decode cX2_chooseSpot 69 = .ok (.iaload, 1) := by decide +kernel
theorem dX2_chooseSpot_70 : decode cX2_chooseSpot 70 = .ok (.if_icmp .le 5, 3) := by decide +kernel
theorem dX2_chooseSpot_73 : decode cX2_chooseSpot 73 = .ok (.iconst (-1), 1) := by decide +kernel
theorem dX2_chooseSpot_74 : decode cX2_chooseSpot 74 = .ok (.ireturn, 1) := by decide +kernel
theorem dX2_chooseSpot_75 : decode cX2_chooseSpot 75 = .ok (.aload_n 1, 1) := by decide +kernel
theorem dX2_chooseSpot_76 : decode cX2_chooseSpot 76 = .ok (.iload 6, 2) := by decide +kernel
theorem dX2_chooseSpot_78 : decode cX2_chooseSpot 78 = .ok (.aload 5, 2) := by decide +kernel
theorem dX2_chooseSpot_80 : decode cX2_chooseSpot 80 = .ok (.getfield 126, 3) := by decide +kernel
theorem dX2_chooseSpot_83 : decode cX2_chooseSpot 83 = .ok (.invokestatic 139, 3) := by decide +kernel
theorem dX2_chooseSpot_86 : decode cX2_chooseSpot 86 = .ok (.istore 8, 2) := by decide +kernel
theorem dX2_chooseSpot_88 : decode cX2_chooseSpot 88 = .ok (.iload 8, 2) := by decide +kernel
theorem dX2_chooseSpot_90 : decode cX2_chooseSpot 90 = .ok (.ifCond .lt 17, 3) := by decide +kernel
theorem dX2_chooseSpot_93 : decode cX2_chooseSpot 93 = .ok (.aload_n 1, 1) := by decide +kernel
theorem dX2_chooseSpot_94 : decode cX2_chooseSpot 94 = .ok (.iload 8, 2) := by decide +kernel
theorem dX2_chooseSpot_96 : decode cX2_chooseSpot 96 = .ok (.aload 5, 2) := by decide +kernel
theorem dX2_chooseSpot_98 : decode cX2_chooseSpot 98 = .ok (.getfield 126, 3) := by decide +kernel
theorem dX2_chooseSpot_101 : decode cX2_chooseSpot 101 = .ok (.invokestatic 132, 3) := by decide +kernel
theorem dX2_chooseSpot_104 : decode cX2_chooseSpot 104 = .ok (.goto 4, 3) := by decide +kernel
theorem dX2_chooseSpot_107 : decode cX2_chooseSpot 107 = .ok (.iconst (-1), 1) := by decide +kernel
theorem dX2_chooseSpot_108 : decode cX2_chooseSpot 108 = .ok (.ireturn, 1) := by decide +kernel
theorem dX2_askForBlocks_0 : decode cX2_askForBlocks 0 = .ok (.iconst 0, 1) := by decide +kernel
theorem dX2_askForBlocks_1 : decode cX2_askForBlocks 1 = .ok (.istore_n 2, 1) := by decide +kernel
theorem dX2_askForBlocks_2 : decode cX2_askForBlocks 2 = .ok (.iload_n 2, 1) := by decide +kernel
theorem dX2_askForBlocks_3 : decode cX2_askForBlocks 3 = .ok (.aload_n 1, 1) := by decide +kernel
theorem dX2_askForBlocks_4 : decode cX2_askForBlocks 4 = .ok (.getfield 116, 3) := by decide +kernel
theorem dX2_askForBlocks_7 : decode cX2_askForBlocks 7 = .ok (.if_icmp .ge 20, 3) := by decide +kernel
theorem dX2_askForBlocks_10 : decode cX2_askForBlocks 10 = .ok (.aload_n 0, 1) := by decide +kernel
theorem dX2_askForBlocks_11 : decode cX2_askForBlocks 11 = .ok (.getfield 15, 3) := by decide +kernel
theorem dX2_askForBlocks_14 : decode cX2_askForBlocks 14 = .ok (.iload_n 2, 1) := by decide +kernel
theorem dX2_askForBlocks_15 : decode cX2_askForBlocks 15 = .ok (.aload_n 1, 1) := by decide +kernel
theorem dX2_askForBlocks_16 : decode cX2_askForBlocks 16 = .ok (.iload_n 2, 1) := by decide +kernel
theorem dX2_askForBlocks_17 : decode cX2_askForBlocks 17 = .ok (.invokevirtual 119, 3) := by decide +kernel
theorem dX2_askForBlocks_20 : decode cX2_askForBlocks 20 = .ok (.iastore, 1) := by decide +kernel
theorem dX2_askForBlocks_21 : decode cX2_askForBlocks 21 = .ok (.iinc 2 1, 3) := by decide +kernel
theorem dX2_askForBlocks_24 : decode cX2_askForBlocks 24 = .ok (.goto (-22), 3) := by decide +kernel
theorem dX2_askForBlocks_27 : decode cX2_askForBlocks 27 = .ok (.iconst 0, 1) := by decide +kernel
theorem dX2_askForBlocks_28 : decode cX2_askForBlocks 28 = .ok (.istore_n 2, 1) := by decide +kernel
theorem dX2_askForBlocks_29 : decode cX2_askForBlocks 29 = .ok (.iload_n 2, 1) := by decide +kernel
theorem dX2_askForBlocks_30 : decode cX2_askForBlocks 30 = .ok (.aload_n 1, 1) := by decide +kernel
theorem dX2_askForBlocks_31 : decode cX2_askForBlocks 31 = .ok (.getfield 46, 3) := by decide +kernel
theorem dX2_askForBlocks_34 : decode cX2_askForBlocks 34 = .ok (.if_icmp .ge 86, 3) := by decide +kernel
theorem dX2_askForBlocks_37 : decode cX2_askForBlocks 37 = .ok (.iconst 0, 1) := by decide +kernel
theorem dX2_askForBlocks_38 : decode cX2_askForBlocks 38 = .ok (.istore_n 3, 1) := by decide +kernel
theorem dX2_askForBlocks_39 : decode cX2_askForBlocks 39 = .ok (.iconst 0, 1) := by decide +kernel
theorem dX2_askForBlocks_40 : decode cX2_askForBlocks 40 = .ok (.istore 4, 2) := by decide +kernel
theorem dX2_askForBlocks_42 : decode cX2_askForBlocks 42 = .ok (.iload 4, 2) := by decide +kernel
theorem dX2_askForBlocks_44 : decode cX2_askForBlocks 44 = .ok (.aload_n 1, 1) := by decide +kernel
theorem dX2_askForBlocks_45 : decode cX2_askForBlocks 45 = .ok (.getfield 46, 3) := by decide +kernel
theorem dX2_askForBlocks_48 : decode cX2_askForBlocks 48 = .ok (.if_icmp .ge 66, 3) := by decide +kernel
theorem dX2_askForBlocks_51 : decode cX2_askForBlocks 51 = .ok (.iconst (-1), 1) := by decide +kernel
theorem dX2_askForBlocks_52 : decode cX2_askForBlocks 52 = .ok (.istore 5, 2) := by decide +kernel
theorem dX2_askForBlocks_54 : decode cX2_askForBlocks 54 = .ok (.aload_n 1, 1) := by decide +kernel
theorem dX2_askForBlocks_55 : decode cX2_askForBlocks 55 = .ok (.getfield 53, 3) := by decide +kernel
theorem dX2_askForBlocks_58 : decode cX2_askForBlocks 58 = .ok (.iload 4, 2) := by decide +kernel
theorem dX2_askForBlocks_60 : decode cX2_askForBlocks 60 = .ok (.aaload, 1) := by decide +kernel
theorem dX2_askForBlocks_61 : decode cX2_askForBlocks 61 = .ok (.getfield 83, 3) := by decide +kernel
theorem dX2_askForBlocks_64 : decode cX2_askForBlocks 64 = .ok (.iload_n 2, 1) := by decide +kernel
theorem dX2_askForBlocks_65 : decode cX2_askForBlocks 65 = .ok (.ishr, 1) := by decide +kernel
theorem dX2_askForBlocks_66 : decode cX2_askForBlocks 66 = .ok (.iconst 1, 1) := by decide +kernel
theorem dX2_askForBlocks_67 : decode cX2_askForBlocks 67 = .ok (.iand, 1) := by decide +kernel
theorem dX2_askForBlocks_68 : decode cX2_askForBlocks 68 = .ok (.ifCond .eq 14, 3) := by decide +kernel
theorem dX2_askForBlocks_71 : decode cX2_askForBlocks 71 = .ok (.aload_n 0, 1) := by decide +kernel
theorem dX2_askForBlocks_72 : decode cX2_askForBlocks 72 = .ok (.aload_n 1, 1) := by decide +kernel
theorem dX2_askForBlocks_73 : decode cX2_askForBlocks 73 = .ok (.iload_n 2, 1) := by decide +kernel
theorem dX2_askForBlocks_74 : decode cX2_askForBlocks 74 = .ok (.iload 4, 2) := by decide +kernel
theorem dX2_askForBlocks_76 : decode cX2_askForBlocks 76 = .ok (.iload_n 3, 1) := by decide +kernel
theorem dX2_askForBlocks_77 : decode cX2_askForBlocks 77 = .ok (.invokevirtual 122, 3) := by decide +kernel
theorem dX2_askForBlocks_80 : decode cX2_askForBlocks 80 = .ok (.istore 5, 2) := by decide +kernel
theorem dX2_askForBlocks_82 : decode cX2_askForBlocks 82 = .ok (.iload 5, 2) := by decide +kernel
theorem dX2_askForBlocks_84 : decode cX2_askForBlocks 84 = .ok (.ifCond .lt 10, 3) := by decide +kernel
theorem dX2_askForBlocks_87 : decode cX2_askForBlocks 87 = .ok (.iload_n 3, 1) := by decide +kernel
theorem dX2_askForBlocks_88 : decode cX2_askForBlocks 88 = .ok (.iconst 1, 1) := by decide +kernel
theorem dX2_askForBlocks_89 : decode cX2_askForBlocks 89 = .ok (.iload 5, 2) := by decide +kernel
theorem dX2_askForBlocks_91 : decode cX2_askForBlocks 91 = .ok (.ishl, 1) := by decide +kernel
theorem dX2_askForBlocks_92 : decode cX2_askForBlocks 92 = .ok (.ior, 1) := by decide +kernel
theorem dX2_askForBlocks_93 : decode cX2_askForBlocks 93 = .ok (.istore_n 3, 1) := by decide +kernel
theorem dX2_askForBlocks_94 : decode cX2_askForBlocks 94 = .ok (.aload_n 0, 1) := by decide +kernel
theorem dX2_askForBlocks_95 : decode cX2_askForBlocks 95 = .ok (.getfield 18, 3) := by decide +kernel
theorem dX2_askForBlocks_98 : decode cX2_askForBlocks 98 = .ok (.iload 4, 2) := by decide +kernel
theorem dX2_askForBlocks_100 : decode cX2_askForBlocks 100 = .ok (.bipush 6, 2) := by decide +kernel
theorem dX2_askForBlocks_102 : decode cX2_askForBlocks 102 = .ok (.imul, 1) := by decide +kernel
theorem dX2_askForBlocks_103 : decode cX2_askForBlocks 103 = .ok (.iload_n 2, 1) := by decide +kernel
theorem dX2_askForBlocks_104 : decode cX2_askForBlocks 104 = .ok (.iadd, 1) := by decide +kernel
theorem dX2_askForBlocks_105 : decode cX2_askForBlocks 105 = .ok (.iload 5, 2) := by decide +kernel
theorem dX2_askForBlocks_107 : decode cX2_askForBlocks 107 = .ok (.iastore, 1) := by decide +kernel
theorem dX2_askForBlocks_108 : decode cX2_askForBlocks 108 = .ok (.iinc 4 1, 3) := by decide +kernel
theorem dX2_askForBlocks_111 : decode cX2_askForBlocks 111 = .ok (.goto (-69), 3) := by decide +kernel
theorem dX2_askForBlocks_114 : decode cX2_askForBlocks 114 = .ok (.iinc 2 1, 3) := by decide +kernel
theorem dX2_askForBlocks_117 : decode cX2_askForBlocks 117 = .ok (.goto (-88), 3) := by decide +kernel
theorem dX2_askForBlocks_120 : decode cX2_askForBlocks 120 = .ok (.return_, 1) := by decide +kernel
theorem dX2_suspectAll_0 : decode cX2_suspectAll 0 = .ok (.iload_n 2, 1) := by decide +kernel
theorem dX2_suspectAll_1 : decode cX2_suspectAll 1 = .ok (.iload_n 2, 1) := by decide +kernel
theorem dX2_suspectAll_2 : decode cX2_suspectAll 2 = .ok (.iconst 1, 1) := by decide +kernel
theorem dX2_suspectAll_3 : decode cX2_suspectAll 3 = .ok (.isub, 1) := by decide +kernel
theorem dX2_suspectAll_4 : decode cX2_suspectAll 4 = .ok (.iand, 1) := by decide +kernel
theorem dX2_suspectAll_5 : decode cX2_suspectAll 5 = .ok (.ifCond .ne 7, 3) := by decide +kernel
theorem dX2_suspectAll_8 : decode cX2_suspectAll 8 = .ok (.iconst 1, 1) := by decide +kernel
theorem dX2_suspectAll_9 : decode cX2_suspectAll 9 = .ok (.goto 4, 3) := by decide +kernel
theorem dX2_suspectAll_12 : decode cX2_suspectAll 12 = .ok (.iconst 0, 1) := by decide +kernel
theorem dX2_suspectAll_13 : decode cX2_suspectAll 13 = .ok (.istore_n 3, 1) := by decide +kernel
theorem dX2_suspectAll_14 : decode cX2_suspectAll 14 = .ok (.iconst 0, 1) := by decide +kernel
theorem dX2_suspectAll_15 : decode cX2_suspectAll 15 = .ok (.istore 4, 2) := by decide +kernel
theorem dX2_suspectAll_17 : decode cX2_suspectAll 17 = .ok (.iload 4, 2) := by decide +kernel
theorem dX2_suspectAll_19 : decode cX2_suspectAll 19 = .ok (.aload_n 0, 1) := by decide +kernel
theorem dX2_suspectAll_20 : decode cX2_suspectAll 20 = .ok (.getfield 46, 3) := by decide +kernel
theorem dX2_suspectAll_23 : decode cX2_suspectAll 23 = .ok (.if_icmp .ge 57, 3) := by decide +kernel
theorem dX2_suspectAll_26 : decode cX2_suspectAll 26 = .ok (.iload_n 2, 1) := by decide +kernel
theorem dX2_suspectAll_27 : decode cX2_suspectAll 27 = .ok (.iload 4, 2) := by decide +kernel
theorem dX2_suspectAll_29 : decode cX2_suspectAll 29 = .ok (.ishr, 1) := by decide +kernel
theorem dX2_suspectAll_30 : decode cX2_suspectAll 30 = .ok (.iconst 1, 1) := by decide +kernel
theorem dX2_suspectAll_31 : decode cX2_suspectAll 31 = .ok (.iand, 1) := by decide +kernel
theorem dX2_suspectAll_32 : decode cX2_suspectAll 32 = .ok (.ifCond .eq 42, 3) := by decide +kernel
theorem dX2_suspectAll_35 : decode cX2_suspectAll 35 = .ok (.aload_n 1, 1) := by decide +kernel
theorem dX2_suspectAll_36 : decode cX2_suspectAll 36 = .ok (.getfield 194, 3) := by decide +kernel
theorem dX2_suspectAll_39 : decode cX2_suspectAll 39 = .ok (.iload 4, 2) := by decide +kernel
theorem dX2_suspectAll_41 : decode cX2_suspectAll 41 = .ok (.dup2, 1) := by decide +kernel
theorem dX2_suspectAll_42 : decode cX2_suspectAll 42 = .ok (.iaload, 1) := by decide +kernel
theorem dX2_suspectAll_43 : decode cX2_suspectAll 43 = .ok (.iconst 1, 1) := by decide +kernel
theorem dX2_suspectAll_44 : decode cX2_suspectAll 44 = .ok (.iadd, 1) := by decide +kernel
theorem dX2_suspectAll_45 : decode cX2_suspectAll 45 = .ok (.iastore, 1) := by decide +kernel
theorem dX2_suspectAll_46 : decode cX2_suspectAll 46 = .ok (.iload_n 3, 1) := by decide +kernel
theorem dX2_suspectAll_47 : decode cX2_suspectAll 47 = .ok (.ifCond .ne 14, 3) := by decide +kernel
theorem dX2_suspectAll_50 : decode cX2_suspectAll 50 = .ok (.aload_n 1, 1) := by decide +kernel
theorem dX2_suspectAll_51 : decode cX2_suspectAll 51 = .ok (.getfield 194, 3) := by decide +kernel
theorem dX2_suspectAll_54 : decode cX2_suspectAll 54 = .ok (.iload 4, 2) := by decide +kernel
theorem dX2_suspectAll_56 : decode cX2_suspectAll 56 = .ok (.iaload, 1) := by decide +kernel
theorem dX2_suspectAll_57 : decode cX2_suspectAll 57 = .ok (.iconst 2, 1) := by decide +kernel
theorem dX2_suspectAll_58 : decode cX2_suspectAll 58 = .ok (.if_icmp .lt 16, 3) := by decide +kernel
theorem dX2_suspectAll_61 : decode cX2_suspectAll 61 = .ok (.aload_n 1, 1) := by decide +kernel
theorem dX2_suspectAll_62 : decode cX2_suspectAll 62 = .ok (.dup, 1) := by decide +kernel
theorem dX2_suspectAll_63 : decode cX2_suspectAll 63 = .ok (.getfield 62, 3) := by decide +kernel
theorem dX2_suspectAll_66 : decode cX2_suspectAll 66 = .ok (.iconst 1, 1) := by decide +kernel
theorem dX2_suspectAll_67 : decode cX2_suspectAll 67 = .ok (.iload 4, 2) := by decide +kernel
theorem dX2_suspectAll_69 : decode cX2_suspectAll 69 = .ok (.ishl, 1) := by decide +kernel
theorem dX2_suspectAll_70 : decode cX2_suspectAll 70 = .ok (.ior, 1) := by decide +kernel
theorem dX2_suspectAll_71 : decode cX2_suspectAll 71 = .ok (.putfield 62, 3) := by decide +kernel
theorem dX2_suspectAll_74 : decode cX2_suspectAll 74 = .ok (.iinc 4 1, 3) := by decide +kernel
theorem dX2_suspectAll_77 : decode cX2_suspectAll 77 = .ok (.goto (-60), 3) := by decide +kernel
theorem dX2_suspectAll_80 : decode cX2_suspectAll 80 = .ok (.return_, 1) := by decide +kernel
theorem dX2_lookAt_0 : decode cX2_lookAt 0 = .ok (.iconst 0, 1) := by decide +kernel
theorem dX2_lookAt_1 : decode cX2_lookAt 1 = .ok (.istore_n 3, 1) := by decide +kernel
theorem dX2_lookAt_2 : decode cX2_lookAt 2 = .ok (.iconst 1, 1) := by decide +kernel
theorem dX2_lookAt_3 : decode cX2_lookAt 3 = .ok (.istore 4, 2) := by decide +kernel
theorem dX2_lookAt_5 : decode cX2_lookAt 5 = .ok (.iconst 0, 1) := by decide +kernel
theorem dX2_lookAt_6 : decode cX2_lookAt 6 = .ok (.istore 5, 2) := by decide +kernel
theorem dX2_lookAt_8 : decode cX2_lookAt 8 = .ok (.iload 5, 2) := by decide +kernel
theorem dX2_lookAt_10 : decode cX2_lookAt 10 = .ok (.aload_n 0, 1) := by decide +kernel
theorem dX2_lookAt_11 : decode cX2_lookAt 11 = .ok (.getfield 148, 3) := by decide +kernel
theorem dX2_lookAt_14 : decode cX2_lookAt 14 = .ok (.if_icmp .ge 55, 3) := by decide +kernel
theorem dX2_lookAt_17 : decode cX2_lookAt 17 = .ok (.aload_n 1, 1) := by decide +kernel
theorem dX2_lookAt_18 : decode cX2_lookAt 18 = .ok (.getfield 177, 3) := by decide +kernel
theorem dX2_lookAt_21 : decode cX2_lookAt 21 = .ok (.iload_n 2, 1) := by decide +kernel
theorem dX2_lookAt_22 : decode cX2_lookAt 22 = .ok (.iconst 4, 1) := by decide +kernel
theorem dX2_lookAt_23 : decode cX2_lookAt 23 = .ok (.imul, 1) := by decide +kernel
theorem dX2_lookAt_24 : decode cX2_lookAt 24 = .ok (.iload 5, 2) := by decide +kernel
theorem dX2_lookAt_26 : decode cX2_lookAt 26 = .ok (.iadd, 1) := by decide +kernel
theorem dX2_lookAt_27 : decode cX2_lookAt 27 = .ok (.iaload, 1) := by decide +kernel
theorem dX2_lookAt_28 : decode cX2_lookAt 28 = .ok (.istore 6, 2) := by decide +kernel
theorem dX2_lookAt_30 : decode cX2_lookAt 30 = .ok (.iload_n 3, 1) := by decide +kernel
theorem dX2_lookAt_31 : decode cX2_lookAt 31 = .ok (.iconst 1, 1) := by decide +kernel
theorem dX2_lookAt_32 : decode cX2_lookAt 32 = .ok (.iload 6, 2) := by decide +kernel
theorem dX2_lookAt_34 : decode cX2_lookAt 34 = .ok (.ishl, 1) := by decide +kernel
theorem dX2_lookAt_35 : decode cX2_lookAt 35 = .ok (.ior, 1) := by decide +kernel
theorem dX2_lookAt_36 : decode cX2_lookAt 36 = .ok (.istore_n 3, 1) := by decide +kernel
theorem dX2_lookAt_37 : decode cX2_lookAt 37 = .ok (.iload 4, 2) := by decide +kernel
theorem dX2_lookAt_39 : decode cX2_lookAt 39 = .ok (.ifCond .eq 21, 3) := by decide +kernel
theorem dX2_lookAt_42 : decode cX2_lookAt 42 = .ok (.aload_n 0, 1) := by decide +kernel
theorem dX2_lookAt_43 : decode cX2_lookAt 43 = .ok (.getfield 53, 3) := by decide +kernel
theorem dX2_lookAt_46 : decode cX2_lookAt 46 = .ok (.iload 6, 2) := by decide +kernel
theorem dX2_lookAt_48 : decode cX2_lookAt 48 = .ok (.aaload, 1) := by decide +kernel
theorem dX2_lookAt_49 : decode cX2_lookAt 49 = .ok (.getfield 57, 3) := by decide +kernel
theorem dX2_lookAt_52 : decode cX2_lookAt 52 = .ok (.iconst 2, 1) := by decide +kernel
theorem dX2_lookAt_53 : decode cX2_lookAt 53 = .ok (.if_icmp .eq 7, 3) := by decide +kernel
theorem dX2_lookAt_56 : decode cX2_lookAt 56 = .ok (.iconst 1, 1) := by decide +kernel
theorem dX2_lookAt_57 : decode cX2_lookAt 57 = .ok (.goto 4, 3) := by decide +kernel
theorem dX2_lookAt_60 : decode cX2_lookAt 60 = .ok (.iconst 0, 1) := by decide +kernel
theorem dX2_lookAt_61 : decode cX2_lookAt 61 = .ok (.istore 4, 2) := by decide +kernel
theorem dX2_lookAt_63 : decode cX2_lookAt 63 = .ok (.iinc 5 1, 3) := by decide +kernel
theorem dX2_lookAt_66 : decode cX2_lookAt 66 = .ok (.goto (-58), 3) := by decide +kernel
theorem dX2_lookAt_69 : decode cX2_lookAt 69 = .ok (.aload_n 1, 1) := by decide +kernel
theorem dX2_lookAt_70 : decode cX2_lookAt 70 = .ok (.iload_n 2, 1) := by decide +kernel
theorem dX2_lookAt_71 : decode cX2_lookAt 71 = .ok (.invokevirtual 184, 3) := by decide +kernel
theorem dX2_lookAt_74 : decode cX2_lookAt 74 = .ok (.iload 4, 2) := by decide +kernel
theorem dX2_lookAt_76 : decode cX2_lookAt 76 = .ok (.ifCond .eq 18, 3) := by decide +kernel
theorem dX2_lookAt_79 : decode cX2_lookAt 79 = .ok (.aload_n 1, 1) := by decide +kernel
theorem dX2_lookAt_80 : decode cX2_lookAt 80 = .ok (.dup, 1) := by decide +kernel
theorem dX2_lookAt_81 : decode cX2_lookAt 81 = .ok (.getfield 69, 3) := by decide +kernel
theorem dX2_lookAt_84 : decode cX2_lookAt 84 = .ok (.iconst 1, 1) := by decide +kernel
theorem dX2_lookAt_85 : decode cX2_lookAt 85 = .ok (.iload_n 2, 1) := by decide +kernel
theorem dX2_lookAt_86 : decode cX2_lookAt 86 = .ok (.ishl, 1) := by decide +kernel
theorem dX2_lookAt_87 : decode cX2_lookAt 87 = .ok (.ior, 1) := by decide +kernel
theorem dX2_lookAt_88 : decode cX2_lookAt 88 = .ok (.putfield 69, 3) := by decide +kernel
theorem dX2_lookAt_91 : decode cX2_lookAt 91 = .ok (.goto 19, 3) := by decide +kernel
theorem dX2_lookAt_94 : decode cX2_lookAt 94 = .ok (.aload_n 0, 1) := by decide +kernel
theorem dX2_lookAt_95 : decode cX2_lookAt 95 = .ok (.dup, 1) := by decide +kernel
theorem dX2_lookAt_96 : decode cX2_lookAt 96 = .ok (.getfield 188, 3) := by decide +kernel
theorem dX2_lookAt_99 : decode cX2_lookAt 99 = .ok (.iconst 1, 1) := by decide +kernel
theorem dX2_lookAt_100 : decode cX2_lookAt 100 = .ok (.iadd, 1) := by decide +kernel
theorem dX2_lookAt_101 : decode cX2_lookAt 101 = .ok (.putfield 188, 3) := by decide +kernel
theorem dX2_lookAt_104 : decode cX2_lookAt 104 = .ok (.aload_n 0, 1) := by decide +kernel
theorem dX2_lookAt_105 : decode cX2_lookAt 105 = .ok (.aload_n 1, 1) := by decide +kernel
theorem dX2_lookAt_106 : decode cX2_lookAt 106 = .ok (.iload_n 3, 1) := by decide +kernel
theorem dX2_lookAt_107 : decode cX2_lookAt 107 = .ok (.invokestatic 191, 3) := by decide +kernel
theorem dX2_lookAt_110 : decode cX2_lookAt 110 = .ok (.return_, 1) := by decide +kernel
theorem dX2_sendOne_0 : decode cX2_sendOne 0 = .ok (.aload_n 1, 1) := by decide +kernel
theorem dX2_sendOne_1 : decode cX2_sendOne 1 = .ok (.getfield 53, 3) := by decide +kernel
theorem dX2_sendOne_4 : decode cX2_sendOne 4 = .ok (.iload_n 2, 1) := by decide +kernel
theorem dX2_sendOne_5 : decode cX2_sendOne 5 = .ok (.aaload, 1) := by decide +kernel
theorem dX2_sendOne_6 : decode cX2_sendOne 6 = .ok (.astore 5, 2) := by decide +kernel
theorem dX2_sendOne_8 : decode cX2_sendOne 8 = .ok (.aload_n 1, 1) := by decide +kernel
theorem dX2_sendOne_9 : decode cX2_sendOne 9 = .ok (.getfield 53, 3) := by decide +kernel
theorem dX2_sendOne_12 : decode cX2_sendOne 12 = .ok (.iload_n 3, 1) := by decide +kernel
theorem dX2_sendOne_13 : decode cX2_sendOne 13 = .ok (.aaload, 1) := by decide +kernel
theorem dX2_sendOne_14 : decode cX2_sendOne 14 = .ok (.astore 6, 2) := by decide +kernel
theorem dX2_sendOne_16 : decode cX2_sendOne 16 = .ok (.iload 4, 2) := by decide +kernel
theorem dX2_sendOne_18 : decode cX2_sendOne 18 = .ok (.iconst 4, 1) := by decide +kernel
theorem dX2_sendOne_19 : decode cX2_sendOne 19 = .ok (.idiv, 1) := by decide +kernel
theorem dX2_sendOne_20 : decode cX2_sendOne 20 = .ok (.istore 7, 2) := by decide +kernel
theorem dX2_sendOne_22 : decode cX2_sendOne 22 = .ok (.aload 5, 2) := by decide +kernel
theorem dX2_sendOne_24 : decode cX2_sendOne 24 = .ok (.dup, 1) := by decide +kernel
theorem dX2_sendOne_25 : decode cX2_sendOne 25 = .ok (.getfield 168, 3) := by decide +kernel
theorem dX2_sendOne_28 : decode cX2_sendOne 28 = .ok (.iconst 1, 1) := by decide +kernel
theorem dX2_sendOne_29 : decode cX2_sendOne 29 = .ok (.iadd, 1) := by decide +kernel
theorem dX2_sendOne_30 : decode cX2_sendOne 30 = .ok (.putfield 168, 3) := by decide +kernel
theorem dX2_sendOne_33 : decode cX2_sendOne 33 = .ok (.aload 5, 2) := by decide +kernel
theorem dX2_sendOne_35 : decode cX2_sendOne 35 = .ok (.getfield 57, 3) := by decide +kernel
theorem dX2_sendOne_38 : decode cX2_sendOne 38 = .ok (.iconst 2, 1) := by decide +kernel
theorem dX2_sendOne_39 : decode cX2_sendOne 39 = .ok (.if_icmp .ne 13, 3) := by decide +kernel
theorem dX2_sendOne_42 : decode cX2_sendOne 42 = .ok (.aload_n 1, 1) := by decide +kernel
theorem dX2_sendOne_43 : decode cX2_sendOne 43 = .ok (.dup, 1) := by decide +kernel
theorem dX2_sendOne_44 : decode cX2_sendOne 44 = .ok (.getfield 171, 3) := by decide +kernel
theorem dX2_sendOne_47 : decode cX2_sendOne 47 = .ok (.iconst 1, 1) := by decide +kernel
theorem dX2_sendOne_48 : decode cX2_sendOne 48 = .ok (.iadd, 1) := by decide +kernel
theorem dX2_sendOne_49 : decode cX2_sendOne 49 = .ok (.putfield 171, 3) := by decide +kernel
theorem dX2_sendOne_52 : decode cX2_sendOne 52 = .ok (.aload 6, 2) := by decide +kernel
theorem dX2_sendOne_54 : decode cX2_sendOne 54 = .ok (.dup, 1) := by decide +kernel
theorem dX2_sendOne_55 : decode cX2_sendOne 55 = .ok (.getfield 174, 3) := by decide +kernel
theorem dX2_sendOne_58 : decode cX2_sendOne 58 = .ok (.iconst 1, 1) := by decide +kernel
theorem dX2_sendOne_59 : decode cX2_sendOne 59 = .ok (.iadd, 1) := by decide +kernel
theorem dX2_sendOne_60 : decode cX2_sendOne 60 = .ok (.putfield 174, 3) := by decide +kernel
theorem dX2_sendOne_63 : decode cX2_sendOne 63 = .ok (.aload 6, 2) := by decide +kernel
theorem dX2_sendOne_65 : decode cX2_sendOne 65 = .ok (.dup, 1) := by decide +kernel
theorem dX2_sendOne_66 : decode cX2_sendOne 66 = .ok (.getfield 126, 3) := by decide +kernel
theorem dX2_sendOne_69 : decode cX2_sendOne 69 = .ok (.iconst 1, 1) := by decide +kernel
theorem dX2_sendOne_70 : decode cX2_sendOne 70 = .ok (.iload 4, 2) := by decide +kernel
theorem dX2_sendOne_72 : decode cX2_sendOne 72 = .ok (.ishl, 1) := by decide +kernel
theorem dX2_sendOne_73 : decode cX2_sendOne 73 = .ok (.ior, 1) := by decide +kernel
theorem dX2_sendOne_74 : decode cX2_sendOne 74 = .ok (.putfield 126, 3) := by decide +kernel
theorem dX2_sendOne_77 : decode cX2_sendOne 77 = .ok (.aload 6, 2) := by decide +kernel
theorem dX2_sendOne_79 : decode cX2_sendOne 79 = .ok (.getfield 177, 3) := by decide +kernel
theorem dX2_sendOne_82 : decode cX2_sendOne 82 = .ok (.iload 4, 2) := by decide +kernel
theorem dX2_sendOne_84 : decode cX2_sendOne 84 = .ok (.iload_n 2, 1) := by decide +kernel
theorem dX2_sendOne_85 : decode cX2_sendOne 85 = .ok (.iastore, 1) := by decide +kernel
theorem dX2_sendOne_86 : decode cX2_sendOne 86 = .ok (.aload_n 0, 1) := by decide +kernel
theorem dX2_sendOne_87 : decode cX2_sendOne 87 = .ok (.getfield 21, 3) := by decide +kernel
theorem dX2_sendOne_90 : decode cX2_sendOne 90 = .ok (.iload_n 3, 1) := by decide +kernel
theorem dX2_sendOne_91 : decode cX2_sendOne 91 = .ok (.bipush 6, 2) := by decide +kernel
theorem dX2_sendOne_93 : decode cX2_sendOne 93 = .ok (.imul, 1) := by decide +kernel
theorem dX2_sendOne_94 : decode cX2_sendOne 94 = .ok (.iload_n 2, 1) := by decide +kernel
theorem dX2_sendOne_95 : decode cX2_sendOne 95 = .ok (.iadd, 1) := by decide +kernel
theorem dX2_sendOne_96 : decode cX2_sendOne 96 = .ok (.dup2, 1) := by decide +kernel
theorem dX2_sendOne_97 : decode cX2_sendOne 97 = .ok (.iaload, 1) := by decide +kernel
theorem dX2_sendOne_98 : decode cX2_sendOne 98 = .ok (.iconst 1, 1) := by decide +kernel
theorem dX2_sendOne_99 : decode cX2_sendOne 99 = .ok (.iadd, 1) := by decide +kernel
theorem dX2_sendOne_100 : decode cX2_sendOne 100 = .ok (.iastore, 1) := by decide +kernel
theorem dX2_sendOne_101 : decode cX2_sendOne 101 = .ok (.aload_n 1, 1) := by decide +kernel
theorem dX2_sendOne_102 : decode cX2_sendOne 102 = .ok (.iload 7, 2) := by decide +kernel
theorem dX2_sendOne_104 : decode cX2_sendOne 104 = .ok (.aload 6, 2) := by decide +kernel
theorem dX2_sendOne_106 : decode cX2_sendOne 106 = .ok (.getfield 126, 3) := by decide +kernel
theorem dX2_sendOne_109 : decode cX2_sendOne 109 = .ok (.invokestatic 142, 3) := by decide +kernel
theorem dX2_sendOne_112 : decode cX2_sendOne 112 = .ok (.ifCond .ne 11, 3) := by decide +kernel
theorem dX2_sendOne_115 : decode cX2_sendOne 115 = .ok (.aload_n 1, 1) := by decide +kernel
theorem dX2_sendOne_116 : decode cX2_sendOne 116 = .ok (.aload 6, 2) := by decide +kernel
theorem dX2_sendOne_118 : decode cX2_sendOne 118 = .ok (.iload 7, 2) := by decide +kernel
theorem dX2_sendOne_120 : decode cX2_sendOne 120 = .ok (.invokestatic 180, 3) := by decide +kernel
theorem dX2_sendOne_123 : decode cX2_sendOne 123 = .ok (.return_, 1) := by decide +kernel
