theorem dX6_isFree_0 : decode cX6_isFree 0 = .ok (.aload_n 0, 1) := by decide +kernel
theorem dX6_isFree_1 : decode cX6_isFree 1 = .ok (.iload_n 1, 1) := by decide +kernel
theorem dX6_isFree_2 : decode cX6_isFree 2 = .ok (.iload_n 2, 1) := by decide +kernel
theorem dX6_isFree_3 : decode cX6_isFree 3 = .ok (.iload_n 3, 1) := by decide +kernel
theorem dX6_isFree_4 : decode cX6_isFree 4 = .ok (.invokevirtual 90, 3) := by decide +kernel
theorem dX6_isFree_7 : decode cX6_isFree 7 = .ok (.iconst (-1), 1) := by decide +kernel
theorem dX6_isFree_8 : decode cX6_isFree 8 = .ok (.if_icmp .ne 20, 3) := by decide +kernel
theorem dX6_isFree_11 : decode cX6_isFree 11 = .ok (.aload_n 0, 1) := by decide +kernel
theorem dX6_isFree_12 : decode cX6_isFree 12 = .ok (.getfield 33, 3) := by decide +kernel
theorem dX6_isFree_15 : decode cX6_isFree 15 = .ok (.iconst 4, 1) := by decide +kernel
theorem dX6_isFree_16 : decode cX6_isFree 16 = .ok (.iload_n 2, 1) := by decide +kernel
theorem dX6_isFree_17 : decode cX6_isFree 17 = .ok (.imul, 1) := by decide +kernel
theorem dX6_isFree_18 : decode cX6_isFree 18 = .ok (.iload_n 3, 1) := by decide +kernel
theorem dX6_isFree_19 : decode cX6_isFree 19 = .ok (.iadd, 1) := by decide +kernel
theorem dX6_isFree_20 : decode cX6_isFree 20 = .ok (.baload, 1) := by decide +kernel
theorem dX6_isFree_21 : decode cX6_isFree 21 = .ok (.ifCond .ne 7, 3) := by decide +kernel
theorem dX6_isFree_24 : decode cX6_isFree 24 = .ok (.iconst 1, 1) := by decide +kernel
theorem dX6_isFree_25 : decode cX6_isFree 25 = .ok (.goto 4, 3) := by decide +kernel
theorem dX6_isFree_28 : decode cX6_isFree 28 = .ok (.iconst 0, 1) := by decide +kernel
theorem dX6_isFree_29 : decode cX6_isFree 29 = .ok (.ireturn, 1) := by decide +kernel
theorem dX6_freeBlock_0 : decode cX6_freeBlock 0 = .ok (.iconst (-1), 1) := by decide +kernel
theorem dX6_freeBlock_1 : decode cX6_freeBlock 1 = .ok (.istore_n 3, 1) := by decide +kernel
theorem dX6_freeBlock_2 : decode cX6_freeBlock 2 = .ok (.aload_n 0, 1) := by decide +kernel
theorem dX6_freeBlock_3 : decode cX6_freeBlock 3 = .ok (.getfield 13, 3) := by decide +kernel
theorem dX6_freeBlock_6 : decode cX6_freeBlock 6 = .ok (.iconst 2, 1) := by decide +kernel
theorem dX6_freeBlock_7 : decode cX6_freeBlock 7 = .ok (.iaload, 1) := by decide +kernel
theorem dX6_freeBlock_8 : decode cX6_freeBlock 8 = .ok (.iconst 1, 1) := by decide +kernel
theorem dX6_freeBlock_9 : decode cX6_freeBlock 9 = .ok (.isub, 1) := by decide +kernel
theorem dX6_freeBlock_10 : decode cX6_freeBlock 10 = .ok (.istore 4, 2) := by decide +kernel
theorem dX6_freeBlock_12 : decode cX6_freeBlock 12 = .ok (.iload 4, 2) := by decide +kernel
theorem dX6_freeBlock_14 : decode cX6_freeBlock 14 = .ok (.ifCond .lt 27, 3) := by decide +kernel
theorem dX6_freeBlock_17 : decode cX6_freeBlock 17 = .ok (.aload_n 0, 1) := by decide +kernel
theorem dX6_freeBlock_18 : decode cX6_freeBlock 18 = .ok (.iload_n 1, 1) := by decide +kernel
theorem dX6_freeBlock_19 : decode cX6_freeBlock 19 = .ok (.iload_n 2, 1) := by decide +kernel
theorem dX6_freeBlock_20 : decode cX6_freeBlock 20 = .ok (.iload 4, 2) := by decide +kernel
theorem dX6_freeBlock_22 : decode cX6_freeBlock 22 = .ok (.invokevirtual 124, 3) := by decide +kernel
theorem dX6_freeBlock_25 : decode cX6_freeBlock 25 = .ok (.ifCond .eq 8, 3) := by decide +kernel
theorem dX6_freeBlock_28 : decode cX6_freeBlock 28 = .ok (.iload 4, 2) := by decide +kernel
theorem dX6_freeBlock_30 : decode cX6_freeBlock 30 = .ok (.goto 4, 3) := by decide +kernel
theorem dX6_freeBlock_33 : decode cX6_freeBlock 33 = .ok (.iload_n 3, 1) := by decide +kernel
theorem dX6_freeBlock_34 : decode cX6_freeBlock 34 = .ok (.istore_n 3, 1) := by decide +kernel
theorem dX6_freeBlock_35 : decode cX6_freeBlock 35 = .ok (.iinc 4 (-1), 3) := by decide +kernel
theorem dX6_freeBlock_38 : decode cX6_freeBlock 38 = .ok (.goto (-26), 3) := by decide +kernel
theorem dX6_freeBlock_41 : decode cX6_freeBlock 41 = .ok (.iload_n 3, 1) := by decide +kernel
theorem dX6_freeBlock_42 : decode cX6_freeBlock 42 = .ok (.ireturn, 1) := by decide +kernel
theorem dX6_isStarted_0 : decode cX6_isStarted 0 = .ok (.iconst 0, 1) := by decide +kernel
theorem dX6_isStarted_1 : decode cX6_isStarted 1 = .ok (.istore_n 3, 1) := by decide +kernel
theorem dX6_isStarted_2 : decode cX6_isStarted 2 = .ok (.iconst 0, 1) := by decide +kernel
theorem dX6_isStarted_3 : decode cX6_isStarted 3 = .ok (.istore 4, 2) := by decide +kernel
theorem dX6_isStarted_5 : decode cX6_isStarted 5 = .ok (.iload 4, 2) := by decide +kernel
theorem dX6_isStarted_7 : decode cX6_isStarted 7 = .ok (.aload_n 0, 1) := by decide +kernel
theorem dX6_isStarted_8 : decode cX6_isStarted 8 = .ok (.getfield 13, 3) := by decide +kernel
theorem dX6_isStarted_11 : decode cX6_isStarted 11 = .ok (.iconst 2, 1) := by decide +kernel
theorem dX6_isStarted_12 : decode cX6_isStarted 12 = .ok (.iaload, 1) := by decide +kernel
theorem dX6_isStarted_13 : decode cX6_isStarted 13 = .ok (.if_icmp .ge 45, 3) := by decide +kernel
theorem dX6_isStarted_16 : decode cX6_isStarted 16 = .ok (.iload_n 3, 1) := by decide +kernel
theorem dX6_isStarted_17 : decode cX6_isStarted 17 = .ok (.ifCond .ne 29, 3) := by decide +kernel
theorem dX6_isStarted_20 : decode cX6_isStarted 20 = .ok (.aload_n 0, 1) := by decide +kernel
theorem dX6_isStarted_21 : decode cX6_isStarted 21 = .ok (.iload_n 1, 1) := by decide +kernel
theorem dX6_isStarted_22 : decode cX6_isStarted 22 = .ok (.iload_n 2, 1) := by decide +kernel
theorem dX6_isStarted_23 : decode cX6_isStarted 23 = .ok (.iload 4, 2) := by decide +kernel
theorem dX6_isStarted_25 : decode cX6_isStarted 25 = .ok (.invokevirtual 90, 3) := by decide +kernel
theorem dX6_isStarted_28 : decode cX6_isStarted 28 = .ok (.iconst (-1), 1) := by decide +kernel
theorem dX6_isStarted_29 : decode cX6_isStarted 29 = .ok (.if_icmp .ne 17, 3) := by decide +kernel
theorem dX6_isStarted_32 : decode cX6_isStarted 32 = .ok (.aload_n 0, 1) := by decide +kernel
theorem dX6_isStarted_33 : decode cX6_isStarted 33 = .ok (.getfield 33, 3) := by decide +kernel
theorem dX6_isStarted_36 : decode cX6_isStarted 36 = .ok (.iconst 4, 1) := by decide +kernel
theorem dX6_isStarted_37 : decode cX6_isStarted 37 = .ok (.iload_n 2, 1) := by decide +kernel
theorem dX6_isStarted_38 : decode cX6_isStarted 38 = .ok (.imul, 1) := by decide +kernel
theorem dX6_isStarted_39 : decode cX6_isStarted 39 = .ok (.iload 4, 2) := by decide +kernel
theorem dX6_isStarted_41 : decode cX6_isStarted 41 = .ok (.iadd, 1) := by decide +kernel
theorem dX6_isStarted_42 : decode cX6_isStarted 42 = .ok (.baload, 1) := by decide +kernel
theorem dX6_isStarted_43 : decode cX6_isStarted 43 = .ok (.ifCond .eq 7, 3) := by decide +kernel
theorem dX6_isStarted_46 : decode cX6_isStarted 46 = .ok (.iconst 1, 1) := by decide +kernel
theorem dX6_isStarted_47 : decode cX6_isStarted 47 = .ok (.goto 4, 3) := by decide +kernel
theorem dX6_isStarted_50 : decode cX6_isStarted 50 = .ok (.iconst 0, 1) := by decide +kernel
theorem dX6_isStarted_51 : decode cX6_isStarted 51 = .ok (.istore_n 3, 1) := by decide +kernel
theorem dX6_isStarted_52 : decode cX6_isStarted 52 = .ok (.iinc 4 1, 3) := by decide +kernel
theorem dX6_isStarted_55 : decode cX6_isStarted 55 = .ok (.goto (-50), 3) := by decide +kernel
theorem dX6_isStarted_58 : decode cX6_isStarted 58 = .ok (.iload_n 3, 1) := by decide +kernel
theorem dX6_isStarted_59 : decode cX6_isStarted 59 = .ok (.ireturn, 1) := by decide +kernel
theorem dX6_isSooner_0 : decode cX6_isSooner 0 = .ok (.aload_n 0, 1) := by decide +kernel
theorem dX6_isSooner_1 : decode cX6_isSooner 1 = .ok (.iload_n 1, 1) := by decide +kernel
theorem dX6_isSooner_2 : decode cX6_isSooner 2 = .ok (.iload_n 2, 1) := by decide +kernel
theorem dX6_isSooner_3 : decode cX6_isSooner 3 = .ok (.invokevirtual 127, 3) := by decide +kernel
theorem dX6_isSooner_6 : decode cX6_isSooner 6 = .ok (.istore 4, 2) := by decide +kernel
theorem dX6_isSooner_8 : decode cX6_isSooner 8 = .ok (.aload_n 0, 1) := by decide +kernel
theorem dX6_isSooner_9 : decode cX6_isSooner 9 = .ok (.iload_n 1, 1) := by decide +kernel
theorem dX6_isSooner_10 : decode cX6_isSooner 10 = .ok (.iload_n 3, 1) := by decide +kernel
theorem dX6_isSooner_11 : decode cX6_isSooner 11 = .ok (.invokevirtual 127, 3) := by decide +kernel
theorem dX6_isSooner_14 : decode cX6_isSooner 14 = .ok (.istore 5, 2) := by decide +kernel
theorem dX6_isSooner_16 : decode cX6_isSooner 16 = .ok (.iload 4, 2) := by decide +kernel
theorem dX6_isSooner_18 : decode cX6_isSooner 18 = .ok (.iload 5, 2) := by decide +kernel
theorem dX6_isSooner_20 : decode cX6_isSooner 20 = .ok (.if_icmp .eq 8, 3) := by decide +kernel
theorem dX6_isSooner_23 : decode cX6_isSooner 23 = .ok (.iload 4, 2) := by decide +kernel
theorem dX6_isSooner_25 : decode cX6_isSooner 25 = .ok (.goto 21, 3) := by decide +kernel
theorem dX6_isSooner_28 : decode cX6_isSooner 28 = .ok (.aload_n 0, 1) := by decide +kernel
theorem dX6_isSooner_29 : decode cX6_isSooner 29 = .ok (.iload_n 2, 1) := by decide +kernel
theorem dX6_isSooner_30 : decode cX6_isSooner 30 = .ok (.invokevirtual 130, 3) := by decide +kernel
theorem dX6_isSooner_33 : decode cX6_isSooner 33 = .ok (.aload_n 0, 1) := by decide +kernel
theorem dX6_isSooner_34 : decode cX6_isSooner 34 = .ok (.iload_n 3, 1) := by decide +kernel
theorem dX6_isSooner_35 : decode cX6_isSooner 35 = .ok (.invokevirtual 130, 3) := by decide +kernel
theorem dX6_isSooner_38 : decode cX6_isSooner 38 = .ok (.if_icmp .ge 7, 3) := by decide +kernel
theorem dX6_isSooner_41 : decode cX6_isSooner 41 = .ok (.iconst 1, 1) := by decide +kernel
theorem dX6_isSooner_42 : decode cX6_isSooner 42 = .ok (.goto 4, 3) := by decide +kernel
theorem dX6_isSooner_45 : decode cX6_isSooner 45 = .ok (.iconst 0, 1) := by decide +kernel
theorem dX6_isSooner_46 : decode cX6_isSooner 46 = .ok (.ireturn, 1) := by decide +kernel
theorem dX6_lastBlock_0 : decode cX6_lastBlock 0 = .ok (.iconst (-1), 1) := by decide +kernel
theorem dX6_lastBlock_1 : decode cX6_lastBlock 1 = .ok (.istore_n 3, 1) := by decide +kernel
theorem dX6_lastBlock_2 : decode cX6_lastBlock 2 = .ok (.iconst 4, 1) := by decide +kernel
theorem dX6_lastBlock_3 : decode cX6_lastBlock 3 = .ok (.aload_n 0, 1) := by decide +kernel
theorem dX6_lastBlock_4 : decode cX6_lastBlock 4 = .ok (.getfield 13, 3) := by decide +kernel
theorem dX6_lastBlock_7 : decode cX6_lastBlock 7 = .ok (.iconst 1, 1) := by decide +kernel
theorem dX6_lastBlock_8 : decode cX6_lastBlock 8 = .ok (.iaload, 1) := by decide +kernel
theorem dX6_lastBlock_9 : decode cX6_lastBlock 9 = .ok (.imul, 1) := by decide +kernel
theorem dX6_lastBlock_10 : decode cX6_lastBlock 10 = .ok (.iconst 1, 1) := by decide +kernel
theorem dX6_lastBlock_11 : decode cX6_lastBlock 11 = .ok (.isub, 1) := by decide +kernel
theorem dX6_lastBlock_12 : decode cX6_lastBlock 12 = .ok (.istore 4, 2) := by decide +kernel
theorem dX6_lastBlock_14 : decode cX6_lastBlock 14 = .ok (.iload 4, 2) := by decide +kernel
theorem dX6_lastBlock_16 : decode cX6_lastBlock 16 = .ok (.ifCond .lt 88, 3) := by decide +kernel
theorem dX6_lastBlock_19 : decode cX6_lastBlock 19 = .ok (.iload 4, 2) := by decide +kernel
theorem dX6_lastBlock_21 : decode cX6_lastBlock 21 = .ok (.iconst 4, 1) := by decide +kernel
theorem dX6_lastBlock_22 : decode cX6_lastBlock 22 = .ok (.idiv, 1) := by decide +kernel
theorem dX6_lastBlock_23 : decode cX6_lastBlock 23 = .ok (.istore 5, 2) := by decide +kernel
theorem dX6_lastBlock_25 : decode cX6_lastBlock 25 = .ok (.iload 4, 2) := by decide +kernel
theorem dX6_lastBlock_27 : decode cX6_lastBlock 27 = .ok (.iconst 4, 1) := by decide +kernel
theorem dX6_lastBlock_28 : decode cX6_lastBlock 28 = .ok (.irem, 1) := by decide +kernel
theorem dX6_lastBlock_29 : decode cX6_lastBlock 29 = .ok (.istore 6, 2) := by decide +kernel
theorem dX6_lastBlock_31 : decode cX6_lastBlock 31 = .ok (.aload_n 0, 1) := by decide +kernel
theorem dX6_lastBlock_32 : decode cX6_lastBlock 32 = .ok (.iload_n 2, 1) := by decide +kernel
theorem dX6_lastBlock_33 : decode cX6_lastBlock 33 = .ok (.invokevirtual 83, 3) := by decide +kernel
theorem dX6_lastBlock_36 : decode cX6_lastBlock 36 = .ok (.iload 5, 2) := by decide +kernel
theorem dX6_lastBlock_38 : decode cX6_lastBlock 38 = .ok (.ishr, 1) := by decide +kernel
theorem dX6_lastBlock_39 : decode cX6_lastBlock 39 = .ok (.iconst 1, 1) := by decide +kernel
theorem dX6_lastBlock_40 : decode cX6_lastBlock 40 = .ok (.iand, 1) := by decide +kernel
theorem dX6_lastBlock_41 : decode cX6_lastBlock 41 = .ok (.iconst 1, 1) := by decide +kernel
theorem dX6_lastBlock_42 : decode cX6_lastBlock 42 = .ok (.if_icmp .ne 41, 3) := by decide +kernel
theorem dX6_lastBlock_45 : decode cX6_lastBlock 45 = .ok (.aload_n 0, 1) := by decide +kernel
theorem dX6_lastBlock_46 : decode cX6_lastBlock 46 = .ok (.iload_n 1, 1) := by decide +kernel
theorem dX6_lastBlock_47 : decode cX6_lastBlock 47 = .ok (.iload 5, 2) := by decide +kernel
theorem dX6_lastBlock_49 : decode cX6_lastBlock 49 = .ok (.invokevirtual 86, 3) := by decide +kernel
theorem dX6_lastBlock_52 : decode cX6_lastBlock 52 = .ok (.ifCond .ne 31, 3) := by decide +kernel
theorem dX6_lastBlock_55 : decode cX6_lastBlock 55 = .ok (.iload 6, 2) := by decide +kernel
theorem dX6_lastBlock_57 : decode cX6_lastBlock 57 = .ok (.aload_n 0, 1) := by decide +kernel
theorem dX6_lastBlock_58 : decode cX6_lastBlock 58 = .ok (.getfield 13, 3) := by decide +kernel
theorem dX6_lastBlock_61 : decode cX6_lastBlock 61 = .ok (.iconst 2, 1) := by decide +kernel
theorem dX6_lastBlock_62 : decode cX6_lastBlock 62 = .ok (.iaload, 1) := by decide +kernel
theorem dX6_lastBlock_63 : decode cX6_lastBlock 63 = .ok (.if_icmp .ge 20, 3) := by decide +kernel
theorem dX6_lastBlock_66 : decode cX6_lastBlock 66 = .ok (.aload_n 0, 1) := by decide +kernel
theorem dX6_lastBlock_67 : decode cX6_lastBlock 67 = .ok (.iload_n 1, 1) := by decide +kernel
theorem dX6_lastBlock_68 : decode cX6_lastBlock 68 = .ok (.iload 5, 2) := by decide +kernel
theorem dX6_lastBlock_70 : decode cX6_lastBlock 70 = .ok (.iload 6, 2) := by decide +kernel
theorem dX6_lastBlock_72 : decode cX6_lastBlock 72 = .ok (.invokevirtual 90, 3) := by decide +kernel
theorem dX6_lastBlock_75 : decode cX6_lastBlock 75 = .ok (.iconst (-1), 1) := by decide +kernel
theorem dX6_lastBlock_76 : decode cX6_lastBlock 76 = .ok (.if_icmp .ne 7, 3) := by decide +kernel
theorem dX6_lastBlock_79 : decode cX6_lastBlock 79 = .ok (.iconst 1, 1) := by decide +kernel
theorem dX6_lastBlock_80 : decode cX6_lastBlock 80 = .ok (.goto 4, 3) := by decide +kernel
theorem dX6_lastBlock_83 : decode cX6_lastBlock 83 = .ok (.iconst 0, 1) := by decide +kernel
theorem dX6_lastBlock_84 : decode cX6_lastBlock 84 = .ok (.istore 7, 2) := by decide +kernel
theorem dX6_lastBlock_86 : decode cX6_lastBlock 86 = .ok (.iload 7, 2) := by decide +kernel
theorem dX6_lastBlock_88 : decode cX6_lastBlock 88 = .ok (.ifCond .eq 8, 3) := by decide +kernel
theorem dX6_lastBlock_91 : decode cX6_lastBlock 91 = .ok (.iload 4, 2) := by decide +kernel
theorem dX6_lastBlock_93 : decode cX6_lastBlock 93 = .ok (.goto 4, 3) := by decide +kernel
theorem dX6_lastBlock_96 : decode cX6_lastBlock 96 = .ok (.iload_n 3, 1) := by decide +kernel
theorem dX6_lastBlock_97 : decode cX6_lastBlock 97 = .ok (.istore_n 3, 1) := by decide +kernel
theorem dX6_lastBlock_98 : decode cX6_lastBlock 98 = .ok (.iinc 4 (-1), 3) := by decide +kernel
theorem dX6_lastBlock_101 : decode cX6_lastBlock 101 = .ok (.goto (-87), 3) := by decide +kernel
theorem dX6_lastBlock_104 : decode cX6_lastBlock 104 = .ok (.iload_n 3, 1) := by decide +kernel
theorem dX6_lastBlock_105 : decode cX6_lastBlock 105 = .ok (.ireturn, 1) := by decide +kernel
theorem dX6_askedOf_0 : decode cX6_askedOf 0 = .ok (.iconst (-1), 1) := by decide +kernel
theorem dX6_askedOf_1 : decode cX6_askedOf 1 = .ok (.istore_n 3, 1) := by decide +kernel
theorem dX6_askedOf_2 : decode cX6_askedOf 2 = .ok (.iconst 0, 1) := by decide +kernel
theorem dX6_askedOf_3 : decode cX6_askedOf 3 = .ok (.istore 4, 2) := by decide +kernel
theorem dX6_askedOf_5 : decode cX6_askedOf 5 = .ok (.iload 4, 2) := by decide +kernel
theorem dX6_askedOf_7 : decode cX6_askedOf 7 = .ok (.aload_n 0, 1) := by decide +kernel
theorem dX6_askedOf_8 : decode cX6_askedOf 8 = .ok (.getfield 13, 3) := by decide +kernel
theorem dX6_askedOf_11 : decode cX6_askedOf 11 = .ok (.iconst 1, 1) := by decide +kernel
theorem dX6_askedOf_12 : decode cX6_askedOf 12 = .ok (.iaload, 1) := by decide +kernel
theorem dX6_askedOf_13 : decode cX6_askedOf 13 = .ok (.if_icmp .ge 75, 3) := by decide +kernel
theorem dX6_askedOf_16 : decode cX6_askedOf 16 = .ok (.aload_n 0, 1) := by decide +kernel
theorem dX6_askedOf_17 : decode cX6_askedOf 17 = .ok (.iload_n 2, 1) := by decide +kernel
theorem dX6_askedOf_18 : decode cX6_askedOf 18 = .ok (.invokevirtual 83, 3) := by decide +kernel
theorem dX6_askedOf_21 : decode cX6_askedOf 21 = .ok (.iload 4, 2) := by decide +kernel
theorem dX6_askedOf_23 : decode cX6_askedOf 23 = .ok (.ishr, 1) := by decide +kernel
theorem dX6_askedOf_24 : decode cX6_askedOf 24 = .ok (.iconst 1, 1) := by decide +kernel
theorem dX6_askedOf_25 : decode cX6_askedOf 25 = .ok (.iand, 1) := by decide +kernel
theorem dX6_askedOf_26 : decode cX6_askedOf 26 = .ok (.iconst 1, 1) := by decide +kernel
theorem dX6_askedOf_27 : decode cX6_askedOf 27 = .ok (.if_icmp .ne 28, 3) := by decide +kernel
theorem dX6_askedOf_30 : decode cX6_askedOf 30 = .ok (.aload_n 0, 1) := by decide +kernel
theorem dX6_askedOf_31 : decode cX6_askedOf 31 = .ok (.iload_n 1, 1) := by decide +kernel
theorem dX6_askedOf_32 : decode cX6_askedOf 32 = .ok (.iload 4, 2) := by decide +kernel
theorem dX6_askedOf_34 : decode cX6_askedOf 34 = .ok (.invokevirtual 86, 3) := by decide +kernel
theorem dX6_askedOf_37 : decode cX6_askedOf 37 = .ok (.ifCond .ne 18, 3) := by decide +kernel
theorem dX6_askedOf_40 : decode cX6_askedOf 40 = .ok (.aload_n 0, 1) := by decide +kernel
theorem dX6_askedOf_41 : decode cX6_askedOf 41 = .ok (.iload_n 1, 1) := by decide +kernel
theorem dX6_askedOf_42 : decode cX6_askedOf 42 = .ok (.iload 4, 2) := by decide +kernel
theorem dX6_askedOf_44 : decode cX6_askedOf 44 = .ok (.invokevirtual 133, 3) := by decide +kernel
theorem dX6_askedOf_47 : decode cX6_askedOf 47 = .ok (.iconst (-1), 1) := by decide +kernel
theorem dX6_askedOf_48 : decode cX6_askedOf 48 = .ok (.if_icmp .eq 7, 3) := by decide +kernel
theorem dX6_askedOf_51 : decode cX6_askedOf 51 = .ok (.iconst 1, 1) := by decide +kernel
theorem dX6_askedOf_52 : decode cX6_askedOf 52 = .ok (.goto 4, 3) := by decide +kernel
theorem dX6_askedOf_55 : decode cX6_askedOf 55 = .ok (.iconst 0, 1) := by decide +kernel
theorem dX6_askedOf_56 : decode cX6_askedOf 56 = .ok (.istore 5, 2) := by decide +kernel
theorem dX6_askedOf_58 : decode cX6_askedOf 58 = .ok (.iload 5, 2) := by decide +kernel
theorem dX6_askedOf_60 : decode cX6_askedOf 60 = .ok (.ifCond .eq 22, 3) := by decide +kernel
theorem dX6_askedOf_63 : decode cX6_askedOf 63 = .ok (.iload_n 3, 1) := by decide +kernel
theorem dX6_askedOf_64 : decode cX6_askedOf 64 = .ok (.iconst (-1), 1) := by decide +kernel
theorem dX6_askedOf_65 : decode cX6_askedOf 65 = .ok (.if_icmp .eq 14, 3) := by decide +kernel
theorem dX6_askedOf_68 : decode cX6_askedOf 68 = .ok (.aload_n 0, 1) := by decide +kernel
theorem dX6_askedOf_69 : decode cX6_askedOf 69 = .ok (.iload_n 1, 1) := by decide +kernel
theorem dX6_askedOf_70 : decode cX6_askedOf 70 = .ok (.iload 4, 2) := by decide +kernel
theorem dX6_askedOf_72 : decode cX6_askedOf 72 = .ok (.iload_n 3, 1) := by decide +kernel
theorem dX6_askedOf_73 : decode cX6_askedOf 73 = .ok (.invokevirtual 136, 3) := by decide +kernel
theorem dX6_askedOf_76 : decode cX6_askedOf 76 = .ok (.ifCond .eq 6, 3) := by decide +kernel
theorem dX6_askedOf_79 : decode cX6_askedOf 79 = .ok (.iload 4, 2) := by decide +kernel
theorem dX6_askedOf_81 : decode cX6_askedOf 81 = .ok (.istore_n 3, 1) := by decide +kernel
theorem dX6_askedOf_82 : decode cX6_askedOf 82 = .ok (.iinc 4 1, 3) := by decide +kernel
theorem dX6_askedOf_85 : decode cX6_askedOf 85 = .ok (.goto (-80), 3) := by decide +kernel
theorem dX6_askedOf_88 : decode cX6_askedOf 88 = .ok (.iload_n 3, 1) := by decide +kernel
theorem dX6_askedOf_89 : decode cX6_askedOf 89 = .ok (.iconst (-1), 1) := by decide +kernel
theorem dX6_askedOf_90 : decode cX6_askedOf 90 = .ok (.if_icmp .eq 14, 3) := by decide +kernel
theorem dX6_askedOf_93 : decode cX6_askedOf 93 = .ok (.iconst 4, 1) := by decide +kernel
theorem dX6_askedOf_94 : decode cX6_askedOf 94 = .ok (.iload_n 3, 1) := by decide +kernel
theorem dX6_askedOf_95 : decode cX6_askedOf 95 = .ok (.imul, 1) := by decide +kernel
theorem dX6_askedOf_96 : decode cX6_askedOf 96 = .ok (.aload_n 0, 1) := by decide +kernel
theorem dX6_askedOf_97 : decode cX6_askedOf 97 = .ok (.iload_n 1, 1) := by decide +kernel
theorem dX6_askedOf_98 : decode cX6_askedOf 98 = .ok (.iload_n 3, 1) := by decide +kernel
theorem dX6_askedOf_99 : decode cX6_askedOf 99 = .ok (.invokevirtual 133, 3) := by decide +kernel
theorem dX6_askedOf_102 : decode cX6_askedOf 102 = .ok (.iadd, 1) := by decide +kernel
theorem dX6_askedOf_103 : decode cX6_askedOf 103 = .ok (.ireturn, 1) := by decide +kernel
theorem dX6_askedOf_104 : decode cX6_askedOf 104 = .ok (.aload_n 0, 1) := by decide +kernel
theorem dX6_askedOf_105 : decode cX6_askedOf 105 = .ok (.iload_n 1, 1) := by decide +kernel
theorem dX6_askedOf_106 : decode cX6_askedOf 106 = .ok (.invokevirtual 139, 3) := by decide +kernel
theorem dX6_askedOf_109 : decode cX6_askedOf 109 = .ok (.aload_n 0, 1) := by decide +kernel
theorem dX6_askedOf_110 : decode cX6_askedOf 110 = .ok (.getfield 13, 3) := by decide +kernel
theorem dX6_askedOf_113 : decode cX6_askedOf 113 = .ok (.bipush 10, 2) := by decide +kernel
theorem dX6_askedOf_115 : decode cX6_askedOf 115 = .ok (.iaload, 1) := by decide +kernel
theorem dX6_askedOf_116 : decode cX6_askedOf 116 = .ok (.if_icmp .gt 12, 3) := by decide +kernel
theorem dX6_askedOf_119 : decode cX6_askedOf 119 = .ok (.aload_n 0, 1) := by decide +kernel
theorem dX6_askedOf_120 : decode cX6_askedOf 120 = .ok (.iload_n 1, 1) := by decide +kernel
theorem dX6_askedOf_121 : decode cX6_askedOf 121 = .ok (.iload_n 2, 1) := by decide +kernel
theorem dX6_askedOf_122 : decode cX6_askedOf 122 = .ok (.invokevirtual 142, 3) := by decide +kernel
theorem dX6_askedOf_125 : decode cX6_askedOf 125 = .ok (.goto 4, 3) := by decide +kernel
theorem dX6_askedOf_128 : decode cX6_askedOf 128 = .ok (.iconst (-1), 1) := by decide +kernel
theorem dX6_askedOf_129 : decode cX6_askedOf 129 = .ok (.ireturn, 1) := by decide +kernel
theorem dX6_asks_0 : decode cX6_asks 0 = .ok (.iconst 0, 1) := by decide +kernel
theorem dX6_asks_1 : decode cX6_asks 1 = .ok (.istore_n 2, 1) := by decide +kernel
theorem dX6_asks_2 : decode cX6_asks 2 = .ok (.iload_n 2, 1) := by decide +kernel
theorem dX6_asks_3 : decode cX6_asks 3 = .ok (.bipush 32, 2) := by decide +kernel
theorem dX6_asks_5 : decode cX6_asks 5 = .ok (.if_icmp .ge 16, 3) := by decide +kernel
theorem dX6_asks_8 : decode cX6_asks 8 = .ok (.aload_n 0, 1) := by decide +kernel
theorem dX6_asks_9 : decode cX6_asks 9 = .ok (.getfield 33, 3) := by decide +kernel
theorem dX6_asks_12 : decode cX6_asks 12 = .ok (.iload_n 2, 1) := by decide +kernel
theorem dX6_asks_13 : decode cX6_asks 13 = .ok (.iconst 0, 1) := by decide +kernel
theorem dX6_asks_14 : decode cX6_asks 14 = .ok (.bastore, 1) := by decide +kernel
theorem dX6_asks_15 : decode cX6_asks 15 = .ok (.iinc 2 1, 3) := by decide +kernel
theorem dX6_asks_18 : decode cX6_asks 18 = .ok (.goto (-16), 3) := by decide +kernel
theorem dX6_asks_21 : decode cX6_asks 21 = .ok (.iconst 0, 1) := by decide +kernel
theorem dX6_asks_22 : decode cX6_asks 22 = .ok (.istore_n 2, 1) := by decide +kernel
theorem dX6_asks_23 : decode cX6_asks 23 = .ok (.iload_n 2, 1) := by decide +kernel
theorem dX6_asks_24 : decode cX6_asks 24 = .ok (.aload_n 0, 1) := by decide +kernel
theorem dX6_asks_25 : decode cX6_asks 25 = .ok (.getfield 13, 3) := by decide +kernel
theorem dX6_asks_28 : decode cX6_asks 28 = .ok (.iconst 0, 1) := by decide +kernel
theorem dX6_asks_29 : decode cX6_asks 29 = .ok (.iaload, 1) := by decide +kernel
theorem dX6_asks_30 : decode cX6_asks 30 = .ok (.if_icmp .ge 56, 3) := by decide +kernel
theorem dX6_asks_33 : decode cX6_asks 33 = .ok (.iconst (-1), 1) := by decide +kernel
theorem dX6_asks_34 : decode cX6_asks 34 = .ok (.istore_n 3, 1) := by decide +kernel
theorem dX6_asks_35 : decode cX6_asks 35 = .ok (.aload_n 0, 1) := by decide +kernel
theorem dX6_asks_36 : decode cX6_asks 36 = .ok (.iload_n 2, 1) := by decide +kernel
theorem dX6_asks_37 : decode cX6_asks 37 = .ok (.iconst 3, 1) := by decide +kernel
theorem dX6_asks_38 : decode cX6_asks 38 = .ok (.invokevirtual 76, 3) := by decide +kernel
theorem dX6_asks_41 : decode cX6_asks 41 = .ok (.iload_n 1, 1) := by decide +kernel
theorem dX6_asks_42 : decode cX6_asks 42 = .ok (.ishr, 1) := by decide +kernel
theorem dX6_asks_43 : decode cX6_asks 43 = .ok (.iconst 1, 1) := by decide +kernel
theorem dX6_asks_44 : decode cX6_asks 44 = .ok (.iand, 1) := by decide +kernel
theorem dX6_asks_45 : decode cX6_asks 45 = .ok (.iconst 1, 1) := by decide +kernel
theorem dX6_asks_46 : decode cX6_asks 46 = .ok (.if_icmp .ne 10, 3) := by decide +kernel
theorem dX6_asks_49 : decode cX6_asks 49 = .ok (.aload_n 0, 1) := by decide +kernel
theorem dX6_asks_50 : decode cX6_asks 50 = .ok (.iload_n 1, 1) := by decide +kernel
theorem dX6_asks_51 : decode cX6_asks 51 = .ok (.iload_n 2, 1) := by decide +kernel
theorem dX6_asks_52 : decode cX6_asks 52 = .ok (.invokevirtual 145, 3) := by decide +kernel
theorem dX6_asks_55 : decode cX6_asks 55 = .ok (.istore_n 3, 1) := by decide +kernel
theorem dX6_asks_56 : decode cX6_asks 56 = .ok (.aload_n 0, 1) := by decide +kernel
theorem dX6_asks_57 : decode cX6_asks 57 = .ok (.getfield 30, 3) := by decide +kernel
theorem dX6_asks_60 : decode cX6_asks 60 = .ok (.bipush 6, 2) := by decide +kernel
theorem dX6_asks_62 : decode cX6_asks 62 = .ok (.iload_n 1, 1) := by decide +kernel
theorem dX6_asks_63 : decode cX6_asks 63 = .ok (.imul, 1) := by decide +kernel
theorem dX6_asks_64 : decode cX6_asks 64 = .ok (.iload_n 2, 1) := by decide +kernel
theorem dX6_asks_65 : decode cX6_asks 65 = .ok (.iadd, 1) := by decide +kernel
theorem dX6_asks_66 : decode cX6_asks 66 = .ok (.iload_n 3, 1) := by decide +kernel
theorem dX6_asks_67 : decode cX6_asks 67 = .ok (.iastore, 1) := by decide +kernel
theorem dX6_asks_68 : decode cX6_asks 68 = .ok (.iload_n 3, 1) := by decide +kernel
theorem dX6_asks_69 : decode cX6_asks 69 = .ok (.iconst (-1), 1) := by decide +kernel
theorem dX6_asks_70 : decode cX6_asks 70 = .ok (.if_icmp .eq 10, 3) := by decide +kernel
theorem dX6_asks_73 : decode cX6_asks 73 = .ok (.aload_n 0, 1) := by decide +kernel
theorem dX6_asks_74 : decode cX6_asks 74 = .ok (.getfield 33, 3) := by decide +kernel
theorem dX6_asks_77 : decode cX6_asks 77 = .ok (.iload_n 3, 1) := by decide +kernel
theorem dX6_asks_78 : decode cX6_asks 78 = .ok (.iconst 1, 1) := by decide +kernel
theorem dX6_asks_79 : decode cX6_asks 79 = .ok (.bastore, 1) := by decide +kernel
theorem dX6_asks_80 : decode cX6_asks 80 = .ok (.iinc 2 1, 3) := by decide +kernel
theorem dX6_asks_83 : decode cX6_asks 83 = .ok (.goto (-60), 3) := by decide +kernel
theorem dX6_asks_86 : decode cX6_asks 86 = .ok (.return_, 1) := by decide +kernel
theorem dX6_drops_0 : decode cX6_drops 0 = .ok (.iconst 0, 1) := by decide +kernel
theorem dX6_drops_1 : decode cX6_drops 1 = .ok (.istore_n 3, 1) := by decide +kernel
theorem dX6_drops_2 : decode cX6_drops 2 = .ok (.iconst 0, 1) := by decide +kernel
theorem dX6_drops_3 : decode cX6_drops 3 = .ok (.istore 4, 2) := by decide +kernel
theorem dX6_drops_5 : decode cX6_drops 5 = .ok (.iload 4, 2) := by decide +kernel
theorem dX6_drops_7 : decode cX6_drops 7 = .ok (.aload_n 0, 1) := by decide +kernel
theorem dX6_drops_8 : decode cX6_drops 8 = .ok (.getfield 13, 3) := by decide +kernel
theorem dX6_drops_11 : decode cX6_drops 11 = .ok (.iconst 2, 1) := by decide +kernel
theorem dX6_drops_12 : decode cX6_drops 12 = .ok (.iaload, 1) := by decide +kernel
theorem dX6_drops_13 : decode cX6_drops 13 = .ok (.if_icmp .ge 22, 3) := by decide +kernel
theorem dX6_drops_16 : decode cX6_drops 16 = .ok (.iload_n 3, 1) := by decide +kernel
theorem dX6_drops_17 : decode cX6_drops 17 = .ok (.iconst 1, 1) := by decide +kernel
theorem dX6_drops_18 : decode cX6_drops 18 = .ok (.aload_n 0, 1) := by decide +kernel
theorem dX6_drops_19 : decode cX6_drops 19 = .ok (.iload_n 1, 1) := by decide +kernel
theorem dX6_drops_20 : decode cX6_drops 20 = .ok (.iload_n 2, 1) := by decide +kernel
theorem dX6_drops_21 : decode cX6_drops 21 = .ok (.iload 4, 2) := by decide +kernel
theorem dX6_drops_23 : decode cX6_drops 23 = .ok (.invokevirtual 90, 3) := by decide +kernel
theorem dX6_drops_26 : decode cX6_drops 26 = .ok (.ishl, 1) := by decide +kernel
theorem dX6_drops_27 : decode cX6_drops 27 = .ok (.ior, 1) := by decide +kernel
theorem dX6_drops_28 : decode cX6_drops 28 = .ok (.istore_n 3, 1) := by decide +kernel
theorem dX6_drops_29 : decode cX6_drops 29 = .ok (.iinc 4 1, 3) := by decide +kernel
theorem dX6_drops_32 : decode cX6_drops 32 = .ok (.goto (-27), 3) := by decide +kernel
theorem dX6_drops_35 : decode cX6_drops 35 = .ok (.aload_n 0, 1) := by decide +kernel
theorem dX6_drops_36 : decode cX6_drops 36 = .ok (.getfield 13, 3) := by decide +kernel
theorem dX6_drops_39 : decode cX6_drops 39 = .ok (.bipush 7, 2) := by decide +kernel
theorem dX6_drops_41 : decode cX6_drops 41 = .ok (.dup2, 1) := by decide +kernel
theorem dX6_drops_42 : decode cX6_drops 42 = .ok (.iaload, 1) := by decide +kernel
theorem dX6_drops_43 : decode cX6_drops 43 = .ok (.iconst 1, 1) := by decide +kernel
theorem dX6_drops_44 : decode cX6_drops 44 = .ok (.iadd, 1) := by decide +kernel
theorem dX6_drops_45 : decode cX6_drops 45 = .ok (.iastore, 1) := by decide +kernel
theorem dX6_drops_46 : decode cX6_drops 46 = .ok (.iconst 0, 1) := by decide +kernel
theorem dX6_drops_47 : decode cX6_drops 47 = .ok (.istore 4, 2) := by decide +kernel
theorem dX6_drops_49 : decode cX6_drops 49 = .ok (.iload 4, 2) := by decide +kernel
theorem dX6_drops_51 : decode cX6_drops 51 = .ok (.aload_n 0, 1) := by decide +kernel
theorem dX6_drops_52 : decode cX6_drops 52 = .ok (.getfield 13, 3) := by decide +kernel
theorem dX6_drops_55 : decode cX6_drops 55 = .ok (.iconst 0, 1) := by decide +kernel
theorem dX6_drops_56 : decode cX6_drops 56 = .ok (.iaload, 1) := by decide +kernel
theorem dX6_drops_57 : decode cX6_drops 57 = .ok (.if_icmp .ge 94, 3) := by decide +kernel
theorem dX6_drops_60 : decode cX6_drops 60 = .ok (.iload_n 3, 1) := by decide +kernel
theorem dX6_drops_61 : decode cX6_drops 61 = .ok (.iload 4, 2) := by decide +kernel
theorem dX6_drops_63 : decode cX6_drops 63 = .ok (.ishr, 1) := by decide +kernel
theorem dX6_drops_64 : decode cX6_drops 64 = .ok (.iconst 1, 1) := by decide +kernel
theorem dX6_drops_65 : decode cX6_drops 65 = .ok (.iand, 1) := by decide +kernel
theorem dX6_drops_66 : decode cX6_drops 66 = .ok (.iconst 1, 1) := by decide +kernel
theorem dX6_drops_67 : decode cX6_drops 67 = .ok (.if_icmp .ne 78, 3) := by decide +kernel
theorem dX6_drops_70 : decode cX6_drops 70 = .ok (.aload_n 0, 1) := by decide +kernel
theorem dX6_drops_71 : decode cX6_drops 71 = .ok (.getfield 13, 3) := by decide +kernel
theorem dX6_drops_74 : decode cX6_drops 74 = .ok (.iload_n 1, 1) := by decide +kernel
theorem dX6_drops_75 : decode cX6_drops 75 = .ok (.invokestatic 68, 3) := by decide +kernel
theorem dX6_drops_78 : decode cX6_drops 78 = .ok (.bipush 8, 2) := by decide +kernel
theorem dX6_drops_80 : decode cX6_drops 80 = .ok (.iadd, 1) := by decide +kernel
theorem dX6_drops_81 : decode cX6_drops 81 = .ok (.iload 4, 2) := by decide +kernel
theorem dX6_drops_83 : decode cX6_drops 83 = .ok (.iadd, 1) := by decide +kernel
theorem dX6_drops_84 : decode cX6_drops 84 = .ok (.dup2, 1) := by decide +kernel
theorem dX6_drops_85 : decode cX6_drops 85 = .ok (.iaload, 1) := by decide +kernel
theorem dX6_drops_86 : decode cX6_drops 86 = .ok (.iconst 1, 1) := by decide +kernel
theorem dX6_drops_87 : decode cX6_drops 87 = .ok (.iadd, 1) := by decide +kernel
theorem dX6_drops_88 : decode cX6_drops 88 = .ok (.iastore, 1) := by decide +kernel
theorem dX6_drops_89 : decode cX6_drops 89 = .ok (.iload_n 3, 1) := by decide +kernel
theorem dX6_drops_90 : decode cX6_drops 90 = .ok (.iconst 1, 1) := by decide +kernel
theorem dX6_drops_91 : decode cX6_drops 91 = .ok (.iload 4, 2) := by decide +kernel
theorem dX6_drops_93 : decode cX6_drops 93 = .ok (.ishl, 1) := by decide +kernel
theorem dX6_drops_94 : decode cX6_drops 94 = .ok (.if_icmp .eq 17, 3) := by decide +kernel
theorem dX6_drops_97 : decode cX6_drops 97 = .ok (.aload_n 0, 1) := by decide +kernel
theorem dX6_drops_98 : decode cX6_drops 98 = .ok (.iload_n 1, 1) := by decide +kernel
theorem dX6_drops_99 : decode cX6_drops 99 = .ok (.bipush 8, 2) := by decide +kernel
theorem dX6_drops_101 : decode cX6_drops 101 = .ok (.iload 4, 2) := by decide +kernel
theorem dX6_drops_103 : decode cX6_drops 103 = .ok (.iadd, 1) := by decide +kernel
theorem dX6_drops_104 : decode cX6_drops 104 = .ok (.invokevirtual 76, 3) := by decide +kernel
theorem dX6_drops_107 : decode cX6_drops 107 = .ok (.iconst 1, 1) := by decide +kernel
theorem dX6_drops_108 : decode cX6_drops 108 = .ok (.if_icmp .le 7, 3) := by decide +kernel
theorem dX6_drops_111 : decode cX6_drops 111 = .ok (.iconst 1, 1) := by decide +kernel
theorem dX6_drops_112 : decode cX6_drops 112 = .ok (.goto 4, 3) := by decide +kernel
theorem dX6_drops_115 : decode cX6_drops 115 = .ok (.iconst 0, 1) := by decide +kernel
theorem dX6_drops_116 : decode cX6_drops 116 = .ok (.istore 5, 2) := by decide +kernel
theorem dX6_drops_118 : decode cX6_drops 118 = .ok (.aload_n 0, 1) := by decide +kernel
theorem dX6_drops_119 : decode cX6_drops 119 = .ok (.getfield 13, 3) := by decide +kernel
theorem dX6_drops_122 : decode cX6_drops 122 = .ok (.iload_n 1, 1) := by decide +kernel
theorem dX6_drops_123 : decode cX6_drops 123 = .ok (.invokestatic 68, 3) := by decide +kernel
theorem dX6_drops_126 : decode cX6_drops 126 = .ok (.iconst 5, 1) := by decide +kernel
theorem dX6_drops_127 : decode cX6_drops 127 = .ok (.iadd, 1) := by decide +kernel
theorem dX6_drops_128 : decode cX6_drops 128 = .ok (.dup2, 1) := by decide +kernel
theorem dX6_drops_129 : decode cX6_drops 129 = .ok (.iaload, 1) := by decide +kernel
theorem dX6_drops_130 : decode cX6_drops 130 = .ok (.iload 5, 2) := by decide +kernel
theorem dX6_drops_132 : decode cX6_drops 132 = .ok (.ifCond .eq 10, 3) := by decide +kernel
theorem dX6_drops_135 : decode cX6_drops 135 = .ok (.iconst 1, 1) := by decide +kernel
theorem dX6_drops_136 : decode cX6_drops 136 = .ok (.iload 4, 2) := by decide +kernel
theorem dX6_drops_138 : decode cX6_drops 138 = .ok (.ishl, 1) := by decide +kernel
theorem dX6_drops_139 : decode cX6_drops 139 = .ok (.goto 4, 3) := by decide +kernel
theorem dX6_drops_142 : decode cX6_drops 142 = .ok (.iconst 0, 1) := by decide +kernel
theorem dX6_drops_143 : decode cX6_drops 143 = .ok (.ior, 1) := by decide +kernel
theorem dX6_drops_144 : decode cX6_drops 144 = .ok (.iastore, 1) := by decide +kernel
theorem dX6_drops_145 : decode cX6_drops 145 = .ok (.iinc 4 1, 3) := by decide +kernel
theorem dX6_drops_148 : decode cX6_drops 148 = .ok (.goto (-99), 3) := by decide +kernel
theorem dX6_drops_151 : decode cX6_drops 151 = .ok (.return_, 1) := by decide +kernel
theorem dX6_looksAt_0 : decode cX6_looksAt 0 = .ok (.iconst 1, 1) := by decide +kernel
theorem dX6_looksAt_1 : decode cX6_looksAt 1 = .ok (.istore_n 3, 1) := by decide +kernel
theorem dX6_looksAt_2 : decode cX6_looksAt 2 = .ok (.iconst 0, 1) := by decide +kernel
theorem dX6_looksAt_3 : decode cX6_looksAt 3 = .ok (.istore 4, 2) := by decide +kernel
theorem dX6_looksAt_5 : decode cX6_looksAt 5 = .ok (.iload 4, 2) := by decide +kernel
theorem dX6_looksAt_7 : decode cX6_looksAt 7 = .ok (.aload_n 0, 1) := by decide +kernel
theorem dX6_looksAt_8 : decode cX6_looksAt 8 = .ok (.getfield 13, 3) := by decide +kernel
theorem dX6_looksAt_11 : decode cX6_looksAt 11 = .ok (.iconst 2, 1) := by decide +kernel
theorem dX6_looksAt_12 : decode cX6_looksAt 12 = .ok (.iaload, 1) := by decide +kernel
theorem dX6_looksAt_13 : decode cX6_looksAt 13 = .ok (.if_icmp .ge 36, 3) := by decide +kernel
theorem dX6_looksAt_16 : decode cX6_looksAt 16 = .ok (.iload_n 3, 1) := by decide +kernel
theorem dX6_looksAt_17 : decode cX6_looksAt 17 = .ok (.ifCond .eq 24, 3) := by decide +kernel
theorem dX6_looksAt_20 : decode cX6_looksAt 20 = .ok (.aload_n 0, 1) := by decide +kernel
theorem dX6_looksAt_21 : decode cX6_looksAt 21 = .ok (.aload_n 0, 1) := by decide +kernel
theorem dX6_looksAt_22 : decode cX6_looksAt 22 = .ok (.iload_n 1, 1) := by decide +kernel
theorem dX6_looksAt_23 : decode cX6_looksAt 23 = .ok (.iload_n 2, 1) := by decide +kernel
theorem dX6_looksAt_24 : decode cX6_looksAt 24 = .ok (.iload 4, 2) := by decide +kernel
theorem dX6_looksAt_26 : decode cX6_looksAt 26 = .ok (.invokevirtual 90, 3) := by decide +kernel
theorem dX6_looksAt_29 : decode cX6_looksAt 29 = .ok (.iconst 0, 1) := by decide +kernel
theorem dX6_looksAt_30 : decode cX6_looksAt 30 = .ok (.invokevirtual 76, 3) := by decide +kernel
theorem dX6_looksAt_33 : decode cX6_looksAt 33 = .ok (.iconst 2, 1) := by decide +kernel
theorem dX6_looksAt_34 : decode cX6_looksAt 34 = .ok (.if_icmp .eq 7, 3) := by decide +kernel
theorem dX6_looksAt_37 : decode cX6_looksAt 37 = .ok (.iconst 1, 1) := by decide +kernel
theorem dX6_looksAt_38 : decode cX6_looksAt 38 = .ok (.goto 4, 3) := by decide +kernel
theorem dX6_looksAt_41 : decode cX6_looksAt 41 = .ok (.iconst 0, 1) := by decide +kernel
theorem dX6_looksAt_42 : decode cX6_looksAt 42 = .ok (.istore_n 3, 1) := by decide +kernel
theorem dX6_looksAt_43 : decode cX6_looksAt 43 = .ok (.iinc 4 1, 3) := by decide +kernel
theorem dX6_looksAt_46 : decode cX6_looksAt 46 = .ok (.goto (-41), 3) := by decide +kernel
theorem dX6_looksAt_49 : decode cX6_looksAt 49 = .ok (.iload_n 3, 1) := by decide +kernel
theorem dX6_looksAt_50 : decode cX6_looksAt 50 = .ok (.ifCond .eq 23, 3) := by decide +kernel
theorem dX6_looksAt_53 : decode cX6_looksAt 53 = .ok (.aload_n 0, 1) := by decide +kernel
theorem dX6_looksAt_54 : decode cX6_looksAt 54 = .ok (.getfield 13, 3) := by decide +kernel
theorem dX6_looksAt_57 : decode cX6_looksAt 57 = .ok (.iload_n 1, 1) := by decide +kernel
theorem dX6_looksAt_58 : decode cX6_looksAt 58 = .ok (.invokestatic 68, 3) := by decide +kernel
theorem dX6_looksAt_61 : decode cX6_looksAt 61 = .ok (.iconst 2, 1) := by decide +kernel
theorem dX6_looksAt_62 : decode cX6_looksAt 62 = .ok (.iadd, 1) := by decide +kernel
theorem dX6_looksAt_63 : decode cX6_looksAt 63 = .ok (.dup2, 1) := by decide +kernel
theorem dX6_looksAt_64 : decode cX6_looksAt 64 = .ok (.iaload, 1) := by decide +kernel
theorem dX6_looksAt_65 : decode cX6_looksAt 65 = .ok (.iconst 1, 1) := by decide +kernel
theorem dX6_looksAt_66 : decode cX6_looksAt 66 = .ok (.iload_n 2, 1) := by decide +kernel
theorem dX6_looksAt_67 : decode cX6_looksAt 67 = .ok (.ishl, 1) := by decide +kernel
theorem dX6_looksAt_68 : decode cX6_looksAt 68 = .ok (.ior, 1) := by decide +kernel
theorem dX6_looksAt_69 : decode cX6_looksAt 69 = .ok (.iastore, 1) := by decide +kernel
theorem dX6_looksAt_70 : decode cX6_looksAt 70 = .ok (.goto 9, 3) := by decide +kernel
theorem dX6_looksAt_73 : decode cX6_looksAt 73 = .ok (.aload_n 0, 1) := by decide +kernel
theorem dX6_looksAt_74 : decode cX6_looksAt 74 = .ok (.iload_n 1, 1) := by decide +kernel
theorem dX6_looksAt_75 : decode cX6_looksAt 75 = .ok (.iload_n 2, 1) := by decide +kernel
theorem dX6_looksAt_76 : decode cX6_looksAt 76 = .ok (.invokevirtual 148, 3) := by decide +kernel
theorem dX6_looksAt_79 : decode cX6_looksAt 79 = .ok (.iconst 0, 1) := by decide +kernel
theorem dX6_looksAt_80 : decode cX6_looksAt 80 = .ok (.istore 4, 2) := by decide +kernel
theorem dX6_looksAt_82 : decode cX6_looksAt 82 = .ok (.iload 4, 2) := by decide +kernel
theorem dX6_looksAt_84 : decode cX6_looksAt 84 = .ok (.iconst 4, 1) := by decide +kernel
theorem dX6_looksAt_85 : decode cX6_looksAt 85 = .ok (.if_icmp .ge 29, 3) := by decide +kernel
theorem dX6_looksAt_88 : decode cX6_looksAt 88 = .ok (.aload_n 0, 1) := by decide +kernel
theorem dX6_looksAt_89 : decode cX6_looksAt 89 = .ok (.getfield 13, 3) := by decide +kernel
theorem dX6_looksAt_92 : decode cX6_looksAt 92 = .ok (.iload_n 1, 1) := by decide +kernel
theorem dX6_looksAt_93 : decode cX6_looksAt 93 = .ok (.invokestatic 68, 3) := by decide +kernel
theorem dX6_looksAt_96 : decode cX6_looksAt 96 = .ok (.bipush 15, 2) := by decide +kernel
theorem dX6_looksAt_98 : decode cX6_looksAt 98 = .ok (.iadd, 1) := by decide +kernel
theorem dX6_looksAt_99 : decode cX6_looksAt 99 = .ok (.iconst 4, 1) := by decide +kernel
theorem dX6_looksAt_100 : decode cX6_looksAt 100 = .ok (.iload_n 2, 1) := by decide +kernel
theorem dX6_looksAt_101 : decode cX6_looksAt 101 = .ok (.imul, 1) := by decide +kernel
theorem dX6_looksAt_102 : decode cX6_looksAt 102 = .ok (.iadd, 1) := by decide +kernel
theorem dX6_looksAt_103 : decode cX6_looksAt 103 = .ok (.iload 4, 2) := by decide +kernel
theorem dX6_looksAt_105 : decode cX6_looksAt 105 = .ok (.iadd, 1) := by decide +kernel
theorem dX6_looksAt_106 : decode cX6_looksAt 106 = .ok (.iconst (-1), 1) := by decide +kernel
theorem dX6_looksAt_107 : decode cX6_looksAt 107 = .ok (.iastore, 1) := by decide +kernel
theorem dX6_looksAt_108 : decode cX6_looksAt 108 = .ok (.iinc 4 1, 3) := by decide +kernel
theorem dX6_looksAt_111 : decode cX6_looksAt 111 = .ok (.goto (-29), 3) := by decide +kernel
theorem dX6_looksAt_114 : decode cX6_looksAt 114 = .ok (.return_, 1) := by decide +kernel
theorem dX6_sends_0 : decode cX6_sends 0 = .ok (.iload_n 3, 1) := by decide +kernel
theorem dX6_sends_1 : decode cX6_sends 1 = .ok (.iconst 4, 1) := by decide +kernel
theorem dX6_sends_2 : decode cX6_sends 2 = .ok (.idiv, 1) := by decide +kernel
theorem dX6_sends_3 : decode cX6_sends 3 = .ok (.istore 4, 2) := by decide +kernel
theorem dX6_sends_5 : decode cX6_sends 5 = .ok (.aload_n 0, 1) := by decide +kernel
theorem dX6_sends_6 : decode cX6_sends 6 = .ok (.getfield 13, 3) := by decide +kernel
theorem dX6_sends_9 : decode cX6_sends 9 = .ok (.iload_n 2, 1) := by decide +kernel
theorem dX6_sends_10 : decode cX6_sends 10 = .ok (.invokestatic 68, 3) := by decide +kernel
theorem dX6_sends_13 : decode cX6_sends 13 = .ok (.bipush 15, 2) := by decide +kernel
theorem dX6_sends_15 : decode cX6_sends 15 = .ok (.iadd, 1) := by decide +kernel
theorem dX6_sends_16 : decode cX6_sends 16 = .ok (.iload_n 3, 1) := by decide +kernel
theorem dX6_sends_17 : decode cX6_sends 17 = .ok (.iadd, 1) := by decide +kernel
theorem dX6_sends_18 : decode cX6_sends 18 = .ok (.iload_n 1, 1) := by decide +kernel
theorem dX6_sends_19 : decode cX6_sends 19 = .ok (.iastore, 1) := by decide +kernel
theorem dX6_sends_20 : decode cX6_sends 20 = .ok (.aload_n 0, 1) := by decide +kernel
theorem dX6_sends_21 : decode cX6_sends 21 = .ok (.getfield 13, 3) := by decide +kernel
theorem dX6_sends_24 : decode cX6_sends 24 = .ok (.iload_n 2, 1) := by decide +kernel
theorem dX6_sends_25 : decode cX6_sends 25 = .ok (.invokestatic 68, 3) := by decide +kernel
theorem dX6_sends_28 : decode cX6_sends 28 = .ok (.bipush 7, 2) := by decide +kernel
theorem dX6_sends_30 : decode cX6_sends 30 = .ok (.iadd, 1) := by decide +kernel
theorem dX6_sends_31 : decode cX6_sends 31 = .ok (.dup2, 1) := by decide +kernel
theorem dX6_sends_32 : decode cX6_sends 32 = .ok (.iaload, 1) := by decide +kernel
theorem dX6_sends_33 : decode cX6_sends 33 = .ok (.iconst 1, 1) := by decide +kernel
theorem dX6_sends_34 : decode cX6_sends 34 = .ok (.iadd, 1) := by decide +kernel
theorem dX6_sends_35 : decode cX6_sends 35 = .ok (.iastore, 1) := by decide +kernel
theorem dX6_sends_36 : decode cX6_sends 36 = .ok (.aload_n 0, 1) := by decide +kernel
theorem dX6_sends_37 : decode cX6_sends 37 = .ok (.getfield 13, 3) := by decide +kernel
theorem dX6_sends_40 : decode cX6_sends 40 = .ok (.iload_n 1, 1) := by decide +kernel
theorem dX6_sends_41 : decode cX6_sends 41 = .ok (.invokestatic 68, 3) := by decide +kernel
theorem dX6_sends_44 : decode cX6_sends 44 = .ok (.bipush 6, 2) := by decide +kernel
theorem dX6_sends_46 : decode cX6_sends 46 = .ok (.iadd, 1) := by decide +kernel
theorem dX6_sends_47 : decode cX6_sends 47 = .ok (.dup2, 1) := by decide +kernel
theorem dX6_sends_48 : decode cX6_sends 48 = .ok (.iaload, 1) := by decide +kernel
theorem dX6_sends_49 : decode cX6_sends 49 = .ok (.iconst 1, 1) := by decide +kernel
theorem dX6_sends_50 : decode cX6_sends 50 = .ok (.iadd, 1) := by decide +kernel
theorem dX6_sends_51 : decode cX6_sends 51 = .ok (.iastore, 1) := by decide +kernel
theorem dX6_sends_52 : decode cX6_sends 52 = .ok (.aload_n 0, 1) := by decide +kernel
theorem dX6_sends_53 : decode cX6_sends 53 = .ok (.getfield 13, 3) := by decide +kernel
theorem dX6_sends_56 : decode cX6_sends 56 = .ok (.iconst 4, 1) := by decide +kernel
theorem dX6_sends_57 : decode cX6_sends 57 = .ok (.dup2, 1) := by decide +kernel
theorem dX6_sends_58 : decode cX6_sends 58 = .ok (.iaload, 1) := by decide +kernel
theorem dX6_sends_59 : decode cX6_sends 59 = .ok (.iconst 1, 1) := by decide +kernel
theorem dX6_sends_60 : decode cX6_sends 60 = .ok (.iadd, 1) := by decide +kernel
theorem dX6_sends_61 : decode cX6_sends 61 = .ok (.iastore, 1) := by decide +kernel
theorem dX6_sends_62 : decode cX6_sends 62 = .ok (.aload_n 0, 1) := by decide +kernel
theorem dX6_sends_63 : decode cX6_sends 63 = .ok (.getfield 13, 3) := by decide +kernel
theorem dX6_sends_66 : decode cX6_sends 66 = .ok (.iconst 5, 1) := by decide +kernel
theorem dX6_sends_67 : decode cX6_sends 67 = .ok (.dup2, 1) := by decide +kernel
theorem dX6_sends_68 : decode cX6_sends 68 = .ok (.iaload, 1) := by decide +kernel
theorem dX6_sends_69 : decode cX6_sends 69 = .ok (.aload_n 0, 1) := by decide +kernel
theorem dX6_sends_70 : decode cX6_sends 70 = .ok (.iload_n 1, 1) := by decide +kernel
theorem dX6_sends_71 : decode cX6_sends 71 = .ok (.iconst 0, 1) := by decide +kernel
theorem dX6_sends_72 : decode cX6_sends 72 = .ok (.invokevirtual 76, 3) := by decide +kernel
theorem dX6_sends_75 : decode cX6_sends 75 = .ok (.iconst 2, 1) := by decide +kernel
theorem dX6_sends_76 : decode cX6_sends 76 = .ok (.if_icmp .ne 7, 3) := by decide +kernel
theorem dX6_sends_79 : decode cX6_sends 79 = .ok (.iconst 1, 1) := by decide +kernel
theorem dX6_sends_80 : decode cX6_sends 80 = .ok (.goto 4, 3) := by decide +kernel
theorem dX6_sends_83 : decode cX6_sends 83 = .ok (.iconst 0, 1) := by decide +kernel
theorem dX6_sends_84 : decode cX6_sends 84 = .ok (.iadd, 1) := by decide +kernel
theorem dX6_sends_85 : decode cX6_sends 85 = .ok (.iastore, 1) := by decide +kernel
theorem dX6_sends_86 : decode cX6_sends 86 = .ok (.aload_n 0, 1) := by decide +kernel
theorem dX6_sends_87 : decode cX6_sends 87 = .ok (.getfield 37, 3) := by decide +kernel
theorem dX6_sends_90 : decode cX6_sends 90 = .ok (.bipush 6, 2) := by decide +kernel
theorem dX6_sends_92 : decode cX6_sends 92 = .ok (.iload_n 2, 1) := by decide +kernel
theorem dX6_sends_93 : decode cX6_sends 93 = .ok (.imul, 1) := by decide +kernel
theorem dX6_sends_94 : decode cX6_sends 94 = .ok (.iload_n 1, 1) := by decide +kernel
theorem dX6_sends_95 : decode cX6_sends 95 = .ok (.iadd, 1) := by decide +kernel
theorem dX6_sends_96 : decode cX6_sends 96 = .ok (.dup2, 1) := by decide +kernel
theorem dX6_sends_97 : decode cX6_sends 97 = .ok (.iaload, 1) := by decide +kernel
theorem dX6_sends_98 : decode cX6_sends 98 = .ok (.iconst 1, 1) := by decide +kernel
theorem dX6_sends_99 : decode cX6_sends 99 = .ok (.iadd, 1) := by decide +kernel
theorem dX6_sends_100 : decode cX6_sends 100 = .ok (.iastore, 1) := by decide +kernel
theorem dX6_sends_101 : decode cX6_sends 101 = .ok (.iconst 1, 1) := by decide +kernel
theorem dX6_sends_102 : decode cX6_sends 102 = .ok (.istore 5, 2) := by decide +kernel
theorem dX6_sends_104 : decode cX6_sends 104 = .ok (.iconst 0, 1) := by decide +kernel
theorem dX6_sends_105 : decode cX6_sends 105 = .ok (.istore 6, 2) := by decide +kernel
theorem dX6_sends_107 : decode cX6_sends 107 = .ok (.iload 6, 2) := by decide +kernel
theorem dX6_sends_109 : decode cX6_sends 109 = .ok (.aload_n 0, 1) := by decide +kernel
theorem dX6_sends_110 : decode cX6_sends 110 = .ok (.getfield 13, 3) := by decide +kernel
theorem dX6_sends_113 : decode cX6_sends 113 = .ok (.iconst 2, 1) := by decide +kernel
theorem dX6_sends_114 : decode cX6_sends 114 = .ok (.iaload, 1) := by decide +kernel
theorem dX6_sends_115 : decode cX6_sends 115 = .ok (.if_icmp .ge 34, 3) := by decide +kernel
theorem dX6_sends_118 : decode cX6_sends 118 = .ok (.iload 5, 2) := by decide +kernel
theorem dX6_sends_120 : decode cX6_sends 120 = .ok (.ifCond .eq 20, 3) := by decide +kernel
theorem dX6_sends_123 : decode cX6_sends 123 = .ok (.aload_n 0, 1) := by decide +kernel
theorem dX6_sends_124 : decode cX6_sends 124 = .ok (.iload_n 2, 1) := by decide +kernel
theorem dX6_sends_125 : decode cX6_sends 125 = .ok (.iload 4, 2) := by decide +kernel
theorem dX6_sends_127 : decode cX6_sends 127 = .ok (.iload 6, 2) := by decide +kernel
theorem dX6_sends_129 : decode cX6_sends 129 = .ok (.invokevirtual 90, 3) := by decide +kernel
theorem dX6_sends_132 : decode cX6_sends 132 = .ok (.iconst (-1), 1) := by decide +kernel
theorem dX6_sends_133 : decode cX6_sends 133 = .ok (.if_icmp .eq 7, 3) := by decide +kernel
theorem dX6_sends_136 : decode cX6_sends 136 = .ok (.iconst 1, 1) := by decide +kernel
theorem dX6_sends_137 : decode cX6_sends 137 = .ok (.goto 4, 3) := by decide +kernel
theorem dX6_sends_140 : decode cX6_sends 140 = .ok (.iconst 0, 1) := by decide +kernel
theorem dX6_sends_141 : decode cX6_sends 141 = .ok (.istore 5, 2) := by decide +kernel
theorem dX6_sends_143 : decode cX6_sends 143 = .ok (.iinc 6 1, 3) := by decide +kernel
theorem dX6_sends_146 : decode cX6_sends 146 = .ok (.goto (-39), 3) := by decide +kernel
theorem dX6_sends_149 : decode cX6_sends 149 = .ok (.iload 5, 2) := by decide +kernel
theorem dX6_sends_151 : decode cX6_sends 151 = .ok (.ifCond .eq 10, 3) := by decide +kernel
theorem dX6_sends_154 : decode cX6_sends 154 = .ok (.aload_n 0, 1) := by decide +kernel
theorem dX6_sends_155 : decode cX6_sends 155 = .ok (.iload_n 2, 1) := by decide +kernel
theorem dX6_sends_156 : decode cX6_sends 156 = .ok (.iload 4, 2) := by decide +kernel
theorem dX6_sends_158 : decode cX6_sends 158 = .ok (.invokevirtual 151, 3) := by decide +kernel
theorem dX6_sends_161 : decode cX6_sends 161 = .ok (.return_, 1) := by decide +kernel
theorem dX6_answers_0 : decode cX6_answers 0 = .ok (.iconst 0, 1) := by decide +kernel
theorem dX6_answers_1 : decode cX6_answers 1 = .ok (.istore_n 2, 1) := by decide +kernel
theorem dX6_answers_2 : decode cX6_answers 2 = .ok (.iconst 0, 1) := by decide +kernel
theorem dX6_answers_3 : decode cX6_answers 3 = .ok (.istore_n 3, 1) := by decide +kernel
theorem dX6_answers_4 : decode cX6_answers 4 = .ok (.iload_n 3, 1) := by decide +kernel
theorem dX6_answers_5 : decode cX6_answers 5 = .ok (.aload_n 0, 1) := by decide +kernel
theorem dX6_answers_6 : decode cX6_answers 6 = .ok (.getfield 13, 3) := by decide +kernel
theorem dX6_answers_9 : decode cX6_answers 9 = .ok (.iconst 0, 1) := by decide +kernel
theorem dX6_answers_10 : decode cX6_answers 10 = .ok (.iaload, 1) := by decide +kernel
theorem dX6_answers_11 : decode cX6_answers 11 = .ok (.if_icmp .ge 97, 3) := by decide +kernel
theorem dX6_answers_14 : decode cX6_answers 14 = .ok (.aload_n 0, 1) := by decide +kernel
theorem dX6_answers_15 : decode cX6_answers 15 = .ok (.getfield 30, 3) := by decide +kernel
theorem dX6_answers_18 : decode cX6_answers 18 = .ok (.bipush 6, 2) := by decide +kernel
theorem dX6_answers_20 : decode cX6_answers 20 = .ok (.iload_n 3, 1) := by decide +kernel
theorem dX6_answers_21 : decode cX6_answers 21 = .ok (.imul, 1) := by decide +kernel
theorem dX6_answers_22 : decode cX6_answers 22 = .ok (.iload_n 1, 1) := by decide +kernel
theorem dX6_answers_23 : decode cX6_answers 23 = .ok (.iadd, 1) := by decide +kernel
theorem dX6_answers_24 : decode cX6_answers 24 = .ok (.iaload, 1) := by decide +kernel
theorem dX6_answers_25 : decode cX6_answers 25 = .ok (.istore 4, 2) := by decide +kernel
theorem dX6_answers_27 : decode cX6_answers 27 = .ok (.iload 4, 2) := by decide +kernel
theorem dX6_answers_29 : decode cX6_answers 29 = .ok (.iconst (-1), 1) := by decide +kernel
theorem dX6_answers_30 : decode cX6_answers 30 = .ok (.if_icmp .ne 6, 3) := by decide +kernel
theorem dX6_answers_33 : decode cX6_answers 33 = .ok (.goto 69, 3) := by decide +kernel
theorem dX6_answers_36 : decode cX6_answers 36 = .ok (.aload_n 0, 1) := by decide +kernel
theorem dX6_answers_37 : decode cX6_answers 37 = .ok (.iload_n 3, 1) := by decide +kernel
theorem dX6_answers_38 : decode cX6_answers 38 = .ok (.iload 4, 2) := by decide +kernel
theorem dX6_answers_40 : decode cX6_answers 40 = .ok (.iconst 4, 1) := by decide +kernel
theorem dX6_answers_41 : decode cX6_answers 41 = .ok (.idiv, 1) := by decide +kernel
theorem dX6_answers_42 : decode cX6_answers 42 = .ok (.invokevirtual 86, 3) := by decide +kernel
theorem dX6_answers_45 : decode cX6_answers 45 = .ok (.ifCond .ne 22, 3) := by decide +kernel
theorem dX6_answers_48 : decode cX6_answers 48 = .ok (.aload_n 0, 1) := by decide +kernel
theorem dX6_answers_49 : decode cX6_answers 49 = .ok (.getfield 13, 3) := by decide +kernel
theorem dX6_answers_52 : decode cX6_answers 52 = .ok (.iload_n 3, 1) := by decide +kernel
theorem dX6_answers_53 : decode cX6_answers 53 = .ok (.invokestatic 68, 3) := by decide +kernel
theorem dX6_answers_56 : decode cX6_answers 56 = .ok (.bipush 15, 2) := by decide +kernel
theorem dX6_answers_58 : decode cX6_answers 58 = .ok (.iadd, 1) := by decide +kernel
theorem dX6_answers_59 : decode cX6_answers 59 = .ok (.iload 4, 2) := by decide +kernel
theorem dX6_answers_61 : decode cX6_answers 61 = .ok (.iadd, 1) := by decide +kernel
theorem dX6_answers_62 : decode cX6_answers 62 = .ok (.iaload, 1) := by decide +kernel
theorem dX6_answers_63 : decode cX6_answers 63 = .ok (.iconst (-1), 1) := by decide +kernel
theorem dX6_answers_64 : decode cX6_answers 64 = .ok (.if_icmp .eq 17, 3) := by decide +kernel
theorem dX6_answers_67 : decode cX6_answers 67 = .ok (.aload_n 0, 1) := by decide +kernel
theorem dX6_answers_68 : decode cX6_answers 68 = .ok (.getfield 13, 3) := by decide +kernel
theorem dX6_answers_71 : decode cX6_answers 71 = .ok (.bipush 6, 2) := by decide +kernel
theorem dX6_answers_73 : decode cX6_answers 73 = .ok (.dup2, 1) := by decide +kernel
theorem dX6_answers_74 : decode cX6_answers 74 = .ok (.iaload, 1) := by decide +kernel
theorem dX6_answers_75 : decode cX6_answers 75 = .ok (.iconst 1, 1) := by decide +kernel
theorem dX6_answers_76 : decode cX6_answers 76 = .ok (.iadd, 1) := by decide +kernel
theorem dX6_answers_77 : decode cX6_answers 77 = .ok (.iastore, 1) := by decide +kernel
theorem dX6_answers_78 : decode cX6_answers 78 = .ok (.goto 24, 3) := by decide +kernel
theorem dX6_answers_81 : decode cX6_answers 81 = .ok (.iload_n 2, 1) := by decide +kernel
theorem dX6_answers_82 : decode cX6_answers 82 = .ok (.aload_n 0, 1) := by decide +kernel
theorem dX6_answers_83 : decode cX6_answers 83 = .ok (.iload_n 1, 1) := by decide +kernel
theorem dX6_answers_84 : decode cX6_answers 84 = .ok (.iconst 1, 1) := by decide +kernel
theorem dX6_answers_85 : decode cX6_answers 85 = .ok (.invokevirtual 76, 3) := by decide +kernel
theorem dX6_answers_88 : decode cX6_answers 88 = .ok (.if_icmp .ge 14, 3) := by decide +kernel
theorem dX6_answers_91 : decode cX6_answers 91 = .ok (.aload_n 0, 1) := by decide +kernel
theorem dX6_answers_92 : decode cX6_answers 92 = .ok (.iload_n 1, 1) := by decide +kernel
theorem dX6_answers_93 : decode cX6_answers 93 = .ok (.iload_n 3, 1) := by decide +kernel
theorem dX6_answers_94 : decode cX6_answers 94 = .ok (.iload 4, 2) := by decide +kernel
theorem dX6_answers_96 : decode cX6_answers 96 = .ok (.invokevirtual 154, 3) := by decide +kernel
theorem dX6_answers_99 : decode cX6_answers 99 = .ok (.iinc 2 1, 3) := by decide +kernel
theorem dX6_answers_102 : decode cX6_answers 102 = .ok (.iinc 3 1, 3) := by decide +kernel
theorem dX6_answers_105 : decode cX6_answers 105 = .ok (.goto (-101), 3) := by decide +kernel
theorem dX6_answers_108 : decode cX6_answers 108 = .ok (.return_, 1) := by decide +kernel
theorem dX6_round_0 : decode cX6_round 0 = .ok (.iconst 0, 1) := by decide +kernel
theorem dX6_round_1 : decode cX6_round 1 = .ok (.istore_n 1, 1) := by decide +kernel
theorem dX6_round_2 : decode cX6_round 2 = .ok (.iload_n 1, 1) := by decide +kernel
theorem dX6_round_3 : decode cX6_round 3 = .ok (.aload_n 0, 1) := by decide +kernel
theorem dX6_round_4 : decode cX6_round 4 = .ok (.getfield 13, 3) := by decide +kernel
theorem dX6_round_7 : decode cX6_round 7 = .ok (.iconst 0, 1) := by decide +kernel
theorem dX6_round_8 : decode cX6_round 8 = .ok (.iaload, 1) := by decide +kernel
theorem dX6_round_9 : decode cX6_round 9 = .ok (.if_icmp .ge 36, 3) := by decide +kernel
theorem dX6_round_12 : decode cX6_round 12 = .ok (.aload_n 0, 1) := by decide +kernel
theorem dX6_round_13 : decode cX6_round 13 = .ok (.getfield 13, 3) := by decide +kernel
theorem dX6_round_16 : decode cX6_round 16 = .ok (.iload_n 1, 1) := by decide +kernel
theorem dX6_round_17 : decode cX6_round 17 = .ok (.invokestatic 68, 3) := by decide +kernel
theorem dX6_round_20 : decode cX6_round 20 = .ok (.iconst 3, 1) := by decide +kernel
theorem dX6_round_21 : decode cX6_round 21 = .ok (.iadd, 1) := by decide +kernel
theorem dX6_round_22 : decode cX6_round 22 = .ok (.iconst 0, 1) := by decide +kernel
theorem dX6_round_23 : decode cX6_round 23 = .ok (.iastore, 1) := by decide +kernel
theorem dX6_round_24 : decode cX6_round 24 = .ok (.aload_n 0, 1) := by decide +kernel
theorem dX6_round_25 : decode cX6_round 25 = .ok (.iload_n 1, 1) := by decide +kernel
theorem dX6_round_26 : decode cX6_round 26 = .ok (.iconst 0, 1) := by decide +kernel
theorem dX6_round_27 : decode cX6_round 27 = .ok (.invokevirtual 76, 3) := by decide +kernel
theorem dX6_round_30 : decode cX6_round 30 = .ok (.iconst 1, 1) := by decide +kernel
theorem dX6_round_31 : decode cX6_round 31 = .ok (.if_icmp .eq 8, 3) := by decide +kernel
theorem dX6_round_34 : decode cX6_round 34 = .ok (.aload_n 0, 1) := by decide +kernel
theorem dX6_round_35 : decode cX6_round 35 = .ok (.iload_n 1, 1) := by decide +kernel
theorem dX6_round_36 : decode cX6_round 36 = .ok (.invokevirtual 158, 3) := by decide +kernel
theorem dX6_round_39 : decode cX6_round 39 = .ok (.iinc 1 1, 3) := by decide +kernel
theorem dX6_round_42 : decode cX6_round 42 = .ok (.goto (-40), 3) := by decide +kernel
theorem dX6_round_45 : decode cX6_round 45 = .ok (.iconst 0, 1) := by decide +kernel
theorem dX6_round_46 : decode cX6_round 46 = .ok (.istore_n 1, 1) := by decide +kernel
theorem dX6_round_47 : decode cX6_round 47 = .ok (.iload_n 1, 1) := by decide +kernel
theorem dX6_round_48 : decode cX6_round 48 = .ok (.aload_n 0, 1) := by decide +kernel
theorem dX6_round_49 : decode cX6_round 49 = .ok (.getfield 13, 3) := by decide +kernel
theorem dX6_round_52 : decode cX6_round 52 = .ok (.iconst 0, 1) := by decide +kernel
theorem dX6_round_53 : decode cX6_round 53 = .ok (.iaload, 1) := by decide +kernel
theorem dX6_round_54 : decode cX6_round 54 = .ok (.if_icmp .ge 14, 3) := by decide +kernel
theorem dX6_round_57 : decode cX6_round 57 = .ok (.aload_n 0, 1) := by decide +kernel
theorem dX6_round_58 : decode cX6_round 58 = .ok (.iload_n 1, 1) := by decide +kernel
theorem dX6_round_59 : decode cX6_round 59 = .ok (.invokevirtual 162, 3) := by decide +kernel
theorem dX6_round_62 : decode cX6_round 62 = .ok (.iinc 1 1, 3) := by decide +kernel
theorem dX6_round_65 : decode cX6_round 65 = .ok (.goto (-18), 3) := by decide +kernel
theorem dX6_round_68 : decode cX6_round 68 = .ok (.iconst 0, 1) := by decide +kernel
theorem dX6_round_69 : decode cX6_round 69 = .ok (.istore_n 1, 1) := by decide +kernel
theorem dX6_round_70 : decode cX6_round 70 = .ok (.iload_n 1, 1) := by decide +kernel
theorem dX6_round_71 : decode cX6_round 71 = .ok (.bipush 36, 2) := by decide +kernel
theorem dX6_round_73 : decode cX6_round 73 = .ok (.if_icmp .ge 16, 3) := by decide +kernel
theorem dX6_round_76 : decode cX6_round 76 = .ok (.aload_n 0, 1) := by decide +kernel
theorem dX6_round_77 : decode cX6_round 77 = .ok (.getfield 37, 3) := by decide +kernel
theorem dX6_round_80 : decode cX6_round 80 = .ok (.iload_n 1, 1) := by decide +kernel
theorem dX6_round_81 : decode cX6_round 81 = .ok (.iconst 0, 1) := by decide +kernel
theorem dX6_round_82 : decode cX6_round 82 = .ok (.iastore, 1) := by decide +kernel
theorem dX6_round_83 : decode cX6_round 83 = .ok (.iinc 1 1, 3) := by decide +kernel
theorem dX6_round_86 : decode cX6_round 86 = .ok (.goto (-16), 3) := by decide +kernel
theorem dX6_round_89 : decode cX6_round 89 = .ok (.iconst 0, 1) := by decide +kernel
theorem dX6_round_90 : decode cX6_round 90 = .ok (.istore_n 1, 1) := by decide +kernel
theorem dX6_round_91 : decode cX6_round 91 = .ok (.iload_n 1, 1) := by decide +kernel
theorem dX6_round_92 : decode cX6_round 92 = .ok (.aload_n 0, 1) := by decide +kernel
theorem dX6_round_93 : decode cX6_round 93 = .ok (.getfield 13, 3) := by decide +kernel
theorem dX6_round_96 : decode cX6_round 96 = .ok (.iconst 0, 1) := by decide +kernel
theorem dX6_round_97 : decode cX6_round 97 = .ok (.iaload, 1) := by decide +kernel
theorem dX6_round_98 : decode cX6_round 98 = .ok (.if_icmp .ge 14, 3) := by decide +kernel
theorem dX6_round_101 : decode cX6_round 101 = .ok (.aload_n 0, 1) := by decide +kernel
theorem dX6_round_102 : decode cX6_round 102 = .ok (.iload_n 1, 1) := by decide +kernel
theorem dX6_round_103 : decode cX6_round 103 = .ok (.invokevirtual 165, 3) := by decide +kernel
theorem dX6_round_106 : decode cX6_round 106 = .ok (.iinc 1 1, 3) := by decide +kernel
theorem dX6_round_109 : decode cX6_round 109 = .ok (.goto (-18), 3) := by decide +kernel
theorem dX6_round_112 : decode cX6_round 112 = .ok (.aload_n 0, 1) := by decide +kernel
theorem dX6_round_113 : decode cX6_round 113 = .ok (.getfield 13, 3) := by decide +kernel
theorem dX6_round_116 : decode cX6_round 116 = .ok (.bipush 9, 2) := by decide +kernel
theorem dX6_round_118 : decode cX6_round 118 = .ok (.iaload, 1) := by decide +kernel
theorem dX6_round_119 : decode cX6_round 119 = .ok (.i2f, 1) := by decide +kernel
theorem dX6_round_120 : decode cX6_round 120 = .ok (.ldc 168, 2) := by decide +kernel
theorem dX6_round_122 : decode cX6_round 122 = .ok (.fdiv, 1) := by decide +kernel
theorem dX6_round_123 : decode cX6_round 123 = .ok (.fstore_n 1, 1) := by decide +kernel
theorem dX6_round_124 : decode cX6_round 124 = .ok (.iconst 0, 1) := by decide +kernel
theorem dX6_round_125 : decode cX6_round 125 = .ok (.istore_n 2, 1) := by decide +kernel
theorem dX6_round_126 : decode cX6_round 126 = .ok (.iload_n 2, 1) := by decide +kernel
theorem dX6_round_127 : decode cX6_round 127 = .ok (.bipush 36, 2) := by decide +kernel
theorem dX6_round_129 : decode cX6_round 129 = .ok (.if_icmp .ge 31, 3) := by decide +kernel
theorem dX6_round_132 : decode cX6_round 132 = .ok (.aload_n 0, 1) := by decide +kernel
theorem dX6_round_133 : decode cX6_round 133 = .ok (.getfield 16, 3) := by decide +kernel
theorem dX6_round_136 : decode cX6_round 136 = .ok (.iload_n 2, 1) := by decide +kernel
theorem dX6_round_137 : decode cX6_round 137 = .ok (.aload_n 0, 1) := by decide +kernel
theorem dX6_round_138 : decode cX6_round 138 = .ok (.getfield 16, 3) := by decide +kernel
theorem dX6_round_141 : decode cX6_round 141 = .ok (.iload_n 2, 1) := by decide +kernel
theorem dX6_round_142 : decode cX6_round 142 = .ok (.faload, 1) := by decide +kernel
theorem dX6_round_143 : decode cX6_round 143 = .ok (.fload_n 1, 1) := by decide +kernel
theorem dX6_round_144 : decode cX6_round 144 = .ok (.fmul, 1) := by decide +kernel
theorem dX6_round_145 : decode cX6_round 145 = .ok (.aload_n 0, 1) := by decide +kernel
theorem dX6_round_146 : decode cX6_round 146 = .ok (.getfield 37, 3) := by decide +kernel
theorem dX6_round_149 : decode cX6_round 149 = .ok (.iload_n 2, 1) := by decide +kernel
theorem dX6_round_150 : decode cX6_round 150 = .ok (.iaload, 1) := by decide +kernel
theorem dX6_round_151 : decode cX6_round 151 = .ok (.i2f, 1) := by decide +kernel
theorem dX6_round_152 : decode cX6_round 152 = .ok (.fadd, 1) := by decide +kernel
theorem dX6_round_153 : decode cX6_round 153 = .ok (.fastore, 1) := by decide +kernel
theorem dX6_round_154 : decode cX6_round 154 = .ok (.iinc 2 1, 3) := by decide +kernel
theorem dX6_round_157 : decode cX6_round 157 = .ok (.goto (-31), 3) := by decide +kernel
theorem dX6_round_160 : decode cX6_round 160 = .ok (.aload_n 0, 1) := by decide +kernel
theorem dX6_round_161 : decode cX6_round 161 = .ok (.getfield 13, 3) := by decide +kernel
theorem dX6_round_164 : decode cX6_round 164 = .ok (.iconst 3, 1) := by decide +kernel
theorem dX6_round_165 : decode cX6_round 165 = .ok (.dup2, 1) := by decide +kernel
theorem dX6_round_166 : decode cX6_round 166 = .ok (.iaload, 1) := by decide +kernel
theorem dX6_round_167 : decode cX6_round 167 = .ok (.iconst 1, 1) := by decide +kernel
theorem dX6_round_168 : decode cX6_round 168 = .ok (.iadd, 1) := by decide +kernel
theorem dX6_round_169 : decode cX6_round 169 = .ok (.iastore, 1) := by decide +kernel
theorem dX6_round_170 : decode cX6_round 170 = .ok (.return_, 1) := by decide +kernel
