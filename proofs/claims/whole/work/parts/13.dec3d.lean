theorem dX6_pairs_0 : decode cX6_pairs 0 = .ok (.iconst 0, 1) := by decide +kernel
theorem dX6_pairs_1 : decode cX6_pairs 1 = .ok (.istore_n 1, 1) := by decide +kernel
theorem dX6_pairs_2 : decode cX6_pairs 2 = .ok (.iconst 0, 1) := by decide +kernel
theorem dX6_pairs_3 : decode cX6_pairs 3 = .ok (.istore_n 2, 1) := by decide +kernel
theorem dX6_pairs_4 : decode cX6_pairs 4 = .ok (.iload_n 2, 1) := by decide +kernel
theorem dX6_pairs_5 : decode cX6_pairs 5 = .ok (.aload_n 0, 1) := by decide +kernel
theorem dX6_pairs_6 : decode cX6_pairs 6 = .ok (.getfield 13, 3) := by decide +kernel
theorem dX6_pairs_9 : decode cX6_pairs 9 = .ok (.iconst 0, 1) := by decide +kernel
theorem dX6_pairs_10 : decode cX6_pairs 10 = .ok (.iaload, 1) := by decide +kernel
theorem dX6_pairs_11 : decode cX6_pairs 11 = .ok (.if_icmp .ge 21, 3) := by decide +kernel
theorem dX6_pairs_14 : decode cX6_pairs 14 = .ok (.iload_n 1, 1) := by decide +kernel
theorem dX6_pairs_15 : decode cX6_pairs 15 = .ok (.aload_n 0, 1) := by decide +kernel
theorem dX6_pairs_16 : decode cX6_pairs 16 = .ok (.iload_n 2, 1) := by decide +kernel
theorem dX6_pairs_17 : decode cX6_pairs 17 = .ok (.iconst 5, 1) := by decide +kernel
theorem dX6_pairs_18 : decode cX6_pairs 18 = .ok (.invokevirtual 76, 3) := by decide +kernel
theorem dX6_pairs_21 : decode cX6_pairs 21 = .ok (.invokestatic 115, 3) := by decide +kernel
theorem dX6_pairs_24 : decode cX6_pairs 24 = .ok (.iadd, 1) := by decide +kernel
theorem dX6_pairs_25 : decode cX6_pairs 25 = .ok (.istore_n 1, 1) := by decide +kernel
theorem dX6_pairs_26 : decode cX6_pairs 26 = .ok (.iinc 2 1, 3) := by decide +kernel
theorem dX6_pairs_29 : decode cX6_pairs 29 = .ok (.goto (-25), 3) := by decide +kernel
theorem dX6_pairs_32 : decode cX6_pairs 32 = .ok (.iload_n 1, 1) := by decide +kernel
theorem dX6_pairs_33 : decode cX6_pairs 33 = .ok (.ireturn, 1) := by decide +kernel
theorem dX6_countOf_0 : decode cX6_countOf 0 = .ok (.iload_n 1, 1) := by decide +kernel
theorem dX6_countOf_1 : decode cX6_countOf 1 = .ok (.tableswitch 114 0 8 #[51, 58, 65, 72, 79, 86, 93, 101, 109], 51) := by decide +kernel
theorem dX6_countOf_52 : decode cX6_countOf 52 = .ok (.aload_n 0, 1) := by decide +kernel
theorem dX6_countOf_53 : decode cX6_countOf 53 = .ok (.getfield 13, 3) := by decide +kernel
theorem dX6_countOf_56 : decode cX6_countOf 56 = .ok (.iconst 0, 1) := by decide +kernel
theorem dX6_countOf_57 : decode cX6_countOf 57 = .ok (.iaload, 1) := by decide +kernel
theorem dX6_countOf_58 : decode cX6_countOf 58 = .ok (.ireturn, 1) := by decide +kernel
theorem dX6_countOf_59 : decode cX6_countOf 59 = .ok (.aload_n 0, 1) := by decide +kernel
theorem dX6_countOf_60 : decode cX6_countOf 60 = .ok (.getfield 13, 3) := by decide +kernel
theorem dX6_countOf_63 : decode cX6_countOf 63 = .ok (.iconst 1, 1) := by decide +kernel
theorem dX6_countOf_64 : decode cX6_countOf 64 = .ok (.iaload, 1) := by decide +kernel
theorem dX6_countOf_65 : decode cX6_countOf 65 = .ok (.ireturn, 1) := by decide +kernel
theorem dX6_countOf_66 : decode cX6_countOf 66 = .ok (.aload_n 0, 1) := by decide +kernel
theorem dX6_countOf_67 : decode cX6_countOf 67 = .ok (.getfield 13, 3) := by decide +kernel
theorem dX6_countOf_70 : decode cX6_countOf 70 = .ok (.iconst 2, 1) := by decide +kernel
theorem dX6_countOf_71 : decode cX6_countOf 71 = .ok (.iaload, 1) := by decide +kernel
theorem dX6_countOf_72 : decode cX6_countOf 72 = .ok (.ireturn, 1) := by decide +kernel
theorem dX6_countOf_73 : decode cX6_countOf 73 = .ok (.aload_n 0, 1) := by decide +kernel
theorem dX6_countOf_74 : decode cX6_countOf 74 = .ok (.getfield 13, 3) := by decide +kernel
theorem dX6_countOf_77 : decode cX6_countOf 77 = .ok (.iconst 3, 1) := by decide +kernel
theorem dX6_countOf_78 : decode cX6_countOf 78 = .ok (.iaload, 1) := by decide +kernel
theorem dX6_countOf_79 : decode cX6_countOf 79 = .ok (.ireturn, 1) := by decide +kernel
theorem dX6_countOf_80 : decode cX6_countOf 80 = .ok (.aload_n 0, 1) := by decide +kernel
theorem dX6_countOf_81 : decode cX6_countOf 81 = .ok (.getfield 13, 3) := by decide +kernel
theorem dX6_countOf_84 : decode cX6_countOf 84 = .ok (.iconst 4, 1) := by decide +kernel
theorem dX6_countOf_85 : decode cX6_countOf 85 = .ok (.iaload, 1) := by decide +kernel
theorem dX6_countOf_86 : decode cX6_countOf 86 = .ok (.ireturn, 1) := by decide +kernel
theorem dX6_countOf_87 : decode cX6_countOf 87 = .ok (.aload_n 0, 1) := by decide +kernel
theorem dX6_countOf_88 : decode cX6_countOf 88 = .ok (.getfield 13, 3) := by decide +kernel
theorem dX6_countOf_91 : decode cX6_countOf 91 = .ok (.iconst 5, 1) := by decide +kernel
theorem dX6_countOf_92 : decode cX6_countOf 92 = .ok (.iaload, 1) := by decide +kernel
theorem dX6_countOf_93 : decode cX6_countOf 93 = .ok (.ireturn, 1) := by decide +kernel
theorem dX6_countOf_94 : decode cX6_countOf 94 = .ok (.aload_n 0, 1) := by decide +kernel
theorem dX6_countOf_95 : decode cX6_countOf 95 = .ok (.getfield 13, 3) := by decide +kernel
theorem dX6_countOf_98 : decode cX6_countOf 98 = .ok (.bipush 6, 2) := by decide +kernel
theorem dX6_countOf_100 : decode cX6_countOf 100 = .ok (.iaload, 1) := by decide +kernel
theorem dX6_countOf_101 : decode cX6_countOf 101 = .ok (.ireturn, 1) := by decide +kernel
theorem dX6_countOf_102 : decode cX6_countOf 102 = .ok (.aload_n 0, 1) := by decide +kernel
theorem dX6_countOf_103 : decode cX6_countOf 103 = .ok (.getfield 13, 3) := by decide +kernel
theorem dX6_countOf_106 : decode cX6_countOf 106 = .ok (.bipush 7, 2) := by decide +kernel
theorem dX6_countOf_108 : decode cX6_countOf 108 = .ok (.iaload, 1) := by decide +kernel
theorem dX6_countOf_109 : decode cX6_countOf 109 = .ok (.ireturn, 1) := by decide +kernel
theorem dX6_countOf_110 : decode cX6_countOf 110 = .ok (.aload_n 0, 1) := by decide +kernel
theorem dX6_countOf_111 : decode cX6_countOf 111 = .ok (.invokevirtual 243, 3) := by decide +kernel
theorem dX6_countOf_114 : decode cX6_countOf 114 = .ok (.ireturn, 1) := by decide +kernel
theorem dX6_countOf_115 : decode cX6_countOf 115 = .ok (.aload_n 0, 1) := by decide +kernel
theorem dX6_countOf_116 : decode cX6_countOf 116 = .ok (.invokevirtual 215, 3) := by decide +kernel
theorem dX6_countOf_119 : decode cX6_countOf 119 = .ok (.ifCond .eq 7, 3) := by decide +kernel
theorem dX6_countOf_122 : decode cX6_countOf 122 = .ok (.iconst 1, 1) := by decide +kernel
theorem dX6_countOf_123 : decode cX6_countOf 123 = .ok (.goto 4, 3) := by decide +kernel
theorem dX6_countOf_126 : decode cX6_countOf 126 = .ok (.iconst 0, 1) := by decide +kernel
theorem dX6_countOf_127 : decode cX6_countOf 127 = .ok (.ireturn, 1) := by decide +kernel
theorem dX6_count_0 : decode cX6_count 0 = .ok (.iload_n 1, 1) := by decide +kernel
theorem dX6_count_1 : decode cX6_count 1 = .ok (.iconst 0, 1) := by decide +kernel
theorem dX6_count_2 : decode cX6_count 2 = .ok (.bipush 9, 2) := by decide +kernel
theorem dX6_count_4 : decode cX6_count 4 = .ok (.invokestatic 72, 3) := by decide +kernel
theorem dX6_count_7 : decode cX6_count 7 = .ok (.ifCond .eq 11, 3) := by decide +kernel
theorem dX6_count_10 : decode cX6_count 10 = .ok (.aload_n 0, 1) := by decide +kernel
theorem dX6_count_11 : decode cX6_count 11 = .ok (.iload_n 1, 1) := by decide +kernel
theorem dX6_count_12 : decode cX6_count 12 = .ok (.invokevirtual 246, 3) := by decide +kernel
theorem dX6_count_15 : decode cX6_count 15 = .ok (.goto 7, 3) := by decide +kernel
theorem dX6_count_18 : decode cX6_count 18 = .ok (.aload_n 0, 1) := by decide +kernel
theorem dX6_count_19 : decode cX6_count 19 = .ok (.invokevirtual 50, 3) := by decide +kernel
theorem dX6_count_22 : decode cX6_count 22 = .ok (.ireturn, 1) := by decide +kernel
theorem dX6_type_0 : decode cX6_type 0 = .ok (.iload_n 1, 1) := by decide +kernel
theorem dX6_type_1 : decode cX6_type 1 = .ok (.iconst 0, 1) := by decide +kernel
theorem dX6_type_2 : decode cX6_type 2 = .ok (.bipush 127, 2) := by decide +kernel
theorem dX6_type_4 : decode cX6_type 4 = .ok (.invokestatic 72, 3) := by decide +kernel
theorem dX6_type_7 : decode cX6_type 7 = .ok (.ifCond .ne 8, 3) := by decide +kernel
theorem dX6_type_10 : decode cX6_type 10 = .ok (.aload_n 0, 1) := by decide +kernel
theorem dX6_type_11 : decode cX6_type 11 = .ok (.invokevirtual 50, 3) := by decide +kernel
theorem dX6_type_14 : decode cX6_type 14 = .ok (.ireturn, 1) := by decide +kernel
theorem dX6_type_15 : decode cX6_type 15 = .ok (.aload_n 0, 1) := by decide +kernel
theorem dX6_type_16 : decode cX6_type 16 = .ok (.getfield 249, 3) := by decide +kernel
theorem dX6_type_19 : decode cX6_type 19 = .ok (.bipush 120, 2) := by decide +kernel
theorem dX6_type_21 : decode cX6_type 21 = .ok (.if_icmp .ne 8, 3) := by decide +kernel
theorem dX6_type_24 : decode cX6_type 24 = .ok (.aload_n 0, 1) := by decide +kernel
theorem dX6_type_25 : decode cX6_type 25 = .ok (.invokevirtual 57, 3) := by decide +kernel
theorem dX6_type_28 : decode cX6_type 28 = .ok (.ireturn, 1) := by decide +kernel
theorem dX6_type_29 : decode cX6_type 29 = .ok (.aload_n 0, 1) := by decide +kernel
theorem dX6_type_30 : decode cX6_type 30 = .ok (.getfield 40, 3) := by decide +kernel
theorem dX6_type_33 : decode cX6_type 33 = .ok (.aload_n 0, 1) := by decide +kernel
theorem dX6_type_34 : decode cX6_type 34 = .ok (.getfield 249, 3) := by decide +kernel
theorem dX6_type_37 : decode cX6_type 37 = .ok (.iload_n 1, 1) := by decide +kernel
theorem dX6_type_38 : decode cX6_type 38 = .ok (.iastore, 1) := by decide +kernel
theorem dX6_type_39 : decode cX6_type 39 = .ok (.aload_n 0, 1) := by decide +kernel
theorem dX6_type_40 : decode cX6_type 40 = .ok (.dup, 1) := by decide +kernel
theorem dX6_type_41 : decode cX6_type 41 = .ok (.getfield 249, 3) := by decide +kernel
theorem dX6_type_44 : decode cX6_type 44 = .ok (.iconst 1, 1) := by decide +kernel
theorem dX6_type_45 : decode cX6_type 45 = .ok (.iadd, 1) := by decide +kernel
theorem dX6_type_46 : decode cX6_type 46 = .ok (.putfield 249, 3) := by decide +kernel
theorem dX6_type_49 : decode cX6_type 49 = .ok (.aload_n 0, 1) := by decide +kernel
theorem dX6_type_50 : decode cX6_type 50 = .ok (.getfield 249, 3) := by decide +kernel
theorem dX6_type_53 : decode cX6_type 53 = .ok (.ireturn, 1) := by decide +kernel
theorem dX6_clear_0 : decode cX6_clear 0 = .ok (.aload_n 0, 1) := by decide +kernel
theorem dX6_clear_1 : decode cX6_clear 1 = .ok (.getfield 249, 3) := by decide +kernel
theorem dX6_clear_4 : decode cX6_clear 4 = .ok (.istore_n 1, 1) := by decide +kernel
theorem dX6_clear_5 : decode cX6_clear 5 = .ok (.aload_n 0, 1) := by decide +kernel
theorem dX6_clear_6 : decode cX6_clear 6 = .ok (.iconst 0, 1) := by decide +kernel
theorem dX6_clear_7 : decode cX6_clear 7 = .ok (.putfield 249, 3) := by decide +kernel
theorem dX6_clear_10 : decode cX6_clear 10 = .ok (.iload_n 1, 1) := by decide +kernel
theorem dX6_clear_11 : decode cX6_clear 11 = .ok (.ireturn, 1) := by decide +kernel
theorem dX6_isAt_0 : decode cX6_isAt 0 = .ok (.aload_n 0, 1) := by decide +kernel
theorem dX6_isAt_1 : decode cX6_isAt 1 = .ok (.getfield 252, 3) := by decide +kernel
theorem dX6_isAt_4 : decode cX6_isAt 4 = .ok (.aload_n 0, 1) := by decide +kernel
theorem dX6_isAt_5 : decode cX6_isAt 5 = .ok (.getfield 249, 3) := by decide +kernel
theorem dX6_isAt_8 : decode cX6_isAt 8 = .ok (.if_icmp .ge 24, 3) := by decide +kernel
theorem dX6_isAt_11 : decode cX6_isAt 11 = .ok (.aload_n 0, 1) := by decide +kernel
theorem dX6_isAt_12 : decode cX6_isAt 12 = .ok (.getfield 40, 3) := by decide +kernel
theorem dX6_isAt_15 : decode cX6_isAt 15 = .ok (.aload_n 0, 1) := by decide +kernel
theorem dX6_isAt_16 : decode cX6_isAt 16 = .ok (.getfield 252, 3) := by decide +kernel
theorem dX6_isAt_19 : decode cX6_isAt 19 = .ok (.iaload, 1) := by decide +kernel
theorem dX6_isAt_20 : decode cX6_isAt 20 = .ok (.iload_n 1, 1) := by decide +kernel
theorem dX6_isAt_21 : decode cX6_isAt 21 = .ok (.iload_n 2, 1) := by decide +kernel
theorem dX6_isAt_22 : decode cX6_isAt 22 = .ok (.invokestatic 72, 3) := by decide +kernel
theorem dX6_isAt_25 : decode cX6_isAt 25 = .ok (.ifCond .eq 7, 3) := by decide +kernel
theorem dX6_isAt_28 : decode cX6_isAt 28 = .ok (.iconst 1, 1) := by decide +kernel
theorem dX6_isAt_29 : decode cX6_isAt 29 = .ok (.goto 4, 3) := by decide +kernel
theorem dX6_isAt_32 : decode cX6_isAt 32 = .ok (.iconst 0, 1) := by decide +kernel
theorem dX6_isAt_33 : decode cX6_isAt 33 = .ok (.ireturn, 1) := by decide +kernel
theorem dX6_blanks_0 : decode cX6_blanks 0 = .ok (.aload_n 0, 1) := by decide +kernel
theorem dX6_blanks_1 : decode cX6_blanks 1 = .ok (.bipush 32, 2) := by decide +kernel
theorem dX6_blanks_3 : decode cX6_blanks 3 = .ok (.bipush 32, 2) := by decide +kernel
theorem dX6_blanks_5 : decode cX6_blanks 5 = .ok (.invokevirtual 255, 3) := by decide +kernel
theorem dX6_blanks_8 : decode cX6_blanks 8 = .ok (.ifCond .eq 16, 3) := by decide +kernel
theorem dX6_blanks_11 : decode cX6_blanks 11 = .ok (.aload_n 0, 1) := by decide +kernel
theorem dX6_blanks_12 : decode cX6_blanks 12 = .ok (.dup, 1) := by decide +kernel
theorem dX6_blanks_13 : decode cX6_blanks 13 = .ok (.getfield 252, 3) := by decide +kernel
theorem dX6_blanks_16 : decode cX6_blanks 16 = .ok (.iconst 1, 1) := by decide +kernel
theorem dX6_blanks_17 : decode cX6_blanks 17 = .ok (.iadd, 1) := by decide +kernel
theorem dX6_blanks_18 : decode cX6_blanks 18 = .ok (.putfield 252, 3) := by decide +kernel
theorem dX6_blanks_21 : decode cX6_blanks 21 = .ok (.goto (-21), 3) := by decide +kernel
theorem dX6_blanks_24 : decode cX6_blanks 24 = .ok (.return_, 1) := by decide +kernel
theorem dX6_number_0 : decode cX6_number 0 = .ok (.aload_n 0, 1) := by decide +kernel
theorem dX6_number_1 : decode cX6_number 1 = .ok (.invokevirtual 258, 3) := by decide +kernel
theorem dX6_number_4 : decode cX6_number 4 = .ok (.iconst 0, 1) := by decide +kernel
theorem dX6_number_5 : decode cX6_number 5 = .ok (.istore_n 1, 1) := by decide +kernel
theorem dX6_number_6 : decode cX6_number 6 = .ok (.iconst 0, 1) := by decide +kernel
theorem dX6_number_7 : decode cX6_number 7 = .ok (.istore_n 2, 1) := by decide +kernel
theorem dX6_number_8 : decode cX6_number 8 = .ok (.aload_n 0, 1) := by decide +kernel
theorem dX6_number_9 : decode cX6_number 9 = .ok (.aload_n 0, 1) := by decide +kernel
theorem dX6_number_10 : decode cX6_number 10 = .ok (.getfield 261, 3) := by decide +kernel
theorem dX6_number_13 : decode cX6_number 13 = .ok (.ifCond .ne 14, 3) := by decide +kernel
theorem dX6_number_16 : decode cX6_number 16 = .ok (.aload_n 0, 1) := by decide +kernel
theorem dX6_number_17 : decode cX6_number 17 = .ok (.bipush 48, 2) := by decide +kernel
theorem dX6_number_19 : decode cX6_number 19 = .ok (.bipush 57, 2) := by decide +kernel
theorem dX6_number_21 : decode cX6_number 21 = .ok (.invokevirtual 255, 3) := by decide +kernel
theorem dX6_number_24 : decode cX6_number 24 = .ok (.ifCond .ne 7, 3) := by decide +kernel
theorem dX6_number_27 : decode cX6_number 27 = .ok (.iconst 1, 1) := by decide +kernel
theorem dX6_number_28 : decode cX6_number 28 = .ok (.goto 4, 3) := by decide +kernel
theorem dX6_number_31 : decode cX6_number 31 = .ok (.iconst 0, 1) := by decide +kernel
theorem dX6_number_32 : decode cX6_number 32 = .ok (.putfield 261, 3) := by decide +kernel
theorem dX6_number_35 : decode cX6_number 35 = .ok (.aload_n 0, 1) := by decide +kernel
theorem dX6_number_36 : decode cX6_number 36 = .ok (.getfield 261, 3) := by decide +kernel
theorem dX6_number_39 : decode cX6_number 39 = .ok (.ifCond .ne 84, 3) := by decide +kernel
theorem dX6_number_42 : decode cX6_number 42 = .ok (.aload_n 0, 1) := by decide +kernel
theorem dX6_number_43 : decode cX6_number 43 = .ok (.bipush 48, 2) := by decide +kernel
theorem dX6_number_45 : decode cX6_number 45 = .ok (.bipush 57, 2) := by decide +kernel
theorem dX6_number_47 : decode cX6_number 47 = .ok (.invokevirtual 255, 3) := by decide +kernel
theorem dX6_number_50 : decode cX6_number 50 = .ok (.ifCond .eq 73, 3) := by decide +kernel
theorem dX6_number_53 : decode cX6_number 53 = .ok (.iinc 2 1, 3) := by decide +kernel
theorem dX6_number_56 : decode cX6_number 56 = .ok (.aload_n 0, 1) := by decide +kernel
theorem dX6_number_57 : decode cX6_number 57 = .ok (.iload_n 2, 1) := by decide +kernel
theorem dX6_number_58 : decode cX6_number 58 = .ok (.iconst 2, 1) := by decide +kernel
theorem dX6_number_59 : decode cX6_number 59 = .ok (.if_icmp .le 7, 3) := by decide +kernel
theorem dX6_number_62 : decode cX6_number 62 = .ok (.iconst 1, 1) := by decide +kernel
theorem dX6_number_63 : decode cX6_number 63 = .ok (.goto 4, 3) := by decide +kernel
theorem dX6_number_66 : decode cX6_number 66 = .ok (.iconst 0, 1) := by decide +kernel
theorem dX6_number_67 : decode cX6_number 67 = .ok (.putfield 261, 3) := by decide +kernel
theorem dX6_number_70 : decode cX6_number 70 = .ok (.aload_n 0, 1) := by decide +kernel
theorem dX6_number_71 : decode cX6_number 71 = .ok (.getfield 261, 3) := by decide +kernel
theorem dX6_number_74 : decode cX6_number 74 = .ok (.ifCond .eq 7, 3) := by decide +kernel
theorem dX6_number_77 : decode cX6_number 77 = .ok (.iload_n 1, 1) := by decide +kernel
theorem dX6_number_78 : decode cX6_number 78 = .ok (.goto 20, 3) := by decide +kernel
theorem dX6_number_81 : decode cX6_number 81 = .ok (.bipush 10, 2) := by decide +kernel
theorem dX6_number_83 : decode cX6_number 83 = .ok (.iload_n 1, 1) := by decide +kernel
theorem dX6_number_84 : decode cX6_number 84 = .ok (.imul, 1) := by decide +kernel
theorem dX6_number_85 : decode cX6_number 85 = .ok (.aload_n 0, 1) := by decide +kernel
theorem dX6_number_86 : decode cX6_number 86 = .ok (.getfield 40, 3) := by decide +kernel
theorem dX6_number_89 : decode cX6_number 89 = .ok (.aload_n 0, 1) := by decide +kernel
theorem dX6_number_90 : decode cX6_number 90 = .ok (.getfield 252, 3) := by decide +kernel
theorem dX6_number_93 : decode cX6_number 93 = .ok (.iaload, 1) := by decide +kernel
theorem dX6_number_94 : decode cX6_number 94 = .ok (.iadd, 1) := by decide +kernel
theorem dX6_number_95 : decode cX6_number 95 = .ok (.bipush 48, 2) := by decide +kernel
theorem dX6_number_97 : decode cX6_number 97 = .ok (.isub, 1) := by decide +kernel
theorem dX6_number_98 : decode cX6_number 98 = .ok (.istore_n 1, 1) := by decide +kernel
theorem dX6_number_99 : decode cX6_number 99 = .ok (.aload_n 0, 1) := by decide +kernel
theorem dX6_number_100 : decode cX6_number 100 = .ok (.dup, 1) := by decide +kernel
theorem dX6_number_101 : decode cX6_number 101 = .ok (.getfield 252, 3) := by decide +kernel
theorem dX6_number_104 : decode cX6_number 104 = .ok (.aload_n 0, 1) := by decide +kernel
theorem dX6_number_105 : decode cX6_number 105 = .ok (.getfield 261, 3) := by decide +kernel
theorem dX6_number_108 : decode cX6_number 108 = .ok (.ifCond .eq 7, 3) := by decide +kernel
theorem dX6_number_111 : decode cX6_number 111 = .ok (.iconst 0, 1) := by decide +kernel
theorem dX6_number_112 : decode cX6_number 112 = .ok (.goto 4, 3) := by decide +kernel
theorem dX6_number_115 : decode cX6_number 115 = .ok (.iconst 1, 1) := by decide +kernel
theorem dX6_number_116 : decode cX6_number 116 = .ok (.iadd, 1) := by decide +kernel
theorem dX6_number_117 : decode cX6_number 117 = .ok (.putfield 252, 3) := by decide +kernel
theorem dX6_number_120 : decode cX6_number 120 = .ok (.goto (-85), 3) := by decide +kernel
theorem dX6_number_123 : decode cX6_number 123 = .ok (.iload_n 1, 1) := by decide +kernel
theorem dX6_number_124 : decode cX6_number 124 = .ok (.ireturn, 1) := by decide +kernel
theorem dX6_isDone_0 : decode cX6_isDone 0 = .ok (.aload_n 0, 1) := by decide +kernel
theorem dX6_isDone_1 : decode cX6_isDone 1 = .ok (.getfield 43, 3) := by decide +kernel
theorem dX6_isDone_4 : decode cX6_isDone 4 = .ok (.iconst 0, 1) := by decide +kernel
theorem dX6_isDone_5 : decode cX6_isDone 5 = .ok (.iaload, 1) := by decide +kernel
theorem dX6_isDone_6 : decode cX6_isDone 6 = .ok (.istore_n 2, 1) := by decide +kernel
theorem dX6_isDone_7 : decode cX6_isDone 7 = .ok (.aload_n 0, 1) := by decide +kernel
theorem dX6_isDone_8 : decode cX6_isDone 8 = .ok (.getfield 43, 3) := by decide +kernel
theorem dX6_isDone_11 : decode cX6_isDone 11 = .ok (.iconst 1, 1) := by decide +kernel
theorem dX6_isDone_12 : decode cX6_isDone 12 = .ok (.iaload, 1) := by decide +kernel
theorem dX6_isDone_13 : decode cX6_isDone 13 = .ok (.istore_n 3, 1) := by decide +kernel
theorem dX6_isDone_14 : decode cX6_isDone 14 = .ok (.iload_n 1, 1) := by decide +kernel
theorem dX6_isDone_15 : decode cX6_isDone 15 = .ok (.bipush 112, 2) := by decide +kernel
theorem dX6_isDone_17 : decode cX6_isDone 17 = .ok (.if_icmp .ne 12, 3) := by decide +kernel
theorem dX6_isDone_20 : decode cX6_isDone 20 = .ok (.aload_n 0, 1) := by decide +kernel
theorem dX6_isDone_21 : decode cX6_isDone 21 = .ok (.iload_n 2, 1) := by decide +kernel
theorem dX6_isDone_22 : decode cX6_isDone 22 = .ok (.iload_n 3, 1) := by decide +kernel
theorem dX6_isDone_23 : decode cX6_isDone 23 = .ok (.invokevirtual 188, 3) := by decide +kernel
theorem dX6_isDone_26 : decode cX6_isDone 26 = .ok (.goto 48, 3) := by decide +kernel
theorem dX6_isDone_29 : decode cX6_isDone 29 = .ok (.iload_n 1, 1) := by decide +kernel
theorem dX6_isDone_30 : decode cX6_isDone 30 = .ok (.bipush 103, 2) := by decide +kernel
theorem dX6_isDone_32 : decode cX6_isDone 32 = .ok (.if_icmp .ne 12, 3) := by decide +kernel
theorem dX6_isDone_35 : decode cX6_isDone 35 = .ok (.aload_n 0, 1) := by decide +kernel
theorem dX6_isDone_36 : decode cX6_isDone 36 = .ok (.iload_n 2, 1) := by decide +kernel
theorem dX6_isDone_37 : decode cX6_isDone 37 = .ok (.iload_n 3, 1) := by decide +kernel
theorem dX6_isDone_38 : decode cX6_isDone 38 = .ok (.invokevirtual 197, 3) := by decide +kernel
theorem dX6_isDone_41 : decode cX6_isDone 41 = .ok (.goto 33, 3) := by decide +kernel
theorem dX6_isDone_44 : decode cX6_isDone 44 = .ok (.iload_n 1, 1) := by decide +kernel
theorem dX6_isDone_45 : decode cX6_isDone 45 = .ok (.bipush 115, 2) := by decide +kernel
theorem dX6_isDone_47 : decode cX6_isDone 47 = .ok (.if_icmp .ne 11, 3) := by decide +kernel
theorem dX6_isDone_50 : decode cX6_isDone 50 = .ok (.iload_n 2, 1) := by decide +kernel
theorem dX6_isDone_51 : decode cX6_isDone 51 = .ok (.iload_n 3, 1) := by decide +kernel
theorem dX6_isDone_52 : decode cX6_isDone 52 = .ok (.invokestatic 203, 3) := by decide +kernel
theorem dX6_isDone_55 : decode cX6_isDone 55 = .ok (.goto 19, 3) := by decide +kernel
theorem dX6_isDone_58 : decode cX6_isDone 58 = .ok (.iload_n 2, 1) := by decide +kernel
theorem dX6_isDone_59 : decode cX6_isDone 59 = .ok (.iconst 1, 1) := by decide +kernel
theorem dX6_isDone_60 : decode cX6_isDone 60 = .ok (.bipush 30, 2) := by decide +kernel
theorem dX6_isDone_62 : decode cX6_isDone 62 = .ok (.invokestatic 72, 3) := by decide +kernel
theorem dX6_isDone_65 : decode cX6_isDone 65 = .ok (.ifCond .eq 7, 3) := by decide +kernel
theorem dX6_isDone_68 : decode cX6_isDone 68 = .ok (.iconst 0, 1) := by decide +kernel
theorem dX6_isDone_69 : decode cX6_isDone 69 = .ok (.goto 5, 3) := by decide +kernel
theorem dX6_isDone_72 : decode cX6_isDone 72 = .ok (.bipush (-2), 2) := by decide +kernel
theorem dX6_isDone_74 : decode cX6_isDone 74 = .ok (.istore 4, 2) := by decide +kernel
theorem dX6_isDone_76 : decode cX6_isDone 76 = .ok (.iload 4, 2) := by decide +kernel
theorem dX6_isDone_78 : decode cX6_isDone 78 = .ok (.ifCond .ge 5, 3) := by decide +kernel
theorem dX6_isDone_81 : decode cX6_isDone 81 = .ok (.iconst 0, 1) := by decide +kernel
theorem dX6_isDone_82 : decode cX6_isDone 82 = .ok (.ireturn, 1) := by decide +kernel
theorem dX6_isDone_83 : decode cX6_isDone 83 = .ok (.iload_n 1, 1) := by decide +kernel
theorem dX6_isDone_84 : decode cX6_isDone 84 = .ok (.bipush 112, 2) := by decide +kernel
theorem dX6_isDone_86 : decode cX6_isDone 86 = .ok (.if_icmp .ne 12, 3) := by decide +kernel
theorem dX6_isDone_89 : decode cX6_isDone 89 = .ok (.aload_n 0, 1) := by decide +kernel
theorem dX6_isDone_90 : decode cX6_isDone 90 = .ok (.iload_n 2, 1) := by decide +kernel
theorem dX6_isDone_91 : decode cX6_isDone 91 = .ok (.iload_n 3, 1) := by decide +kernel
theorem dX6_isDone_92 : decode cX6_isDone 92 = .ok (.invokevirtual 194, 3) := by decide +kernel
theorem dX6_isDone_95 : decode cX6_isDone 95 = .ok (.goto 38, 3) := by decide +kernel
theorem dX6_isDone_98 : decode cX6_isDone 98 = .ok (.iload_n 1, 1) := by decide +kernel
theorem dX6_isDone_99 : decode cX6_isDone 99 = .ok (.bipush 103, 2) := by decide +kernel
theorem dX6_isDone_101 : decode cX6_isDone 101 = .ok (.if_icmp .ne 12, 3) := by decide +kernel
theorem dX6_isDone_104 : decode cX6_isDone 104 = .ok (.aload_n 0, 1) := by decide +kernel
theorem dX6_isDone_105 : decode cX6_isDone 105 = .ok (.iload_n 2, 1) := by decide +kernel
theorem dX6_isDone_106 : decode cX6_isDone 106 = .ok (.iload_n 3, 1) := by decide +kernel
theorem dX6_isDone_107 : decode cX6_isDone 107 = .ok (.invokevirtual 200, 3) := by decide +kernel
theorem dX6_isDone_110 : decode cX6_isDone 110 = .ok (.goto 23, 3) := by decide +kernel
theorem dX6_isDone_113 : decode cX6_isDone 113 = .ok (.iload_n 1, 1) := by decide +kernel
theorem dX6_isDone_114 : decode cX6_isDone 114 = .ok (.bipush 115, 2) := by decide +kernel
theorem dX6_isDone_116 : decode cX6_isDone 116 = .ok (.if_icmp .ne 12, 3) := by decide +kernel
theorem dX6_isDone_119 : decode cX6_isDone 119 = .ok (.aload_n 0, 1) := by decide +kernel
theorem dX6_isDone_120 : decode cX6_isDone 120 = .ok (.iload_n 2, 1) := by decide +kernel
theorem dX6_isDone_121 : decode cX6_isDone 121 = .ok (.iload_n 3, 1) := by decide +kernel
theorem dX6_isDone_122 : decode cX6_isDone 122 = .ok (.invokevirtual 206, 3) := by decide +kernel
theorem dX6_isDone_125 : decode cX6_isDone 125 = .ok (.goto 8, 3) := by decide +kernel
theorem dX6_isDone_128 : decode cX6_isDone 128 = .ok (.aload_n 0, 1) := by decide +kernel
theorem dX6_isDone_129 : decode cX6_isDone 129 = .ok (.iload_n 2, 1) := by decide +kernel
theorem dX6_isDone_130 : decode cX6_isDone 130 = .ok (.invokevirtual 209, 3) := by decide +kernel
theorem dX6_isDone_133 : decode cX6_isDone 133 = .ok (.istore 5, 2) := by decide +kernel
theorem dX6_isDone_135 : decode cX6_isDone 135 = .ok (.iload 5, 2) := by decide +kernel
theorem dX6_isDone_137 : decode cX6_isDone 137 = .ok (.ifCond .lt 7, 3) := by decide +kernel
theorem dX6_isDone_140 : decode cX6_isDone 140 = .ok (.iconst 1, 1) := by decide +kernel
theorem dX6_isDone_141 : decode cX6_isDone 141 = .ok (.goto 4, 3) := by decide +kernel
theorem dX6_isDone_144 : decode cX6_isDone 144 = .ok (.iconst 0, 1) := by decide +kernel
theorem dX6_isDone_145 : decode cX6_isDone 145 = .ok (.ireturn, 1) := by decide +kernel
theorem dX6_reads_0 : decode cX6_reads 0 = .ok (.aload_n 0, 1) := by decide +kernel
theorem dX6_reads_1 : decode cX6_reads 1 = .ok (.iconst 0, 1) := by decide +kernel
theorem dX6_reads_2 : decode cX6_reads 2 = .ok (.putfield 252, 3) := by decide +kernel
theorem dX6_reads_5 : decode cX6_reads 5 = .ok (.aload_n 0, 1) := by decide +kernel
theorem dX6_reads_6 : decode cX6_reads 6 = .ok (.iconst 0, 1) := by decide +kernel
theorem dX6_reads_7 : decode cX6_reads 7 = .ok (.putfield 261, 3) := by decide +kernel
theorem dX6_reads_10 : decode cX6_reads 10 = .ok (.iconst 0, 1) := by decide +kernel
theorem dX6_reads_11 : decode cX6_reads 11 = .ok (.istore_n 2, 1) := by decide +kernel
theorem dX6_reads_12 : decode cX6_reads 12 = .ok (.aload_n 0, 1) := by decide +kernel
theorem dX6_reads_13 : decode cX6_reads 13 = .ok (.invokevirtual 258, 3) := by decide +kernel
theorem dX6_reads_16 : decode cX6_reads 16 = .ok (.aload_n 0, 1) := by decide +kernel
theorem dX6_reads_17 : decode cX6_reads 17 = .ok (.aload_n 0, 1) := by decide +kernel
theorem dX6_reads_18 : decode cX6_reads 18 = .ok (.getfield 252, 3) := by decide +kernel
theorem dX6_reads_21 : decode cX6_reads 21 = .ok (.aload_n 0, 1) := by decide +kernel
theorem dX6_reads_22 : decode cX6_reads 22 = .ok (.getfield 249, 3) := by decide +kernel
theorem dX6_reads_25 : decode cX6_reads 25 = .ok (.if_icmp .ne 7, 3) := by decide +kernel
theorem dX6_reads_28 : decode cX6_reads 28 = .ok (.iconst 1, 1) := by decide +kernel
theorem dX6_reads_29 : decode cX6_reads 29 = .ok (.goto 4, 3) := by decide +kernel
theorem dX6_reads_32 : decode cX6_reads 32 = .ok (.iconst 0, 1) := by decide +kernel
theorem dX6_reads_33 : decode cX6_reads 33 = .ok (.putfield 261, 3) := by decide +kernel
theorem dX6_reads_36 : decode cX6_reads 36 = .ok (.aload_n 0, 1) := by decide +kernel
theorem dX6_reads_37 : decode cX6_reads 37 = .ok (.getfield 261, 3) := by decide +kernel
theorem dX6_reads_40 : decode cX6_reads 40 = .ok (.ifCond .ne 212, 3) := by decide +kernel
theorem dX6_reads_43 : decode cX6_reads 43 = .ok (.aload_n 0, 1) := by decide +kernel
theorem dX6_reads_44 : decode cX6_reads 44 = .ok (.getfield 252, 3) := by decide +kernel
theorem dX6_reads_47 : decode cX6_reads 47 = .ok (.aload_n 0, 1) := by decide +kernel
theorem dX6_reads_48 : decode cX6_reads 48 = .ok (.getfield 249, 3) := by decide +kernel
theorem dX6_reads_51 : decode cX6_reads 51 = .ok (.if_icmp .ge 201, 3) := by decide +kernel
theorem dX6_reads_54 : decode cX6_reads 54 = .ok (.aload_n 0, 1) := by decide +kernel
theorem dX6_reads_55 : decode cX6_reads 55 = .ok (.getfield 40, 3) := by decide +kernel
theorem dX6_reads_58 : decode cX6_reads 58 = .ok (.aload_n 0, 1) := by decide +kernel
theorem dX6_reads_59 : decode cX6_reads 59 = .ok (.getfield 252, 3) := by decide +kernel
theorem dX6_reads_62 : decode cX6_reads 62 = .ok (.iaload, 1) := by decide +kernel
theorem dX6_reads_63 : decode cX6_reads 63 = .ok (.istore_n 3, 1) := by decide +kernel
theorem dX6_reads_64 : decode cX6_reads 64 = .ok (.aload_n 0, 1) := by decide +kernel
theorem dX6_reads_65 : decode cX6_reads 65 = .ok (.iload_n 3, 1) := by decide +kernel
theorem dX6_reads_66 : decode cX6_reads 66 = .ok (.bipush 112, 2) := by decide +kernel
theorem dX6_reads_68 : decode cX6_reads 68 = .ok (.if_icmp .eq 25, 3) := by decide +kernel
theorem dX6_reads_71 : decode cX6_reads 71 = .ok (.iload_n 3, 1) := by decide +kernel
theorem dX6_reads_72 : decode cX6_reads 72 = .ok (.bipush 103, 2) := by decide +kernel
theorem dX6_reads_74 : decode cX6_reads 74 = .ok (.if_icmp .eq 19, 3) := by decide +kernel
theorem dX6_reads_77 : decode cX6_reads 77 = .ok (.iload_n 3, 1) := by decide +kernel
theorem dX6_reads_78 : decode cX6_reads 78 = .ok (.bipush 114, 2) := by decide +kernel
theorem dX6_reads_80 : decode cX6_reads 80 = .ok (.if_icmp .eq 13, 3) := by decide +kernel
theorem dX6_reads_83 : decode cX6_reads 83 = .ok (.iload_n 3, 1) := by decide +kernel
theorem dX6_reads_84 : decode cX6_reads 84 = .ok (.bipush 115, 2) := by decide +kernel
theorem dX6_reads_86 : decode cX6_reads 86 = .ok (.if_icmp .eq 7, 3) := by decide +kernel
theorem dX6_reads_89 : decode cX6_reads 89 = .ok (.iconst 1, 1) := by decide +kernel
theorem dX6_reads_90 : decode cX6_reads 90 = .ok (.goto 4, 3) := by decide +kernel
theorem dX6_reads_93 : decode cX6_reads 93 = .ok (.iconst 0, 1) := by decide +kernel
theorem dX6_reads_94 : decode cX6_reads 94 = .ok (.putfield 261, 3) := by decide +kernel
theorem dX6_reads_97 : decode cX6_reads 97 = .ok (.aload_n 0, 1) := by decide +kernel
theorem dX6_reads_98 : decode cX6_reads 98 = .ok (.dup, 1) := by decide +kernel
theorem dX6_reads_99 : decode cX6_reads 99 = .ok (.getfield 252, 3) := by decide +kernel
theorem dX6_reads_102 : decode cX6_reads 102 = .ok (.aload_n 0, 1) := by decide +kernel
theorem dX6_reads_103 : decode cX6_reads 103 = .ok (.getfield 261, 3) := by decide +kernel
theorem dX6_reads_106 : decode cX6_reads 106 = .ok (.ifCond .eq 7, 3) := by decide +kernel
theorem dX6_reads_109 : decode cX6_reads 109 = .ok (.iconst 0, 1) := by decide +kernel
theorem dX6_reads_110 : decode cX6_reads 110 = .ok (.goto 4, 3) := by decide +kernel
theorem dX6_reads_113 : decode cX6_reads 113 = .ok (.iconst 1, 1) := by decide +kernel
theorem dX6_reads_114 : decode cX6_reads 114 = .ok (.iadd, 1) := by decide +kernel
theorem dX6_reads_115 : decode cX6_reads 115 = .ok (.putfield 252, 3) := by decide +kernel
theorem dX6_reads_118 : decode cX6_reads 118 = .ok (.aload_n 0, 1) := by decide +kernel
theorem dX6_reads_119 : decode cX6_reads 119 = .ok (.getfield 43, 3) := by decide +kernel
theorem dX6_reads_122 : decode cX6_reads 122 = .ok (.iconst 0, 1) := by decide +kernel
theorem dX6_reads_123 : decode cX6_reads 123 = .ok (.aload_n 0, 1) := by decide +kernel
theorem dX6_reads_124 : decode cX6_reads 124 = .ok (.getfield 261, 3) := by decide +kernel
theorem dX6_reads_127 : decode cX6_reads 127 = .ok (.ifCond .eq 7, 3) := by decide +kernel
theorem dX6_reads_130 : decode cX6_reads 130 = .ok (.iconst 0, 1) := by decide +kernel
theorem dX6_reads_131 : decode cX6_reads 131 = .ok (.goto 7, 3) := by decide +kernel
theorem dX6_reads_134 : decode cX6_reads 134 = .ok (.aload_n 0, 1) := by decide +kernel
theorem dX6_reads_135 : decode cX6_reads 135 = .ok (.invokevirtual 265, 3) := by decide +kernel
theorem dX6_reads_138 : decode cX6_reads 138 = .ok (.iastore, 1) := by decide +kernel
theorem dX6_reads_139 : decode cX6_reads 139 = .ok (.aload_n 0, 1) := by decide +kernel
theorem dX6_reads_140 : decode cX6_reads 140 = .ok (.getfield 43, 3) := by decide +kernel
theorem dX6_reads_143 : decode cX6_reads 143 = .ok (.iconst 1, 1) := by decide +kernel
theorem dX6_reads_144 : decode cX6_reads 144 = .ok (.aload_n 0, 1) := by decide +kernel
theorem dX6_reads_145 : decode cX6_reads 145 = .ok (.getfield 261, 3) := by decide +kernel
theorem dX6_reads_148 : decode cX6_reads 148 = .ok (.ifCond .ne 9, 3) := by decide +kernel
theorem dX6_reads_151 : decode cX6_reads 151 = .ok (.iload_n 3, 1) := by decide +kernel
theorem dX6_reads_152 : decode cX6_reads 152 = .ok (.bipush 114, 2) := by decide +kernel
theorem dX6_reads_154 : decode cX6_reads 154 = .ok (.if_icmp .ne 7, 3) := by decide +kernel
theorem dX6_reads_157 : decode cX6_reads 157 = .ok (.iconst 0, 1) := by decide +kernel
theorem dX6_reads_158 : decode cX6_reads 158 = .ok (.goto 7, 3) := by decide +kernel
theorem dX6_reads_161 : decode cX6_reads 161 = .ok (.aload_n 0, 1) := by decide +kernel
theorem dX6_reads_162 : decode cX6_reads 162 = .ok (.invokevirtual 265, 3) := by decide +kernel
theorem dX6_reads_165 : decode cX6_reads 165 = .ok (.iastore, 1) := by decide +kernel
theorem dX6_reads_166 : decode cX6_reads 166 = .ok (.aload_n 0, 1) := by decide +kernel
theorem dX6_reads_167 : decode cX6_reads 167 = .ok (.getfield 261, 3) := by decide +kernel
theorem dX6_reads_170 : decode cX6_reads 170 = .ok (.ifCond .ne 48, 3) := by decide +kernel
theorem dX6_reads_173 : decode cX6_reads 173 = .ok (.aload_n 0, 1) := by decide +kernel
theorem dX6_reads_174 : decode cX6_reads 174 = .ok (.invokevirtual 258, 3) := by decide +kernel
theorem dX6_reads_177 : decode cX6_reads 177 = .ok (.aload_n 0, 1) := by decide +kernel
theorem dX6_reads_178 : decode cX6_reads 178 = .ok (.aload_n 0, 1) := by decide +kernel
theorem dX6_reads_179 : decode cX6_reads 179 = .ok (.bipush 59, 2) := by decide +kernel
theorem dX6_reads_181 : decode cX6_reads 181 = .ok (.bipush 59, 2) := by decide +kernel
theorem dX6_reads_183 : decode cX6_reads 183 = .ok (.invokevirtual 255, 3) := by decide +kernel
theorem dX6_reads_186 : decode cX6_reads 186 = .ok (.ifCond .ne 7, 3) := by decide +kernel
theorem dX6_reads_189 : decode cX6_reads 189 = .ok (.iconst 1, 1) := by decide +kernel
theorem dX6_reads_190 : decode cX6_reads 190 = .ok (.goto 4, 3) := by decide +kernel
theorem dX6_reads_193 : decode cX6_reads 193 = .ok (.iconst 0, 1) := by decide +kernel
theorem dX6_reads_194 : decode cX6_reads 194 = .ok (.putfield 261, 3) := by decide +kernel
theorem dX6_reads_197 : decode cX6_reads 197 = .ok (.aload_n 0, 1) := by decide +kernel
theorem dX6_reads_198 : decode cX6_reads 198 = .ok (.dup, 1) := by decide +kernel
theorem dX6_reads_199 : decode cX6_reads 199 = .ok (.getfield 252, 3) := by decide +kernel
theorem dX6_reads_202 : decode cX6_reads 202 = .ok (.aload_n 0, 1) := by decide +kernel
theorem dX6_reads_203 : decode cX6_reads 203 = .ok (.getfield 261, 3) := by decide +kernel
theorem dX6_reads_206 : decode cX6_reads 206 = .ok (.ifCond .eq 7, 3) := by decide +kernel
theorem dX6_reads_209 : decode cX6_reads 209 = .ok (.iconst 0, 1) := by decide +kernel
theorem dX6_reads_210 : decode cX6_reads 210 = .ok (.goto 4, 3) := by decide +kernel
theorem dX6_reads_213 : decode cX6_reads 213 = .ok (.iconst 1, 1) := by decide +kernel
theorem dX6_reads_214 : decode cX6_reads 214 = .ok (.iadd, 1) := by decide +kernel
theorem dX6_reads_215 : decode cX6_reads 215 = .ok (.putfield 252, 3) := by decide +kernel
theorem dX6_reads_218 : decode cX6_reads 218 = .ok (.aload_n 0, 1) := by decide +kernel
theorem dX6_reads_219 : decode cX6_reads 219 = .ok (.getfield 261, 3) := by decide +kernel
theorem dX6_reads_222 : decode cX6_reads 222 = .ok (.ifCond .ne 27, 3) := by decide +kernel
theorem dX6_reads_225 : decode cX6_reads 225 = .ok (.aload_n 0, 1) := by decide +kernel
theorem dX6_reads_226 : decode cX6_reads 226 = .ok (.invokevirtual 258, 3) := by decide +kernel
theorem dX6_reads_229 : decode cX6_reads 229 = .ok (.iload_n 2, 1) := by decide +kernel
theorem dX6_reads_230 : decode cX6_reads 230 = .ok (.iload_n 1, 1) := by decide +kernel
theorem dX6_reads_231 : decode cX6_reads 231 = .ok (.ifCond .eq 15, 3) := by decide +kernel
theorem dX6_reads_234 : decode cX6_reads 234 = .ok (.aload_n 0, 1) := by decide +kernel
theorem dX6_reads_235 : decode cX6_reads 235 = .ok (.iload_n 3, 1) := by decide +kernel
theorem dX6_reads_236 : decode cX6_reads 236 = .ok (.invokevirtual 268, 3) := by decide +kernel
theorem dX6_reads_239 : decode cX6_reads 239 = .ok (.ifCond .eq 7, 3) := by decide +kernel
theorem dX6_reads_242 : decode cX6_reads 242 = .ok (.iconst 1, 1) := by decide +kernel
theorem dX6_reads_243 : decode cX6_reads 243 = .ok (.goto 4, 3) := by decide +kernel
theorem dX6_reads_246 : decode cX6_reads 246 = .ok (.iconst 0, 1) := by decide +kernel
theorem dX6_reads_247 : decode cX6_reads 247 = .ok (.iadd, 1) := by decide +kernel
theorem dX6_reads_248 : decode cX6_reads 248 = .ok (.istore_n 2, 1) := by decide +kernel
theorem dX6_reads_249 : decode cX6_reads 249 = .ok (.goto (-213), 3) := by decide +kernel
theorem dX6_reads_252 : decode cX6_reads 252 = .ok (.aload_n 0, 1) := by decide +kernel
theorem dX6_reads_253 : decode cX6_reads 253 = .ok (.getfield 261, 3) := by decide +kernel
theorem dX6_reads_256 : decode cX6_reads 256 = .ok (.ifCond .eq 7, 3) := by decide +kernel
theorem dX6_reads_259 : decode cX6_reads 259 = .ok (.iconst (-1), 1) := by decide +kernel
theorem dX6_reads_260 : decode cX6_reads 260 = .ok (.goto 4, 3) := by decide +kernel
theorem dX6_reads_263 : decode cX6_reads 263 = .ok (.iload_n 2, 1) := by decide +kernel
theorem dX6_reads_264 : decode cX6_reads 264 = .ok (.ireturn, 1) := by decide +kernel
theorem dX6_does_0 : decode cX6_does 0 = .ok (.aload_n 0, 1) := by decide +kernel
theorem dX6_does_1 : decode cX6_does 1 = .ok (.iconst 0, 1) := by decide +kernel
theorem dX6_does_2 : decode cX6_does 2 = .ok (.invokevirtual 271, 3) := by decide +kernel
theorem dX6_does_5 : decode cX6_does 5 = .ok (.iconst (-1), 1) := by decide +kernel
theorem dX6_does_6 : decode cX6_does 6 = .ok (.if_icmp .ne 11, 3) := by decide +kernel
theorem dX6_does_9 : decode cX6_does 9 = .ok (.bipush (-10), 2) := by decide +kernel
theorem dX6_does_11 : decode cX6_does 11 = .ok (.aload_n 0, 1) := by decide +kernel
theorem dX6_does_12 : decode cX6_does 12 = .ok (.getfield 252, 3) := by decide +kernel
theorem dX6_does_15 : decode cX6_does 15 = .ok (.isub, 1) := by decide +kernel
theorem dX6_does_16 : decode cX6_does 16 = .ok (.ireturn, 1) := by decide +kernel
theorem dX6_does_17 : decode cX6_does 17 = .ok (.aload_n 0, 1) := by decide +kernel
theorem dX6_does_18 : decode cX6_does 18 = .ok (.invokevirtual 185, 3) := by decide +kernel
theorem dX6_does_21 : decode cX6_does 21 = .ok (.aload_n 0, 1) := by decide +kernel
theorem dX6_does_22 : decode cX6_does 22 = .ok (.iconst 1, 1) := by decide +kernel
theorem dX6_does_23 : decode cX6_does 23 = .ok (.invokevirtual 271, 3) := by decide +kernel
theorem dX6_does_26 : decode cX6_does 26 = .ok (.ireturn, 1) := by decide +kernel
theorem dX6_toldOf_0 : decode cX6_toldOf 0 = .ok (.iload_n 1, 1) := by decide +kernel
theorem dX6_toldOf_1 : decode cX6_toldOf 1 = .ok (.iconst 3, 1) := by decide +kernel
theorem dX6_toldOf_2 : decode cX6_toldOf 2 = .ok (.if_icmp .ge 12, 3) := by decide +kernel
theorem dX6_toldOf_5 : decode cX6_toldOf 5 = .ok (.aload_n 0, 1) := by decide +kernel
theorem dX6_toldOf_6 : decode cX6_toldOf 6 = .ok (.getfield 7, 3) := by decide +kernel
theorem dX6_toldOf_9 : decode cX6_toldOf 9 = .ok (.iload_n 1, 1) := by decide +kernel
theorem dX6_toldOf_10 : decode cX6_toldOf 10 = .ok (.iaload, 1) := by decide +kernel
theorem dX6_toldOf_11 : decode cX6_toldOf 11 = .ok (.goto 40, 3) := by decide +kernel
theorem dX6_toldOf_14 : decode cX6_toldOf 14 = .ok (.iload_n 1, 1) := by decide +kernel
theorem dX6_toldOf_15 : decode cX6_toldOf 15 = .ok (.bipush 7, 2) := by decide +kernel
theorem dX6_toldOf_17 : decode cX6_toldOf 17 = .ok (.if_icmp .ge 17, 3) := by decide +kernel
theorem dX6_toldOf_20 : decode cX6_toldOf 20 = .ok (.aload_n 0, 1) := by decide +kernel
theorem dX6_toldOf_21 : decode cX6_toldOf 21 = .ok (.getfield 13, 3) := by decide +kernel
theorem dX6_toldOf_24 : decode cX6_toldOf 24 = .ok (.bipush 8, 2) := by decide +kernel
theorem dX6_toldOf_26 : decode cX6_toldOf 26 = .ok (.iload_n 1, 1) := by decide +kernel
theorem dX6_toldOf_27 : decode cX6_toldOf 27 = .ok (.iadd, 1) := by decide +kernel
theorem dX6_toldOf_28 : decode cX6_toldOf 28 = .ok (.iconst 3, 1) := by decide +kernel
theorem dX6_toldOf_29 : decode cX6_toldOf 29 = .ok (.isub, 1) := by decide +kernel
theorem dX6_toldOf_30 : decode cX6_toldOf 30 = .ok (.iaload, 1) := by decide +kernel
theorem dX6_toldOf_31 : decode cX6_toldOf 31 = .ok (.goto 20, 3) := by decide +kernel
theorem dX6_toldOf_34 : decode cX6_toldOf 34 = .ok (.iload_n 1, 1) := by decide +kernel
theorem dX6_toldOf_35 : decode cX6_toldOf 35 = .ok (.bipush 7, 2) := by decide +kernel
theorem dX6_toldOf_37 : decode cX6_toldOf 37 = .ok (.if_icmp .ne 10, 3) := by decide +kernel
theorem dX6_toldOf_40 : decode cX6_toldOf 40 = .ok (.aload_n 0, 1) := by decide +kernel
theorem dX6_toldOf_41 : decode cX6_toldOf 41 = .ok (.getfield 249, 3) := by decide +kernel
theorem dX6_toldOf_44 : decode cX6_toldOf 44 = .ok (.goto 7, 3) := by decide +kernel
theorem dX6_toldOf_47 : decode cX6_toldOf 47 = .ok (.aload_n 0, 1) := by decide +kernel
theorem dX6_toldOf_48 : decode cX6_toldOf 48 = .ok (.getfield 64, 3) := by decide +kernel
theorem dX6_toldOf_51 : decode cX6_toldOf 51 = .ok (.ireturn, 1) := by decide +kernel
theorem dX6_told_0 : decode cX6_told 0 = .ok (.iload_n 1, 1) := by decide +kernel
theorem dX6_told_1 : decode cX6_told 1 = .ok (.iconst 0, 1) := by decide +kernel
theorem dX6_told_2 : decode cX6_told 2 = .ok (.bipush 8, 2) := by decide +kernel
theorem dX6_told_4 : decode cX6_told 4 = .ok (.invokestatic 72, 3) := by decide +kernel
theorem dX6_told_7 : decode cX6_told 7 = .ok (.ifCond .eq 11, 3) := by decide +kernel
theorem dX6_told_10 : decode cX6_told 10 = .ok (.aload_n 0, 1) := by decide +kernel
theorem dX6_told_11 : decode cX6_told 11 = .ok (.iload_n 1, 1) := by decide +kernel
theorem dX6_told_12 : decode cX6_told 12 = .ok (.invokevirtual 275, 3) := by decide +kernel
theorem dX6_told_15 : decode cX6_told 15 = .ok (.goto 7, 3) := by decide +kernel
theorem dX6_told_18 : decode cX6_told 18 = .ok (.aload_n 0, 1) := by decide +kernel
theorem dX6_told_19 : decode cX6_told 19 = .ok (.invokevirtual 50, 3) := by decide +kernel
theorem dX6_told_22 : decode cX6_told 22 = .ok (.ireturn, 1) := by decide +kernel
theorem dX6_digest_0 : decode cX6_digest 0 = .ok (.ldc2_w 278, 3) := by decide +kernel
theorem dX6_digest_3 : decode cX6_digest 3 = .ok (.lstore_n 1, 1) := by decide +kernel
theorem dX6_digest_4 : decode cX6_digest 4 = .ok (.iconst 0, 1) := by decide +kernel
theorem dX6_digest_5 : decode cX6_digest 5 = .ok (.istore_n 3, 1) := by decide +kernel
theorem dX6_digest_6 : decode cX6_digest 6 = .ok (.iload_n 3, 1) := by decide +kernel
theorem dX6_digest_7 : decode cX6_digest 7 = .ok (.bipush 9, 2) := by decide +kernel
theorem dX6_digest_9 : decode cX6_digest 9 = .ok (.if_icmp .ge 22, 3) := by decide +kernel
theorem dX6_digest_12 : decode cX6_digest 12 = .ok (.ldc2_w 280, 3) := by decide +kernel
theorem dX6_digest_15 : decode cX6_digest 15 = .ok (.lload_n 1, 1) := by decide +kernel
theorem dX6_digest_16 : decode cX6_digest 16 = .ok (.lmul, 1) := by decide +kernel
theorem dX6_digest_17 : decode cX6_digest 17 = .ok (.aload_n 0, 1) := by decide +kernel
theorem dX6_digest_18 : decode cX6_digest 18 = .ok (.iload_n 3, 1) := by decide +kernel
theorem dX6_digest_19 : decode cX6_digest 19 = .ok (.invokevirtual 275, 3) := by decide +kernel
theorem dX6_digest_22 : decode cX6_digest 22 = .ok (.i2l, 1) := by decide +kernel
theorem dX6_digest_23 : decode cX6_digest 23 = .ok (.ladd, 1) := by decide +kernel
theorem dX6_digest_24 : decode cX6_digest 24 = .ok (.lstore_n 1, 1) := by decide +kernel
theorem dX6_digest_25 : decode cX6_digest 25 = .ok (.iinc 3 1, 3) := by decide +kernel
theorem dX6_digest_28 : decode cX6_digest 28 = .ok (.goto (-22), 3) := by decide +kernel
theorem dX6_digest_31 : decode cX6_digest 31 = .ok (.iconst 0, 1) := by decide +kernel
theorem dX6_digest_32 : decode cX6_digest 32 = .ok (.istore_n 3, 1) := by decide +kernel
theorem dX6_digest_33 : decode cX6_digest 33 = .ok (.iload_n 3, 1) := by decide +kernel
theorem dX6_digest_34 : decode cX6_digest 34 = .ok (.bipush 10, 2) := by decide +kernel
theorem dX6_digest_36 : decode cX6_digest 36 = .ok (.if_icmp .ge 22, 3) := by decide +kernel
theorem dX6_digest_39 : decode cX6_digest 39 = .ok (.ldc2_w 280, 3) := by decide +kernel
theorem dX6_digest_42 : decode cX6_digest 42 = .ok (.lload_n 1, 1) := by decide +kernel
theorem dX6_digest_43 : decode cX6_digest 43 = .ok (.lmul, 1) := by decide +kernel
theorem dX6_digest_44 : decode cX6_digest 44 = .ok (.aload_n 0, 1) := by decide +kernel
theorem dX6_digest_45 : decode cX6_digest 45 = .ok (.iload_n 3, 1) := by decide +kernel
theorem dX6_digest_46 : decode cX6_digest 46 = .ok (.invokevirtual 246, 3) := by decide +kernel
theorem dX6_digest_49 : decode cX6_digest 49 = .ok (.i2l, 1) := by decide +kernel
theorem dX6_digest_50 : decode cX6_digest 50 = .ok (.ladd, 1) := by decide +kernel
theorem dX6_digest_51 : decode cX6_digest 51 = .ok (.lstore_n 1, 1) := by decide +kernel
theorem dX6_digest_52 : decode cX6_digest 52 = .ok (.iinc 3 1, 3) := by decide +kernel
theorem dX6_digest_55 : decode cX6_digest 55 = .ok (.goto (-22), 3) := by decide +kernel
theorem dX6_digest_58 : decode cX6_digest 58 = .ok (.iconst 0, 1) := by decide +kernel
theorem dX6_digest_59 : decode cX6_digest 59 = .ok (.istore_n 3, 1) := by decide +kernel
theorem dX6_digest_60 : decode cX6_digest 60 = .ok (.iload_n 3, 1) := by decide +kernel
theorem dX6_digest_61 : decode cX6_digest 61 = .ok (.aload_n 0, 1) := by decide +kernel
theorem dX6_digest_62 : decode cX6_digest 62 = .ok (.getfield 13, 3) := by decide +kernel
theorem dX6_digest_65 : decode cX6_digest 65 = .ok (.iconst 0, 1) := by decide +kernel
theorem dX6_digest_66 : decode cX6_digest 66 = .ok (.iaload, 1) := by decide +kernel
theorem dX6_digest_67 : decode cX6_digest 67 = .ok (.if_icmp .ge 155, 3) := by decide +kernel
theorem dX6_digest_70 : decode cX6_digest 70 = .ok (.iconst 0, 1) := by decide +kernel
theorem dX6_digest_71 : decode cX6_digest 71 = .ok (.istore 4, 2) := by decide +kernel
theorem dX6_digest_73 : decode cX6_digest 73 = .ok (.iload 4, 2) := by decide +kernel
theorem dX6_digest_75 : decode cX6_digest 75 = .ok (.bipush 10, 2) := by decide +kernel
theorem dX6_digest_77 : decode cX6_digest 77 = .ok (.if_icmp .ge 24, 3) := by decide +kernel
theorem dX6_digest_80 : decode cX6_digest 80 = .ok (.ldc2_w 280, 3) := by decide +kernel
theorem dX6_digest_83 : decode cX6_digest 83 = .ok (.lload_n 1, 1) := by decide +kernel
theorem dX6_digest_84 : decode cX6_digest 84 = .ok (.lmul, 1) := by decide +kernel
theorem dX6_digest_85 : decode cX6_digest 85 = .ok (.aload_n 0, 1) := by decide +kernel
theorem dX6_digest_86 : decode cX6_digest 86 = .ok (.iload_n 3, 1) := by decide +kernel
theorem dX6_digest_87 : decode cX6_digest 87 = .ok (.iload 4, 2) := by decide +kernel
theorem dX6_digest_89 : decode cX6_digest 89 = .ok (.invokevirtual 219, 3) := by decide +kernel
theorem dX6_digest_92 : decode cX6_digest 92 = .ok (.i2l, 1) := by decide +kernel
theorem dX6_digest_93 : decode cX6_digest 93 = .ok (.ladd, 1) := by decide +kernel
theorem dX6_digest_94 : decode cX6_digest 94 = .ok (.lstore_n 1, 1) := by decide +kernel
theorem dX6_digest_95 : decode cX6_digest 95 = .ok (.iinc 4 1, 3) := by decide +kernel
theorem dX6_digest_98 : decode cX6_digest 98 = .ok (.goto (-25), 3) := by decide +kernel
theorem dX6_digest_101 : decode cX6_digest 101 = .ok (.iconst 0, 1) := by decide +kernel
theorem dX6_digest_102 : decode cX6_digest 102 = .ok (.istore 4, 2) := by decide +kernel
theorem dX6_digest_104 : decode cX6_digest 104 = .ok (.iload 4, 2) := by decide +kernel
theorem dX6_digest_106 : decode cX6_digest 106 = .ok (.aload_n 0, 1) := by decide +kernel
theorem dX6_digest_107 : decode cX6_digest 107 = .ok (.getfield 13, 3) := by decide +kernel
theorem dX6_digest_110 : decode cX6_digest 110 = .ok (.iconst 1, 1) := by decide +kernel
theorem dX6_digest_111 : decode cX6_digest 111 = .ok (.iaload, 1) := by decide +kernel
theorem dX6_digest_112 : decode cX6_digest 112 = .ok (.aload_n 0, 1) := by decide +kernel
theorem dX6_digest_113 : decode cX6_digest 113 = .ok (.getfield 13, 3) := by decide +kernel
theorem dX6_digest_116 : decode cX6_digest 116 = .ok (.iconst 2, 1) := by decide +kernel
theorem dX6_digest_117 : decode cX6_digest 117 = .ok (.iaload, 1) := by decide +kernel
theorem dX6_digest_118 : decode cX6_digest 118 = .ok (.imul, 1) := by decide +kernel
theorem dX6_digest_119 : decode cX6_digest 119 = .ok (.if_icmp .ge 40, 3) := by decide +kernel
theorem dX6_digest_122 : decode cX6_digest 122 = .ok (.ldc2_w 280, 3) := by decide +kernel
theorem dX6_digest_125 : decode cX6_digest 125 = .ok (.lload_n 1, 1) := by decide +kernel
theorem dX6_digest_126 : decode cX6_digest 126 = .ok (.lmul, 1) := by decide +kernel
theorem dX6_digest_127 : decode cX6_digest 127 = .ok (.aload_n 0, 1) := by decide +kernel
theorem dX6_digest_128 : decode cX6_digest 128 = .ok (.iload_n 3, 1) := by decide +kernel
theorem dX6_digest_129 : decode cX6_digest 129 = .ok (.iload 4, 2) := by decide +kernel
theorem dX6_digest_131 : decode cX6_digest 131 = .ok (.aload_n 0, 1) := by decide +kernel
theorem dX6_digest_132 : decode cX6_digest 132 = .ok (.getfield 13, 3) := by decide +kernel
theorem dX6_digest_135 : decode cX6_digest 135 = .ok (.iconst 2, 1) := by decide +kernel
theorem dX6_digest_136 : decode cX6_digest 136 = .ok (.iaload, 1) := by decide +kernel
theorem dX6_digest_137 : decode cX6_digest 137 = .ok (.idiv, 1) := by decide +kernel
theorem dX6_digest_138 : decode cX6_digest 138 = .ok (.iload 4, 2) := by decide +kernel
theorem dX6_digest_140 : decode cX6_digest 140 = .ok (.aload_n 0, 1) := by decide +kernel
theorem dX6_digest_141 : decode cX6_digest 141 = .ok (.getfield 13, 3) := by decide +kernel
theorem dX6_digest_144 : decode cX6_digest 144 = .ok (.iconst 2, 1) := by decide +kernel
theorem dX6_digest_145 : decode cX6_digest 145 = .ok (.iaload, 1) := by decide +kernel
theorem dX6_digest_146 : decode cX6_digest 146 = .ok (.irem, 1) := by decide +kernel
theorem dX6_digest_147 : decode cX6_digest 147 = .ok (.invokevirtual 222, 3) := by decide +kernel
theorem dX6_digest_150 : decode cX6_digest 150 = .ok (.i2l, 1) := by decide +kernel
theorem dX6_digest_151 : decode cX6_digest 151 = .ok (.ladd, 1) := by decide +kernel
theorem dX6_digest_152 : decode cX6_digest 152 = .ok (.lstore_n 1, 1) := by decide +kernel
theorem dX6_digest_153 : decode cX6_digest 153 = .ok (.iinc 4 1, 3) := by decide +kernel
theorem dX6_digest_156 : decode cX6_digest 156 = .ok (.goto (-52), 3) := by decide +kernel
theorem dX6_digest_159 : decode cX6_digest 159 = .ok (.iconst 0, 1) := by decide +kernel
theorem dX6_digest_160 : decode cX6_digest 160 = .ok (.istore 4, 2) := by decide +kernel
theorem dX6_digest_162 : decode cX6_digest 162 = .ok (.iload 4, 2) := by decide +kernel
theorem dX6_digest_164 : decode cX6_digest 164 = .ok (.aload_n 0, 1) := by decide +kernel
theorem dX6_digest_165 : decode cX6_digest 165 = .ok (.getfield 13, 3) := by decide +kernel
theorem dX6_digest_168 : decode cX6_digest 168 = .ok (.iconst 0, 1) := by decide +kernel
theorem dX6_digest_169 : decode cX6_digest 169 = .ok (.iaload, 1) := by decide +kernel
theorem dX6_digest_170 : decode cX6_digest 170 = .ok (.if_icmp .ge 46, 3) := by decide +kernel
theorem dX6_digest_173 : decode cX6_digest 173 = .ok (.iload 4, 2) := by decide +kernel
theorem dX6_digest_175 : decode cX6_digest 175 = .ok (.iload_n 3, 1) := by decide +kernel
theorem dX6_digest_176 : decode cX6_digest 176 = .ok (.if_icmp .eq 34, 3) := by decide +kernel
theorem dX6_digest_179 : decode cX6_digest 179 = .ok (.ldc2_w 280, 3) := by decide +kernel
theorem dX6_digest_182 : decode cX6_digest 182 = .ok (.ldc2_w 280, 3) := by decide +kernel
theorem dX6_digest_185 : decode cX6_digest 185 = .ok (.lload_n 1, 1) := by decide +kernel
theorem dX6_digest_186 : decode cX6_digest 186 = .ok (.lmul, 1) := by decide +kernel
theorem dX6_digest_187 : decode cX6_digest 187 = .ok (.aload_n 0, 1) := by decide +kernel
theorem dX6_digest_188 : decode cX6_digest 188 = .ok (.iload_n 3, 1) := by decide +kernel
theorem dX6_digest_189 : decode cX6_digest 189 = .ok (.iload 4, 2) := by decide +kernel
theorem dX6_digest_191 : decode cX6_digest 191 = .ok (.invokevirtual 234, 3) := by decide +kernel
theorem dX6_digest_194 : decode cX6_digest 194 = .ok (.i2l, 1) := by decide +kernel
theorem dX6_digest_195 : decode cX6_digest 195 = .ok (.ladd, 1) := by decide +kernel
theorem dX6_digest_196 : decode cX6_digest 196 = .ok (.lmul, 1) := by decide +kernel
theorem dX6_digest_197 : decode cX6_digest 197 = .ok (.aload_n 0, 1) := by decide +kernel
theorem dX6_digest_198 : decode cX6_digest 198 = .ok (.iload_n 3, 1) := by decide +kernel
theorem dX6_digest_199 : decode cX6_digest 199 = .ok (.bipush 8, 2) := by decide +kernel
theorem dX6_digest_201 : decode cX6_digest 201 = .ok (.iload 4, 2) := by decide +kernel
theorem dX6_digest_203 : decode cX6_digest 203 = .ok (.iadd, 1) := by decide +kernel
theorem dX6_digest_204 : decode cX6_digest 204 = .ok (.invokevirtual 76, 3) := by decide +kernel
theorem dX6_digest_207 : decode cX6_digest 207 = .ok (.i2l, 1) := by decide +kernel
theorem dX6_digest_208 : decode cX6_digest 208 = .ok (.ladd, 1) := by decide +kernel
theorem dX6_digest_209 : decode cX6_digest 209 = .ok (.lstore_n 1, 1) := by decide +kernel
theorem dX6_digest_210 : decode cX6_digest 210 = .ok (.iinc 4 1, 3) := by decide +kernel
theorem dX6_digest_213 : decode cX6_digest 213 = .ok (.goto (-51), 3) := by decide +kernel
theorem dX6_digest_216 : decode cX6_digest 216 = .ok (.iinc 3 1, 3) := by decide +kernel
theorem dX6_digest_219 : decode cX6_digest 219 = .ok (.goto (-159), 3) := by decide +kernel
theorem dX6_digest_222 : decode cX6_digest 222 = .ok (.ldc2_w 280, 3) := by decide +kernel
theorem dX6_digest_225 : decode cX6_digest 225 = .ok (.ldc2_w 280, 3) := by decide +kernel
theorem dX6_digest_228 : decode cX6_digest 228 = .ok (.lload_n 1, 1) := by decide +kernel
theorem dX6_digest_229 : decode cX6_digest 229 = .ok (.lmul, 1) := by decide +kernel
theorem dX6_digest_230 : decode cX6_digest 230 = .ok (.aload_n 0, 1) := by decide +kernel
theorem dX6_digest_231 : decode cX6_digest 231 = .ok (.invokevirtual 282, 3) := by decide +kernel
theorem dX6_digest_234 : decode cX6_digest 234 = .ok (.i2l, 1) := by decide +kernel
theorem dX6_digest_235 : decode cX6_digest 235 = .ok (.ladd, 1) := by decide +kernel
theorem dX6_digest_236 : decode cX6_digest 236 = .ok (.lmul, 1) := by decide +kernel
theorem dX6_digest_237 : decode cX6_digest 237 = .ok (.aload_n 0, 1) := by decide +kernel
theorem dX6_digest_238 : decode cX6_digest 238 = .ok (.invokevirtual 285, 3) := by decide +kernel
theorem dX6_digest_241 : decode cX6_digest 241 = .ok (.ladd, 1) := by decide +kernel
theorem dX6_digest_242 : decode cX6_digest 242 = .ok (.lreturn, 1) := by decide +kernel
