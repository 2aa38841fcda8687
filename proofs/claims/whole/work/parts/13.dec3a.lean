theorem dX6_bad_0 : decode cX6_bad 0 = .ok (.aload_n 0, 1) := by decide +kernel
theorem dX6_bad_1 : decode cX6_bad 1 = .ok (.getfield 7, 3) := by decide +kernel
theorem dX6_bad_4 : decode cX6_bad 4 = .ok (.iconst 0, 1) := by decide +kernel
theorem dX6_bad_5 : decode cX6_bad 5 = .ok (.dup2, 1) := by decide +kernel
theorem dX6_bad_6 : decode cX6_bad 6 = .ok (.iaload, 1) := by decide +kernel
theorem dX6_bad_7 : decode cX6_bad 7 = .ok (.iconst 1, 1) := by decide +kernel
theorem dX6_bad_8 : decode cX6_bad 8 = .ok (.iadd, 1) := by decide +kernel
theorem dX6_bad_9 : decode cX6_bad 9 = .ok (.iastore, 1) := by decide +kernel
theorem dX6_bad_10 : decode cX6_bad 10 = .ok (.bipush (-2), 2) := by decide +kernel
theorem dX6_bad_12 : decode cX6_bad 12 = .ok (.ireturn, 1) := by decide +kernel
theorem dX6_no_0 : decode cX6_no 0 = .ok (.aload_n 0, 1) := by decide +kernel
theorem dX6_no_1 : decode cX6_no 1 = .ok (.getfield 7, 3) := by decide +kernel
theorem dX6_no_4 : decode cX6_no 4 = .ok (.iconst 1, 1) := by decide +kernel
theorem dX6_no_5 : decode cX6_no 5 = .ok (.dup2, 1) := by decide +kernel
theorem dX6_no_6 : decode cX6_no 6 = .ok (.iaload, 1) := by decide +kernel
theorem dX6_no_7 : decode cX6_no 7 = .ok (.iconst 1, 1) := by decide +kernel
theorem dX6_no_8 : decode cX6_no 8 = .ok (.iadd, 1) := by decide +kernel
theorem dX6_no_9 : decode cX6_no 9 = .ok (.iastore, 1) := by decide +kernel
theorem dX6_no_10 : decode cX6_no 10 = .ok (.bipush (-3), 2) := by decide +kernel
theorem dX6_no_12 : decode cX6_no 12 = .ok (.ireturn, 1) := by decide +kernel
theorem dX6_full_0 : decode cX6_full 0 = .ok (.aload_n 0, 1) := by decide +kernel
theorem dX6_full_1 : decode cX6_full 1 = .ok (.getfield 7, 3) := by decide +kernel
theorem dX6_full_4 : decode cX6_full 4 = .ok (.iconst 2, 1) := by decide +kernel
theorem dX6_full_5 : decode cX6_full 5 = .ok (.dup2, 1) := by decide +kernel
theorem dX6_full_6 : decode cX6_full 6 = .ok (.iaload, 1) := by decide +kernel
theorem dX6_full_7 : decode cX6_full 7 = .ok (.iconst 1, 1) := by decide +kernel
theorem dX6_full_8 : decode cX6_full 8 = .ok (.iadd, 1) := by decide +kernel
theorem dX6_full_9 : decode cX6_full 9 = .ok (.iastore, 1) := by decide +kernel
theorem dX6_full_10 : decode cX6_full 10 = .ok (.bipush (-4), 2) := by decide +kernel
theorem dX6_full_12 : decode cX6_full 12 = .ok (.ireturn, 1) := by decide +kernel
theorem dX6_counted_0 : decode cX6_counted 0 = .ok (.iload_n 1, 1) := by decide +kernel
theorem dX6_counted_1 : decode cX6_counted 1 = .ok (.bipush (-2), 2) := by decide +kernel
theorem dX6_counted_3 : decode cX6_counted 3 = .ok (.if_icmp .ne 10, 3) := by decide +kernel
theorem dX6_counted_6 : decode cX6_counted 6 = .ok (.aload_n 0, 1) := by decide +kernel
theorem dX6_counted_7 : decode cX6_counted 7 = .ok (.invokevirtual 50, 3) := by decide +kernel
theorem dX6_counted_10 : decode cX6_counted 10 = .ok (.goto 30, 3) := by decide +kernel
theorem dX6_counted_13 : decode cX6_counted 13 = .ok (.iload_n 1, 1) := by decide +kernel
theorem dX6_counted_14 : decode cX6_counted 14 = .ok (.bipush (-3), 2) := by decide +kernel
theorem dX6_counted_16 : decode cX6_counted 16 = .ok (.if_icmp .ne 10, 3) := by decide +kernel
theorem dX6_counted_19 : decode cX6_counted 19 = .ok (.aload_n 0, 1) := by decide +kernel
theorem dX6_counted_20 : decode cX6_counted 20 = .ok (.invokevirtual 54, 3) := by decide +kernel
theorem dX6_counted_23 : decode cX6_counted 23 = .ok (.goto 17, 3) := by decide +kernel
theorem dX6_counted_26 : decode cX6_counted 26 = .ok (.iload_n 1, 1) := by decide +kernel
theorem dX6_counted_27 : decode cX6_counted 27 = .ok (.bipush (-4), 2) := by decide +kernel
theorem dX6_counted_29 : decode cX6_counted 29 = .ok (.if_icmp .ne 10, 3) := by decide +kernel
theorem dX6_counted_32 : decode cX6_counted 32 = .ok (.aload_n 0, 1) := by decide +kernel
theorem dX6_counted_33 : decode cX6_counted 33 = .ok (.invokevirtual 57, 3) := by decide +kernel
theorem dX6_counted_36 : decode cX6_counted 36 = .ok (.goto 4, 3) := by decide +kernel
theorem dX6_counted_39 : decode cX6_counted 39 = .ok (.iload_n 1, 1) := by decide +kernel
theorem dX6_counted_40 : decode cX6_counted 40 = .ok (.ireturn, 1) := by decide +kernel
theorem dX6_in_0 : decode cX6_in 0 = .ok (.iload_n 0, 1) := by decide +kernel
theorem dX6_in_1 : decode cX6_in 1 = .ok (.iload_n 1, 1) := by decide +kernel
theorem dX6_in_2 : decode cX6_in 2 = .ok (.if_icmp .lt 12, 3) := by decide +kernel
theorem dX6_in_5 : decode cX6_in 5 = .ok (.iload_n 0, 1) := by decide +kernel
theorem dX6_in_6 : decode cX6_in 6 = .ok (.iload_n 2, 1) := by decide +kernel
theorem dX6_in_7 : decode cX6_in 7 = .ok (.if_icmp .gt 7, 3) := by decide +kernel
theorem dX6_in_10 : decode cX6_in 10 = .ok (.iconst 1, 1) := by decide +kernel
theorem dX6_in_11 : decode cX6_in 11 = .ok (.goto 4, 3) := by decide +kernel
theorem dX6_in_14 : decode cX6_in 14 = .ok (.iconst 0, 1) := by decide +kernel
theorem dX6_in_15 : decode cX6_in 15 = .ok (.ireturn, 1) := by decide +kernel
theorem dX6_lays_0 : decode cX6_lays 0 = .ok (.iconst 0, 1) := by decide +kernel
theorem dX6_lays_1 : decode cX6_lays 1 = .ok (.istore_n 3, 1) := by decide +kernel
theorem dX6_lays_2 : decode cX6_lays 2 = .ok (.iload_n 3, 1) := by decide +kernel
theorem dX6_lays_3 : decode cX6_lays 3 = .ok (.sipush 320, 3) := by decide +kernel
theorem dX6_lays_6 : decode cX6_lays 6 = .ok (.if_icmp .ge 16, 3) := by decide +kernel
theorem dX6_lays_9 : decode cX6_lays 9 = .ok (.aload_n 0, 1) := by decide +kernel
theorem dX6_lays_10 : decode cX6_lays 10 = .ok (.getfield 13, 3) := by decide +kernel
theorem dX6_lays_13 : decode cX6_lays 13 = .ok (.iload_n 3, 1) := by decide +kernel
theorem dX6_lays_14 : decode cX6_lays 14 = .ok (.iconst 0, 1) := by decide +kernel
theorem dX6_lays_15 : decode cX6_lays 15 = .ok (.iastore, 1) := by decide +kernel
theorem dX6_lays_16 : decode cX6_lays 16 = .ok (.iinc 3 1, 3) := by decide +kernel
theorem dX6_lays_19 : decode cX6_lays 19 = .ok (.goto (-17), 3) := by decide +kernel
theorem dX6_lays_22 : decode cX6_lays 22 = .ok (.iconst 0, 1) := by decide +kernel
theorem dX6_lays_23 : decode cX6_lays 23 = .ok (.istore_n 3, 1) := by decide +kernel
theorem dX6_lays_24 : decode cX6_lays 24 = .ok (.iload_n 3, 1) := by decide +kernel
theorem dX6_lays_25 : decode cX6_lays 25 = .ok (.bipush 36, 2) := by decide +kernel
theorem dX6_lays_27 : decode cX6_lays 27 = .ok (.if_icmp .ge 16, 3) := by decide +kernel
theorem dX6_lays_30 : decode cX6_lays 30 = .ok (.aload_n 0, 1) := by decide +kernel
theorem dX6_lays_31 : decode cX6_lays 31 = .ok (.getfield 16, 3) := by decide +kernel
theorem dX6_lays_34 : decode cX6_lays 34 = .ok (.iload_n 3, 1) := by decide +kernel
theorem dX6_lays_35 : decode cX6_lays 35 = .ok (.fconst 0, 1) := by decide +kernel
theorem dX6_lays_36 : decode cX6_lays 36 = .ok (.fastore, 1) := by decide +kernel
theorem dX6_lays_37 : decode cX6_lays 37 = .ok (.iinc 3 1, 3) := by decide +kernel
theorem dX6_lays_40 : decode cX6_lays 40 = .ok (.goto (-16), 3) := by decide +kernel
theorem dX6_lays_43 : decode cX6_lays 43 = .ok (.aload_n 0, 1) := by decide +kernel
theorem dX6_lays_44 : decode cX6_lays 44 = .ok (.getfield 13, 3) := by decide +kernel
theorem dX6_lays_47 : decode cX6_lays 47 = .ok (.iconst 1, 1) := by decide +kernel
theorem dX6_lays_48 : decode cX6_lays 48 = .ok (.iload_n 1, 1) := by decide +kernel
theorem dX6_lays_49 : decode cX6_lays 49 = .ok (.iastore, 1) := by decide +kernel
theorem dX6_lays_50 : decode cX6_lays 50 = .ok (.aload_n 0, 1) := by decide +kernel
theorem dX6_lays_51 : decode cX6_lays 51 = .ok (.getfield 13, 3) := by decide +kernel
theorem dX6_lays_54 : decode cX6_lays 54 = .ok (.iconst 2, 1) := by decide +kernel
theorem dX6_lays_55 : decode cX6_lays 55 = .ok (.iload_n 2, 1) := by decide +kernel
theorem dX6_lays_56 : decode cX6_lays 56 = .ok (.iastore, 1) := by decide +kernel
theorem dX6_lays_57 : decode cX6_lays 57 = .ok (.aload_n 0, 1) := by decide +kernel
theorem dX6_lays_58 : decode cX6_lays 58 = .ok (.getfield 13, 3) := by decide +kernel
theorem dX6_lays_61 : decode cX6_lays 61 = .ok (.bipush 8, 2) := by decide +kernel
theorem dX6_lays_63 : decode cX6_lays 63 = .ok (.iconst 2, 1) := by decide +kernel
theorem dX6_lays_64 : decode cX6_lays 64 = .ok (.iastore, 1) := by decide +kernel
theorem dX6_lays_65 : decode cX6_lays 65 = .ok (.aload_n 0, 1) := by decide +kernel
theorem dX6_lays_66 : decode cX6_lays 66 = .ok (.getfield 13, 3) := by decide +kernel
theorem dX6_lays_69 : decode cX6_lays 69 = .ok (.bipush 9, 2) := by decide +kernel
theorem dX6_lays_71 : decode cX6_lays 71 = .ok (.iconst 5, 1) := by decide +kernel
theorem dX6_lays_72 : decode cX6_lays 72 = .ok (.iastore, 1) := by decide +kernel
theorem dX6_lays_73 : decode cX6_lays 73 = .ok (.aload_n 0, 1) := by decide +kernel
theorem dX6_lays_74 : decode cX6_lays 74 = .ok (.getfield 13, 3) := by decide +kernel
theorem dX6_lays_77 : decode cX6_lays 77 = .ok (.bipush 10, 2) := by decide +kernel
theorem dX6_lays_79 : decode cX6_lays 79 = .ok (.iconst 2, 1) := by decide +kernel
theorem dX6_lays_80 : decode cX6_lays 80 = .ok (.iastore, 1) := by decide +kernel
theorem dX6_lays_81 : decode cX6_lays 81 = .ok (.aload_n 0, 1) := by decide +kernel
theorem dX6_lays_82 : decode cX6_lays 82 = .ok (.getfield 13, 3) := by decide +kernel
theorem dX6_lays_85 : decode cX6_lays 85 = .ok (.bipush 11, 2) := by decide +kernel
theorem dX6_lays_87 : decode cX6_lays 87 = .ok (.iconst 3, 1) := by decide +kernel
theorem dX6_lays_88 : decode cX6_lays 88 = .ok (.iastore, 1) := by decide +kernel
theorem dX6_lays_89 : decode cX6_lays 89 = .ok (.aload_n 0, 1) := by decide +kernel
theorem dX6_lays_90 : decode cX6_lays 90 = .ok (.lconst 1, 1) := by decide +kernel
theorem dX6_lays_91 : decode cX6_lays 91 = .ok (.putfield 60, 3) := by decide +kernel
theorem dX6_lays_94 : decode cX6_lays 94 = .ok (.return_, 1) := by decide +kernel
theorem dX6_leavesState_0 : decode cX6_leavesState 0 = .ok (.aload_n 0, 1) := by decide +kernel
theorem dX6_leavesState_1 : decode cX6_leavesState 1 = .ok (.getfield 64, 3) := by decide +kernel
theorem dX6_leavesState_4 : decode cX6_leavesState 4 = .ok (.iconst 5, 1) := by decide +kernel
theorem dX6_leavesState_5 : decode cX6_leavesState 5 = .ok (.if_icmp .ne 101, 3) := by decide +kernel
theorem dX6_leavesState_8 : decode cX6_leavesState 8 = .ok (.iconst 0, 1) := by decide +kernel
theorem dX6_leavesState_9 : decode cX6_leavesState 9 = .ok (.istore_n 1, 1) := by decide +kernel
theorem dX6_leavesState_10 : decode cX6_leavesState 10 = .ok (.iload_n 1, 1) := by decide +kernel
theorem dX6_leavesState_11 : decode cX6_leavesState 11 = .ok (.sipush 1280, 3) := by decide +kernel
theorem dX6_leavesState_14 : decode cX6_leavesState 14 = .ok (.if_icmp .ge 25, 3) := by decide +kernel
theorem dX6_leavesState_17 : decode cX6_leavesState 17 = .ok (.aload_n 0, 1) := by decide +kernel
theorem dX6_leavesState_18 : decode cX6_leavesState 18 = .ok (.getfield 20, 3) := by decide +kernel
theorem dX6_leavesState_21 : decode cX6_leavesState 21 = .ok (.iload_n 1, 1) := by decide +kernel
theorem dX6_leavesState_22 : decode cX6_leavesState 22 = .ok (.aload_n 0, 1) := by decide +kernel
theorem dX6_leavesState_23 : decode cX6_leavesState 23 = .ok (.getfield 20, 3) := by decide +kernel
theorem dX6_leavesState_26 : decode cX6_leavesState 26 = .ok (.iload_n 1, 1) := by decide +kernel
theorem dX6_leavesState_27 : decode cX6_leavesState 27 = .ok (.sipush 320, 3) := by decide +kernel
theorem dX6_leavesState_30 : decode cX6_leavesState 30 = .ok (.iadd, 1) := by decide +kernel
theorem dX6_leavesState_31 : decode cX6_leavesState 31 = .ok (.iaload, 1) := by decide +kernel
theorem dX6_leavesState_32 : decode cX6_leavesState 32 = .ok (.iastore, 1) := by decide +kernel
theorem dX6_leavesState_33 : decode cX6_leavesState 33 = .ok (.iinc 1 1, 3) := by decide +kernel
theorem dX6_leavesState_36 : decode cX6_leavesState 36 = .ok (.goto (-26), 3) := by decide +kernel
theorem dX6_leavesState_39 : decode cX6_leavesState 39 = .ok (.iconst 0, 1) := by decide +kernel
theorem dX6_leavesState_40 : decode cX6_leavesState 40 = .ok (.istore_n 1, 1) := by decide +kernel
theorem dX6_leavesState_41 : decode cX6_leavesState 41 = .ok (.iload_n 1, 1) := by decide +kernel
theorem dX6_leavesState_42 : decode cX6_leavesState 42 = .ok (.sipush 144, 3) := by decide +kernel
theorem dX6_leavesState_45 : decode cX6_leavesState 45 = .ok (.if_icmp .ge 24, 3) := by decide +kernel
theorem dX6_leavesState_48 : decode cX6_leavesState 48 = .ok (.aload_n 0, 1) := by decide +kernel
theorem dX6_leavesState_49 : decode cX6_leavesState 49 = .ok (.getfield 23, 3) := by decide +kernel
theorem dX6_leavesState_52 : decode cX6_leavesState 52 = .ok (.iload_n 1, 1) := by decide +kernel
theorem dX6_leavesState_53 : decode cX6_leavesState 53 = .ok (.aload_n 0, 1) := by decide +kernel
theorem dX6_leavesState_54 : decode cX6_leavesState 54 = .ok (.getfield 23, 3) := by decide +kernel
theorem dX6_leavesState_57 : decode cX6_leavesState 57 = .ok (.iload_n 1, 1) := by decide +kernel
theorem dX6_leavesState_58 : decode cX6_leavesState 58 = .ok (.bipush 36, 2) := by decide +kernel
theorem dX6_leavesState_60 : decode cX6_leavesState 60 = .ok (.iadd, 1) := by decide +kernel
theorem dX6_leavesState_61 : decode cX6_leavesState 61 = .ok (.faload, 1) := by decide +kernel
theorem dX6_leavesState_62 : decode cX6_leavesState 62 = .ok (.fastore, 1) := by decide +kernel
theorem dX6_leavesState_63 : decode cX6_leavesState 63 = .ok (.iinc 1 1, 3) := by decide +kernel
theorem dX6_leavesState_66 : decode cX6_leavesState 66 = .ok (.goto (-25), 3) := by decide +kernel
theorem dX6_leavesState_69 : decode cX6_leavesState 69 = .ok (.iconst 0, 1) := by decide +kernel
theorem dX6_leavesState_70 : decode cX6_leavesState 70 = .ok (.istore_n 1, 1) := by decide +kernel
theorem dX6_leavesState_71 : decode cX6_leavesState 71 = .ok (.iload_n 1, 1) := by decide +kernel
theorem dX6_leavesState_72 : decode cX6_leavesState 72 = .ok (.iconst 4, 1) := by decide +kernel
theorem dX6_leavesState_73 : decode cX6_leavesState 73 = .ok (.if_icmp .ge 23, 3) := by decide +kernel
theorem dX6_leavesState_76 : decode cX6_leavesState 76 = .ok (.aload_n 0, 1) := by decide +kernel
theorem dX6_leavesState_77 : decode cX6_leavesState 77 = .ok (.getfield 26, 3) := by decide +kernel
theorem dX6_leavesState_80 : decode cX6_leavesState 80 = .ok (.iload_n 1, 1) := by decide +kernel
theorem dX6_leavesState_81 : decode cX6_leavesState 81 = .ok (.aload_n 0, 1) := by decide +kernel
theorem dX6_leavesState_82 : decode cX6_leavesState 82 = .ok (.getfield 26, 3) := by decide +kernel
theorem dX6_leavesState_85 : decode cX6_leavesState 85 = .ok (.iload_n 1, 1) := by decide +kernel
theorem dX6_leavesState_86 : decode cX6_leavesState 86 = .ok (.iconst 1, 1) := by decide +kernel
theorem dX6_leavesState_87 : decode cX6_leavesState 87 = .ok (.iadd, 1) := by decide +kernel
theorem dX6_leavesState_88 : decode cX6_leavesState 88 = .ok (.laload, 1) := by decide +kernel
theorem dX6_leavesState_89 : decode cX6_leavesState 89 = .ok (.lastore, 1) := by decide +kernel
theorem dX6_leavesState_90 : decode cX6_leavesState 90 = .ok (.iinc 1 1, 3) := by decide +kernel
theorem dX6_leavesState_93 : decode cX6_leavesState 93 = .ok (.goto (-22), 3) := by decide +kernel
theorem dX6_leavesState_96 : decode cX6_leavesState 96 = .ok (.aload_n 0, 1) := by decide +kernel
theorem dX6_leavesState_97 : decode cX6_leavesState 97 = .ok (.dup, 1) := by decide +kernel
theorem dX6_leavesState_98 : decode cX6_leavesState 98 = .ok (.getfield 64, 3) := by decide +kernel
theorem dX6_leavesState_101 : decode cX6_leavesState 101 = .ok (.iconst 1, 1) := by decide +kernel
theorem dX6_leavesState_102 : decode cX6_leavesState 102 = .ok (.isub, 1) := by decide +kernel
theorem dX6_leavesState_103 : decode cX6_leavesState 103 = .ok (.putfield 64, 3) := by decide +kernel
theorem dX6_leavesState_106 : decode cX6_leavesState 106 = .ok (.iconst 0, 1) := by decide +kernel
theorem dX6_leavesState_107 : decode cX6_leavesState 107 = .ok (.istore_n 1, 1) := by decide +kernel
theorem dX6_leavesState_108 : decode cX6_leavesState 108 = .ok (.iload_n 1, 1) := by decide +kernel
theorem dX6_leavesState_109 : decode cX6_leavesState 109 = .ok (.sipush 320, 3) := by decide +kernel
theorem dX6_leavesState_112 : decode cX6_leavesState 112 = .ok (.if_icmp .ge 30, 3) := by decide +kernel
theorem dX6_leavesState_115 : decode cX6_leavesState 115 = .ok (.aload_n 0, 1) := by decide +kernel
theorem dX6_leavesState_116 : decode cX6_leavesState 116 = .ok (.getfield 20, 3) := by decide +kernel
theorem dX6_leavesState_119 : decode cX6_leavesState 119 = .ok (.sipush 320, 3) := by decide +kernel
theorem dX6_leavesState_122 : decode cX6_leavesState 122 = .ok (.aload_n 0, 1) := by decide +kernel
theorem dX6_leavesState_123 : decode cX6_leavesState 123 = .ok (.getfield 64, 3) := by decide +kernel
theorem dX6_leavesState_126 : decode cX6_leavesState 126 = .ok (.imul, 1) := by decide +kernel
theorem dX6_leavesState_127 : decode cX6_leavesState 127 = .ok (.iload_n 1, 1) := by decide +kernel
theorem dX6_leavesState_128 : decode cX6_leavesState 128 = .ok (.iadd, 1) := by decide +kernel
theorem dX6_leavesState_129 : decode cX6_leavesState 129 = .ok (.aload_n 0, 1) := by decide +kernel
theorem dX6_leavesState_130 : decode cX6_leavesState 130 = .ok (.getfield 13, 3) := by decide +kernel
theorem dX6_leavesState_133 : decode cX6_leavesState 133 = .ok (.iload_n 1, 1) := by decide +kernel
theorem dX6_leavesState_134 : decode cX6_leavesState 134 = .ok (.iaload, 1) := by decide +kernel
theorem dX6_leavesState_135 : decode cX6_leavesState 135 = .ok (.iastore, 1) := by decide +kernel
theorem dX6_leavesState_136 : decode cX6_leavesState 136 = .ok (.iinc 1 1, 3) := by decide +kernel
theorem dX6_leavesState_139 : decode cX6_leavesState 139 = .ok (.goto (-31), 3) := by decide +kernel
theorem dX6_leavesState_142 : decode cX6_leavesState 142 = .ok (.iconst 0, 1) := by decide +kernel
theorem dX6_leavesState_143 : decode cX6_leavesState 143 = .ok (.istore_n 1, 1) := by decide +kernel
theorem dX6_leavesState_144 : decode cX6_leavesState 144 = .ok (.iload_n 1, 1) := by decide +kernel
theorem dX6_leavesState_145 : decode cX6_leavesState 145 = .ok (.bipush 36, 2) := by decide +kernel
theorem dX6_leavesState_147 : decode cX6_leavesState 147 = .ok (.if_icmp .ge 29, 3) := by decide +kernel
theorem dX6_leavesState_150 : decode cX6_leavesState 150 = .ok (.aload_n 0, 1) := by decide +kernel
theorem dX6_leavesState_151 : decode cX6_leavesState 151 = .ok (.getfield 23, 3) := by decide +kernel
theorem dX6_leavesState_154 : decode cX6_leavesState 154 = .ok (.bipush 36, 2) := by decide +kernel
theorem dX6_leavesState_156 : decode cX6_leavesState 156 = .ok (.aload_n 0, 1) := by decide +kernel
theorem dX6_leavesState_157 : decode cX6_leavesState 157 = .ok (.getfield 64, 3) := by decide +kernel
theorem dX6_leavesState_160 : decode cX6_leavesState 160 = .ok (.imul, 1) := by decide +kernel
theorem dX6_leavesState_161 : decode cX6_leavesState 161 = .ok (.iload_n 1, 1) := by decide +kernel
theorem dX6_leavesState_162 : decode cX6_leavesState 162 = .ok (.iadd, 1) := by decide +kernel
theorem dX6_leavesState_163 : decode cX6_leavesState 163 = .ok (.aload_n 0, 1) := by decide +kernel
theorem dX6_leavesState_164 : decode cX6_leavesState 164 = .ok (.getfield 16, 3) := by decide +kernel
theorem dX6_leavesState_167 : decode cX6_leavesState 167 = .ok (.iload_n 1, 1) := by decide +kernel
theorem dX6_leavesState_168 : decode cX6_leavesState 168 = .ok (.faload, 1) := by decide +kernel
theorem dX6_leavesState_169 : decode cX6_leavesState 169 = .ok (.fastore, 1) := by decide +kernel
theorem dX6_leavesState_170 : decode cX6_leavesState 170 = .ok (.iinc 1 1, 3) := by decide +kernel
theorem dX6_leavesState_173 : decode cX6_leavesState 173 = .ok (.goto (-29), 3) := by decide +kernel
theorem dX6_leavesState_176 : decode cX6_leavesState 176 = .ok (.aload_n 0, 1) := by decide +kernel
theorem dX6_leavesState_177 : decode cX6_leavesState 177 = .ok (.getfield 26, 3) := by decide +kernel
theorem dX6_leavesState_180 : decode cX6_leavesState 180 = .ok (.aload_n 0, 1) := by decide +kernel
theorem dX6_leavesState_181 : decode cX6_leavesState 181 = .ok (.getfield 64, 3) := by decide +kernel
theorem dX6_leavesState_184 : decode cX6_leavesState 184 = .ok (.aload_n 0, 1) := by decide +kernel
theorem dX6_leavesState_185 : decode cX6_leavesState 185 = .ok (.getfield 60, 3) := by decide +kernel
theorem dX6_leavesState_188 : decode cX6_leavesState 188 = .ok (.lastore, 1) := by decide +kernel
theorem dX6_leavesState_189 : decode cX6_leavesState 189 = .ok (.aload_n 0, 1) := by decide +kernel
theorem dX6_leavesState_190 : decode cX6_leavesState 190 = .ok (.dup, 1) := by decide +kernel
theorem dX6_leavesState_191 : decode cX6_leavesState 191 = .ok (.getfield 64, 3) := by decide +kernel
theorem dX6_leavesState_194 : decode cX6_leavesState 194 = .ok (.iconst 1, 1) := by decide +kernel
theorem dX6_leavesState_195 : decode cX6_leavesState 195 = .ok (.iadd, 1) := by decide +kernel
theorem dX6_leavesState_196 : decode cX6_leavesState 196 = .ok (.putfield 64, 3) := by decide +kernel
theorem dX6_leavesState_199 : decode cX6_leavesState 199 = .ok (.return_, 1) := by decide +kernel
theorem dX6_back_0 : decode cX6_back 0 = .ok (.aload_n 0, 1) := by decide +kernel
theorem dX6_back_1 : decode cX6_back 1 = .ok (.getfield 64, 3) := by decide +kernel
theorem dX6_back_4 : decode cX6_back 4 = .ok (.ifCond .ne 8, 3) := by decide +kernel
theorem dX6_back_7 : decode cX6_back 7 = .ok (.aload_n 0, 1) := by decide +kernel
theorem dX6_back_8 : decode cX6_back 8 = .ok (.invokevirtual 54, 3) := by decide +kernel
theorem dX6_back_11 : decode cX6_back 11 = .ok (.ireturn, 1) := by decide +kernel
theorem dX6_back_12 : decode cX6_back 12 = .ok (.aload_n 0, 1) := by decide +kernel
theorem dX6_back_13 : decode cX6_back 13 = .ok (.dup, 1) := by decide +kernel
theorem dX6_back_14 : decode cX6_back 14 = .ok (.getfield 64, 3) := by decide +kernel
theorem dX6_back_17 : decode cX6_back 17 = .ok (.iconst 1, 1) := by decide +kernel
theorem dX6_back_18 : decode cX6_back 18 = .ok (.isub, 1) := by decide +kernel
theorem dX6_back_19 : decode cX6_back 19 = .ok (.putfield 64, 3) := by decide +kernel
theorem dX6_back_22 : decode cX6_back 22 = .ok (.iconst 0, 1) := by decide +kernel
theorem dX6_back_23 : decode cX6_back 23 = .ok (.istore_n 1, 1) := by decide +kernel
theorem dX6_back_24 : decode cX6_back 24 = .ok (.iload_n 1, 1) := by decide +kernel
theorem dX6_back_25 : decode cX6_back 25 = .ok (.sipush 320, 3) := by decide +kernel
theorem dX6_back_28 : decode cX6_back 28 = .ok (.if_icmp .ge 30, 3) := by decide +kernel
theorem dX6_back_31 : decode cX6_back 31 = .ok (.aload_n 0, 1) := by decide +kernel
theorem dX6_back_32 : decode cX6_back 32 = .ok (.getfield 13, 3) := by decide +kernel
theorem dX6_back_35 : decode cX6_back 35 = .ok (.iload_n 1, 1) := by decide +kernel
theorem dX6_back_36 : decode cX6_back 36 = .ok (.aload_n 0, 1) := by decide +kernel
theorem dX6_back_37 : decode cX6_back 37 = .ok (.getfield 20, 3) := by decide +kernel
theorem dX6_back_40 : decode cX6_back 40 = .ok (.sipush 320, 3) := by decide +kernel
theorem dX6_back_43 : decode cX6_back 43 = .ok (.aload_n 0, 1) := by decide +kernel
theorem dX6_back_44 : decode cX6_back 44 = .ok (.getfield 64, 3) := by decide +kernel
theorem dX6_back_47 : decode cX6_back 47 = .ok (.imul, 1) := by decide +kernel
theorem dX6_back_48 : decode cX6_back 48 = .ok (.iload_n 1, 1) := by decide +kernel
theorem dX6_back_49 : decode cX6_back 49 = .ok (.iadd, 1) := by decide +kernel
theorem dX6_back_50 : decode cX6_back 50 = .ok (.iaload, 1) := by decide +kernel
theorem dX6_back_51 : decode cX6_back 51 = .ok (.iastore, 1) := by decide +kernel
theorem dX6_back_52 : decode cX6_back 52 = .ok (.iinc 1 1, 3) := by decide +kernel
theorem dX6_back_55 : decode cX6_back 55 = .ok (.goto (-31), 3) := by decide +kernel
theorem dX6_back_58 : decode cX6_back 58 = .ok (.iconst 0, 1) := by decide +kernel
theorem dX6_back_59 : decode cX6_back 59 = .ok (.istore_n 1, 1) := by decide +kernel
theorem dX6_back_60 : decode cX6_back 60 = .ok (.iload_n 1, 1) := by decide +kernel
theorem dX6_back_61 : decode cX6_back 61 = .ok (.bipush 36, 2) := by decide +kernel
theorem dX6_back_63 : decode cX6_back 63 = .ok (.if_icmp .ge 29, 3) := by decide +kernel
theorem dX6_back_66 : decode cX6_back 66 = .ok (.aload_n 0, 1) := by decide +kernel
theorem dX6_back_67 : decode cX6_back 67 = .ok (.getfield 16, 3) := by decide +kernel
theorem dX6_back_70 : decode cX6_back 70 = .ok (.iload_n 1, 1) := by decide +kernel
theorem dX6_back_71 : decode cX6_back 71 = .ok (.aload_n 0, 1) := by decide +kernel
theorem dX6_back_72 : decode cX6_back 72 = .ok (.getfield 23, 3) := by decide +kernel
theorem dX6_back_75 : decode cX6_back 75 = .ok (.bipush 36, 2) := by decide +kernel
theorem dX6_back_77 : decode cX6_back 77 = .ok (.aload_n 0, 1) := by decide +kernel
theorem dX6_back_78 : decode cX6_back 78 = .ok (.getfield 64, 3) := by decide +kernel
theorem dX6_back_81 : decode cX6_back 81 = .ok (.imul, 1) := by decide +kernel
theorem dX6_back_82 : decode cX6_back 82 = .ok (.iload_n 1, 1) := by decide +kernel
theorem dX6_back_83 : decode cX6_back 83 = .ok (.iadd, 1) := by decide +kernel
theorem dX6_back_84 : decode cX6_back 84 = .ok (.faload, 1) := by decide +kernel
theorem dX6_back_85 : decode cX6_back 85 = .ok (.fastore, 1) := by decide +kernel
theorem dX6_back_86 : decode cX6_back 86 = .ok (.iinc 1 1, 3) := by decide +kernel
theorem dX6_back_89 : decode cX6_back 89 = .ok (.goto (-29), 3) := by decide +kernel
theorem dX6_back_92 : decode cX6_back 92 = .ok (.aload_n 0, 1) := by decide +kernel
theorem dX6_back_93 : decode cX6_back 93 = .ok (.aload_n 0, 1) := by decide +kernel
theorem dX6_back_94 : decode cX6_back 94 = .ok (.getfield 26, 3) := by decide +kernel
theorem dX6_back_97 : decode cX6_back 97 = .ok (.aload_n 0, 1) := by decide +kernel
theorem dX6_back_98 : decode cX6_back 98 = .ok (.getfield 64, 3) := by decide +kernel
theorem dX6_back_101 : decode cX6_back 101 = .ok (.laload, 1) := by decide +kernel
theorem dX6_back_102 : decode cX6_back 102 = .ok (.putfield 60, 3) := by decide +kernel
theorem dX6_back_105 : decode cX6_back 105 = .ok (.aload_n 0, 1) := by decide +kernel
theorem dX6_back_106 : decode cX6_back 106 = .ok (.getfield 64, 3) := by decide +kernel
theorem dX6_back_109 : decode cX6_back 109 = .ok (.ireturn, 1) := by decide +kernel
theorem dX6_at_0 : decode cX6_at 0 = .ok (.bipush 14, 2) := by decide +kernel
theorem dX6_at_2 : decode cX6_at 2 = .ok (.bipush 48, 2) := by decide +kernel
theorem dX6_at_4 : decode cX6_at 4 = .ok (.iload_n 0, 1) := by decide +kernel
theorem dX6_at_5 : decode cX6_at 5 = .ok (.imul, 1) := by decide +kernel
theorem dX6_at_6 : decode cX6_at 6 = .ok (.iadd, 1) := by decide +kernel
theorem dX6_at_7 : decode cX6_at 7 = .ok (.ireturn, 1) := by decide +kernel
theorem dX6_cellOf_0 : decode cX6_cellOf 0 = .ok (.aload_n 0, 1) := by decide +kernel
theorem dX6_cellOf_1 : decode cX6_cellOf 1 = .ok (.getfield 13, 3) := by decide +kernel
theorem dX6_cellOf_4 : decode cX6_cellOf 4 = .ok (.iload_n 1, 1) := by decide +kernel
theorem dX6_cellOf_5 : decode cX6_cellOf 5 = .ok (.invokestatic 68, 3) := by decide +kernel
theorem dX6_cellOf_8 : decode cX6_cellOf 8 = .ok (.iload_n 2, 1) := by decide +kernel
theorem dX6_cellOf_9 : decode cX6_cellOf 9 = .ok (.iadd, 1) := by decide +kernel
theorem dX6_cellOf_10 : decode cX6_cellOf 10 = .ok (.iaload, 1) := by decide +kernel
theorem dX6_cellOf_11 : decode cX6_cellOf 11 = .ok (.ireturn, 1) := by decide +kernel
theorem dX6_isPeer_0 : decode cX6_isPeer 0 = .ok (.iload_n 1, 1) := by decide +kernel
theorem dX6_isPeer_1 : decode cX6_isPeer 1 = .ok (.iconst 0, 1) := by decide +kernel
theorem dX6_isPeer_2 : decode cX6_isPeer 2 = .ok (.aload_n 0, 1) := by decide +kernel
theorem dX6_isPeer_3 : decode cX6_isPeer 3 = .ok (.getfield 13, 3) := by decide +kernel
theorem dX6_isPeer_6 : decode cX6_isPeer 6 = .ok (.iconst 0, 1) := by decide +kernel
theorem dX6_isPeer_7 : decode cX6_isPeer 7 = .ok (.iaload, 1) := by decide +kernel
theorem dX6_isPeer_8 : decode cX6_isPeer 8 = .ok (.iconst 1, 1) := by decide +kernel
theorem dX6_isPeer_9 : decode cX6_isPeer 9 = .ok (.isub, 1) := by decide +kernel
theorem dX6_isPeer_10 : decode cX6_isPeer 10 = .ok (.invokestatic 72, 3) := by decide +kernel
theorem dX6_isPeer_13 : decode cX6_isPeer 13 = .ok (.ireturn, 1) := by decide +kernel
theorem dX6_allPieces_0 : decode cX6_allPieces 0 = .ok (.iconst 1, 1) := by decide +kernel
theorem dX6_allPieces_1 : decode cX6_allPieces 1 = .ok (.aload_n 0, 1) := by decide +kernel
theorem dX6_allPieces_2 : decode cX6_allPieces 2 = .ok (.getfield 13, 3) := by decide +kernel
theorem dX6_allPieces_5 : decode cX6_allPieces 5 = .ok (.iconst 1, 1) := by decide +kernel
theorem dX6_allPieces_6 : decode cX6_allPieces 6 = .ok (.iaload, 1) := by decide +kernel
theorem dX6_allPieces_7 : decode cX6_allPieces 7 = .ok (.ishl, 1) := by decide +kernel
theorem dX6_allPieces_8 : decode cX6_allPieces 8 = .ok (.iconst 1, 1) := by decide +kernel
theorem dX6_allPieces_9 : decode cX6_allPieces 9 = .ok (.isub, 1) := by decide +kernel
theorem dX6_allPieces_10 : decode cX6_allPieces 10 = .ok (.ireturn, 1) := by decide +kernel
theorem dX6_claims_0 : decode cX6_claims 0 = .ok (.aload_n 0, 1) := by decide +kernel
theorem dX6_claims_1 : decode cX6_claims 1 = .ok (.iload_n 1, 1) := by decide +kernel
theorem dX6_claims_2 : decode cX6_claims 2 = .ok (.iconst 0, 1) := by decide +kernel
theorem dX6_claims_3 : decode cX6_claims 3 = .ok (.invokevirtual 76, 3) := by decide +kernel
theorem dX6_claims_6 : decode cX6_claims 6 = .ok (.iconst 2, 1) := by decide +kernel
theorem dX6_claims_7 : decode cX6_claims 7 = .ok (.if_icmp .ne 10, 3) := by decide +kernel
theorem dX6_claims_10 : decode cX6_claims 10 = .ok (.aload_n 0, 1) := by decide +kernel
theorem dX6_claims_11 : decode cX6_claims 11 = .ok (.invokevirtual 80, 3) := by decide +kernel
theorem dX6_claims_14 : decode cX6_claims 14 = .ok (.goto 9, 3) := by decide +kernel
theorem dX6_claims_17 : decode cX6_claims 17 = .ok (.aload_n 0, 1) := by decide +kernel
theorem dX6_claims_18 : decode cX6_claims 18 = .ok (.iload_n 1, 1) := by decide +kernel
theorem dX6_claims_19 : decode cX6_claims 19 = .ok (.iconst 2, 1) := by decide +kernel
theorem dX6_claims_20 : decode cX6_claims 20 = .ok (.invokevirtual 76, 3) := by decide +kernel
theorem dX6_claims_23 : decode cX6_claims 23 = .ok (.ireturn, 1) := by decide +kernel
theorem dX6_copiesOf_0 : decode cX6_copiesOf 0 = .ok (.iconst 0, 1) := by decide +kernel
theorem dX6_copiesOf_1 : decode cX6_copiesOf 1 = .ok (.istore_n 2, 1) := by decide +kernel
theorem dX6_copiesOf_2 : decode cX6_copiesOf 2 = .ok (.iconst 0, 1) := by decide +kernel
theorem dX6_copiesOf_3 : decode cX6_copiesOf 3 = .ok (.istore_n 3, 1) := by decide +kernel
theorem dX6_copiesOf_4 : decode cX6_copiesOf 4 = .ok (.iload_n 3, 1) := by decide +kernel
theorem dX6_copiesOf_5 : decode cX6_copiesOf 5 = .ok (.aload_n 0, 1) := by decide +kernel
theorem dX6_copiesOf_6 : decode cX6_copiesOf 6 = .ok (.getfield 13, 3) := by decide +kernel
theorem dX6_copiesOf_9 : decode cX6_copiesOf 9 = .ok (.iconst 0, 1) := by decide +kernel
theorem dX6_copiesOf_10 : decode cX6_copiesOf 10 = .ok (.iaload, 1) := by decide +kernel
theorem dX6_copiesOf_11 : decode cX6_copiesOf 11 = .ok (.if_icmp .ge 21, 3) := by decide +kernel
theorem dX6_copiesOf_14 : decode cX6_copiesOf 14 = .ok (.iload_n 2, 1) := by decide +kernel
theorem dX6_copiesOf_15 : decode cX6_copiesOf 15 = .ok (.aload_n 0, 1) := by decide +kernel
theorem dX6_copiesOf_16 : decode cX6_copiesOf 16 = .ok (.iload_n 3, 1) := by decide +kernel
theorem dX6_copiesOf_17 : decode cX6_copiesOf 17 = .ok (.invokevirtual 83, 3) := by decide +kernel
theorem dX6_copiesOf_20 : decode cX6_copiesOf 20 = .ok (.iload_n 1, 1) := by decide +kernel
theorem dX6_copiesOf_21 : decode cX6_copiesOf 21 = .ok (.ishr, 1) := by decide +kernel
theorem dX6_copiesOf_22 : decode cX6_copiesOf 22 = .ok (.iconst 1, 1) := by decide +kernel
theorem dX6_copiesOf_23 : decode cX6_copiesOf 23 = .ok (.iand, 1) := by decide +kernel
theorem dX6_copiesOf_24 : decode cX6_copiesOf 24 = .ok (.iadd, 1) := by decide +kernel
theorem dX6_copiesOf_25 : decode cX6_copiesOf 25 = .ok (.istore_n 2, 1) := by decide +kernel
theorem dX6_copiesOf_26 : decode cX6_copiesOf 26 = .ok (.iinc 3 1, 3) := by decide +kernel
theorem dX6_copiesOf_29 : decode cX6_copiesOf 29 = .ok (.goto (-25), 3) := by decide +kernel
theorem dX6_copiesOf_32 : decode cX6_copiesOf 32 = .ok (.iload_n 2, 1) := by decide +kernel
theorem dX6_copiesOf_33 : decode cX6_copiesOf 33 = .ok (.ireturn, 1) := by decide +kernel
theorem dX6_source_0 : decode cX6_source 0 = .ok (.aload_n 0, 1) := by decide +kernel
theorem dX6_source_1 : decode cX6_source 1 = .ok (.getfield 13, 3) := by decide +kernel
theorem dX6_source_4 : decode cX6_source 4 = .ok (.iload_n 1, 1) := by decide +kernel
theorem dX6_source_5 : decode cX6_source 5 = .ok (.invokestatic 68, 3) := by decide +kernel
theorem dX6_source_8 : decode cX6_source 8 = .ok (.bipush 15, 2) := by decide +kernel
theorem dX6_source_10 : decode cX6_source 10 = .ok (.iadd, 1) := by decide +kernel
theorem dX6_source_11 : decode cX6_source 11 = .ok (.iconst 4, 1) := by decide +kernel
theorem dX6_source_12 : decode cX6_source 12 = .ok (.iload_n 2, 1) := by decide +kernel
theorem dX6_source_13 : decode cX6_source 13 = .ok (.imul, 1) := by decide +kernel
theorem dX6_source_14 : decode cX6_source 14 = .ok (.iadd, 1) := by decide +kernel
theorem dX6_source_15 : decode cX6_source 15 = .ok (.iload_n 3, 1) := by decide +kernel
theorem dX6_source_16 : decode cX6_source 16 = .ok (.iadd, 1) := by decide +kernel
theorem dX6_source_17 : decode cX6_source 17 = .ok (.iaload, 1) := by decide +kernel
theorem dX6_source_18 : decode cX6_source 18 = .ok (.ireturn, 1) := by decide +kernel
theorem dX6_has_0 : decode cX6_has 0 = .ok (.aload_n 0, 1) := by decide +kernel
theorem dX6_has_1 : decode cX6_has 1 = .ok (.iload_n 1, 1) := by decide +kernel
theorem dX6_has_2 : decode cX6_has 2 = .ok (.iconst 2, 1) := by decide +kernel
theorem dX6_has_3 : decode cX6_has 3 = .ok (.invokevirtual 76, 3) := by decide +kernel
theorem dX6_has_6 : decode cX6_has 6 = .ok (.iload_n 2, 1) := by decide +kernel
theorem dX6_has_7 : decode cX6_has 7 = .ok (.ishr, 1) := by decide +kernel
theorem dX6_has_8 : decode cX6_has 8 = .ok (.iconst 1, 1) := by decide +kernel
theorem dX6_has_9 : decode cX6_has 9 = .ok (.iand, 1) := by decide +kernel
theorem dX6_has_10 : decode cX6_has 10 = .ok (.iconst 1, 1) := by decide +kernel
theorem dX6_has_11 : decode cX6_has 11 = .ok (.if_icmp .ne 7, 3) := by decide +kernel
theorem dX6_has_14 : decode cX6_has 14 = .ok (.iconst 1, 1) := by decide +kernel
theorem dX6_has_15 : decode cX6_has 15 = .ok (.goto 4, 3) := by decide +kernel
theorem dX6_has_18 : decode cX6_has 18 = .ok (.iconst 0, 1) := by decide +kernel
theorem dX6_has_19 : decode cX6_has 19 = .ok (.ireturn, 1) := by decide +kernel
theorem dX6_left_0 : decode cX6_left 0 = .ok (.iconst 0, 1) := by decide +kernel
theorem dX6_left_1 : decode cX6_left 1 = .ok (.istore_n 2, 1) := by decide +kernel
theorem dX6_left_2 : decode cX6_left 2 = .ok (.iconst 0, 1) := by decide +kernel
theorem dX6_left_3 : decode cX6_left 3 = .ok (.istore_n 3, 1) := by decide +kernel
theorem dX6_left_4 : decode cX6_left 4 = .ok (.iload_n 3, 1) := by decide +kernel
theorem dX6_left_5 : decode cX6_left 5 = .ok (.iconst 4, 1) := by decide +kernel
theorem dX6_left_6 : decode cX6_left 6 = .ok (.aload_n 0, 1) := by decide +kernel
theorem dX6_left_7 : decode cX6_left 7 = .ok (.getfield 13, 3) := by decide +kernel
theorem dX6_left_10 : decode cX6_left 10 = .ok (.iconst 1, 1) := by decide +kernel
theorem dX6_left_11 : decode cX6_left 11 = .ok (.iaload, 1) := by decide +kernel
theorem dX6_left_12 : decode cX6_left 12 = .ok (.imul, 1) := by decide +kernel
theorem dX6_left_13 : decode cX6_left 13 = .ok (.if_icmp .ge 61, 3) := by decide +kernel
theorem dX6_left_16 : decode cX6_left 16 = .ok (.iload_n 3, 1) := by decide +kernel
theorem dX6_left_17 : decode cX6_left 17 = .ok (.iconst 4, 1) := by decide +kernel
theorem dX6_left_18 : decode cX6_left 18 = .ok (.idiv, 1) := by decide +kernel
theorem dX6_left_19 : decode cX6_left 19 = .ok (.istore 4, 2) := by decide +kernel
theorem dX6_left_21 : decode cX6_left 21 = .ok (.iload_n 3, 1) := by decide +kernel
theorem dX6_left_22 : decode cX6_left 22 = .ok (.iconst 4, 1) := by decide +kernel
theorem dX6_left_23 : decode cX6_left 23 = .ok (.irem, 1) := by decide +kernel
theorem dX6_left_24 : decode cX6_left 24 = .ok (.istore 5, 2) := by decide +kernel
theorem dX6_left_26 : decode cX6_left 26 = .ok (.iload_n 2, 1) := by decide +kernel
theorem dX6_left_27 : decode cX6_left 27 = .ok (.aload_n 0, 1) := by decide +kernel
theorem dX6_left_28 : decode cX6_left 28 = .ok (.iload_n 1, 1) := by decide +kernel
theorem dX6_left_29 : decode cX6_left 29 = .ok (.iload 4, 2) := by decide +kernel
theorem dX6_left_31 : decode cX6_left 31 = .ok (.invokevirtual 86, 3) := by decide +kernel
theorem dX6_left_34 : decode cX6_left 34 = .ok (.ifCond .ne 31, 3) := by decide +kernel
theorem dX6_left_37 : decode cX6_left 37 = .ok (.iload 5, 2) := by decide +kernel
theorem dX6_left_39 : decode cX6_left 39 = .ok (.aload_n 0, 1) := by decide +kernel
theorem dX6_left_40 : decode cX6_left 40 = .ok (.getfield 13, 3) := by decide +kernel
theorem dX6_left_43 : decode cX6_left 43 = .ok (.iconst 2, 1) := by decide +kernel
theorem dX6_left_44 : decode cX6_left 44 = .ok (.iaload, 1) := by decide +kernel
theorem dX6_left_45 : decode cX6_left 45 = .ok (.if_icmp .ge 20, 3) := by decide +kernel
theorem dX6_left_48 : decode cX6_left 48 = .ok (.aload_n 0, 1) := by decide +kernel
theorem dX6_left_49 : decode cX6_left 49 = .ok (.iload_n 1, 1) := by decide +kernel
theorem dX6_left_50 : decode cX6_left 50 = .ok (.iload 4, 2) := by decide +kernel
theorem dX6_left_52 : decode cX6_left 52 = .ok (.iload 5, 2) := by decide +kernel
theorem dX6_left_54 : decode cX6_left 54 = .ok (.invokevirtual 90, 3) := by decide +kernel
theorem dX6_left_57 : decode cX6_left 57 = .ok (.iconst (-1), 1) := by decide +kernel
theorem dX6_left_58 : decode cX6_left 58 = .ok (.if_icmp .ne 7, 3) := by decide +kernel
theorem dX6_left_61 : decode cX6_left 61 = .ok (.iconst 1, 1) := by decide +kernel
theorem dX6_left_62 : decode cX6_left 62 = .ok (.goto 4, 3) := by decide +kernel
theorem dX6_left_65 : decode cX6_left 65 = .ok (.iconst 0, 1) := by decide +kernel
theorem dX6_left_66 : decode cX6_left 66 = .ok (.iadd, 1) := by decide +kernel
theorem dX6_left_67 : decode cX6_left 67 = .ok (.istore_n 2, 1) := by decide +kernel
theorem dX6_left_68 : decode cX6_left 68 = .ok (.iinc 3 1, 3) := by decide +kernel
theorem dX6_left_71 : decode cX6_left 71 = .ok (.goto (-67), 3) := by decide +kernel
theorem dX6_left_74 : decode cX6_left 74 = .ok (.iload_n 2, 1) := by decide +kernel
theorem dX6_left_75 : decode cX6_left 75 = .ok (.ireturn, 1) := by decide +kernel
theorem dX6_isBarred_0 : decode cX6_isBarred 0 = .ok (.aload_n 0, 1) := by decide +kernel
theorem dX6_isBarred_1 : decode cX6_isBarred 1 = .ok (.iload_n 1, 1) := by decide +kernel
theorem dX6_isBarred_2 : decode cX6_isBarred 2 = .ok (.iconst 5, 1) := by decide +kernel
theorem dX6_isBarred_3 : decode cX6_isBarred 3 = .ok (.invokevirtual 76, 3) := by decide +kernel
theorem dX6_isBarred_6 : decode cX6_isBarred 6 = .ok (.iload_n 2, 1) := by decide +kernel
theorem dX6_isBarred_7 : decode cX6_isBarred 7 = .ok (.ishr, 1) := by decide +kernel
theorem dX6_isBarred_8 : decode cX6_isBarred 8 = .ok (.iconst 1, 1) := by decide +kernel
theorem dX6_isBarred_9 : decode cX6_isBarred 9 = .ok (.iand, 1) := by decide +kernel
theorem dX6_isBarred_10 : decode cX6_isBarred 10 = .ok (.iconst 1, 1) := by decide +kernel
theorem dX6_isBarred_11 : decode cX6_isBarred 11 = .ok (.if_icmp .ne 7, 3) := by decide +kernel
theorem dX6_isBarred_14 : decode cX6_isBarred 14 = .ok (.iconst 1, 1) := by decide +kernel
theorem dX6_isBarred_15 : decode cX6_isBarred 15 = .ok (.goto 4, 3) := by decide +kernel
theorem dX6_isBarred_18 : decode cX6_isBarred 18 = .ok (.iconst 0, 1) := by decide +kernel
theorem dX6_isBarred_19 : decode cX6_isBarred 19 = .ok (.ireturn, 1) := by decide +kernel
theorem dX6_wants_0 : decode cX6_wants 0 = .ok (.iload_n 2, 1) := by decide +kernel
theorem dX6_wants_1 : decode cX6_wants 1 = .ok (.iload_n 1, 1) := by decide +kernel
theorem dX6_wants_2 : decode cX6_wants 2 = .ok (.if_icmp .eq 52, 3) := by decide +kernel
theorem dX6_wants_5 : decode cX6_wants 5 = .ok (.aload_n 0, 1) := by decide +kernel
theorem dX6_wants_6 : decode cX6_wants 6 = .ok (.iload_n 1, 1) := by decide +kernel
theorem dX6_wants_7 : decode cX6_wants 7 = .ok (.iconst 0, 1) := by decide +kernel
theorem dX6_wants_8 : decode cX6_wants 8 = .ok (.invokevirtual 76, 3) := by decide +kernel
theorem dX6_wants_11 : decode cX6_wants 11 = .ok (.iconst 2, 1) := by decide +kernel
theorem dX6_wants_12 : decode cX6_wants 12 = .ok (.if_icmp .eq 42, 3) := by decide +kernel
theorem dX6_wants_15 : decode cX6_wants 15 = .ok (.aload_n 0, 1) := by decide +kernel
theorem dX6_wants_16 : decode cX6_wants 16 = .ok (.iload_n 1, 1) := by decide +kernel
theorem dX6_wants_17 : decode cX6_wants 17 = .ok (.iload_n 2, 1) := by decide +kernel
theorem dX6_wants_18 : decode cX6_wants 18 = .ok (.invokevirtual 94, 3) := by decide +kernel
theorem dX6_wants_21 : decode cX6_wants 21 = .ok (.ifCond .ne 33, 3) := by decide +kernel
theorem dX6_wants_24 : decode cX6_wants 24 = .ok (.aload_n 0, 1) := by decide +kernel
theorem dX6_wants_25 : decode cX6_wants 25 = .ok (.iload_n 2, 1) := by decide +kernel
theorem dX6_wants_26 : decode cX6_wants 26 = .ok (.iload_n 1, 1) := by decide +kernel
theorem dX6_wants_27 : decode cX6_wants 27 = .ok (.invokevirtual 94, 3) := by decide +kernel
theorem dX6_wants_30 : decode cX6_wants 30 = .ok (.ifCond .ne 24, 3) := by decide +kernel
theorem dX6_wants_33 : decode cX6_wants 33 = .ok (.aload_n 0, 1) := by decide +kernel
theorem dX6_wants_34 : decode cX6_wants 34 = .ok (.iload_n 2, 1) := by decide +kernel
theorem dX6_wants_35 : decode cX6_wants 35 = .ok (.invokevirtual 83, 3) := by decide +kernel
theorem dX6_wants_38 : decode cX6_wants 38 = .ok (.aload_n 0, 1) := by decide +kernel
theorem dX6_wants_39 : decode cX6_wants 39 = .ok (.iload_n 1, 1) := by decide +kernel
theorem dX6_wants_40 : decode cX6_wants 40 = .ok (.iconst 2, 1) := by decide +kernel
theorem dX6_wants_41 : decode cX6_wants 41 = .ok (.invokevirtual 76, 3) := by decide +kernel
theorem dX6_wants_44 : decode cX6_wants 44 = .ok (.iconst (-1), 1) := by decide +kernel
theorem dX6_wants_45 : decode cX6_wants 45 = .ok (.ixor, 1) := by decide +kernel
theorem dX6_wants_46 : decode cX6_wants 46 = .ok (.iand, 1) := by decide +kernel
theorem dX6_wants_47 : decode cX6_wants 47 = .ok (.ifCond .eq 7, 3) := by decide +kernel
theorem dX6_wants_50 : decode cX6_wants 50 = .ok (.iconst 1, 1) := by decide +kernel
theorem dX6_wants_51 : decode cX6_wants 51 = .ok (.goto 4, 3) := by decide +kernel
theorem dX6_wants_54 : decode cX6_wants 54 = .ok (.iconst 0, 1) := by decide +kernel
theorem dX6_wants_55 : decode cX6_wants 55 = .ok (.ireturn, 1) := by decide +kernel
theorem dX6_drawBy_0 : decode cX6_drawBy 0 = .ok (.aload_n 0, 1) := by decide +kernel
theorem dX6_drawBy_1 : decode cX6_drawBy 1 = .ok (.aload_n 0, 1) := by decide +kernel
theorem dX6_drawBy_2 : decode cX6_drawBy 2 = .ok (.getfield 60, 3) := by decide +kernel
theorem dX6_drawBy_5 : decode cX6_drawBy 5 = .ok (.ldc2_w 97, 3) := by decide +kernel
theorem dX6_drawBy_8 : decode cX6_drawBy 8 = .ok (.lmul, 1) := by decide +kernel
theorem dX6_drawBy_9 : decode cX6_drawBy 9 = .ok (.ldc2_w 99, 3) := by decide +kernel
theorem dX6_drawBy_12 : decode cX6_drawBy 12 = .ok (.ladd, 1) := by decide +kernel
theorem dX6_drawBy_13 : decode cX6_drawBy 13 = .ok (.ldc2_w 101, 3) := by decide +kernel
theorem dX6_drawBy_16 : decode cX6_drawBy 16 = .ok (.lrem, 1) := by decide +kernel
theorem dX6_drawBy_17 : decode cX6_drawBy 17 = .ok (.putfield 60, 3) := by decide +kernel
theorem dX6_drawBy_20 : decode cX6_drawBy 20 = .ok (.aload_n 0, 1) := by decide +kernel
theorem dX6_drawBy_21 : decode cX6_drawBy 21 = .ok (.getfield 60, 3) := by decide +kernel
theorem dX6_drawBy_24 : decode cX6_drawBy 24 = .ok (.ldc2_w 103, 3) := by decide +kernel
theorem dX6_drawBy_27 : decode cX6_drawBy 27 = .ok (.ldiv, 1) := by decide +kernel
theorem dX6_drawBy_28 : decode cX6_drawBy 28 = .ok (.iload_n 1, 1) := by decide +kernel
theorem dX6_drawBy_29 : decode cX6_drawBy 29 = .ok (.i2l, 1) := by decide +kernel
theorem dX6_drawBy_30 : decode cX6_drawBy 30 = .ok (.lrem, 1) := by decide +kernel
theorem dX6_drawBy_31 : decode cX6_drawBy 31 = .ok (.l2i, 1) := by decide +kernel
theorem dX6_drawBy_32 : decode cX6_drawBy 32 = .ok (.ireturn, 1) := by decide +kernel
theorem dX6_worth_0 : decode cX6_worth 0 = .ok (.aload_n 0, 1) := by decide +kernel
theorem dX6_worth_1 : decode cX6_worth 1 = .ok (.iload_n 1, 1) := by decide +kernel
theorem dX6_worth_2 : decode cX6_worth 2 = .ok (.iconst 2, 1) := by decide +kernel
theorem dX6_worth_3 : decode cX6_worth 3 = .ok (.invokevirtual 76, 3) := by decide +kernel
theorem dX6_worth_6 : decode cX6_worth 6 = .ok (.aload_n 0, 1) := by decide +kernel
theorem dX6_worth_7 : decode cX6_worth 7 = .ok (.invokevirtual 80, 3) := by decide +kernel
theorem dX6_worth_10 : decode cX6_worth 10 = .ok (.if_icmp .eq 13, 3) := by decide +kernel
theorem dX6_worth_13 : decode cX6_worth 13 = .ok (.aload_n 0, 1) := by decide +kernel
theorem dX6_worth_14 : decode cX6_worth 14 = .ok (.iload_n 1, 1) := by decide +kernel
theorem dX6_worth_15 : decode cX6_worth 15 = .ok (.iconst 0, 1) := by decide +kernel
theorem dX6_worth_16 : decode cX6_worth 16 = .ok (.invokevirtual 76, 3) := by decide +kernel
theorem dX6_worth_19 : decode cX6_worth 19 = .ok (.iconst 2, 1) := by decide +kernel
theorem dX6_worth_20 : decode cX6_worth 20 = .ok (.if_icmp .ne 7, 3) := by decide +kernel
theorem dX6_worth_23 : decode cX6_worth 23 = .ok (.iconst 1, 1) := by decide +kernel
theorem dX6_worth_24 : decode cX6_worth 24 = .ok (.goto 4, 3) := by decide +kernel
theorem dX6_worth_27 : decode cX6_worth 27 = .ok (.iconst 0, 1) := by decide +kernel
theorem dX6_worth_28 : decode cX6_worth 28 = .ok (.istore_n 3, 1) := by decide +kernel
theorem dX6_worth_29 : decode cX6_worth 29 = .ok (.iload_n 3, 1) := by decide +kernel
theorem dX6_worth_30 : decode cX6_worth 30 = .ok (.ifCond .eq 17, 3) := by decide +kernel
theorem dX6_worth_33 : decode cX6_worth 33 = .ok (.aload_n 0, 1) := by decide +kernel
theorem dX6_worth_34 : decode cX6_worth 34 = .ok (.getfield 16, 3) := by decide +kernel
theorem dX6_worth_37 : decode cX6_worth 37 = .ok (.bipush 6, 2) := by decide +kernel
theorem dX6_worth_39 : decode cX6_worth 39 = .ok (.iload_n 2, 1) := by decide +kernel
theorem dX6_worth_40 : decode cX6_worth 40 = .ok (.imul, 1) := by decide +kernel
theorem dX6_worth_41 : decode cX6_worth 41 = .ok (.iload_n 1, 1) := by decide +kernel
theorem dX6_worth_42 : decode cX6_worth 42 = .ok (.iadd, 1) := by decide +kernel
theorem dX6_worth_43 : decode cX6_worth 43 = .ok (.faload, 1) := by decide +kernel
theorem dX6_worth_44 : decode cX6_worth 44 = .ok (.goto 14, 3) := by decide +kernel
theorem dX6_worth_47 : decode cX6_worth 47 = .ok (.aload_n 0, 1) := by decide +kernel
theorem dX6_worth_48 : decode cX6_worth 48 = .ok (.getfield 16, 3) := by decide +kernel
theorem dX6_worth_51 : decode cX6_worth 51 = .ok (.bipush 6, 2) := by decide +kernel
theorem dX6_worth_53 : decode cX6_worth 53 = .ok (.iload_n 1, 1) := by decide +kernel
theorem dX6_worth_54 : decode cX6_worth 54 = .ok (.imul, 1) := by decide +kernel
theorem dX6_worth_55 : decode cX6_worth 55 = .ok (.iload_n 2, 1) := by decide +kernel
theorem dX6_worth_56 : decode cX6_worth 56 = .ok (.iadd, 1) := by decide +kernel
theorem dX6_worth_57 : decode cX6_worth 57 = .ok (.faload, 1) := by decide +kernel
theorem dX6_worth_58 : decode cX6_worth 58 = .ok (.freturn, 1) := by decide +kernel
theorem dX6_best_0 : decode cX6_best 0 = .ok (.iconst (-1), 1) := by decide +kernel
theorem dX6_best_1 : decode cX6_best 1 = .ok (.istore_n 3, 1) := by decide +kernel
theorem dX6_best_2 : decode cX6_best 2 = .ok (.iconst 0, 1) := by decide +kernel
theorem dX6_best_3 : decode cX6_best 3 = .ok (.istore 4, 2) := by decide +kernel
theorem dX6_best_5 : decode cX6_best 5 = .ok (.iload 4, 2) := by decide +kernel
theorem dX6_best_7 : decode cX6_best 7 = .ok (.aload_n 0, 1) := by decide +kernel
theorem dX6_best_8 : decode cX6_best 8 = .ok (.getfield 13, 3) := by decide +kernel
theorem dX6_best_11 : decode cX6_best 11 = .ok (.iconst 0, 1) := by decide +kernel
theorem dX6_best_12 : decode cX6_best 12 = .ok (.iaload, 1) := by decide +kernel
theorem dX6_best_13 : decode cX6_best 13 = .ok (.if_icmp .ge 56, 3) := by decide +kernel
theorem dX6_best_16 : decode cX6_best 16 = .ok (.iload_n 2, 1) := by decide +kernel
theorem dX6_best_17 : decode cX6_best 17 = .ok (.iload 4, 2) := by decide +kernel
theorem dX6_best_19 : decode cX6_best 19 = .ok (.ishr, 1) := by decide +kernel
theorem dX6_best_20 : decode cX6_best 20 = .ok (.iconst 1, 1) := by decide +kernel
theorem dX6_best_21 : decode cX6_best 21 = .ok (.iand, 1) := by decide +kernel
theorem dX6_best_22 : decode cX6_best 22 = .ok (.iconst 1, 1) := by decide +kernel
theorem dX6_best_23 : decode cX6_best 23 = .ok (.if_icmp .ne 7, 3) := by decide +kernel
theorem dX6_best_26 : decode cX6_best 26 = .ok (.iconst 1, 1) := by decide +kernel
theorem dX6_best_27 : decode cX6_best 27 = .ok (.goto 4, 3) := by decide +kernel
theorem dX6_best_30 : decode cX6_best 30 = .ok (.iconst 0, 1) := by decide +kernel
theorem dX6_best_31 : decode cX6_best 31 = .ok (.istore 5, 2) := by decide +kernel
theorem dX6_best_33 : decode cX6_best 33 = .ok (.iload 5, 2) := by decide +kernel
theorem dX6_best_35 : decode cX6_best 35 = .ok (.ifCond .eq 28, 3) := by decide +kernel
theorem dX6_best_38 : decode cX6_best 38 = .ok (.iload_n 3, 1) := by decide +kernel
theorem dX6_best_39 : decode cX6_best 39 = .ok (.iconst (-1), 1) := by decide +kernel
theorem dX6_best_40 : decode cX6_best 40 = .ok (.if_icmp .eq 20, 3) := by decide +kernel
theorem dX6_best_43 : decode cX6_best 43 = .ok (.aload_n 0, 1) := by decide +kernel
theorem dX6_best_44 : decode cX6_best 44 = .ok (.iload_n 1, 1) := by decide +kernel
theorem dX6_best_45 : decode cX6_best 45 = .ok (.iload 4, 2) := by decide +kernel
theorem dX6_best_47 : decode cX6_best 47 = .ok (.invokevirtual 105, 3) := by decide +kernel
theorem dX6_best_50 : decode cX6_best 50 = .ok (.aload_n 0, 1) := by decide +kernel
theorem dX6_best_51 : decode cX6_best 51 = .ok (.iload_n 1, 1) := by decide +kernel
theorem dX6_best_52 : decode cX6_best 52 = .ok (.iload_n 3, 1) := by decide +kernel
theorem dX6_best_53 : decode cX6_best 53 = .ok (.invokevirtual 105, 3) := by decide +kernel
theorem dX6_best_56 : decode cX6_best 56 = .ok (.fcmp .l, 1) := by decide +kernel
theorem dX6_best_57 : decode cX6_best 57 = .ok (.ifCond .le 6, 3) := by decide +kernel
theorem dX6_best_60 : decode cX6_best 60 = .ok (.iload 4, 2) := by decide +kernel
theorem dX6_best_62 : decode cX6_best 62 = .ok (.istore_n 3, 1) := by decide +kernel
theorem dX6_best_63 : decode cX6_best 63 = .ok (.iinc 4 1, 3) := by decide +kernel
theorem dX6_best_66 : decode cX6_best 66 = .ok (.goto (-61), 3) := by decide +kernel
theorem dX6_best_69 : decode cX6_best 69 = .ok (.iload_n 3, 1) := by decide +kernel
theorem dX6_best_70 : decode cX6_best 70 = .ok (.ireturn, 1) := by decide +kernel
theorem dX6_bits_0 : decode cX6_bits 0 = .ok (.iconst 0, 1) := by decide +kernel
theorem dX6_bits_1 : decode cX6_bits 1 = .ok (.istore_n 1, 1) := by decide +kernel
theorem dX6_bits_2 : decode cX6_bits 2 = .ok (.iconst 0, 1) := by decide +kernel
theorem dX6_bits_3 : decode cX6_bits 3 = .ok (.istore_n 2, 1) := by decide +kernel
theorem dX6_bits_4 : decode cX6_bits 4 = .ok (.iload_n 2, 1) := by decide +kernel
theorem dX6_bits_5 : decode cX6_bits 5 = .ok (.bipush 6, 2) := by decide +kernel
theorem dX6_bits_7 : decode cX6_bits 7 = .ok (.if_icmp .ge 17, 3) := by decide +kernel
theorem dX6_bits_10 : decode cX6_bits 10 = .ok (.iload_n 1, 1) := by decide +kernel
theorem dX6_bits_11 : decode cX6_bits 11 = .ok (.iload_n 0, 1) := by decide +kernel
theorem dX6_bits_12 : decode cX6_bits 12 = .ok (.iload_n 2, 1) := by decide +kernel
theorem dX6_bits_13 : decode cX6_bits 13 = .ok (.ishr, 1) := by decide +kernel
theorem dX6_bits_14 : decode cX6_bits 14 = .ok (.iconst 1, 1) := by decide +kernel
theorem dX6_bits_15 : decode cX6_bits 15 = .ok (.iand, 1) := by decide +kernel
theorem dX6_bits_16 : decode cX6_bits 16 = .ok (.iadd, 1) := by decide +kernel
theorem dX6_bits_17 : decode cX6_bits 17 = .ok (.istore_n 1, 1) := by decide +kernel
theorem dX6_bits_18 : decode cX6_bits 18 = .ok (.iinc 2 1, 3) := by decide +kernel
theorem dX6_bits_21 : decode cX6_bits 21 = .ok (.goto (-17), 3) := by decide +kernel
theorem dX6_bits_24 : decode cX6_bits 24 = .ok (.iload_n 1, 1) := by decide +kernel
theorem dX6_bits_25 : decode cX6_bits 25 = .ok (.ireturn, 1) := by decide +kernel
theorem dX6_bitAt_0 : decode cX6_bitAt 0 = .ok (.iload_n 1, 1) := by decide +kernel
theorem dX6_bitAt_1 : decode cX6_bitAt 1 = .ok (.istore_n 2, 1) := by decide +kernel
theorem dX6_bitAt_2 : decode cX6_bitAt 2 = .ok (.iconst (-1), 1) := by decide +kernel
theorem dX6_bitAt_3 : decode cX6_bitAt 3 = .ok (.istore_n 3, 1) := by decide +kernel
theorem dX6_bitAt_4 : decode cX6_bitAt 4 = .ok (.iconst 0, 1) := by decide +kernel
theorem dX6_bitAt_5 : decode cX6_bitAt 5 = .ok (.istore 4, 2) := by decide +kernel
theorem dX6_bitAt_7 : decode cX6_bitAt 7 = .ok (.iload 4, 2) := by decide +kernel
theorem dX6_bitAt_9 : decode cX6_bitAt 9 = .ok (.bipush 6, 2) := by decide +kernel
theorem dX6_bitAt_11 : decode cX6_bitAt 11 = .ok (.if_icmp .ge 60, 3) := by decide +kernel
theorem dX6_bitAt_14 : decode cX6_bitAt 14 = .ok (.iload_n 3, 1) := by decide +kernel
theorem dX6_bitAt_15 : decode cX6_bitAt 15 = .ok (.iconst (-1), 1) := by decide +kernel
theorem dX6_bitAt_16 : decode cX6_bitAt 16 = .ok (.if_icmp .ne 55, 3) := by decide +kernel
theorem dX6_bitAt_19 : decode cX6_bitAt 19 = .ok (.iload_n 0, 1) := by decide +kernel
theorem dX6_bitAt_20 : decode cX6_bitAt 20 = .ok (.iload 4, 2) := by decide +kernel
theorem dX6_bitAt_22 : decode cX6_bitAt 22 = .ok (.ishr, 1) := by decide +kernel
theorem dX6_bitAt_23 : decode cX6_bitAt 23 = .ok (.iconst 1, 1) := by decide +kernel
theorem dX6_bitAt_24 : decode cX6_bitAt 24 = .ok (.iand, 1) := by decide +kernel
theorem dX6_bitAt_25 : decode cX6_bitAt 25 = .ok (.iconst 1, 1) := by decide +kernel
theorem dX6_bitAt_26 : decode cX6_bitAt 26 = .ok (.if_icmp .ne 7, 3) := by decide +kernel
theorem dX6_bitAt_29 : decode cX6_bitAt 29 = .ok (.iconst 1, 1) := by decide +kernel
theorem dX6_bitAt_30 : decode cX6_bitAt 30 = .ok (.goto 4, 3) := by decide +kernel
theorem dX6_bitAt_33 : decode cX6_bitAt 33 = .ok (.iconst 0, 1) := by decide +kernel
theorem dX6_bitAt_34 : decode cX6_bitAt 34 = .ok (.istore 5, 2) := by decide +kernel
theorem dX6_bitAt_36 : decode cX6_bitAt 36 = .ok (.iload 5, 2) := by decide +kernel
theorem dX6_bitAt_38 : decode cX6_bitAt 38 = .ok (.ifCond .eq 12, 3) := by decide +kernel
theorem dX6_bitAt_41 : decode cX6_bitAt 41 = .ok (.iload_n 2, 1) := by decide +kernel
theorem dX6_bitAt_42 : decode cX6_bitAt 42 = .ok (.ifCond .ne 8, 3) := by decide +kernel
theorem dX6_bitAt_45 : decode cX6_bitAt 45 = .ok (.iload 4, 2) := by decide +kernel
theorem dX6_bitAt_47 : decode cX6_bitAt 47 = .ok (.goto 4, 3) := by decide +kernel
theorem dX6_bitAt_50 : decode cX6_bitAt 50 = .ok (.iconst (-1), 1) := by decide +kernel
theorem dX6_bitAt_51 : decode cX6_bitAt 51 = .ok (.istore_n 3, 1) := by decide +kernel
theorem dX6_bitAt_52 : decode cX6_bitAt 52 = .ok (.iload_n 2, 1) := by decide +kernel
theorem dX6_bitAt_53 : decode cX6_bitAt 53 = .ok (.iload 5, 2) := by decide +kernel
theorem dX6_bitAt_55 : decode cX6_bitAt 55 = .ok (.ifCond .eq 7, 3) := by decide +kernel
theorem dX6_bitAt_58 : decode cX6_bitAt 58 = .ok (.iconst 1, 1) := by decide +kernel
theorem dX6_bitAt_59 : decode cX6_bitAt 59 = .ok (.goto 4, 3) := by decide +kernel
theorem dX6_bitAt_62 : decode cX6_bitAt 62 = .ok (.iconst 0, 1) := by decide +kernel
theorem dX6_bitAt_63 : decode cX6_bitAt 63 = .ok (.isub, 1) := by decide +kernel
theorem dX6_bitAt_64 : decode cX6_bitAt 64 = .ok (.istore_n 2, 1) := by decide +kernel
theorem dX6_bitAt_65 : decode cX6_bitAt 65 = .ok (.iinc 4 1, 3) := by decide +kernel
theorem dX6_bitAt_68 : decode cX6_bitAt 68 = .ok (.goto (-61), 3) := by decide +kernel
theorem dX6_bitAt_71 : decode cX6_bitAt 71 = .ok (.iload_n 3, 1) := by decide +kernel
theorem dX6_bitAt_72 : decode cX6_bitAt 72 = .ok (.ireturn, 1) := by decide +kernel
theorem dX6_opens_0 : decode cX6_opens 0 = .ok (.iconst 0, 1) := by decide +kernel
theorem dX6_opens_1 : decode cX6_opens 1 = .ok (.istore_n 2, 1) := by decide +kernel
theorem dX6_opens_2 : decode cX6_opens 2 = .ok (.iconst 0, 1) := by decide +kernel
theorem dX6_opens_3 : decode cX6_opens 3 = .ok (.istore_n 3, 1) := by decide +kernel
theorem dX6_opens_4 : decode cX6_opens 4 = .ok (.iload_n 3, 1) := by decide +kernel
theorem dX6_opens_5 : decode cX6_opens 5 = .ok (.aload_n 0, 1) := by decide +kernel
theorem dX6_opens_6 : decode cX6_opens 6 = .ok (.getfield 13, 3) := by decide +kernel
theorem dX6_opens_9 : decode cX6_opens 9 = .ok (.iconst 0, 1) := by decide +kernel
theorem dX6_opens_10 : decode cX6_opens 10 = .ok (.iaload, 1) := by decide +kernel
theorem dX6_opens_11 : decode cX6_opens 11 = .ok (.if_icmp .ge 28, 3) := by decide +kernel
theorem dX6_opens_14 : decode cX6_opens 14 = .ok (.iload_n 2, 1) := by decide +kernel
theorem dX6_opens_15 : decode cX6_opens 15 = .ok (.aload_n 0, 1) := by decide +kernel
theorem dX6_opens_16 : decode cX6_opens 16 = .ok (.iload_n 3, 1) := by decide +kernel
theorem dX6_opens_17 : decode cX6_opens 17 = .ok (.iload_n 1, 1) := by decide +kernel
theorem dX6_opens_18 : decode cX6_opens 18 = .ok (.invokevirtual 109, 3) := by decide +kernel
theorem dX6_opens_21 : decode cX6_opens 21 = .ok (.ifCond .eq 9, 3) := by decide +kernel
theorem dX6_opens_24 : decode cX6_opens 24 = .ok (.iconst 1, 1) := by decide +kernel
theorem dX6_opens_25 : decode cX6_opens 25 = .ok (.iload_n 3, 1) := by decide +kernel
theorem dX6_opens_26 : decode cX6_opens 26 = .ok (.ishl, 1) := by decide +kernel
theorem dX6_opens_27 : decode cX6_opens 27 = .ok (.goto 4, 3) := by decide +kernel
theorem dX6_opens_30 : decode cX6_opens 30 = .ok (.iconst 0, 1) := by decide +kernel
theorem dX6_opens_31 : decode cX6_opens 31 = .ok (.ior, 1) := by decide +kernel
theorem dX6_opens_32 : decode cX6_opens 32 = .ok (.istore_n 2, 1) := by decide +kernel
theorem dX6_opens_33 : decode cX6_opens 33 = .ok (.iinc 3 1, 3) := by decide +kernel
theorem dX6_opens_36 : decode cX6_opens 36 = .ok (.goto (-32), 3) := by decide +kernel
theorem dX6_opens_39 : decode cX6_opens 39 = .ok (.iconst 0, 1) := by decide +kernel
theorem dX6_opens_40 : decode cX6_opens 40 = .ok (.istore_n 3, 1) := by decide +kernel
theorem dX6_opens_41 : decode cX6_opens 41 = .ok (.iconst 1, 1) := by decide +kernel
theorem dX6_opens_42 : decode cX6_opens 42 = .ok (.istore 4, 2) := by decide +kernel
theorem dX6_opens_44 : decode cX6_opens 44 = .ok (.iload 4, 2) := by decide +kernel
theorem dX6_opens_46 : decode cX6_opens 46 = .ok (.aload_n 0, 1) := by decide +kernel
theorem dX6_opens_47 : decode cX6_opens 47 = .ok (.getfield 13, 3) := by decide +kernel
theorem dX6_opens_50 : decode cX6_opens 50 = .ok (.bipush 8, 2) := by decide +kernel
theorem dX6_opens_52 : decode cX6_opens 52 = .ok (.iaload, 1) := by decide +kernel
theorem dX6_opens_53 : decode cX6_opens 53 = .ok (.if_icmp .ge 38, 3) := by decide +kernel
theorem dX6_opens_56 : decode cX6_opens 56 = .ok (.aload_n 0, 1) := by decide +kernel
theorem dX6_opens_57 : decode cX6_opens 57 = .ok (.iload_n 1, 1) := by decide +kernel
theorem dX6_opens_58 : decode cX6_opens 58 = .ok (.iload_n 2, 1) := by decide +kernel
theorem dX6_opens_59 : decode cX6_opens 59 = .ok (.iload_n 3, 1) := by decide +kernel
theorem dX6_opens_60 : decode cX6_opens 60 = .ok (.iconst (-1), 1) := by decide +kernel
theorem dX6_opens_61 : decode cX6_opens 61 = .ok (.ixor, 1) := by decide +kernel
theorem dX6_opens_62 : decode cX6_opens 62 = .ok (.iand, 1) := by decide +kernel
theorem dX6_opens_63 : decode cX6_opens 63 = .ok (.invokevirtual 112, 3) := by decide +kernel
theorem dX6_opens_66 : decode cX6_opens 66 = .ok (.istore 5, 2) := by decide +kernel
theorem dX6_opens_68 : decode cX6_opens 68 = .ok (.iload_n 3, 1) := by decide +kernel
theorem dX6_opens_69 : decode cX6_opens 69 = .ok (.iload 5, 2) := by decide +kernel
theorem dX6_opens_71 : decode cX6_opens 71 = .ok (.iconst (-1), 1) := by decide +kernel
theorem dX6_opens_72 : decode cX6_opens 72 = .ok (.if_icmp .ne 7, 3) := by decide +kernel
theorem dX6_opens_75 : decode cX6_opens 75 = .ok (.iconst 0, 1) := by decide +kernel
theorem dX6_opens_76 : decode cX6_opens 76 = .ok (.goto 7, 3) := by decide +kernel
theorem dX6_opens_79 : decode cX6_opens 79 = .ok (.iconst 1, 1) := by decide +kernel
theorem dX6_opens_80 : decode cX6_opens 80 = .ok (.iload 5, 2) := by decide +kernel
theorem dX6_opens_82 : decode cX6_opens 82 = .ok (.ishl, 1) := by decide +kernel
theorem dX6_opens_83 : decode cX6_opens 83 = .ok (.ior, 1) := by decide +kernel
theorem dX6_opens_84 : decode cX6_opens 84 = .ok (.istore_n 3, 1) := by decide +kernel
theorem dX6_opens_85 : decode cX6_opens 85 = .ok (.iinc 4 1, 3) := by decide +kernel
theorem dX6_opens_88 : decode cX6_opens 88 = .ok (.goto (-44), 3) := by decide +kernel
theorem dX6_opens_91 : decode cX6_opens 91 = .ok (.iload_n 2, 1) := by decide +kernel
theorem dX6_opens_92 : decode cX6_opens 92 = .ok (.iload_n 3, 1) := by decide +kernel
theorem dX6_opens_93 : decode cX6_opens 93 = .ok (.iconst (-1), 1) := by decide +kernel
theorem dX6_opens_94 : decode cX6_opens 94 = .ok (.ixor, 1) := by decide +kernel
theorem dX6_opens_95 : decode cX6_opens 95 = .ok (.iand, 1) := by decide +kernel
theorem dX6_opens_96 : decode cX6_opens 96 = .ok (.istore 4, 2) := by decide +kernel
theorem dX6_opens_98 : decode cX6_opens 98 = .ok (.aload_n 0, 1) := by decide +kernel
theorem dX6_opens_99 : decode cX6_opens 99 = .ok (.iload_n 1, 1) := by decide +kernel
theorem dX6_opens_100 : decode cX6_opens 100 = .ok (.iconst 4, 1) := by decide +kernel
theorem dX6_opens_101 : decode cX6_opens 101 = .ok (.invokevirtual 76, 3) := by decide +kernel
theorem dX6_opens_104 : decode cX6_opens 104 = .ok (.istore 5, 2) := by decide +kernel
theorem dX6_opens_106 : decode cX6_opens 106 = .ok (.iload 5, 2) := by decide +kernel
theorem dX6_opens_108 : decode cX6_opens 108 = .ok (.iconst (-1), 1) := by decide +kernel
theorem dX6_opens_109 : decode cX6_opens 109 = .ok (.if_icmp .eq 35, 3) := by decide +kernel
theorem dX6_opens_112 : decode cX6_opens 112 = .ok (.aload_n 0, 1) := by decide +kernel
theorem dX6_opens_113 : decode cX6_opens 113 = .ok (.getfield 13, 3) := by decide +kernel
theorem dX6_opens_116 : decode cX6_opens 116 = .ok (.iconst 3, 1) := by decide +kernel
theorem dX6_opens_117 : decode cX6_opens 117 = .ok (.iaload, 1) := by decide +kernel
theorem dX6_opens_118 : decode cX6_opens 118 = .ok (.aload_n 0, 1) := by decide +kernel
theorem dX6_opens_119 : decode cX6_opens 119 = .ok (.getfield 13, 3) := by decide +kernel
theorem dX6_opens_122 : decode cX6_opens 122 = .ok (.bipush 11, 2) := by decide +kernel
theorem dX6_opens_124 : decode cX6_opens 124 = .ok (.iaload, 1) := by decide +kernel
theorem dX6_opens_125 : decode cX6_opens 125 = .ok (.irem, 1) := by decide +kernel
theorem dX6_opens_126 : decode cX6_opens 126 = .ok (.ifCond .eq 18, 3) := by decide +kernel
theorem dX6_opens_129 : decode cX6_opens 129 = .ok (.iload 4, 2) := by decide +kernel
theorem dX6_opens_131 : decode cX6_opens 131 = .ok (.iload 5, 2) := by decide +kernel
theorem dX6_opens_133 : decode cX6_opens 133 = .ok (.ishr, 1) := by decide +kernel
theorem dX6_opens_134 : decode cX6_opens 134 = .ok (.iconst 1, 1) := by decide +kernel
theorem dX6_opens_135 : decode cX6_opens 135 = .ok (.iand, 1) := by decide +kernel
theorem dX6_opens_136 : decode cX6_opens 136 = .ok (.iconst 1, 1) := by decide +kernel
theorem dX6_opens_137 : decode cX6_opens 137 = .ok (.if_icmp .ne 7, 3) := by decide +kernel
theorem dX6_opens_140 : decode cX6_opens 140 = .ok (.iconst 1, 1) := by decide +kernel
theorem dX6_opens_141 : decode cX6_opens 141 = .ok (.goto 4, 3) := by decide +kernel
theorem dX6_opens_144 : decode cX6_opens 144 = .ok (.iconst 0, 1) := by decide +kernel
theorem dX6_opens_145 : decode cX6_opens 145 = .ok (.istore 6, 2) := by decide +kernel
theorem dX6_opens_147 : decode cX6_opens 147 = .ok (.iload 6, 2) := by decide +kernel
theorem dX6_opens_149 : decode cX6_opens 149 = .ok (.ifCond .ne 28, 3) := by decide +kernel
theorem dX6_opens_152 : decode cX6_opens 152 = .ok (.iload 4, 2) := by decide +kernel
theorem dX6_opens_154 : decode cX6_opens 154 = .ok (.ifCond .ne 7, 3) := by decide +kernel
theorem dX6_opens_157 : decode cX6_opens 157 = .ok (.iconst (-1), 1) := by decide +kernel
theorem dX6_opens_158 : decode cX6_opens 158 = .ok (.goto 17, 3) := by decide +kernel
theorem dX6_opens_161 : decode cX6_opens 161 = .ok (.iload 4, 2) := by decide +kernel
theorem dX6_opens_163 : decode cX6_opens 163 = .ok (.aload_n 0, 1) := by decide +kernel
theorem dX6_opens_164 : decode cX6_opens 164 = .ok (.iload 4, 2) := by decide +kernel
theorem dX6_opens_166 : decode cX6_opens 166 = .ok (.invokestatic 115, 3) := by decide +kernel
theorem dX6_opens_169 : decode cX6_opens 169 = .ok (.invokevirtual 118, 3) := by decide +kernel
theorem dX6_opens_172 : decode cX6_opens 172 = .ok (.invokestatic 121, 3) := by decide +kernel
theorem dX6_opens_175 : decode cX6_opens 175 = .ok (.istore 5, 2) := by decide +kernel
theorem dX6_opens_177 : decode cX6_opens 177 = .ok (.aload_n 0, 1) := by decide +kernel
theorem dX6_opens_178 : decode cX6_opens 178 = .ok (.getfield 13, 3) := by decide +kernel
theorem dX6_opens_181 : decode cX6_opens 181 = .ok (.iload_n 1, 1) := by decide +kernel
theorem dX6_opens_182 : decode cX6_opens 182 = .ok (.invokestatic 68, 3) := by decide +kernel
theorem dX6_opens_185 : decode cX6_opens 185 = .ok (.iconst 4, 1) := by decide +kernel
theorem dX6_opens_186 : decode cX6_opens 186 = .ok (.iadd, 1) := by decide +kernel
theorem dX6_opens_187 : decode cX6_opens 187 = .ok (.iload 5, 2) := by decide +kernel
theorem dX6_opens_189 : decode cX6_opens 189 = .ok (.iastore, 1) := by decide +kernel
theorem dX6_opens_190 : decode cX6_opens 190 = .ok (.aload_n 0, 1) := by decide +kernel
theorem dX6_opens_191 : decode cX6_opens 191 = .ok (.getfield 13, 3) := by decide +kernel
theorem dX6_opens_194 : decode cX6_opens 194 = .ok (.iload_n 1, 1) := by decide +kernel
theorem dX6_opens_195 : decode cX6_opens 195 = .ok (.invokestatic 68, 3) := by decide +kernel
theorem dX6_opens_198 : decode cX6_opens 198 = .ok (.iconst 3, 1) := by decide +kernel
theorem dX6_opens_199 : decode cX6_opens 199 = .ok (.iadd, 1) := by decide +kernel
theorem dX6_opens_200 : decode cX6_opens 200 = .ok (.iload_n 3, 1) := by decide +kernel
theorem dX6_opens_201 : decode cX6_opens 201 = .ok (.iload 5, 2) := by decide +kernel
theorem dX6_opens_203 : decode cX6_opens 203 = .ok (.iconst (-1), 1) := by decide +kernel
theorem dX6_opens_204 : decode cX6_opens 204 = .ok (.if_icmp .ne 7, 3) := by decide +kernel
theorem dX6_opens_207 : decode cX6_opens 207 = .ok (.iconst 0, 1) := by decide +kernel
theorem dX6_opens_208 : decode cX6_opens 208 = .ok (.goto 7, 3) := by decide +kernel
theorem dX6_opens_211 : decode cX6_opens 211 = .ok (.iconst 1, 1) := by decide +kernel
theorem dX6_opens_212 : decode cX6_opens 212 = .ok (.iload 5, 2) := by decide +kernel
theorem dX6_opens_214 : decode cX6_opens 214 = .ok (.ishl, 1) := by decide +kernel
theorem dX6_opens_215 : decode cX6_opens 215 = .ok (.ior, 1) := by decide +kernel
theorem dX6_opens_216 : decode cX6_opens 216 = .ok (.iastore, 1) := by decide +kernel
theorem dX6_opens_217 : decode cX6_opens 217 = .ok (.return_, 1) := by decide +kernel
