theorem dX2_sendBlocks_0 : decode cX2_sendBlocks 0 = .ok (.iconst 0, 1) := by decide +kernel
theorem dX2_sendBlocks_1 : decode cX2_sendBlocks 1 = .ok (.istore_n 2, 1) := by decide +kernel
theorem dX2_sendBlocks_2 : decode cX2_sendBlocks 2 = .ok (.iload_n 2, 1) := by decide +kernel
theorem dX2_sendBlocks_3 : decode cX2_sendBlocks 3 = .ok (.aload_n 0, 1) := by decide +kernel
theorem dX2_sendBlocks_4 : decode cX2_sendBlocks 4 = .ok (.getfield 21, 3) := by decide +kernel
theorem dX2_sendBlocks_7 : decode cX2_sendBlocks 7 = .ok (.arraylength, 1) := by decide +kernel
theorem dX2_sendBlocks_8 : decode cX2_sendBlocks 8 = .ok (.if_icmp .ge 16, 3) := by decide +kernel
theorem dX2_sendBlocks_11 : decode cX2_sendBlocks 11 = .ok (.aload_n 0, 1) := by decide +kernel
theorem dX2_sendBlocks_12 : decode cX2_sendBlocks 12 = .ok (.getfield 21, 3) := by decide +kernel
theorem dX2_sendBlocks_15 : decode cX2_sendBlocks 15 = .ok (.iload_n 2, 1) := by decide +kernel
theorem dX2_sendBlocks_16 : decode cX2_sendBlocks 16 = .ok (.iconst 0, 1) := by decide +kernel
theorem dX2_sendBlocks_17 : decode cX2_sendBlocks 17 = .ok (.iastore, 1) := by decide +kernel
theorem dX2_sendBlocks_18 : decode cX2_sendBlocks 18 = .ok (.iinc 2 1, 3) := by decide +kernel
theorem dX2_sendBlocks_21 : decode cX2_sendBlocks 21 = .ok (.goto (-19), 3) := by decide +kernel
theorem dX2_sendBlocks_24 : decode cX2_sendBlocks 24 = .ok (.iconst 0, 1) := by decide +kernel
theorem dX2_sendBlocks_25 : decode cX2_sendBlocks 25 = .ok (.istore_n 2, 1) := by decide +kernel
theorem dX2_sendBlocks_26 : decode cX2_sendBlocks 26 = .ok (.iload_n 2, 1) := by decide +kernel
theorem dX2_sendBlocks_27 : decode cX2_sendBlocks 27 = .ok (.aload_n 1, 1) := by decide +kernel
theorem dX2_sendBlocks_28 : decode cX2_sendBlocks 28 = .ok (.getfield 46, 3) := by decide +kernel
theorem dX2_sendBlocks_31 : decode cX2_sendBlocks 31 = .ok (.if_icmp .ge 121, 3) := by decide +kernel
theorem dX2_sendBlocks_34 : decode cX2_sendBlocks 34 = .ok (.iconst 0, 1) := by decide +kernel
theorem dX2_sendBlocks_35 : decode cX2_sendBlocks 35 = .ok (.istore_n 3, 1) := by decide +kernel
theorem dX2_sendBlocks_36 : decode cX2_sendBlocks 36 = .ok (.iconst 0, 1) := by decide +kernel
theorem dX2_sendBlocks_37 : decode cX2_sendBlocks 37 = .ok (.istore 4, 2) := by decide +kernel
theorem dX2_sendBlocks_39 : decode cX2_sendBlocks 39 = .ok (.iload 4, 2) := by decide +kernel
theorem dX2_sendBlocks_41 : decode cX2_sendBlocks 41 = .ok (.aload_n 1, 1) := by decide +kernel
theorem dX2_sendBlocks_42 : decode cX2_sendBlocks 42 = .ok (.getfield 46, 3) := by decide +kernel
theorem dX2_sendBlocks_45 : decode cX2_sendBlocks 45 = .ok (.if_icmp .ge 101, 3) := by decide +kernel
theorem dX2_sendBlocks_48 : decode cX2_sendBlocks 48 = .ok (.aload_n 0, 1) := by decide +kernel
theorem dX2_sendBlocks_49 : decode cX2_sendBlocks 49 = .ok (.getfield 18, 3) := by decide +kernel
theorem dX2_sendBlocks_52 : decode cX2_sendBlocks 52 = .ok (.iload_n 2, 1) := by decide +kernel
theorem dX2_sendBlocks_53 : decode cX2_sendBlocks 53 = .ok (.bipush 6, 2) := by decide +kernel
theorem dX2_sendBlocks_55 : decode cX2_sendBlocks 55 = .ok (.imul, 1) := by decide +kernel
theorem dX2_sendBlocks_56 : decode cX2_sendBlocks 56 = .ok (.iload 4, 2) := by decide +kernel
theorem dX2_sendBlocks_58 : decode cX2_sendBlocks 58 = .ok (.iadd, 1) := by decide +kernel
theorem dX2_sendBlocks_59 : decode cX2_sendBlocks 59 = .ok (.iaload, 1) := by decide +kernel
theorem dX2_sendBlocks_60 : decode cX2_sendBlocks 60 = .ok (.istore 5, 2) := by decide +kernel
theorem dX2_sendBlocks_62 : decode cX2_sendBlocks 62 = .ok (.iload 5, 2) := by decide +kernel
theorem dX2_sendBlocks_64 : decode cX2_sendBlocks 64 = .ok (.ifCond .ge 6, 3) := by decide +kernel
theorem dX2_sendBlocks_67 : decode cX2_sendBlocks 67 = .ok (.goto 73, 3) := by decide +kernel
theorem dX2_sendBlocks_70 : decode cX2_sendBlocks 70 = .ok (.aload_n 1, 1) := by decide +kernel
theorem dX2_sendBlocks_71 : decode cX2_sendBlocks 71 = .ok (.getfield 53, 3) := by decide +kernel
theorem dX2_sendBlocks_74 : decode cX2_sendBlocks 74 = .ok (.iload 4, 2) := by decide +kernel
theorem dX2_sendBlocks_76 : decode cX2_sendBlocks 76 = .ok (.aaload, 1) := by decide +kernel
theorem dX2_sendBlocks_77 : decode cX2_sendBlocks 77 = .ok (.astore 6, 2) := by decide +kernel
theorem dX2_sendBlocks_79 : decode cX2_sendBlocks 79 = .ok (.aload 6, 2) := by decide +kernel
theorem dX2_sendBlocks_81 : decode cX2_sendBlocks 81 = .ok (.iload 5, 2) := by decide +kernel
theorem dX2_sendBlocks_83 : decode cX2_sendBlocks 83 = .ok (.iconst 4, 1) := by decide +kernel
theorem dX2_sendBlocks_84 : decode cX2_sendBlocks 84 = .ok (.idiv, 1) := by decide +kernel
theorem dX2_sendBlocks_85 : decode cX2_sendBlocks 85 = .ok (.invokevirtual 151, 3) := by decide +kernel
theorem dX2_sendBlocks_88 : decode cX2_sendBlocks 88 = .ok (.ifCond .ne 13, 3) := by decide +kernel
theorem dX2_sendBlocks_91 : decode cX2_sendBlocks 91 = .ok (.aload 6, 2) := by decide +kernel
theorem dX2_sendBlocks_93 : decode cX2_sendBlocks 93 = .ok (.iload 5, 2) := by decide +kernel
theorem dX2_sendBlocks_95 : decode cX2_sendBlocks 95 = .ok (.invokevirtual 155, 3) := by decide +kernel
theorem dX2_sendBlocks_98 : decode cX2_sendBlocks 98 = .ok (.ifCond .eq 16, 3) := by decide +kernel
theorem dX2_sendBlocks_101 : decode cX2_sendBlocks 101 = .ok (.aload_n 1, 1) := by decide +kernel
theorem dX2_sendBlocks_102 : decode cX2_sendBlocks 102 = .ok (.dup, 1) := by decide +kernel
theorem dX2_sendBlocks_103 : decode cX2_sendBlocks 103 = .ok (.getfield 158, 3) := by decide +kernel
theorem dX2_sendBlocks_106 : decode cX2_sendBlocks 106 = .ok (.iconst 1, 1) := by decide +kernel
theorem dX2_sendBlocks_107 : decode cX2_sendBlocks 107 = .ok (.iadd, 1) := by decide +kernel
theorem dX2_sendBlocks_108 : decode cX2_sendBlocks 108 = .ok (.putfield 158, 3) := by decide +kernel
theorem dX2_sendBlocks_111 : decode cX2_sendBlocks 111 = .ok (.goto 29, 3) := by decide +kernel
theorem dX2_sendBlocks_114 : decode cX2_sendBlocks 114 = .ok (.iload_n 3, 1) := by decide +kernel
theorem dX2_sendBlocks_115 : decode cX2_sendBlocks 115 = .ok (.aload_n 1, 1) := by decide +kernel
theorem dX2_sendBlocks_116 : decode cX2_sendBlocks 116 = .ok (.getfield 53, 3) := by decide +kernel
theorem dX2_sendBlocks_119 : decode cX2_sendBlocks 119 = .ok (.iload_n 2, 1) := by decide +kernel
theorem dX2_sendBlocks_120 : decode cX2_sendBlocks 120 = .ok (.aaload, 1) := by decide +kernel
theorem dX2_sendBlocks_121 : decode cX2_sendBlocks 121 = .ok (.getfield 161, 3) := by decide +kernel
theorem dX2_sendBlocks_124 : decode cX2_sendBlocks 124 = .ok (.if_icmp .ge 16, 3) := by decide +kernel
theorem dX2_sendBlocks_127 : decode cX2_sendBlocks 127 = .ok (.iinc 3 1, 3) := by decide +kernel
theorem dX2_sendBlocks_130 : decode cX2_sendBlocks 130 = .ok (.aload_n 0, 1) := by decide +kernel
theorem dX2_sendBlocks_131 : decode cX2_sendBlocks 131 = .ok (.aload_n 1, 1) := by decide +kernel
theorem dX2_sendBlocks_132 : decode cX2_sendBlocks 132 = .ok (.iload_n 2, 1) := by decide +kernel
theorem dX2_sendBlocks_133 : decode cX2_sendBlocks 133 = .ok (.iload 4, 2) := by decide +kernel
theorem dX2_sendBlocks_135 : decode cX2_sendBlocks 135 = .ok (.iload 5, 2) := by decide +kernel
theorem dX2_sendBlocks_137 : decode cX2_sendBlocks 137 = .ok (.invokevirtual 164, 3) := by decide +kernel
theorem dX2_sendBlocks_140 : decode cX2_sendBlocks 140 = .ok (.iinc 4 1, 3) := by decide +kernel
theorem dX2_sendBlocks_143 : decode cX2_sendBlocks 143 = .ok (.goto (-104), 3) := by decide +kernel
theorem dX2_sendBlocks_146 : decode cX2_sendBlocks 146 = .ok (.iinc 2 1, 3) := by decide +kernel
theorem dX2_sendBlocks_149 : decode cX2_sendBlocks 149 = .ok (.goto (-123), 3) := by decide +kernel
theorem dX2_sendBlocks_152 : decode cX2_sendBlocks 152 = .ok (.return_, 1) := by decide +kernel
theorem dX2_fadeRates_0 : decode cX2_fadeRates 0 = .ok (.aload_n 1, 1) := by decide +kernel
theorem dX2_fadeRates_1 : decode cX2_fadeRates 1 = .ok (.getfield 86, 3) := by decide +kernel
theorem dX2_fadeRates_4 : decode cX2_fadeRates 4 = .ok (.iconst 1, 1) := by decide +kernel
theorem dX2_fadeRates_5 : decode cX2_fadeRates 5 = .ok (.iaload, 1) := by decide +kernel
theorem dX2_fadeRates_6 : decode cX2_fadeRates 6 = .ok (.i2f, 1) := by decide +kernel
theorem dX2_fadeRates_7 : decode cX2_fadeRates 7 = .ok (.ldc 197, 2) := by decide +kernel
theorem dX2_fadeRates_9 : decode cX2_fadeRates 9 = .ok (.fdiv, 1) := by decide +kernel
theorem dX2_fadeRates_10 : decode cX2_fadeRates 10 = .ok (.fstore_n 2, 1) := by decide +kernel
theorem dX2_fadeRates_11 : decode cX2_fadeRates 11 = .ok (.iconst 0, 1) := by decide +kernel
theorem dX2_fadeRates_12 : decode cX2_fadeRates 12 = .ok (.istore_n 3, 1) := by decide +kernel
theorem dX2_fadeRates_13 : decode cX2_fadeRates 13 = .ok (.iload_n 3, 1) := by decide +kernel
theorem dX2_fadeRates_14 : decode cX2_fadeRates 14 = .ok (.aload_n 1, 1) := by decide +kernel
theorem dX2_fadeRates_15 : decode cX2_fadeRates 15 = .ok (.getfield 46, 3) := by decide +kernel
theorem dX2_fadeRates_18 : decode cX2_fadeRates 18 = .ok (.if_icmp .ge 70, 3) := by decide +kernel
theorem dX2_fadeRates_21 : decode cX2_fadeRates 21 = .ok (.aload_n 1, 1) := by decide +kernel
theorem dX2_fadeRates_22 : decode cX2_fadeRates 22 = .ok (.getfield 53, 3) := by decide +kernel
theorem dX2_fadeRates_25 : decode cX2_fadeRates 25 = .ok (.iload_n 3, 1) := by decide +kernel
theorem dX2_fadeRates_26 : decode cX2_fadeRates 26 = .ok (.aaload, 1) := by decide +kernel
theorem dX2_fadeRates_27 : decode cX2_fadeRates 27 = .ok (.getfield 100, 3) := by decide +kernel
theorem dX2_fadeRates_30 : decode cX2_fadeRates 30 = .ok (.astore 4, 2) := by decide +kernel
theorem dX2_fadeRates_32 : decode cX2_fadeRates 32 = .ok (.iconst 0, 1) := by decide +kernel
theorem dX2_fadeRates_33 : decode cX2_fadeRates 33 = .ok (.istore 5, 2) := by decide +kernel
theorem dX2_fadeRates_35 : decode cX2_fadeRates 35 = .ok (.iload 5, 2) := by decide +kernel
theorem dX2_fadeRates_37 : decode cX2_fadeRates 37 = .ok (.aload_n 1, 1) := by decide +kernel
theorem dX2_fadeRates_38 : decode cX2_fadeRates 38 = .ok (.getfield 46, 3) := by decide +kernel
theorem dX2_fadeRates_41 : decode cX2_fadeRates 41 = .ok (.if_icmp .ge 41, 3) := by decide +kernel
theorem dX2_fadeRates_44 : decode cX2_fadeRates 44 = .ok (.iload 5, 2) := by decide +kernel
theorem dX2_fadeRates_46 : decode cX2_fadeRates 46 = .ok (.iload_n 3, 1) := by decide +kernel
theorem dX2_fadeRates_47 : decode cX2_fadeRates 47 = .ok (.if_icmp .eq 29, 3) := by decide +kernel
theorem dX2_fadeRates_50 : decode cX2_fadeRates 50 = .ok (.aload 4, 2) := by decide +kernel
theorem dX2_fadeRates_52 : decode cX2_fadeRates 52 = .ok (.iload 5, 2) := by decide +kernel
theorem dX2_fadeRates_54 : decode cX2_fadeRates 54 = .ok (.aload 4, 2) := by decide +kernel
theorem dX2_fadeRates_56 : decode cX2_fadeRates 56 = .ok (.iload 5, 2) := by decide +kernel
theorem dX2_fadeRates_58 : decode cX2_fadeRates 58 = .ok (.faload, 1) := by decide +kernel
theorem dX2_fadeRates_59 : decode cX2_fadeRates 59 = .ok (.fload_n 2, 1) := by decide +kernel
theorem dX2_fadeRates_60 : decode cX2_fadeRates 60 = .ok (.fmul, 1) := by decide +kernel
theorem dX2_fadeRates_61 : decode cX2_fadeRates 61 = .ok (.aload_n 0, 1) := by decide +kernel
theorem dX2_fadeRates_62 : decode cX2_fadeRates 62 = .ok (.getfield 21, 3) := by decide +kernel
theorem dX2_fadeRates_65 : decode cX2_fadeRates 65 = .ok (.iload_n 3, 1) := by decide +kernel
theorem dX2_fadeRates_66 : decode cX2_fadeRates 66 = .ok (.bipush 6, 2) := by decide +kernel
theorem dX2_fadeRates_68 : decode cX2_fadeRates 68 = .ok (.imul, 1) := by decide +kernel
theorem dX2_fadeRates_69 : decode cX2_fadeRates 69 = .ok (.iload 5, 2) := by decide +kernel
theorem dX2_fadeRates_71 : decode cX2_fadeRates 71 = .ok (.iadd, 1) := by decide +kernel
theorem dX2_fadeRates_72 : decode cX2_fadeRates 72 = .ok (.iaload, 1) := by decide +kernel
theorem dX2_fadeRates_73 : decode cX2_fadeRates 73 = .ok (.i2f, 1) := by decide +kernel
theorem dX2_fadeRates_74 : decode cX2_fadeRates 74 = .ok (.fadd, 1) := by decide +kernel
theorem dX2_fadeRates_75 : decode cX2_fadeRates 75 = .ok (.fastore, 1) := by decide +kernel
theorem dX2_fadeRates_76 : decode cX2_fadeRates 76 = .ok (.iinc 5 1, 3) := by decide +kernel
theorem dX2_fadeRates_79 : decode cX2_fadeRates 79 = .ok (.goto (-44), 3) := by decide +kernel
theorem dX2_fadeRates_82 : decode cX2_fadeRates 82 = .ok (.iinc 3 1, 3) := by decide +kernel
theorem dX2_fadeRates_85 : decode cX2_fadeRates 85 = .ok (.goto (-72), 3) := by decide +kernel
theorem dX2_fadeRates_88 : decode cX2_fadeRates 88 = .ok (.return_, 1) := by decide +kernel
theorem dX2_runSome_0 : decode cX2_runSome 0 = .ok (.iconst 0, 1) := by decide +kernel
theorem dX2_runSome_1 : decode cX2_runSome 1 = .ok (.istore_n 3, 1) := by decide +kernel
theorem dX2_runSome_2 : decode cX2_runSome 2 = .ok (.iload_n 3, 1) := by decide +kernel
theorem dX2_runSome_3 : decode cX2_runSome 3 = .ok (.iload_n 2, 1) := by decide +kernel
theorem dX2_runSome_4 : decode cX2_runSome 4 = .ok (.if_icmp .ge 44, 3) := by decide +kernel
theorem dX2_runSome_7 : decode cX2_runSome 7 = .ok (.aload_n 0, 1) := by decide +kernel
theorem dX2_runSome_8 : decode cX2_runSome 8 = .ok (.aload_n 1, 1) := by decide +kernel
theorem dX2_runSome_9 : decode cX2_runSome 9 = .ok (.invokevirtual 24, 3) := by decide +kernel
theorem dX2_runSome_12 : decode cX2_runSome 12 = .ok (.aload_n 0, 1) := by decide +kernel
theorem dX2_runSome_13 : decode cX2_runSome 13 = .ok (.aload_n 1, 1) := by decide +kernel
theorem dX2_runSome_14 : decode cX2_runSome 14 = .ok (.invokevirtual 28, 3) := by decide +kernel
theorem dX2_runSome_17 : decode cX2_runSome 17 = .ok (.aload_n 0, 1) := by decide +kernel
theorem dX2_runSome_18 : decode cX2_runSome 18 = .ok (.aload_n 1, 1) := by decide +kernel
theorem dX2_runSome_19 : decode cX2_runSome 19 = .ok (.invokevirtual 31, 3) := by decide +kernel
theorem dX2_runSome_22 : decode cX2_runSome 22 = .ok (.aload_n 0, 1) := by decide +kernel
theorem dX2_runSome_23 : decode cX2_runSome 23 = .ok (.aload_n 1, 1) := by decide +kernel
theorem dX2_runSome_24 : decode cX2_runSome 24 = .ok (.invokevirtual 34, 3) := by decide +kernel
theorem dX2_runSome_27 : decode cX2_runSome 27 = .ok (.aload_n 0, 1) := by decide +kernel
theorem dX2_runSome_28 : decode cX2_runSome 28 = .ok (.aload_n 1, 1) := by decide +kernel
theorem dX2_runSome_29 : decode cX2_runSome 29 = .ok (.invokevirtual 37, 3) := by decide +kernel
theorem dX2_runSome_32 : decode cX2_runSome 32 = .ok (.aload_n 1, 1) := by decide +kernel
theorem dX2_runSome_33 : decode cX2_runSome 33 = .ok (.dup, 1) := by decide +kernel
theorem dX2_runSome_34 : decode cX2_runSome 34 = .ok (.getfield 40, 3) := by decide +kernel
theorem dX2_runSome_37 : decode cX2_runSome 37 = .ok (.iconst 1, 1) := by decide +kernel
theorem dX2_runSome_38 : decode cX2_runSome 38 = .ok (.iadd, 1) := by decide +kernel
theorem dX2_runSome_39 : decode cX2_runSome 39 = .ok (.putfield 40, 3) := by decide +kernel
theorem dX2_runSome_42 : decode cX2_runSome 42 = .ok (.iinc 3 1, 3) := by decide +kernel
theorem dX2_runSome_45 : decode cX2_runSome 45 = .ok (.goto (-43), 3) := by decide +kernel
theorem dX2_runSome_48 : decode cX2_runSome 48 = .ok (.return_, 1) := by decide +kernel
