theorem dX5_digestPeer_0 : decode cX5_digestPeer 0 = .ok (.lload_n 1, 1) := by decide +kernel
theorem dX5_digestPeer_1 : decode cX5_digestPeer 1 = .ok (.lstore 4, 2) := by decide +kernel
theorem dX5_digestPeer_3 : decode cX5_digestPeer 3 = .ok (.iconst 0, 1) := by decide +kernel
theorem dX5_digestPeer_4 : decode cX5_digestPeer 4 = .ok (.istore 6, 2) := by decide +kernel
theorem dX5_digestPeer_6 : decode cX5_digestPeer 6 = .ok (.iload 6, 2) := by decide +kernel
theorem dX5_digestPeer_8 : decode cX5_digestPeer 8 = .ok (.bipush 9, 2) := by decide +kernel
theorem dX5_digestPeer_10 : decode cX5_digestPeer 10 = .ok (.if_icmp .gt 26, 3) := by decide +kernel
theorem dX5_digestPeer_13 : decode cX5_digestPeer 13 = .ok (.ldc2_w 195, 3) := by decide +kernel
theorem dX5_digestPeer_16 : decode cX5_digestPeer 16 = .ok (.lload 4, 2) := by decide +kernel
theorem dX5_digestPeer_18 : decode cX5_digestPeer 18 = .ok (.lmul, 1) := by decide +kernel
theorem dX5_digestPeer_19 : decode cX5_digestPeer 19 = .ok (.aload_n 0, 1) := by decide +kernel
theorem dX5_digestPeer_20 : decode cX5_digestPeer 20 = .ok (.iload_n 3, 1) := by decide +kernel
theorem dX5_digestPeer_21 : decode cX5_digestPeer 21 = .ok (.iload 6, 2) := by decide +kernel
theorem dX5_digestPeer_23 : decode cX5_digestPeer 23 = .ok (.invokevirtual 214, 3) := by decide +kernel
theorem dX5_digestPeer_26 : decode cX5_digestPeer 26 = .ok (.i2l, 1) := by decide +kernel
theorem dX5_digestPeer_27 : decode cX5_digestPeer 27 = .ok (.ladd, 1) := by decide +kernel
theorem dX5_digestPeer_28 : decode cX5_digestPeer 28 = .ok (.lstore 4, 2) := by decide +kernel
theorem dX5_digestPeer_30 : decode cX5_digestPeer 30 = .ok (.iinc 6 1, 3) := by decide +kernel
theorem dX5_digestPeer_33 : decode cX5_digestPeer 33 = .ok (.goto (-27), 3) := by decide +kernel
theorem dX5_digestPeer_36 : decode cX5_digestPeer 36 = .ok (.iconst 0, 1) := by decide +kernel
theorem dX5_digestPeer_37 : decode cX5_digestPeer 37 = .ok (.istore 6, 2) := by decide +kernel
theorem dX5_digestPeer_39 : decode cX5_digestPeer 39 = .ok (.iload 6, 2) := by decide +kernel
theorem dX5_digestPeer_41 : decode cX5_digestPeer 41 = .ok (.aload_n 0, 1) := by decide +kernel
theorem dX5_digestPeer_42 : decode cX5_digestPeer 42 = .ok (.getfield 10, 3) := by decide +kernel
theorem dX5_digestPeer_45 : decode cX5_digestPeer 45 = .ok (.getfield 128, 3) := by decide +kernel
theorem dX5_digestPeer_48 : decode cX5_digestPeer 48 = .ok (.if_icmp .ge 49, 3) := by decide +kernel
theorem dX5_digestPeer_51 : decode cX5_digestPeer 51 = .ok (.iconst 0, 1) := by decide +kernel
theorem dX5_digestPeer_52 : decode cX5_digestPeer 52 = .ok (.istore 7, 2) := by decide +kernel
theorem dX5_digestPeer_54 : decode cX5_digestPeer 54 = .ok (.iload 7, 2) := by decide +kernel
theorem dX5_digestPeer_56 : decode cX5_digestPeer 56 = .ok (.aload_n 0, 1) := by decide +kernel
theorem dX5_digestPeer_57 : decode cX5_digestPeer 57 = .ok (.getfield 10, 3) := by decide +kernel
theorem dX5_digestPeer_60 : decode cX5_digestPeer 60 = .ok (.getfield 95, 3) := by decide +kernel
theorem dX5_digestPeer_63 : decode cX5_digestPeer 63 = .ok (.if_icmp .ge 28, 3) := by decide +kernel
theorem dX5_digestPeer_66 : decode cX5_digestPeer 66 = .ok (.ldc2_w 195, 3) := by decide +kernel
theorem dX5_digestPeer_69 : decode cX5_digestPeer 69 = .ok (.lload 4, 2) := by decide +kernel
theorem dX5_digestPeer_71 : decode cX5_digestPeer 71 = .ok (.lmul, 1) := by decide +kernel
theorem dX5_digestPeer_72 : decode cX5_digestPeer 72 = .ok (.aload_n 0, 1) := by decide +kernel
theorem dX5_digestPeer_73 : decode cX5_digestPeer 73 = .ok (.iload_n 3, 1) := by decide +kernel
theorem dX5_digestPeer_74 : decode cX5_digestPeer 74 = .ok (.iload 6, 2) := by decide +kernel
theorem dX5_digestPeer_76 : decode cX5_digestPeer 76 = .ok (.iload 7, 2) := by decide +kernel
theorem dX5_digestPeer_78 : decode cX5_digestPeer 78 = .ok (.invokevirtual 217, 3) := by decide +kernel
theorem dX5_digestPeer_81 : decode cX5_digestPeer 81 = .ok (.i2l, 1) := by decide +kernel
theorem dX5_digestPeer_82 : decode cX5_digestPeer 82 = .ok (.ladd, 1) := by decide +kernel
theorem dX5_digestPeer_83 : decode cX5_digestPeer 83 = .ok (.lstore 4, 2) := by decide +kernel
theorem dX5_digestPeer_85 : decode cX5_digestPeer 85 = .ok (.iinc 7 1, 3) := by decide +kernel
theorem dX5_digestPeer_88 : decode cX5_digestPeer 88 = .ok (.goto (-34), 3) := by decide +kernel
theorem dX5_digestPeer_91 : decode cX5_digestPeer 91 = .ok (.iinc 6 1, 3) := by decide +kernel
theorem dX5_digestPeer_94 : decode cX5_digestPeer 94 = .ok (.goto (-55), 3) := by decide +kernel
theorem dX5_digestPeer_97 : decode cX5_digestPeer 97 = .ok (.iconst 0, 1) := by decide +kernel
theorem dX5_digestPeer_98 : decode cX5_digestPeer 98 = .ok (.istore 6, 2) := by decide +kernel
theorem dX5_digestPeer_100 : decode cX5_digestPeer 100 = .ok (.iload 6, 2) := by decide +kernel
theorem dX5_digestPeer_102 : decode cX5_digestPeer 102 = .ok (.aload_n 0, 1) := by decide +kernel
theorem dX5_digestPeer_103 : decode cX5_digestPeer 103 = .ok (.getfield 10, 3) := by decide +kernel
theorem dX5_digestPeer_106 : decode cX5_digestPeer 106 = .ok (.getfield 41, 3) := by decide +kernel
theorem dX5_digestPeer_109 : decode cX5_digestPeer 109 = .ok (.if_icmp .ge 49, 3) := by decide +kernel
theorem dX5_digestPeer_112 : decode cX5_digestPeer 112 = .ok (.iload 6, 2) := by decide +kernel
theorem dX5_digestPeer_114 : decode cX5_digestPeer 114 = .ok (.iload_n 3, 1) := by decide +kernel
theorem dX5_digestPeer_115 : decode cX5_digestPeer 115 = .ok (.if_icmp .eq 37, 3) := by decide +kernel
theorem dX5_digestPeer_118 : decode cX5_digestPeer 118 = .ok (.ldc2_w 195, 3) := by decide +kernel
theorem dX5_digestPeer_121 : decode cX5_digestPeer 121 = .ok (.lload 4, 2) := by decide +kernel
theorem dX5_digestPeer_123 : decode cX5_digestPeer 123 = .ok (.lmul, 1) := by decide +kernel
theorem dX5_digestPeer_124 : decode cX5_digestPeer 124 = .ok (.aload_n 0, 1) := by decide +kernel
theorem dX5_digestPeer_125 : decode cX5_digestPeer 125 = .ok (.iload_n 3, 1) := by decide +kernel
theorem dX5_digestPeer_126 : decode cX5_digestPeer 126 = .ok (.iload 6, 2) := by decide +kernel
theorem dX5_digestPeer_128 : decode cX5_digestPeer 128 = .ok (.invokevirtual 221, 3) := by decide +kernel
theorem dX5_digestPeer_131 : decode cX5_digestPeer 131 = .ok (.i2l, 1) := by decide +kernel
theorem dX5_digestPeer_132 : decode cX5_digestPeer 132 = .ok (.ladd, 1) := by decide +kernel
theorem dX5_digestPeer_133 : decode cX5_digestPeer 133 = .ok (.lstore 4, 2) := by decide +kernel
theorem dX5_digestPeer_135 : decode cX5_digestPeer 135 = .ok (.ldc2_w 195, 3) := by decide +kernel
theorem dX5_digestPeer_138 : decode cX5_digestPeer 138 = .ok (.lload 4, 2) := by decide +kernel
theorem dX5_digestPeer_140 : decode cX5_digestPeer 140 = .ok (.lmul, 1) := by decide +kernel
theorem dX5_digestPeer_141 : decode cX5_digestPeer 141 = .ok (.aload_n 0, 1) := by decide +kernel
theorem dX5_digestPeer_142 : decode cX5_digestPeer 142 = .ok (.iload_n 3, 1) := by decide +kernel
theorem dX5_digestPeer_143 : decode cX5_digestPeer 143 = .ok (.iload 6, 2) := by decide +kernel
theorem dX5_digestPeer_145 : decode cX5_digestPeer 145 = .ok (.invokevirtual 224, 3) := by decide +kernel
theorem dX5_digestPeer_148 : decode cX5_digestPeer 148 = .ok (.i2l, 1) := by decide +kernel
theorem dX5_digestPeer_149 : decode cX5_digestPeer 149 = .ok (.ladd, 1) := by decide +kernel
theorem dX5_digestPeer_150 : decode cX5_digestPeer 150 = .ok (.lstore 4, 2) := by decide +kernel
theorem dX5_digestPeer_152 : decode cX5_digestPeer 152 = .ok (.iinc 6 1, 3) := by decide +kernel
theorem dX5_digestPeer_155 : decode cX5_digestPeer 155 = .ok (.goto (-55), 3) := by decide +kernel
theorem dX5_digestPeer_158 : decode cX5_digestPeer 158 = .ok (.lload 4, 2) := by decide +kernel
theorem dX5_digestPeer_160 : decode cX5_digestPeer 160 = .ok (.lreturn, 1) := by decide +kernel
theorem dX5_digest_0 : decode cX5_digest 0 = .ok (.ldc2_w 193, 3) := by decide +kernel
theorem dX5_digest_3 : decode cX5_digest 3 = .ok (.lstore_n 1, 1) := by decide +kernel
theorem dX5_digest_4 : decode cX5_digest 4 = .ok (.iconst 0, 1) := by decide +kernel
theorem dX5_digest_5 : decode cX5_digest 5 = .ok (.istore_n 3, 1) := by decide +kernel
theorem dX5_digest_6 : decode cX5_digest 6 = .ok (.iload_n 3, 1) := by decide +kernel
theorem dX5_digest_7 : decode cX5_digest 7 = .ok (.bipush 8, 2) := by decide +kernel
theorem dX5_digest_9 : decode cX5_digest 9 = .ok (.if_icmp .gt 22, 3) := by decide +kernel
theorem dX5_digest_12 : decode cX5_digest 12 = .ok (.ldc2_w 195, 3) := by decide +kernel
theorem dX5_digest_15 : decode cX5_digest 15 = .ok (.lload_n 1, 1) := by decide +kernel
theorem dX5_digest_16 : decode cX5_digest 16 = .ok (.lmul, 1) := by decide +kernel
theorem dX5_digest_17 : decode cX5_digest 17 = .ok (.aload_n 0, 1) := by decide +kernel
theorem dX5_digest_18 : decode cX5_digest 18 = .ok (.iload_n 3, 1) := by decide +kernel
theorem dX5_digest_19 : decode cX5_digest 19 = .ok (.invokevirtual 197, 3) := by decide +kernel
theorem dX5_digest_22 : decode cX5_digest 22 = .ok (.i2l, 1) := by decide +kernel
theorem dX5_digest_23 : decode cX5_digest 23 = .ok (.ladd, 1) := by decide +kernel
theorem dX5_digest_24 : decode cX5_digest 24 = .ok (.lstore_n 1, 1) := by decide +kernel
theorem dX5_digest_25 : decode cX5_digest 25 = .ok (.iinc 3 1, 3) := by decide +kernel
theorem dX5_digest_28 : decode cX5_digest 28 = .ok (.goto (-22), 3) := by decide +kernel
theorem dX5_digest_31 : decode cX5_digest 31 = .ok (.iconst 0, 1) := by decide +kernel
theorem dX5_digest_32 : decode cX5_digest 32 = .ok (.istore_n 3, 1) := by decide +kernel
theorem dX5_digest_33 : decode cX5_digest 33 = .ok (.iload_n 3, 1) := by decide +kernel
theorem dX5_digest_34 : decode cX5_digest 34 = .ok (.bipush 9, 2) := by decide +kernel
theorem dX5_digest_36 : decode cX5_digest 36 = .ok (.if_icmp .gt 22, 3) := by decide +kernel
theorem dX5_digest_39 : decode cX5_digest 39 = .ok (.ldc2_w 195, 3) := by decide +kernel
theorem dX5_digest_42 : decode cX5_digest 42 = .ok (.lload_n 1, 1) := by decide +kernel
theorem dX5_digest_43 : decode cX5_digest 43 = .ok (.lmul, 1) := by decide +kernel
theorem dX5_digest_44 : decode cX5_digest 44 = .ok (.aload_n 0, 1) := by decide +kernel
theorem dX5_digest_45 : decode cX5_digest 45 = .ok (.iload_n 3, 1) := by decide +kernel
theorem dX5_digest_46 : decode cX5_digest 46 = .ok (.invokevirtual 200, 3) := by decide +kernel
theorem dX5_digest_49 : decode cX5_digest 49 = .ok (.i2l, 1) := by decide +kernel
theorem dX5_digest_50 : decode cX5_digest 50 = .ok (.ladd, 1) := by decide +kernel
theorem dX5_digest_51 : decode cX5_digest 51 = .ok (.lstore_n 1, 1) := by decide +kernel
theorem dX5_digest_52 : decode cX5_digest 52 = .ok (.iinc 3 1, 3) := by decide +kernel
theorem dX5_digest_55 : decode cX5_digest 55 = .ok (.goto (-22), 3) := by decide +kernel
theorem dX5_digest_58 : decode cX5_digest 58 = .ok (.iconst 0, 1) := by decide +kernel
theorem dX5_digest_59 : decode cX5_digest 59 = .ok (.istore_n 3, 1) := by decide +kernel
theorem dX5_digest_60 : decode cX5_digest 60 = .ok (.iload_n 3, 1) := by decide +kernel
theorem dX5_digest_61 : decode cX5_digest 61 = .ok (.aload_n 0, 1) := by decide +kernel
theorem dX5_digest_62 : decode cX5_digest 62 = .ok (.getfield 10, 3) := by decide +kernel
theorem dX5_digest_65 : decode cX5_digest 65 = .ok (.getfield 41, 3) := by decide +kernel
theorem dX5_digest_68 : decode cX5_digest 68 = .ok (.if_icmp .ge 16, 3) := by decide +kernel
theorem dX5_digest_71 : decode cX5_digest 71 = .ok (.aload_n 0, 1) := by decide +kernel
theorem dX5_digest_72 : decode cX5_digest 72 = .ok (.lload_n 1, 1) := by decide +kernel
theorem dX5_digest_73 : decode cX5_digest 73 = .ok (.iload_n 3, 1) := by decide +kernel
theorem dX5_digest_74 : decode cX5_digest 74 = .ok (.invokevirtual 203, 3) := by decide +kernel
theorem dX5_digest_77 : decode cX5_digest 77 = .ok (.lstore_n 1, 1) := by decide +kernel
theorem dX5_digest_78 : decode cX5_digest 78 = .ok (.iinc 3 1, 3) := by decide +kernel
theorem dX5_digest_81 : decode cX5_digest 81 = .ok (.goto (-21), 3) := by decide +kernel
theorem dX5_digest_84 : decode cX5_digest 84 = .ok (.ldc2_w 195, 3) := by decide +kernel
theorem dX5_digest_87 : decode cX5_digest 87 = .ok (.lload_n 1, 1) := by decide +kernel
theorem dX5_digest_88 : decode cX5_digest 88 = .ok (.lmul, 1) := by decide +kernel
theorem dX5_digest_89 : decode cX5_digest 89 = .ok (.aload_n 0, 1) := by decide +kernel
theorem dX5_digest_90 : decode cX5_digest 90 = .ok (.invokevirtual 207, 3) := by decide +kernel
theorem dX5_digest_93 : decode cX5_digest 93 = .ok (.i2l, 1) := by decide +kernel
theorem dX5_digest_94 : decode cX5_digest 94 = .ok (.ladd, 1) := by decide +kernel
theorem dX5_digest_95 : decode cX5_digest 95 = .ok (.lstore_n 1, 1) := by decide +kernel
theorem dX5_digest_96 : decode cX5_digest 96 = .ok (.ldc2_w 195, 3) := by decide +kernel
theorem dX5_digest_99 : decode cX5_digest 99 = .ok (.lload_n 1, 1) := by decide +kernel
theorem dX5_digest_100 : decode cX5_digest 100 = .ok (.lmul, 1) := by decide +kernel
theorem dX5_digest_101 : decode cX5_digest 101 = .ok (.aload_n 0, 1) := by decide +kernel
theorem dX5_digest_102 : decode cX5_digest 102 = .ok (.invokevirtual 210, 3) := by decide +kernel
theorem dX5_digest_105 : decode cX5_digest 105 = .ok (.ladd, 1) := by decide +kernel
theorem dX5_digest_106 : decode cX5_digest 106 = .ok (.lreturn, 1) := by decide +kernel
