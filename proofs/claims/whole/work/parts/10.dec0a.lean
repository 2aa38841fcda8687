theorem dX0_ofFloat_0 : decode cX0_ofFloat 0 = .ok (.fload_n 0, 1) := by decide +kernel
theorem dX0_ofFloat_1 : decode cX0_ofFloat 1 = .ok (.fconst 0, 1) := by decide +kernel
theorem dX0_ofFloat_2 : decode cX0_ofFloat 2 = .ok (.fcmp .l, 1) := by decide +kernel
theorem dX0_ofFloat_3 : decode cX0_ofFloat 3 = .ok (.ifCond .gt 5, 3) := by decide +kernel
theorem dX0_ofFloat_6 : decode cX0_ofFloat 6 = .ok (.iconst 0, 1) := by decide +kernel
theorem dX0_ofFloat_7 : decode cX0_ofFloat 7 = .ok (.ireturn, 1) := by decide +kernel
theorem dX0_ofFloat_8 : decode cX0_ofFloat 8 = .ok (.fload_n 0, 1) := by decide +kernel
theorem dX0_ofFloat_9 : decode cX0_ofFloat 9 = .ok (.fstore_n 1, 1) := by decide +kernel
theorem dX0_ofFloat_10 : decode cX0_ofFloat 10 = .ok (.bipush 127, 2) := by decide +kernel
theorem dX0_ofFloat_12 : decode cX0_ofFloat 12 = .ok (.istore_n 2, 1) := by decide +kernel
theorem dX0_ofFloat_13 : decode cX0_ofFloat 13 = .ok (.iconst 0, 1) := by decide +kernel
theorem dX0_ofFloat_14 : decode cX0_ofFloat 14 = .ok (.istore_n 3, 1) := by decide +kernel
theorem dX0_ofFloat_15 : decode cX0_ofFloat 15 = .ok (.iload_n 3, 1) := by decide +kernel
theorem dX0_ofFloat_16 : decode cX0_ofFloat 16 = .ok (.bipush 127, 2) := by decide +kernel
theorem dX0_ofFloat_18 : decode cX0_ofFloat 18 = .ok (.if_icmp .ge 22, 3) := by decide +kernel
theorem dX0_ofFloat_21 : decode cX0_ofFloat 21 = .ok (.fload_n 1, 1) := by decide +kernel
theorem dX0_ofFloat_22 : decode cX0_ofFloat 22 = .ok (.fconst 2, 1) := by decide +kernel
theorem dX0_ofFloat_23 : decode cX0_ofFloat 23 = .ok (.fcmp .l, 1) := by decide +kernel
theorem dX0_ofFloat_24 : decode cX0_ofFloat 24 = .ok (.ifCond .lt 16, 3) := by decide +kernel
theorem dX0_ofFloat_27 : decode cX0_ofFloat 27 = .ok (.fload_n 1, 1) := by decide +kernel
theorem dX0_ofFloat_28 : decode cX0_ofFloat 28 = .ok (.fconst 2, 1) := by decide +kernel
theorem dX0_ofFloat_29 : decode cX0_ofFloat 29 = .ok (.fdiv, 1) := by decide +kernel
theorem dX0_ofFloat_30 : decode cX0_ofFloat 30 = .ok (.fstore_n 1, 1) := by decide +kernel
theorem dX0_ofFloat_31 : decode cX0_ofFloat 31 = .ok (.iinc 2 1, 3) := by decide +kernel
theorem dX0_ofFloat_34 : decode cX0_ofFloat 34 = .ok (.iinc 3 1, 3) := by decide +kernel
theorem dX0_ofFloat_37 : decode cX0_ofFloat 37 = .ok (.goto (-22), 3) := by decide +kernel
theorem dX0_ofFloat_40 : decode cX0_ofFloat 40 = .ok (.iconst 0, 1) := by decide +kernel
theorem dX0_ofFloat_41 : decode cX0_ofFloat 41 = .ok (.istore_n 3, 1) := by decide +kernel
theorem dX0_ofFloat_42 : decode cX0_ofFloat 42 = .ok (.iload_n 3, 1) := by decide +kernel
theorem dX0_ofFloat_43 : decode cX0_ofFloat 43 = .ok (.bipush 126, 2) := by decide +kernel
theorem dX0_ofFloat_45 : decode cX0_ofFloat 45 = .ok (.if_icmp .ge 22, 3) := by decide +kernel
theorem dX0_ofFloat_48 : decode cX0_ofFloat 48 = .ok (.fload_n 1, 1) := by decide +kernel
theorem dX0_ofFloat_49 : decode cX0_ofFloat 49 = .ok (.fconst 1, 1) := by decide +kernel
theorem dX0_ofFloat_50 : decode cX0_ofFloat 50 = .ok (.fcmp .g, 1) := by decide +kernel
theorem dX0_ofFloat_51 : decode cX0_ofFloat 51 = .ok (.ifCond .ge 16, 3) := by decide +kernel
theorem dX0_ofFloat_54 : decode cX0_ofFloat 54 = .ok (.fload_n 1, 1) := by decide +kernel
theorem dX0_ofFloat_55 : decode cX0_ofFloat 55 = .ok (.fconst 2, 1) := by decide +kernel
theorem dX0_ofFloat_56 : decode cX0_ofFloat 56 = .ok (.fmul, 1) := by decide +kernel
theorem dX0_ofFloat_57 : decode cX0_ofFloat 57 = .ok (.fstore_n 1, 1) := by decide +kernel
theorem dX0_ofFloat_58 : decode cX0_ofFloat 58 = .ok (.iinc 2 (-1), 3) := by decide +kernel
theorem dX0_ofFloat_61 : decode cX0_ofFloat 61 = .ok (.iinc 3 1, 3) := by decide +kernel
theorem dX0_ofFloat_64 : decode cX0_ofFloat 64 = .ok (.goto (-22), 3) := by decide +kernel
theorem dX0_ofFloat_67 : decode cX0_ofFloat 67 = .ok (.fload_n 1, 1) := by decide +kernel
theorem dX0_ofFloat_68 : decode cX0_ofFloat 68 = .ok (.fconst 1, 1) := by decide +kernel
theorem dX0_ofFloat_69 : decode cX0_ofFloat 69 = .ok (.fcmp .g, 1) := by decide +kernel
theorem dX0_ofFloat_70 : decode cX0_ofFloat 70 = .ok (.ifCond .ge 9, 3) := by decide +kernel
theorem dX0_ofFloat_73 : decode cX0_ofFloat 73 = .ok (.fload_n 1, 1) := by decide +kernel
theorem dX0_ofFloat_74 : decode cX0_ofFloat 74 = .ok (.ldc 7, 2) := by decide +kernel
theorem dX0_ofFloat_76 : decode cX0_ofFloat 76 = .ok (.fmul, 1) := by decide +kernel
theorem dX0_ofFloat_77 : decode cX0_ofFloat 77 = .ok (.f2i, 1) := by decide +kernel
theorem dX0_ofFloat_78 : decode cX0_ofFloat 78 = .ok (.ireturn, 1) := by decide +kernel
theorem dX0_ofFloat_79 : decode cX0_ofFloat 79 = .ok (.iload_n 2, 1) := by decide +kernel
theorem dX0_ofFloat_80 : decode cX0_ofFloat 80 = .ok (.bipush 23, 2) := by decide +kernel
theorem dX0_ofFloat_82 : decode cX0_ofFloat 82 = .ok (.ishl, 1) := by decide +kernel
theorem dX0_ofFloat_83 : decode cX0_ofFloat 83 = .ok (.fload_n 1, 1) := by decide +kernel
theorem dX0_ofFloat_84 : decode cX0_ofFloat 84 = .ok (.fconst 1, 1) := by decide +kernel
theorem dX0_ofFloat_85 : decode cX0_ofFloat 85 = .ok (.fsub, 1) := by decide +kernel
theorem dX0_ofFloat_86 : decode cX0_ofFloat 86 = .ok (.ldc 7, 2) := by decide +kernel
theorem dX0_ofFloat_88 : decode cX0_ofFloat 88 = .ok (.fmul, 1) := by decide +kernel
theorem dX0_ofFloat_89 : decode cX0_ofFloat 89 = .ok (.f2i, 1) := by decide +kernel
theorem dX0_ofFloat_90 : decode cX0_ofFloat 90 = .ok (.iadd, 1) := by decide +kernel
theorem dX0_ofFloat_91 : decode cX0_ofFloat 91 = .ok (.ireturn, 1) := by decide +kernel
theorem dX0_ofDouble_0 : decode cX0_ofDouble 0 = .ok (.dload_n 0, 1) := by decide +kernel
theorem dX0_ofDouble_1 : decode cX0_ofDouble 1 = .ok (.dstore_n 2, 1) := by decide +kernel
theorem dX0_ofDouble_2 : decode cX0_ofDouble 2 = .ok (.ldc2_w 8, 3) := by decide +kernel
theorem dX0_ofDouble_5 : decode cX0_ofDouble 5 = .ok (.lstore 4, 2) := by decide +kernel
theorem dX0_ofDouble_7 : decode cX0_ofDouble 7 = .ok (.iconst 0, 1) := by decide +kernel
theorem dX0_ofDouble_8 : decode cX0_ofDouble 8 = .ok (.istore 6, 2) := by decide +kernel
theorem dX0_ofDouble_10 : decode cX0_ofDouble 10 = .ok (.iload 6, 2) := by decide +kernel
theorem dX0_ofDouble_12 : decode cX0_ofDouble 12 = .ok (.sipush 1022, 3) := by decide +kernel
theorem dX0_ofDouble_15 : decode cX0_ofDouble 15 = .ok (.if_icmp .ge 27, 3) := by decide +kernel
theorem dX0_ofDouble_18 : decode cX0_ofDouble 18 = .ok (.dload_n 2, 1) := by decide +kernel
theorem dX0_ofDouble_19 : decode cX0_ofDouble 19 = .ok (.dconst 1, 1) := by decide +kernel
theorem dX0_ofDouble_20 : decode cX0_ofDouble 20 = .ok (.dcmp .g, 1) := by decide +kernel
theorem dX0_ofDouble_21 : decode cX0_ofDouble 21 = .ok (.ifCond .ge 21, 3) := by decide +kernel
theorem dX0_ofDouble_24 : decode cX0_ofDouble 24 = .ok (.dload_n 2, 1) := by decide +kernel
theorem dX0_ofDouble_25 : decode cX0_ofDouble 25 = .ok (.ldc2_w 10, 3) := by decide +kernel
theorem dX0_ofDouble_28 : decode cX0_ofDouble 28 = .ok (.dmul, 1) := by decide +kernel
theorem dX0_ofDouble_29 : decode cX0_ofDouble 29 = .ok (.dstore_n 2, 1) := by decide +kernel
theorem dX0_ofDouble_30 : decode cX0_ofDouble 30 = .ok (.lload 4, 2) := by decide +kernel
theorem dX0_ofDouble_32 : decode cX0_ofDouble 32 = .ok (.lconst 1, 1) := by decide +kernel
theorem dX0_ofDouble_33 : decode cX0_ofDouble 33 = .ok (.lsub, 1) := by decide +kernel
theorem dX0_ofDouble_34 : decode cX0_ofDouble 34 = .ok (.lstore 4, 2) := by decide +kernel
theorem dX0_ofDouble_36 : decode cX0_ofDouble 36 = .ok (.iinc 6 1, 3) := by decide +kernel
theorem dX0_ofDouble_39 : decode cX0_ofDouble 39 = .ok (.goto (-29), 3) := by decide +kernel
theorem dX0_ofDouble_42 : decode cX0_ofDouble 42 = .ok (.lload 4, 2) := by decide +kernel
theorem dX0_ofDouble_44 : decode cX0_ofDouble 44 = .ok (.bipush 52, 2) := by decide +kernel
theorem dX0_ofDouble_46 : decode cX0_ofDouble 46 = .ok (.lshl, 1) := by decide +kernel
theorem dX0_ofDouble_47 : decode cX0_ofDouble 47 = .ok (.dload_n 2, 1) := by decide +kernel
theorem dX0_ofDouble_48 : decode cX0_ofDouble 48 = .ok (.dconst 1, 1) := by decide +kernel
theorem dX0_ofDouble_49 : decode cX0_ofDouble 49 = .ok (.dsub, 1) := by decide +kernel
theorem dX0_ofDouble_50 : decode cX0_ofDouble 50 = .ok (.ldc2_w 12, 3) := by decide +kernel
theorem dX0_ofDouble_53 : decode cX0_ofDouble 53 = .ok (.dmul, 1) := by decide +kernel
theorem dX0_ofDouble_54 : decode cX0_ofDouble 54 = .ok (.d2l, 1) := by decide +kernel
theorem dX0_ofDouble_55 : decode cX0_ofDouble 55 = .ok (.ladd, 1) := by decide +kernel
theorem dX0_ofDouble_56 : decode cX0_ofDouble 56 = .ok (.lreturn, 1) := by decide +kernel
theorem dX1_startAs_0 : decode cX1_startAs 0 = .ok (.aload_n 0, 1) := by decide +kernel
theorem dX1_startAs_1 : decode cX1_startAs 1 = .ok (.iload_n 1, 1) := by decide +kernel
theorem dX1_startAs_2 : decode cX1_startAs 2 = .ok (.putfield 22, 3) := by decide +kernel
theorem dX1_startAs_5 : decode cX1_startAs 5 = .ok (.aload_n 0, 1) := by decide +kernel
theorem dX1_startAs_6 : decode cX1_startAs 6 = .ok (.iload_n 2, 1) := by decide +kernel
theorem dX1_startAs_7 : decode cX1_startAs 7 = .ok (.putfield 26, 3) := by decide +kernel
theorem dX1_startAs_10 : decode cX1_startAs 10 = .ok (.aload_n 0, 1) := by decide +kernel
theorem dX1_startAs_11 : decode cX1_startAs 11 = .ok (.iconst 0, 1) := by decide +kernel
theorem dX1_startAs_12 : decode cX1_startAs 12 = .ok (.putfield 29, 3) := by decide +kernel
theorem dX1_startAs_15 : decode cX1_startAs 15 = .ok (.aload_n 0, 1) := by decide +kernel
theorem dX1_startAs_16 : decode cX1_startAs 16 = .ok (.iconst 0, 1) := by decide +kernel
theorem dX1_startAs_17 : decode cX1_startAs 17 = .ok (.putfield 32, 3) := by decide +kernel
theorem dX1_startAs_20 : decode cX1_startAs 20 = .ok (.aload_n 0, 1) := by decide +kernel
theorem dX1_startAs_21 : decode cX1_startAs 21 = .ok (.iconst 0, 1) := by decide +kernel
theorem dX1_startAs_22 : decode cX1_startAs 22 = .ok (.putfield 35, 3) := by decide +kernel
theorem dX1_startAs_25 : decode cX1_startAs 25 = .ok (.aload_n 0, 1) := by decide +kernel
theorem dX1_startAs_26 : decode cX1_startAs 26 = .ok (.iconst (-1), 1) := by decide +kernel
theorem dX1_startAs_27 : decode cX1_startAs 27 = .ok (.putfield 38, 3) := by decide +kernel
theorem dX1_startAs_30 : decode cX1_startAs 30 = .ok (.aload_n 0, 1) := by decide +kernel
theorem dX1_startAs_31 : decode cX1_startAs 31 = .ok (.iconst 0, 1) := by decide +kernel
theorem dX1_startAs_32 : decode cX1_startAs 32 = .ok (.putfield 41, 3) := by decide +kernel
theorem dX1_startAs_35 : decode cX1_startAs 35 = .ok (.aload_n 0, 1) := by decide +kernel
theorem dX1_startAs_36 : decode cX1_startAs 36 = .ok (.iconst 0, 1) := by decide +kernel
theorem dX1_startAs_37 : decode cX1_startAs 37 = .ok (.putfield 44, 3) := by decide +kernel
theorem dX1_startAs_40 : decode cX1_startAs 40 = .ok (.aload_n 0, 1) := by decide +kernel
theorem dX1_startAs_41 : decode cX1_startAs 41 = .ok (.iconst 0, 1) := by decide +kernel
theorem dX1_startAs_42 : decode cX1_startAs 42 = .ok (.putfield 47, 3) := by decide +kernel
theorem dX1_startAs_45 : decode cX1_startAs 45 = .ok (.iconst 0, 1) := by decide +kernel
theorem dX1_startAs_46 : decode cX1_startAs 46 = .ok (.istore_n 3, 1) := by decide +kernel
theorem dX1_startAs_47 : decode cX1_startAs 47 = .ok (.iload_n 3, 1) := by decide +kernel
theorem dX1_startAs_48 : decode cX1_startAs 48 = .ok (.bipush 6, 2) := by decide +kernel
theorem dX1_startAs_50 : decode cX1_startAs 50 = .ok (.if_icmp .ge 23, 3) := by decide +kernel
theorem dX1_startAs_53 : decode cX1_startAs 53 = .ok (.aload_n 0, 1) := by decide +kernel
theorem dX1_startAs_54 : decode cX1_startAs 54 = .ok (.getfield 15, 3) := by decide +kernel
theorem dX1_startAs_57 : decode cX1_startAs 57 = .ok (.iload_n 3, 1) := by decide +kernel
theorem dX1_startAs_58 : decode cX1_startAs 58 = .ok (.iconst 0, 1) := by decide +kernel
theorem dX1_startAs_59 : decode cX1_startAs 59 = .ok (.iastore, 1) := by decide +kernel
theorem dX1_startAs_60 : decode cX1_startAs 60 = .ok (.aload_n 0, 1) := by decide +kernel
theorem dX1_startAs_61 : decode cX1_startAs 61 = .ok (.getfield 18, 3) := by decide +kernel
theorem dX1_startAs_64 : decode cX1_startAs 64 = .ok (.iload_n 3, 1) := by decide +kernel
theorem dX1_startAs_65 : decode cX1_startAs 65 = .ok (.fconst 0, 1) := by decide +kernel
theorem dX1_startAs_66 : decode cX1_startAs 66 = .ok (.fastore, 1) := by decide +kernel
theorem dX1_startAs_67 : decode cX1_startAs 67 = .ok (.iinc 3 1, 3) := by decide +kernel
theorem dX1_startAs_70 : decode cX1_startAs 70 = .ok (.goto (-23), 3) := by decide +kernel
theorem dX1_startAs_73 : decode cX1_startAs 73 = .ok (.return_, 1) := by decide +kernel
theorem dX1_copyFrom_0 : decode cX1_copyFrom 0 = .ok (.aload_n 0, 1) := by decide +kernel
theorem dX1_copyFrom_1 : decode cX1_copyFrom 1 = .ok (.aload_n 1, 1) := by decide +kernel
theorem dX1_copyFrom_2 : decode cX1_copyFrom 2 = .ok (.getfield 22, 3) := by decide +kernel
theorem dX1_copyFrom_5 : decode cX1_copyFrom 5 = .ok (.putfield 22, 3) := by decide +kernel
theorem dX1_copyFrom_8 : decode cX1_copyFrom 8 = .ok (.aload_n 0, 1) := by decide +kernel
theorem dX1_copyFrom_9 : decode cX1_copyFrom 9 = .ok (.aload_n 1, 1) := by decide +kernel
theorem dX1_copyFrom_10 : decode cX1_copyFrom 10 = .ok (.getfield 26, 3) := by decide +kernel
theorem dX1_copyFrom_13 : decode cX1_copyFrom 13 = .ok (.putfield 26, 3) := by decide +kernel
theorem dX1_copyFrom_16 : decode cX1_copyFrom 16 = .ok (.aload_n 0, 1) := by decide +kernel
theorem dX1_copyFrom_17 : decode cX1_copyFrom 17 = .ok (.aload_n 1, 1) := by decide +kernel
theorem dX1_copyFrom_18 : decode cX1_copyFrom 18 = .ok (.getfield 29, 3) := by decide +kernel
theorem dX1_copyFrom_21 : decode cX1_copyFrom 21 = .ok (.putfield 29, 3) := by decide +kernel
theorem dX1_copyFrom_24 : decode cX1_copyFrom 24 = .ok (.aload_n 0, 1) := by decide +kernel
theorem dX1_copyFrom_25 : decode cX1_copyFrom 25 = .ok (.aload_n 1, 1) := by decide +kernel
theorem dX1_copyFrom_26 : decode cX1_copyFrom 26 = .ok (.getfield 32, 3) := by decide +kernel
theorem dX1_copyFrom_29 : decode cX1_copyFrom 29 = .ok (.putfield 32, 3) := by decide +kernel
theorem dX1_copyFrom_32 : decode cX1_copyFrom 32 = .ok (.aload_n 0, 1) := by decide +kernel
theorem dX1_copyFrom_33 : decode cX1_copyFrom 33 = .ok (.aload_n 1, 1) := by decide +kernel
theorem dX1_copyFrom_34 : decode cX1_copyFrom 34 = .ok (.getfield 35, 3) := by decide +kernel
theorem dX1_copyFrom_37 : decode cX1_copyFrom 37 = .ok (.putfield 35, 3) := by decide +kernel
theorem dX1_copyFrom_40 : decode cX1_copyFrom 40 = .ok (.aload_n 0, 1) := by decide +kernel
theorem dX1_copyFrom_41 : decode cX1_copyFrom 41 = .ok (.aload_n 1, 1) := by decide +kernel
theorem dX1_copyFrom_42 : decode cX1_copyFrom 42 = .ok (.getfield 38, 3) := by decide +kernel
theorem dX1_copyFrom_45 : decode cX1_copyFrom 45 = .ok (.putfield 38, 3) := by decide +kernel
theorem dX1_copyFrom_48 : decode cX1_copyFrom 48 = .ok (.aload_n 0, 1) := by decide +kernel
theorem dX1_copyFrom_49 : decode cX1_copyFrom 49 = .ok (.aload_n 1, 1) := by decide +kernel
theorem dX1_copyFrom_50 : decode cX1_copyFrom 50 = .ok (.getfield 41, 3) := by decide +kernel
theorem dX1_copyFrom_53 : decode cX1_copyFrom 53 = .ok (.putfield 41, 3) := by decide +kernel
theorem dX1_copyFrom_56 : decode cX1_copyFrom 56 = .ok (.aload_n 0, 1) := by decide +kernel
theorem dX1_copyFrom_57 : decode cX1_copyFrom 57 = .ok (.aload_n 1, 1) := by decide +kernel
theorem dX1_copyFrom_58 : decode cX1_copyFrom 58 = .ok (.getfield 44, 3) := by decide +kernel
theorem dX1_copyFrom_61 : decode cX1_copyFrom 61 = .ok (.putfield 44, 3) := by decide +kernel
theorem dX1_copyFrom_64 : decode cX1_copyFrom 64 = .ok (.aload_n 0, 1) := by decide +kernel
theorem dX1_copyFrom_65 : decode cX1_copyFrom 65 = .ok (.aload_n 1, 1) := by decide +kernel
theorem dX1_copyFrom_66 : decode cX1_copyFrom 66 = .ok (.getfield 47, 3) := by decide +kernel
theorem dX1_copyFrom_69 : decode cX1_copyFrom 69 = .ok (.putfield 47, 3) := by decide +kernel
theorem dX1_copyFrom_72 : decode cX1_copyFrom 72 = .ok (.aload_n 1, 1) := by decide +kernel
theorem dX1_copyFrom_73 : decode cX1_copyFrom 73 = .ok (.getfield 9, 3) := by decide +kernel
theorem dX1_copyFrom_76 : decode cX1_copyFrom 76 = .ok (.iconst 0, 1) := by decide +kernel
theorem dX1_copyFrom_77 : decode cX1_copyFrom 77 = .ok (.aload_n 0, 1) := by decide +kernel
theorem dX1_copyFrom_78 : decode cX1_copyFrom 78 = .ok (.getfield 9, 3) := by decide +kernel
theorem dX1_copyFrom_81 : decode cX1_copyFrom 81 = .ok (.iconst 0, 1) := by decide +kernel
theorem dX1_copyFrom_82 : decode cX1_copyFrom 82 = .ok (.aload_n 0, 1) := by decide +kernel
theorem dX1_copyFrom_83 : decode cX1_copyFrom 83 = .ok (.getfield 9, 3) := by decide +kernel
theorem dX1_copyFrom_86 : decode cX1_copyFrom 86 = .ok (.arraylength, 1) := by decide +kernel
theorem dX1_copyFrom_87 : decode cX1_copyFrom 87 = .ok (.invokestatic 50, 3) := by decide +kernel
theorem dX1_copyFrom_90 : decode cX1_copyFrom 90 = .ok (.aload_n 1, 1) := by decide +kernel
theorem dX1_copyFrom_91 : decode cX1_copyFrom 91 = .ok (.getfield 15, 3) := by decide +kernel
theorem dX1_copyFrom_94 : decode cX1_copyFrom 94 = .ok (.iconst 0, 1) := by decide +kernel
theorem dX1_copyFrom_95 : decode cX1_copyFrom 95 = .ok (.aload_n 0, 1) := by decide +kernel
theorem dX1_copyFrom_96 : decode cX1_copyFrom 96 = .ok (.getfield 15, 3) := by decide +kernel
theorem dX1_copyFrom_99 : decode cX1_copyFrom 99 = .ok (.iconst 0, 1) := by decide +kernel
theorem dX1_copyFrom_100 : decode cX1_copyFrom 100 = .ok (.aload_n 0, 1) := by decide +kernel
theorem dX1_copyFrom_101 : decode cX1_copyFrom 101 = .ok (.getfield 15, 3) := by decide +kernel
theorem dX1_copyFrom_104 : decode cX1_copyFrom 104 = .ok (.arraylength, 1) := by decide +kernel
theorem dX1_copyFrom_105 : decode cX1_copyFrom 105 = .ok (.invokestatic 50, 3) := by decide +kernel
theorem dX1_copyFrom_108 : decode cX1_copyFrom 108 = .ok (.aload_n 1, 1) := by decide +kernel
theorem dX1_copyFrom_109 : decode cX1_copyFrom 109 = .ok (.getfield 18, 3) := by decide +kernel
theorem dX1_copyFrom_112 : decode cX1_copyFrom 112 = .ok (.iconst 0, 1) := by decide +kernel
theorem dX1_copyFrom_113 : decode cX1_copyFrom 113 = .ok (.aload_n 0, 1) := by decide +kernel
theorem dX1_copyFrom_114 : decode cX1_copyFrom 114 = .ok (.getfield 18, 3) := by decide +kernel
theorem dX1_copyFrom_117 : decode cX1_copyFrom 117 = .ok (.iconst 0, 1) := by decide +kernel
theorem dX1_copyFrom_118 : decode cX1_copyFrom 118 = .ok (.aload_n 0, 1) := by decide +kernel
theorem dX1_copyFrom_119 : decode cX1_copyFrom 119 = .ok (.getfield 18, 3) := by decide +kernel
theorem dX1_copyFrom_122 : decode cX1_copyFrom 122 = .ok (.arraylength, 1) := by decide +kernel
theorem dX1_copyFrom_123 : decode cX1_copyFrom 123 = .ok (.invokestatic 50, 3) := by decide +kernel
theorem dX1_copyFrom_126 : decode cX1_copyFrom 126 = .ok (.return_, 1) := by decide +kernel
theorem dX1_hasPiece_0 : decode cX1_hasPiece 0 = .ok (.aload_n 0, 1) := by decide +kernel
theorem dX1_hasPiece_1 : decode cX1_hasPiece 1 = .ok (.getfield 29, 3) := by decide +kernel
theorem dX1_hasPiece_4 : decode cX1_hasPiece 4 = .ok (.iload_n 1, 1) := by decide +kernel
theorem dX1_hasPiece_5 : decode cX1_hasPiece 5 = .ok (.ishr, 1) := by decide +kernel
theorem dX1_hasPiece_6 : decode cX1_hasPiece 6 = .ok (.iconst 1, 1) := by decide +kernel
theorem dX1_hasPiece_7 : decode cX1_hasPiece 7 = .ok (.iand, 1) := by decide +kernel
theorem dX1_hasPiece_8 : decode cX1_hasPiece 8 = .ok (.ifCond .eq 7, 3) := by decide +kernel
theorem dX1_hasPiece_11 : decode cX1_hasPiece 11 = .ok (.iconst 1, 1) := by decide +kernel
theorem dX1_hasPiece_12 : decode cX1_hasPiece 12 = .ok (.goto 4, 3) := by decide +kernel
theorem dX1_hasPiece_15 : decode cX1_hasPiece 15 = .ok (.iconst 0, 1) := by decide +kernel
theorem dX1_hasPiece_16 : decode cX1_hasPiece 16 = .ok (.ireturn, 1) := by decide +kernel
theorem dX1_holds_0 : decode cX1_holds 0 = .ok (.aload_n 0, 1) := by decide +kernel
theorem dX1_holds_1 : decode cX1_holds 1 = .ok (.getfield 32, 3) := by decide +kernel
theorem dX1_holds_4 : decode cX1_holds 4 = .ok (.iload_n 1, 1) := by decide +kernel
theorem dX1_holds_5 : decode cX1_holds 5 = .ok (.iushr, 1) := by decide +kernel
theorem dX1_holds_6 : decode cX1_holds 6 = .ok (.iconst 1, 1) := by decide +kernel
theorem dX1_holds_7 : decode cX1_holds 7 = .ok (.iand, 1) := by decide +kernel
theorem dX1_holds_8 : decode cX1_holds 8 = .ok (.ifCond .eq 7, 3) := by decide +kernel
theorem dX1_holds_11 : decode cX1_holds 11 = .ok (.iconst 1, 1) := by decide +kernel
theorem dX1_holds_12 : decode cX1_holds 12 = .ok (.goto 4, 3) := by decide +kernel
theorem dX1_holds_15 : decode cX1_holds 15 = .ok (.iconst 0, 1) := by decide +kernel
theorem dX1_holds_16 : decode cX1_holds 16 = .ok (.ireturn, 1) := by decide +kernel
theorem dX1_sourceOf_0 : decode cX1_sourceOf 0 = .ok (.aload_n 0, 1) := by decide +kernel
theorem dX1_sourceOf_1 : decode cX1_sourceOf 1 = .ok (.iload_n 1, 1) := by decide +kernel
theorem dX1_sourceOf_2 : decode cX1_sourceOf 2 = .ok (.invokevirtual 56, 3) := by decide +kernel
theorem dX1_sourceOf_5 : decode cX1_sourceOf 5 = .ok (.ifCond .eq 6, 3) := by decide +kernel
theorem dX1_sourceOf_8 : decode cX1_sourceOf 8 = .ok (.bipush 100, 2) := by decide +kernel
theorem dX1_sourceOf_10 : decode cX1_sourceOf 10 = .ok (.ireturn, 1) := by decide +kernel
theorem dX1_sourceOf_11 : decode cX1_sourceOf 11 = .ok (.iload_n 1, 1) := by decide +kernel
theorem dX1_sourceOf_12 : decode cX1_sourceOf 12 = .ok (.iconst 4, 1) := by decide +kernel
theorem dX1_sourceOf_13 : decode cX1_sourceOf 13 = .ok (.imul, 1) := by decide +kernel
theorem dX1_sourceOf_14 : decode cX1_sourceOf 14 = .ok (.iload_n 2, 1) := by decide +kernel
theorem dX1_sourceOf_15 : decode cX1_sourceOf 15 = .ok (.iadd, 1) := by decide +kernel
theorem dX1_sourceOf_16 : decode cX1_sourceOf 16 = .ok (.istore_n 3, 1) := by decide +kernel
theorem dX1_sourceOf_17 : decode cX1_sourceOf 17 = .ok (.aload_n 0, 1) := by decide +kernel
theorem dX1_sourceOf_18 : decode cX1_sourceOf 18 = .ok (.iload_n 3, 1) := by decide +kernel
theorem dX1_sourceOf_19 : decode cX1_sourceOf 19 = .ok (.invokevirtual 60, 3) := by decide +kernel
theorem dX1_sourceOf_22 : decode cX1_sourceOf 22 = .ok (.ifCond .eq 12, 3) := by decide +kernel
theorem dX1_sourceOf_25 : decode cX1_sourceOf 25 = .ok (.aload_n 0, 1) := by decide +kernel
theorem dX1_sourceOf_26 : decode cX1_sourceOf 26 = .ok (.getfield 9, 3) := by decide +kernel
theorem dX1_sourceOf_29 : decode cX1_sourceOf 29 = .ok (.iload_n 3, 1) := by decide +kernel
theorem dX1_sourceOf_30 : decode cX1_sourceOf 30 = .ok (.iaload, 1) := by decide +kernel
theorem dX1_sourceOf_31 : decode cX1_sourceOf 31 = .ok (.goto 4, 3) := by decide +kernel
theorem dX1_sourceOf_34 : decode cX1_sourceOf 34 = .ok (.iconst (-1), 1) := by decide +kernel
theorem dX1_sourceOf_35 : decode cX1_sourceOf 35 = .ok (.ireturn, 1) := by decide +kernel
theorem dX1_loseBlocks_0 : decode cX1_loseBlocks 0 = .ok (.aload_n 0, 1) := by decide +kernel
theorem dX1_loseBlocks_1 : decode cX1_loseBlocks 1 = .ok (.dup, 1) := by decide +kernel
theorem dX1_loseBlocks_2 : decode cX1_loseBlocks 2 = .ok (.getfield 32, 3) := by decide +kernel
theorem dX1_loseBlocks_5 : decode cX1_loseBlocks 5 = .ok (.bipush 15, 2) := by decide +kernel
theorem dX1_loseBlocks_7 : decode cX1_loseBlocks 7 = .ok (.iload_n 1, 1) := by decide +kernel
theorem dX1_loseBlocks_8 : decode cX1_loseBlocks 8 = .ok (.iconst 4, 1) := by decide +kernel
theorem dX1_loseBlocks_9 : decode cX1_loseBlocks 9 = .ok (.imul, 1) := by decide +kernel
theorem dX1_loseBlocks_10 : decode cX1_loseBlocks 10 = .ok (.ishl, 1) := by decide +kernel
theorem dX1_loseBlocks_11 : decode cX1_loseBlocks 11 = .ok (.iconst (-1), 1) := by decide +kernel
theorem dX1_loseBlocks_12 : decode cX1_loseBlocks 12 = .ok (.ixor, 1) := by decide +kernel
theorem dX1_loseBlocks_13 : decode cX1_loseBlocks 13 = .ok (.iand, 1) := by decide +kernel
theorem dX1_loseBlocks_14 : decode cX1_loseBlocks 14 = .ok (.putfield 32, 3) := by decide +kernel
theorem dX1_loseBlocks_17 : decode cX1_loseBlocks 17 = .ok (.return_, 1) := by decide +kernel
theorem dX3_claimsOf_0 : decode cX3_claimsOf 0 = .ok (.aload_n 0, 1) := by decide +kernel
theorem dX3_claimsOf_1 : decode cX3_claimsOf 1 = .ok (.getfield 20, 3) := by decide +kernel
theorem dX3_claimsOf_4 : decode cX3_claimsOf 4 = .ok (.iload_n 1, 1) := by decide +kernel
theorem dX3_claimsOf_5 : decode cX3_claimsOf 5 = .ok (.aaload, 1) := by decide +kernel
theorem dX3_claimsOf_6 : decode cX3_claimsOf 6 = .ok (.getfield 81, 3) := by decide +kernel
theorem dX3_claimsOf_9 : decode cX3_claimsOf 9 = .ok (.iconst 2, 1) := by decide +kernel
theorem dX3_claimsOf_10 : decode cX3_claimsOf 10 = .ok (.if_icmp .ne 10, 3) := by decide +kernel
theorem dX3_claimsOf_13 : decode cX3_claimsOf 13 = .ok (.aload_n 0, 1) := by decide +kernel
theorem dX3_claimsOf_14 : decode cX3_claimsOf 14 = .ok (.getfield 36, 3) := by decide +kernel
theorem dX3_claimsOf_17 : decode cX3_claimsOf 17 = .ok (.goto 12, 3) := by decide +kernel
theorem dX3_claimsOf_20 : decode cX3_claimsOf 20 = .ok (.aload_n 0, 1) := by decide +kernel
theorem dX3_claimsOf_21 : decode cX3_claimsOf 21 = .ok (.getfield 20, 3) := by decide +kernel
theorem dX3_claimsOf_24 : decode cX3_claimsOf 24 = .ok (.iload_n 1, 1) := by decide +kernel
theorem dX3_claimsOf_25 : decode cX3_claimsOf 25 = .ok (.aaload, 1) := by decide +kernel
theorem dX3_claimsOf_26 : decode cX3_claimsOf 26 = .ok (.getfield 91, 3) := by decide +kernel
theorem dX3_claimsOf_29 : decode cX3_claimsOf 29 = .ok (.ireturn, 1) := by decide +kernel
theorem dJ6_bitCount_0f7a4_0 : decode cJ6_bitCount_0f7a4 0 = .ok (.iload_n 0, 1) := by decide +kernel
theorem dJ6_bitCount_0f7a4_1 : decode cJ6_bitCount_0f7a4 1 = .ok (.iload_n 0, 1) := by decide +kernel
theorem dJ6_bitCount_0f7a4_2 : decode cJ6_bitCount_0f7a4 2 = .ok (.iconst 1, 1) := by decide +kernel
theorem dJ6_bitCount_0f7a4_3 : decode cJ6_bitCount_0f7a4 3 = .ok (.iushr, 1) := by decide +kernel
theorem dJ6_bitCount_0f7a4_4 : decode cJ6_bitCount_0f7a4 4 = .ok (.ldc_w 265, 3) := by decide +kernel
theorem dJ6_bitCount_0f7a4_7 : decode cJ6_bitCount_0f7a4 7 = .ok (.iand, 1) := by decide +kernel
theorem dJ6_bitCount_0f7a4_8 : decode cJ6_bitCount_0f7a4 8 = .ok (.isub, 1) := by decide +kernel
theorem dJ6_bitCount_0f7a4_9 : decode cJ6_bitCount_0f7a4 9 = .ok (.istore_n 0, 1) := by decide +kernel
theorem dJ6_bitCount_0f7a4_10 : decode cJ6_bitCount_0f7a4 10 = .ok (.iload_n 0, 1) := by decide +kernel
theorem dJ6_bitCount_0f7a4_11 : decode cJ6_bitCount_0f7a4 11 = .ok (.ldc_w 266, 3) := by decide +kernel
theorem dJ6_bitCount_0f7a4_14 : decode cJ6_bitCount_0f7a4 14 = .ok (.iand, 1) := by decide +kernel
theorem dJ6_bitCount_0f7a4_15 : decode cJ6_bitCount_0f7a4 15 = .ok (.iload_n 0, 1) := by decide +kernel
theorem dJ6_bitCount_0f7a4_16 : decode cJ6_bitCount_0f7a4 16 = .ok (.iconst 2, 1) := by decide +kernel
theorem dJ6_bitCount_0f7a4_17 : decode cJ6_bitCount_0f7a4 17 = .ok (.iushr, 1) := by decide +kernel
theorem dJ6_bitCount_0f7a4_18 : decode cJ6_bitCount_0f7a4 18 = .ok (.ldc_w 266, 3) := by decide +kernel
theorem dJ6_bitCount_0f7a4_21 : decode cJ6_bitCount_0f7a4 21 = .ok (.iand, 1) := by decide +kernel
theorem dJ6_bitCount_0f7a4_22 : decode cJ6_bitCount_0f7a4 22 = .ok (.iadd, 1) := by decide +kernel
theorem dJ6_bitCount_0f7a4_23 : decode cJ6_bitCount_0f7a4 23 = .ok (.istore_n 0, 1) := by decide +kernel
theorem dJ6_bitCount_0f7a4_24 : decode cJ6_bitCount_0f7a4 24 = .ok (.iload_n 0, 1) := by decide +kernel
theorem dJ6_bitCount_0f7a4_25 : decode cJ6_bitCount_0f7a4 25 = .ok (.iload_n 0, 1) := by decide +kernel
theorem dJ6_bitCount_0f7a4_26 : decode cJ6_bitCount_0f7a4 26 = .ok (.iconst 4, 1) := by decide +kernel
theorem dJ6_bitCount_0f7a4_27 : decode cJ6_bitCount_0f7a4 27 = .ok (.iushr, 1) := by decide +kernel
theorem dJ6_bitCount_0f7a4_28 : decode cJ6_bitCount_0f7a4 28 = .ok (.iadd, 1) := by decide +kernel
theorem dJ6_bitCount_0f7a4_29 : decode cJ6_bitCount_0f7a4 29 = .ok (.ldc_w 267, 3) := by decide +kernel
theorem dJ6_bitCount_0f7a4_32 : decode cJ6_bitCount_0f7a4 32 = .ok (.iand, 1) := by decide +kernel
theorem dJ6_bitCount_0f7a4_33 : decode cJ6_bitCount_0f7a4 33 = .ok (.istore_n 0, 1) := by decide +kernel
theorem dJ6_bitCount_0f7a4_34 : decode cJ6_bitCount_0f7a4 34 = .ok (.iload_n 0, 1) := by decide +kernel
theorem dJ6_bitCount_0f7a4_35 : decode cJ6_bitCount_0f7a4 35 = .ok (.iload_n 0, 1) := by decide +kernel
theorem dJ6_bitCount_0f7a4_36 : decode cJ6_bitCount_0f7a4 36 = .ok (.bipush 8, 2) := by decide +kernel
theorem dJ6_bitCount_0f7a4_38 : decode cJ6_bitCount_0f7a4 38 = .ok (.iushr, 1) := by decide +kernel
theorem dJ6_bitCount_0f7a4_39 : decode cJ6_bitCount_0f7a4 39 = .ok (.iadd, 1) := by decide +kernel
theorem dJ6_bitCount_0f7a4_40 : decode cJ6_bitCount_0f7a4 40 = .ok (.istore_n 0, 1) := by decide +kernel
theorem dJ6_bitCount_0f7a4_41 : decode cJ6_bitCount_0f7a4 41 = .ok (.iload_n 0, 1) := by decide +kernel
theorem dJ6_bitCount_0f7a4_42 : decode cJ6_bitCount_0f7a4 42 = .ok (.iload_n 0, 1) := by decide +kernel
theorem dJ6_bitCount_0f7a4_43 : decode cJ6_bitCount_0f7a4 43 = .ok (.bipush 16, 2) := by decide +kernel
theorem dJ6_bitCount_0f7a4_45 : decode cJ6_bitCount_0f7a4 45 = .ok (.iushr, 1) := by decide +kernel
theorem dJ6_bitCount_0f7a4_46 : decode cJ6_bitCount_0f7a4 46 = .ok (.iadd, 1) := by decide +kernel
theorem dJ6_bitCount_0f7a4_47 : decode cJ6_bitCount_0f7a4 47 = .ok (.istore_n 0, 1) := by decide +kernel
theorem dJ6_bitCount_0f7a4_48 : decode cJ6_bitCount_0f7a4 48 = .ok (.iload_n 0, 1) := by decide +kernel
theorem dJ6_bitCount_0f7a4_49 : decode cJ6_bitCount_0f7a4 49 = .ok (.bipush 63, 2) := by decide +kernel
theorem dJ6_bitCount_0f7a4_51 : decode cJ6_bitCount_0f7a4 51 = .ok (.iand, 1) := by decide +kernel
theorem dJ6_bitCount_0f7a4_52 : decode cJ6_bitCount_0f7a4 52 = .ok (.ireturn, 1) := by decide +kernel
theorem dX3_drawBelow_0 : decode cX3_drawBelow 0 = .ok (.aload_n 0, 1) := by decide +kernel
theorem dX3_drawBelow_1 : decode cX3_drawBelow 1 = .ok (.aload_n 0, 1) := by decide +kernel
theorem dX3_drawBelow_2 : decode cX3_drawBelow 2 = .ok (.getfield 57, 3) := by decide +kernel
theorem dX3_drawBelow_5 : decode cX3_drawBelow 5 = .ok (.ldc2_w 106, 3) := by decide +kernel
theorem dX3_drawBelow_8 : decode cX3_drawBelow 8 = .ok (.lmul, 1) := by decide +kernel
theorem dX3_drawBelow_9 : decode cX3_drawBelow 9 = .ok (.ldc2_w 108, 3) := by decide +kernel
theorem dX3_drawBelow_12 : decode cX3_drawBelow 12 = .ok (.ladd, 1) := by decide +kernel
theorem dX3_drawBelow_13 : decode cX3_drawBelow 13 = .ok (.ldc2_w 110, 3) := by decide +kernel
theorem dX3_drawBelow_16 : decode cX3_drawBelow 16 = .ok (.lrem, 1) := by decide +kernel
theorem dX3_drawBelow_17 : decode cX3_drawBelow 17 = .ok (.putfield 57, 3) := by decide +kernel
theorem dX3_drawBelow_20 : decode cX3_drawBelow 20 = .ok (.iload_n 1, 1) := by decide +kernel
theorem dX3_drawBelow_21 : decode cX3_drawBelow 21 = .ok (.iconst 1, 1) := by decide +kernel
theorem dX3_drawBelow_22 : decode cX3_drawBelow 22 = .ok (.if_icmp .ge 7, 3) := by decide +kernel
theorem dX3_drawBelow_25 : decode cX3_drawBelow 25 = .ok (.iconst 0, 1) := by decide +kernel
theorem dX3_drawBelow_26 : decode cX3_drawBelow 26 = .ok (.goto 15, 3) := by decide +kernel
theorem dX3_drawBelow_29 : decode cX3_drawBelow 29 = .ok (.aload_n 0, 1) := by decide +kernel
theorem dX3_drawBelow_30 : decode cX3_drawBelow 30 = .ok (.getfield 57, 3) := by decide +kernel
theorem dX3_drawBelow_33 : decode cX3_drawBelow 33 = .ok (.ldc2_w 112, 3) := by decide +kernel
theorem dX3_drawBelow_36 : decode cX3_drawBelow 36 = .ok (.ldiv, 1) := by decide +kernel
theorem dX3_drawBelow_37 : decode cX3_drawBelow 37 = .ok (.iload_n 1, 1) := by decide +kernel
theorem dX3_drawBelow_38 : decode cX3_drawBelow 38 = .ok (.i2l, 1) := by decide +kernel
theorem dX3_drawBelow_39 : decode cX3_drawBelow 39 = .ok (.lrem, 1) := by decide +kernel
theorem dX3_drawBelow_40 : decode cX3_drawBelow 40 = .ok (.l2i, 1) := by decide +kernel
theorem dX3_drawBelow_41 : decode cX3_drawBelow 41 = .ok (.ireturn, 1) := by decide +kernel
theorem dX3_copiesOf_0 : decode cX3_copiesOf 0 = .ok (.iconst 0, 1) := by decide +kernel
theorem dX3_copiesOf_1 : decode cX3_copiesOf 1 = .ok (.istore_n 2, 1) := by decide +kernel
theorem dX3_copiesOf_2 : decode cX3_copiesOf 2 = .ok (.iconst 0, 1) := by decide +kernel
theorem dX3_copiesOf_3 : decode cX3_copiesOf 3 = .ok (.istore_n 3, 1) := by decide +kernel
theorem dX3_copiesOf_4 : decode cX3_copiesOf 4 = .ok (.iload_n 3, 1) := by decide +kernel
theorem dX3_copiesOf_5 : decode cX3_copiesOf 5 = .ok (.aload_n 0, 1) := by decide +kernel
theorem dX3_copiesOf_6 : decode cX3_copiesOf 6 = .ok (.getfield 42, 3) := by decide +kernel
theorem dX3_copiesOf_9 : decode cX3_copiesOf 9 = .ok (.if_icmp .ge 21, 3) := by decide +kernel
theorem dX3_copiesOf_12 : decode cX3_copiesOf 12 = .ok (.iload_n 2, 1) := by decide +kernel
theorem dX3_copiesOf_13 : decode cX3_copiesOf 13 = .ok (.aload_n 0, 1) := by decide +kernel
theorem dX3_copiesOf_14 : decode cX3_copiesOf 14 = .ok (.iload_n 3, 1) := by decide +kernel
theorem dX3_copiesOf_15 : decode cX3_copiesOf 15 = .ok (.invokevirtual 114, 3) := by decide +kernel
theorem dX3_copiesOf_18 : decode cX3_copiesOf 18 = .ok (.iload_n 1, 1) := by decide +kernel
theorem dX3_copiesOf_19 : decode cX3_copiesOf 19 = .ok (.ishr, 1) := by decide +kernel
theorem dX3_copiesOf_20 : decode cX3_copiesOf 20 = .ok (.iconst 1, 1) := by decide +kernel
theorem dX3_copiesOf_21 : decode cX3_copiesOf 21 = .ok (.iand, 1) := by decide +kernel
theorem dX3_copiesOf_22 : decode cX3_copiesOf 22 = .ok (.iadd, 1) := by decide +kernel
theorem dX3_copiesOf_23 : decode cX3_copiesOf 23 = .ok (.istore_n 2, 1) := by decide +kernel
theorem dX3_copiesOf_24 : decode cX3_copiesOf 24 = .ok (.iinc 3 1, 3) := by decide +kernel
theorem dX3_copiesOf_27 : decode cX3_copiesOf 27 = .ok (.goto (-23), 3) := by decide +kernel
theorem dX3_copiesOf_30 : decode cX3_copiesOf 30 = .ok (.iload_n 2, 1) := by decide +kernel
theorem dX3_copiesOf_31 : decode cX3_copiesOf 31 = .ok (.ireturn, 1) := by decide +kernel
theorem dX3_leftOf_0 : decode cX3_leftOf 0 = .ok (.iconst 0, 1) := by decide +kernel
theorem dX3_leftOf_1 : decode cX3_leftOf 1 = .ok (.istore_n 2, 1) := by decide +kernel
theorem dX3_leftOf_2 : decode cX3_leftOf 2 = .ok (.iconst 0, 1) := by decide +kernel
theorem dX3_leftOf_3 : decode cX3_leftOf 3 = .ok (.istore_n 3, 1) := by decide +kernel
theorem dX3_leftOf_4 : decode cX3_leftOf 4 = .ok (.iload_n 3, 1) := by decide +kernel
theorem dX3_leftOf_5 : decode cX3_leftOf 5 = .ok (.aload_n 0, 1) := by decide +kernel
theorem dX3_leftOf_6 : decode cX3_leftOf 6 = .ok (.getfield 29, 3) := by decide +kernel
theorem dX3_leftOf_9 : decode cX3_leftOf 9 = .ok (.if_icmp .ge 41, 3) := by decide +kernel
theorem dX3_leftOf_12 : decode cX3_leftOf 12 = .ok (.aload_n 1, 1) := by decide +kernel
theorem dX3_leftOf_13 : decode cX3_leftOf 13 = .ok (.iload_n 3, 1) := by decide +kernel
theorem dX3_leftOf_14 : decode cX3_leftOf 14 = .ok (.invokevirtual 84, 3) := by decide +kernel
theorem dX3_leftOf_17 : decode cX3_leftOf 17 = .ok (.ifCond .ne 27, 3) := by decide +kernel
theorem dX3_leftOf_20 : decode cX3_leftOf 20 = .ok (.iload_n 2, 1) := by decide +kernel
theorem dX3_leftOf_21 : decode cX3_leftOf 21 = .ok (.aload_n 0, 1) := by decide +kernel
theorem dX3_leftOf_22 : decode cX3_leftOf 22 = .ok (.getfield 33, 3) := by decide +kernel
theorem dX3_leftOf_25 : decode cX3_leftOf 25 = .ok (.aload_n 1, 1) := by decide +kernel
theorem dX3_leftOf_26 : decode cX3_leftOf 26 = .ok (.getfield 117, 3) := by decide +kernel
theorem dX3_leftOf_29 : decode cX3_leftOf 29 = .ok (.iload_n 3, 1) := by decide +kernel
theorem dX3_leftOf_30 : decode cX3_leftOf 30 = .ok (.iconst 4, 1) := by decide +kernel
theorem dX3_leftOf_31 : decode cX3_leftOf 31 = .ok (.imul, 1) := by decide +kernel
theorem dX3_leftOf_32 : decode cX3_leftOf 32 = .ok (.iushr, 1) := by decide +kernel
theorem dX3_leftOf_33 : decode cX3_leftOf 33 = .ok (.aload_n 0, 1) := by decide +kernel
theorem dX3_leftOf_34 : decode cX3_leftOf 34 = .ok (.getfield 39, 3) := by decide +kernel
theorem dX3_leftOf_37 : decode cX3_leftOf 37 = .ok (.iand, 1) := by decide +kernel
theorem dX3_leftOf_38 : decode cX3_leftOf 38 = .ok (.invokestatic 94, 3) := by decide +kernel
theorem dX3_leftOf_41 : decode cX3_leftOf 41 = .ok (.isub, 1) := by decide +kernel
theorem dX3_leftOf_42 : decode cX3_leftOf 42 = .ok (.iadd, 1) := by decide +kernel
theorem dX3_leftOf_43 : decode cX3_leftOf 43 = .ok (.istore_n 2, 1) := by decide +kernel
theorem dX3_leftOf_44 : decode cX3_leftOf 44 = .ok (.iinc 3 1, 3) := by decide +kernel
theorem dX3_leftOf_47 : decode cX3_leftOf 47 = .ok (.goto (-43), 3) := by decide +kernel
theorem dX3_leftOf_50 : decode cX3_leftOf 50 = .ok (.iload_n 2, 1) := by decide +kernel
theorem dX3_leftOf_51 : decode cX3_leftOf 51 = .ok (.ireturn, 1) := by decide +kernel
theorem dX3_startAnew_0 : decode cX3_startAnew 0 = .ok (.aload_n 0, 1) := by decide +kernel
theorem dX3_startAnew_1 : decode cX3_startAnew 1 = .ok (.iload_n 1, 1) := by decide +kernel
theorem dX3_startAnew_2 : decode cX3_startAnew 2 = .ok (.putfield 29, 3) := by decide +kernel
theorem dX3_startAnew_5 : decode cX3_startAnew 5 = .ok (.aload_n 0, 1) := by decide +kernel
theorem dX3_startAnew_6 : decode cX3_startAnew 6 = .ok (.iload_n 2, 1) := by decide +kernel
theorem dX3_startAnew_7 : decode cX3_startAnew 7 = .ok (.putfield 33, 3) := by decide +kernel
theorem dX3_startAnew_10 : decode cX3_startAnew 10 = .ok (.aload_n 0, 1) := by decide +kernel
theorem dX3_startAnew_11 : decode cX3_startAnew 11 = .ok (.iconst 1, 1) := by decide +kernel
theorem dX3_startAnew_12 : decode cX3_startAnew 12 = .ok (.iload_n 1, 1) := by decide +kernel
theorem dX3_startAnew_13 : decode cX3_startAnew 13 = .ok (.ishl, 1) := by decide +kernel
theorem dX3_startAnew_14 : decode cX3_startAnew 14 = .ok (.iconst 1, 1) := by decide +kernel
theorem dX3_startAnew_15 : decode cX3_startAnew 15 = .ok (.isub, 1) := by decide +kernel
theorem dX3_startAnew_16 : decode cX3_startAnew 16 = .ok (.putfield 36, 3) := by decide +kernel
theorem dX3_startAnew_19 : decode cX3_startAnew 19 = .ok (.aload_n 0, 1) := by decide +kernel
theorem dX3_startAnew_20 : decode cX3_startAnew 20 = .ok (.iconst 1, 1) := by decide +kernel
theorem dX3_startAnew_21 : decode cX3_startAnew 21 = .ok (.iload_n 2, 1) := by decide +kernel
theorem dX3_startAnew_22 : decode cX3_startAnew 22 = .ok (.ishl, 1) := by decide +kernel
theorem dX3_startAnew_23 : decode cX3_startAnew 23 = .ok (.iconst 1, 1) := by decide +kernel
theorem dX3_startAnew_24 : decode cX3_startAnew 24 = .ok (.isub, 1) := by decide +kernel
theorem dX3_startAnew_25 : decode cX3_startAnew 25 = .ok (.putfield 39, 3) := by decide +kernel
theorem dX3_startAnew_28 : decode cX3_startAnew 28 = .ok (.aload_n 0, 1) := by decide +kernel
theorem dX3_startAnew_29 : decode cX3_startAnew 29 = .ok (.iconst 0, 1) := by decide +kernel
theorem dX3_startAnew_30 : decode cX3_startAnew 30 = .ok (.putfield 42, 3) := by decide +kernel
theorem dX3_startAnew_33 : decode cX3_startAnew 33 = .ok (.aload_n 0, 1) := by decide +kernel
theorem dX3_startAnew_34 : decode cX3_startAnew 34 = .ok (.iconst 0, 1) := by decide +kernel
theorem dX3_startAnew_35 : decode cX3_startAnew 35 = .ok (.putfield 45, 3) := by decide +kernel
theorem dX3_startAnew_38 : decode cX3_startAnew 38 = .ok (.aload_n 0, 1) := by decide +kernel
theorem dX3_startAnew_39 : decode cX3_startAnew 39 = .ok (.iconst 0, 1) := by decide +kernel
theorem dX3_startAnew_40 : decode cX3_startAnew 40 = .ok (.putfield 48, 3) := by decide +kernel
theorem dX3_startAnew_43 : decode cX3_startAnew 43 = .ok (.aload_n 0, 1) := by decide +kernel
theorem dX3_startAnew_44 : decode cX3_startAnew 44 = .ok (.iconst 0, 1) := by decide +kernel
theorem dX3_startAnew_45 : decode cX3_startAnew 45 = .ok (.putfield 51, 3) := by decide +kernel
theorem dX3_startAnew_48 : decode cX3_startAnew 48 = .ok (.aload_n 0, 1) := by decide +kernel
theorem dX3_startAnew_49 : decode cX3_startAnew 49 = .ok (.iconst 0, 1) := by decide +kernel
theorem dX3_startAnew_50 : decode cX3_startAnew 50 = .ok (.putfield 54, 3) := by decide +kernel
theorem dX3_startAnew_53 : decode cX3_startAnew 53 = .ok (.aload_n 0, 1) := by decide +kernel
theorem dX3_startAnew_54 : decode cX3_startAnew 54 = .ok (.lconst 1, 1) := by decide +kernel
theorem dX3_startAnew_55 : decode cX3_startAnew 55 = .ok (.putfield 57, 3) := by decide +kernel
theorem dX3_startAnew_58 : decode cX3_startAnew 58 = .ok (.iconst 0, 1) := by decide +kernel
theorem dX3_startAnew_59 : decode cX3_startAnew 59 = .ok (.istore_n 3, 1) := by decide +kernel
theorem dX3_startAnew_60 : decode cX3_startAnew 60 = .ok (.iload_n 3, 1) := by decide +kernel
theorem dX3_startAnew_61 : decode cX3_startAnew 61 = .ok (.aload_n 0, 1) := by decide +kernel
theorem dX3_startAnew_62 : decode cX3_startAnew 62 = .ok (.getfield 13, 3) := by decide +kernel
theorem dX3_startAnew_65 : decode cX3_startAnew 65 = .ok (.arraylength, 1) := by decide +kernel
theorem dX3_startAnew_66 : decode cX3_startAnew 66 = .ok (.if_icmp .ge 20, 3) := by decide +kernel
theorem dX3_startAnew_69 : decode cX3_startAnew 69 = .ok (.aload_n 0, 1) := by decide +kernel
theorem dX3_startAnew_70 : decode cX3_startAnew 70 = .ok (.getfield 13, 3) := by decide +kernel
theorem dX3_startAnew_73 : decode cX3_startAnew 73 = .ok (.iload_n 3, 1) := by decide +kernel
theorem dX3_startAnew_74 : decode cX3_startAnew 74 = .ok (.getstatic 9, 3) := by decide +kernel
theorem dX3_startAnew_77 : decode cX3_startAnew 77 = .ok (.iload_n 3, 1) := by decide +kernel
theorem dX3_startAnew_78 : decode cX3_startAnew 78 = .ok (.iaload, 1) := by decide +kernel
theorem dX3_startAnew_79 : decode cX3_startAnew 79 = .ok (.iastore, 1) := by decide +kernel
theorem dX3_startAnew_80 : decode cX3_startAnew 80 = .ok (.iinc 3 1, 3) := by decide +kernel
theorem dX3_startAnew_83 : decode cX3_startAnew 83 = .ok (.goto (-23), 3) := by decide +kernel
theorem dX3_startAnew_86 : decode cX3_startAnew 86 = .ok (.return_, 1) := by decide +kernel
theorem dX3_copyFrom_0 : decode cX3_copyFrom 0 = .ok (.aload_n 0, 1) := by decide +kernel
theorem dX3_copyFrom_1 : decode cX3_copyFrom 1 = .ok (.aload_n 1, 1) := by decide +kernel
theorem dX3_copyFrom_2 : decode cX3_copyFrom 2 = .ok (.getfield 29, 3) := by decide +kernel
theorem dX3_copyFrom_5 : decode cX3_copyFrom 5 = .ok (.putfield 29, 3) := by decide +kernel
theorem dX3_copyFrom_8 : decode cX3_copyFrom 8 = .ok (.aload_n 0, 1) := by decide +kernel
theorem dX3_copyFrom_9 : decode cX3_copyFrom 9 = .ok (.aload_n 1, 1) := by decide +kernel
theorem dX3_copyFrom_10 : decode cX3_copyFrom 10 = .ok (.getfield 33, 3) := by decide +kernel
theorem dX3_copyFrom_13 : decode cX3_copyFrom 13 = .ok (.putfield 33, 3) := by decide +kernel
theorem dX3_copyFrom_16 : decode cX3_copyFrom 16 = .ok (.aload_n 0, 1) := by decide +kernel
theorem dX3_copyFrom_17 : decode cX3_copyFrom 17 = .ok (.aload_n 1, 1) := by decide +kernel
theorem dX3_copyFrom_18 : decode cX3_copyFrom 18 = .ok (.getfield 36, 3) := by decide +kernel
theorem dX3_copyFrom_21 : decode cX3_copyFrom 21 = .ok (.putfield 36, 3) := by decide +kernel
theorem dX3_copyFrom_24 : decode cX3_copyFrom 24 = .ok (.aload_n 0, 1) := by decide +kernel
theorem dX3_copyFrom_25 : decode cX3_copyFrom 25 = .ok (.aload_n 1, 1) := by decide +kernel
theorem dX3_copyFrom_26 : decode cX3_copyFrom 26 = .ok (.getfield 39, 3) := by decide +kernel
theorem dX3_copyFrom_29 : decode cX3_copyFrom 29 = .ok (.putfield 39, 3) := by decide +kernel
theorem dX3_copyFrom_32 : decode cX3_copyFrom 32 = .ok (.aload_n 0, 1) := by decide +kernel
theorem dX3_copyFrom_33 : decode cX3_copyFrom 33 = .ok (.aload_n 1, 1) := by decide +kernel
theorem dX3_copyFrom_34 : decode cX3_copyFrom 34 = .ok (.getfield 42, 3) := by decide +kernel
theorem dX3_copyFrom_37 : decode cX3_copyFrom 37 = .ok (.putfield 42, 3) := by decide +kernel
theorem dX3_copyFrom_40 : decode cX3_copyFrom 40 = .ok (.aload_n 0, 1) := by decide +kernel
theorem dX3_copyFrom_41 : decode cX3_copyFrom 41 = .ok (.aload_n 1, 1) := by decide +kernel
theorem dX3_copyFrom_42 : decode cX3_copyFrom 42 = .ok (.getfield 45, 3) := by decide +kernel
theorem dX3_copyFrom_45 : decode cX3_copyFrom 45 = .ok (.putfield 45, 3) := by decide +kernel
theorem dX3_copyFrom_48 : decode cX3_copyFrom 48 = .ok (.aload_n 0, 1) := by decide +kernel
theorem dX3_copyFrom_49 : decode cX3_copyFrom 49 = .ok (.aload_n 1, 1) := by decide +kernel
theorem dX3_copyFrom_50 : decode cX3_copyFrom 50 = .ok (.getfield 48, 3) := by decide +kernel
theorem dX3_copyFrom_53 : decode cX3_copyFrom 53 = .ok (.putfield 48, 3) := by decide +kernel
theorem dX3_copyFrom_56 : decode cX3_copyFrom 56 = .ok (.aload_n 0, 1) := by decide +kernel
theorem dX3_copyFrom_57 : decode cX3_copyFrom 57 = .ok (.aload_n 1, 1) := by decide +kernel
theorem dX3_copyFrom_58 : decode cX3_copyFrom 58 = .ok (.getfield 51, 3) := by decide +kernel
theorem dX3_copyFrom_61 : decode cX3_copyFrom 61 = .ok (.putfield 51, 3) := by decide +kernel
theorem dX3_copyFrom_64 : decode cX3_copyFrom 64 = .ok (.aload_n 0, 1) := by decide +kernel
theorem dX3_copyFrom_65 : decode cX3_copyFrom 65 = .ok (.aload_n 1, 1) := by decide +kernel
theorem dX3_copyFrom_66 : decode cX3_copyFrom 66 = .ok (.getfield 54, 3) := by decide +kernel
theorem dX3_copyFrom_69 : decode cX3_copyFrom 69 = .ok (.putfield 54, 3) := by decide +kernel
theorem dX3_copyFrom_72 : decode cX3_copyFrom 72 = .ok (.aload_n 0, 1) := by decide +kernel
theorem dX3_copyFrom_73 : decode cX3_copyFrom 73 = .ok (.aload_n 1, 1) := by decide +kernel
theorem dX3_copyFrom_74 : decode cX3_copyFrom 74 = .ok (.getfield 57, 3) := by decide +kernel
theorem dX3_copyFrom_77 : decode cX3_copyFrom 77 = .ok (.putfield 57, 3) := by decide +kernel
theorem dX3_copyFrom_80 : decode cX3_copyFrom 80 = .ok (.aload_n 1, 1) := by decide +kernel
theorem dX3_copyFrom_81 : decode cX3_copyFrom 81 = .ok (.getfield 13, 3) := by decide +kernel
theorem dX3_copyFrom_84 : decode cX3_copyFrom 84 = .ok (.iconst 0, 1) := by decide +kernel
theorem dX3_copyFrom_85 : decode cX3_copyFrom 85 = .ok (.aload_n 0, 1) := by decide +kernel
theorem dX3_copyFrom_86 : decode cX3_copyFrom 86 = .ok (.getfield 13, 3) := by decide +kernel
theorem dX3_copyFrom_89 : decode cX3_copyFrom 89 = .ok (.iconst 0, 1) := by decide +kernel
theorem dX3_copyFrom_90 : decode cX3_copyFrom 90 = .ok (.aload_n 0, 1) := by decide +kernel
theorem dX3_copyFrom_91 : decode cX3_copyFrom 91 = .ok (.getfield 13, 3) := by decide +kernel
theorem dX3_copyFrom_94 : decode cX3_copyFrom 94 = .ok (.arraylength, 1) := by decide +kernel
theorem dX3_copyFrom_95 : decode cX3_copyFrom 95 = .ok (.invokestatic 61, 3) := by decide +kernel
theorem dX3_copyFrom_98 : decode cX3_copyFrom 98 = .ok (.iconst 0, 1) := by decide +kernel
theorem dX3_copyFrom_99 : decode cX3_copyFrom 99 = .ok (.istore_n 2, 1) := by decide +kernel
theorem dX3_copyFrom_100 : decode cX3_copyFrom 100 = .ok (.iload_n 2, 1) := by decide +kernel
theorem dX3_copyFrom_101 : decode cX3_copyFrom 101 = .ok (.aload_n 1, 1) := by decide +kernel
theorem dX3_copyFrom_102 : decode cX3_copyFrom 102 = .ok (.getfield 42, 3) := by decide +kernel
theorem dX3_copyFrom_105 : decode cX3_copyFrom 105 = .ok (.if_icmp .ge 24, 3) := by decide +kernel
theorem dX3_copyFrom_108 : decode cX3_copyFrom 108 = .ok (.aload_n 0, 1) := by decide +kernel
theorem dX3_copyFrom_109 : decode cX3_copyFrom 109 = .ok (.getfield 20, 3) := by decide +kernel
theorem dX3_copyFrom_112 : decode cX3_copyFrom 112 = .ok (.iload_n 2, 1) := by decide +kernel
theorem dX3_copyFrom_113 : decode cX3_copyFrom 113 = .ok (.aaload, 1) := by decide +kernel
theorem dX3_copyFrom_114 : decode cX3_copyFrom 114 = .ok (.aload_n 1, 1) := by decide +kernel
theorem dX3_copyFrom_115 : decode cX3_copyFrom 115 = .ok (.getfield 20, 3) := by decide +kernel
theorem dX3_copyFrom_118 : decode cX3_copyFrom 118 = .ok (.iload_n 2, 1) := by decide +kernel
theorem dX3_copyFrom_119 : decode cX3_copyFrom 119 = .ok (.aaload, 1) := by decide +kernel
theorem dX3_copyFrom_120 : decode cX3_copyFrom 120 = .ok (.invokevirtual 67, 3) := by decide +kernel
theorem dX3_copyFrom_123 : decode cX3_copyFrom 123 = .ok (.iinc 2 1, 3) := by decide +kernel
theorem dX3_copyFrom_126 : decode cX3_copyFrom 126 = .ok (.goto (-26), 3) := by decide +kernel
theorem dX3_copyFrom_129 : decode cX3_copyFrom 129 = .ok (.return_, 1) := by decide +kernel
theorem dX3_isPeer_0 : decode cX3_isPeer 0 = .ok (.iload_n 1, 1) := by decide +kernel
theorem dX3_isPeer_1 : decode cX3_isPeer 1 = .ok (.ifCond .lt 15, 3) := by decide +kernel
theorem dX3_isPeer_4 : decode cX3_isPeer 4 = .ok (.iload_n 1, 1) := by decide +kernel
theorem dX3_isPeer_5 : decode cX3_isPeer 5 = .ok (.aload_n 0, 1) := by decide +kernel
theorem dX3_isPeer_6 : decode cX3_isPeer 6 = .ok (.getfield 42, 3) := by decide +kernel
theorem dX3_isPeer_9 : decode cX3_isPeer 9 = .ok (.if_icmp .ge 7, 3) := by decide +kernel
theorem dX3_isPeer_12 : decode cX3_isPeer 12 = .ok (.iconst 1, 1) := by decide +kernel
theorem dX3_isPeer_13 : decode cX3_isPeer 13 = .ok (.goto 4, 3) := by decide +kernel
theorem dX3_isPeer_16 : decode cX3_isPeer 16 = .ok (.iconst 0, 1) := by decide +kernel
theorem dX3_isPeer_17 : decode cX3_isPeer 17 = .ok (.ireturn, 1) := by decide +kernel
theorem dX3_isPair_0 : decode cX3_isPair 0 = .ok (.aload_n 0, 1) := by decide +kernel
theorem dX3_isPair_1 : decode cX3_isPair 1 = .ok (.iload_n 1, 1) := by decide +kernel
theorem dX3_isPair_2 : decode cX3_isPair 2 = .ok (.invokevirtual 71, 3) := by decide +kernel
theorem dX3_isPair_5 : decode cX3_isPair 5 = .ok (.ifCond .eq 20, 3) := by decide +kernel
theorem dX3_isPair_8 : decode cX3_isPair 8 = .ok (.aload_n 0, 1) := by decide +kernel
theorem dX3_isPair_9 : decode cX3_isPair 9 = .ok (.iload_n 2, 1) := by decide +kernel
theorem dX3_isPair_10 : decode cX3_isPair 10 = .ok (.invokevirtual 71, 3) := by decide +kernel
theorem dX3_isPair_13 : decode cX3_isPair 13 = .ok (.ifCond .eq 12, 3) := by decide +kernel
theorem dX3_isPair_16 : decode cX3_isPair 16 = .ok (.iload_n 1, 1) := by decide +kernel
theorem dX3_isPair_17 : decode cX3_isPair 17 = .ok (.iload_n 2, 1) := by decide +kernel
theorem dX3_isPair_18 : decode cX3_isPair 18 = .ok (.if_icmp .eq 7, 3) := by decide +kernel
theorem dX3_isPair_21 : decode cX3_isPair 21 = .ok (.iconst 1, 1) := by decide +kernel
theorem dX3_isPair_22 : decode cX3_isPair 22 = .ok (.goto 4, 3) := by decide +kernel
theorem dX3_isPair_25 : decode cX3_isPair 25 = .ok (.iconst 0, 1) := by decide +kernel
theorem dX3_isPair_26 : decode cX3_isPair 26 = .ok (.ireturn, 1) := by decide +kernel
theorem dX3_isPiece_0 : decode cX3_isPiece 0 = .ok (.iload_n 1, 1) := by decide +kernel
theorem dX3_isPiece_1 : decode cX3_isPiece 1 = .ok (.ifCond .lt 15, 3) := by decide +kernel
theorem dX3_isPiece_4 : decode cX3_isPiece 4 = .ok (.iload_n 1, 1) := by decide +kernel
theorem dX3_isPiece_5 : decode cX3_isPiece 5 = .ok (.aload_n 0, 1) := by decide +kernel
theorem dX3_isPiece_6 : decode cX3_isPiece 6 = .ok (.getfield 29, 3) := by decide +kernel
theorem dX3_isPiece_9 : decode cX3_isPiece 9 = .ok (.if_icmp .ge 7, 3) := by decide +kernel
theorem dX3_isPiece_12 : decode cX3_isPiece 12 = .ok (.iconst 1, 1) := by decide +kernel
theorem dX3_isPiece_13 : decode cX3_isPiece 13 = .ok (.goto 4, 3) := by decide +kernel
theorem dX3_isPiece_16 : decode cX3_isPiece 16 = .ok (.iconst 0, 1) := by decide +kernel
theorem dX3_isPiece_17 : decode cX3_isPiece 17 = .ok (.ireturn, 1) := by decide +kernel
theorem dX3_refusesPeer_0 : decode cX3_refusesPeer 0 = .ok (.iload_n 1, 1) := by decide +kernel
theorem dX3_refusesPeer_1 : decode cX3_refusesPeer 1 = .ok (.ifCond .lt 18, 3) := by decide +kernel
theorem dX3_refusesPeer_4 : decode cX3_refusesPeer 4 = .ok (.iload_n 1, 1) := by decide +kernel
theorem dX3_refusesPeer_5 : decode cX3_refusesPeer 5 = .ok (.iconst 2, 1) := by decide +kernel
theorem dX3_refusesPeer_6 : decode cX3_refusesPeer 6 = .ok (.if_icmp .gt 13, 3) := by decide +kernel
theorem dX3_refusesPeer_9 : decode cX3_refusesPeer 9 = .ok (.iload_n 2, 1) := by decide +kernel
theorem dX3_refusesPeer_10 : decode cX3_refusesPeer 10 = .ok (.iconst 1, 1) := by decide +kernel
theorem dX3_refusesPeer_11 : decode cX3_refusesPeer 11 = .ok (.if_icmp .lt 8, 3) := by decide +kernel
theorem dX3_refusesPeer_14 : decode cX3_refusesPeer 14 = .ok (.iload_n 2, 1) := by decide +kernel
theorem dX3_refusesPeer_15 : decode cX3_refusesPeer 15 = .ok (.iconst 4, 1) := by decide +kernel
theorem dX3_refusesPeer_16 : decode cX3_refusesPeer 16 = .ok (.if_icmp .le 6, 3) := by decide +kernel
theorem dX3_refusesPeer_19 : decode cX3_refusesPeer 19 = .ok (.bipush (-2), 2) := by decide +kernel
theorem dX3_refusesPeer_21 : decode cX3_refusesPeer 21 = .ok (.ireturn, 1) := by decide +kernel
theorem dX3_refusesPeer_22 : decode cX3_refusesPeer 22 = .ok (.aload_n 0, 1) := by decide +kernel
theorem dX3_refusesPeer_23 : decode cX3_refusesPeer 23 = .ok (.getfield 42, 3) := by decide +kernel
theorem dX3_refusesPeer_26 : decode cX3_refusesPeer 26 = .ok (.bipush 6, 2) := by decide +kernel
theorem dX3_refusesPeer_28 : decode cX3_refusesPeer 28 = .ok (.if_icmp .lt 8, 3) := by decide +kernel
theorem dX3_refusesPeer_31 : decode cX3_refusesPeer 31 = .ok (.bipush (-4), 2) := by decide +kernel
theorem dX3_refusesPeer_33 : decode cX3_refusesPeer 33 = .ok (.goto 4, 3) := by decide +kernel
theorem dX3_refusesPeer_36 : decode cX3_refusesPeer 36 = .ok (.iconst 0, 1) := by decide +kernel
theorem dX3_refusesPeer_37 : decode cX3_refusesPeer 37 = .ok (.ireturn, 1) := by decide +kernel
theorem dX3_addPeer_0 : decode cX3_addPeer 0 = .ok (.aload_n 0, 1) := by decide +kernel
theorem dX3_addPeer_1 : decode cX3_addPeer 1 = .ok (.getfield 42, 3) := by decide +kernel
theorem dX3_addPeer_4 : decode cX3_addPeer 4 = .ok (.istore_n 3, 1) := by decide +kernel
theorem dX3_addPeer_5 : decode cX3_addPeer 5 = .ok (.aload_n 0, 1) := by decide +kernel
theorem dX3_addPeer_6 : decode cX3_addPeer 6 = .ok (.getfield 20, 3) := by decide +kernel
theorem dX3_addPeer_9 : decode cX3_addPeer 9 = .ok (.iload_n 3, 1) := by decide +kernel
theorem dX3_addPeer_10 : decode cX3_addPeer 10 = .ok (.aaload, 1) := by decide +kernel
theorem dX3_addPeer_11 : decode cX3_addPeer 11 = .ok (.iload_n 1, 1) := by decide +kernel
theorem dX3_addPeer_12 : decode cX3_addPeer 12 = .ok (.iload_n 2, 1) := by decide +kernel
theorem dX3_addPeer_13 : decode cX3_addPeer 13 = .ok (.invokevirtual 75, 3) := by decide +kernel
theorem dX3_addPeer_16 : decode cX3_addPeer 16 = .ok (.aload_n 0, 1) := by decide +kernel
theorem dX3_addPeer_17 : decode cX3_addPeer 17 = .ok (.dup, 1) := by decide +kernel
theorem dX3_addPeer_18 : decode cX3_addPeer 18 = .ok (.getfield 42, 3) := by decide +kernel
theorem dX3_addPeer_21 : decode cX3_addPeer 21 = .ok (.iconst 1, 1) := by decide +kernel
theorem dX3_addPeer_22 : decode cX3_addPeer 22 = .ok (.iadd, 1) := by decide +kernel
theorem dX3_addPeer_23 : decode cX3_addPeer 23 = .ok (.putfield 42, 3) := by decide +kernel
theorem dX3_addPeer_26 : decode cX3_addPeer 26 = .ok (.iload_n 3, 1) := by decide +kernel
theorem dX3_addPeer_27 : decode cX3_addPeer 27 = .ok (.ireturn, 1) := by decide +kernel
theorem dX3_refusesGift_0 : decode cX3_refusesGift 0 = .ok (.aload_n 0, 1) := by decide +kernel
theorem dX3_refusesGift_1 : decode cX3_refusesGift 1 = .ok (.iload_n 1, 1) := by decide +kernel
theorem dX3_refusesGift_2 : decode cX3_refusesGift 2 = .ok (.invokevirtual 71, 3) := by decide +kernel
theorem dX3_refusesGift_5 : decode cX3_refusesGift 5 = .ok (.ifCond .eq 11, 3) := by decide +kernel
theorem dX3_refusesGift_8 : decode cX3_refusesGift 8 = .ok (.aload_n 0, 1) := by decide +kernel
theorem dX3_refusesGift_9 : decode cX3_refusesGift 9 = .ok (.iload_n 2, 1) := by decide +kernel
theorem dX3_refusesGift_10 : decode cX3_refusesGift 10 = .ok (.invokevirtual 78, 3) := by decide +kernel
theorem dX3_refusesGift_13 : decode cX3_refusesGift 13 = .ok (.ifCond .ne 6, 3) := by decide +kernel
theorem dX3_refusesGift_16 : decode cX3_refusesGift 16 = .ok (.bipush (-2), 2) := by decide +kernel
theorem dX3_refusesGift_18 : decode cX3_refusesGift 18 = .ok (.ireturn, 1) := by decide +kernel
theorem dX3_refusesGift_19 : decode cX3_refusesGift 19 = .ok (.aload_n 0, 1) := by decide +kernel
theorem dX3_refusesGift_20 : decode cX3_refusesGift 20 = .ok (.getfield 20, 3) := by decide +kernel
theorem dX3_refusesGift_23 : decode cX3_refusesGift 23 = .ok (.iload_n 1, 1) := by decide +kernel
theorem dX3_refusesGift_24 : decode cX3_refusesGift 24 = .ok (.aaload, 1) := by decide +kernel
theorem dX3_refusesGift_25 : decode cX3_refusesGift 25 = .ok (.getfield 81, 3) := by decide +kernel
theorem dX3_refusesGift_28 : decode cX3_refusesGift 28 = .ok (.iconst 2, 1) := by decide +kernel
theorem dX3_refusesGift_29 : decode cX3_refusesGift 29 = .ok (.if_icmp .eq 16, 3) := by decide +kernel
theorem dX3_refusesGift_32 : decode cX3_refusesGift 32 = .ok (.aload_n 0, 1) := by decide +kernel
theorem dX3_refusesGift_33 : decode cX3_refusesGift 33 = .ok (.getfield 20, 3) := by decide +kernel
theorem dX3_refusesGift_36 : decode cX3_refusesGift 36 = .ok (.iload_n 1, 1) := by decide +kernel
theorem dX3_refusesGift_37 : decode cX3_refusesGift 37 = .ok (.aaload, 1) := by decide +kernel
theorem dX3_refusesGift_38 : decode cX3_refusesGift 38 = .ok (.iload_n 2, 1) := by decide +kernel
theorem dX3_refusesGift_39 : decode cX3_refusesGift 39 = .ok (.invokevirtual 84, 3) := by decide +kernel
theorem dX3_refusesGift_42 : decode cX3_refusesGift 42 = .ok (.ifCond .eq 8, 3) := by decide +kernel
theorem dX3_refusesGift_45 : decode cX3_refusesGift 45 = .ok (.bipush (-3), 2) := by decide +kernel
theorem dX3_refusesGift_47 : decode cX3_refusesGift 47 = .ok (.goto 4, 3) := by decide +kernel
theorem dX3_refusesGift_50 : decode cX3_refusesGift 50 = .ok (.iconst 0, 1) := by decide +kernel
theorem dX3_refusesGift_51 : decode cX3_refusesGift 51 = .ok (.ireturn, 1) := by decide +kernel
theorem dX3_takeGift_0 : decode cX3_takeGift 0 = .ok (.aload_n 0, 1) := by decide +kernel
theorem dX3_takeGift_1 : decode cX3_takeGift 1 = .ok (.getfield 20, 3) := by decide +kernel
theorem dX3_takeGift_4 : decode cX3_takeGift 4 = .ok (.iload_n 1, 1) := by decide +kernel
theorem dX3_takeGift_5 : decode cX3_takeGift 5 = .ok (.aaload, 1) := by decide +kernel
theorem dX3_takeGift_6 : decode cX3_takeGift 6 = .ok (.iload_n 2, 1) := by decide +kernel
theorem dX3_takeGift_7 : decode cX3_takeGift 7 = .ok (.invokevirtual 87, 3) := by decide +kernel
theorem dX3_takeGift_10 : decode cX3_takeGift 10 = .ok (.aload_n 0, 1) := by decide +kernel
theorem dX3_takeGift_11 : decode cX3_takeGift 11 = .ok (.getfield 20, 3) := by decide +kernel
theorem dX3_takeGift_14 : decode cX3_takeGift 14 = .ok (.iload_n 1, 1) := by decide +kernel
theorem dX3_takeGift_15 : decode cX3_takeGift 15 = .ok (.aaload, 1) := by decide +kernel
theorem dX3_takeGift_16 : decode cX3_takeGift 16 = .ok (.dup, 1) := by decide +kernel
theorem dX3_takeGift_17 : decode cX3_takeGift 17 = .ok (.getfield 91, 3) := by decide +kernel
theorem dX3_takeGift_20 : decode cX3_takeGift 20 = .ok (.iconst 1, 1) := by decide +kernel
theorem dX3_takeGift_21 : decode cX3_takeGift 21 = .ok (.iload_n 2, 1) := by decide +kernel
theorem dX3_takeGift_22 : decode cX3_takeGift 22 = .ok (.ishl, 1) := by decide +kernel
theorem dX3_takeGift_23 : decode cX3_takeGift 23 = .ok (.ior, 1) := by decide +kernel
theorem dX3_takeGift_24 : decode cX3_takeGift 24 = .ok (.putfield 91, 3) := by decide +kernel
theorem dX3_takeGift_27 : decode cX3_takeGift 27 = .ok (.aload_n 0, 1) := by decide +kernel
theorem dX3_takeGift_28 : decode cX3_takeGift 28 = .ok (.getfield 20, 3) := by decide +kernel
theorem dX3_takeGift_31 : decode cX3_takeGift 31 = .ok (.iload_n 1, 1) := by decide +kernel
theorem dX3_takeGift_32 : decode cX3_takeGift 32 = .ok (.aaload, 1) := by decide +kernel
theorem dX3_takeGift_33 : decode cX3_takeGift 33 = .ok (.getfield 91, 3) := by decide +kernel
theorem dX3_takeGift_36 : decode cX3_takeGift 36 = .ok (.invokestatic 94, 3) := by decide +kernel
theorem dX3_takeGift_39 : decode cX3_takeGift 39 = .ok (.ireturn, 1) := by decide +kernel
theorem dX3_refusesSetting_0 : decode cX3_refusesSetting 0 = .ok (.iload_n 1, 1) := by decide +kernel
theorem dX3_refusesSetting_1 : decode cX3_refusesSetting 1 = .ok (.ifCond .lt 12, 3) := by decide +kernel
theorem dX3_refusesSetting_4 : decode cX3_refusesSetting 4 = .ok (.iload_n 1, 1) := by decide +kernel
theorem dX3_refusesSetting_5 : decode cX3_refusesSetting 5 = .ok (.aload_n 0, 1) := by decide +kernel
theorem dX3_refusesSetting_6 : decode cX3_refusesSetting 6 = .ok (.getfield 13, 3) := by decide +kernel
theorem dX3_refusesSetting_9 : decode cX3_refusesSetting 9 = .ok (.arraylength, 1) := by decide +kernel
theorem dX3_refusesSetting_10 : decode cX3_refusesSetting 10 = .ok (.if_icmp .lt 6, 3) := by decide +kernel
theorem dX3_refusesSetting_13 : decode cX3_refusesSetting 13 = .ok (.bipush (-2), 2) := by decide +kernel
theorem dX3_refusesSetting_15 : decode cX3_refusesSetting 15 = .ok (.ireturn, 1) := by decide +kernel
theorem dX3_refusesSetting_16 : decode cX3_refusesSetting 16 = .ok (.iload_n 2, 1) := by decide +kernel
theorem dX3_refusesSetting_17 : decode cX3_refusesSetting 17 = .ok (.getstatic 100, 3) := by decide +kernel
theorem dX3_refusesSetting_20 : decode cX3_refusesSetting 20 = .ok (.iload_n 1, 1) := by decide +kernel
theorem dX3_refusesSetting_21 : decode cX3_refusesSetting 21 = .ok (.iaload, 1) := by decide +kernel
theorem dX3_refusesSetting_22 : decode cX3_refusesSetting 22 = .ok (.if_icmp .lt 12, 3) := by decide +kernel
theorem dX3_refusesSetting_25 : decode cX3_refusesSetting 25 = .ok (.iload_n 2, 1) := by decide +kernel
theorem dX3_refusesSetting_26 : decode cX3_refusesSetting 26 = .ok (.getstatic 103, 3) := by decide +kernel
theorem dX3_refusesSetting_29 : decode cX3_refusesSetting 29 = .ok (.iload_n 1, 1) := by decide +kernel
theorem dX3_refusesSetting_30 : decode cX3_refusesSetting 30 = .ok (.iaload, 1) := by decide +kernel
theorem dX3_refusesSetting_31 : decode cX3_refusesSetting 31 = .ok (.if_icmp .le 8, 3) := by decide +kernel
theorem dX3_refusesSetting_34 : decode cX3_refusesSetting 34 = .ok (.bipush (-2), 2) := by decide +kernel
theorem dX3_refusesSetting_36 : decode cX3_refusesSetting 36 = .ok (.goto 4, 3) := by decide +kernel
theorem dX3_refusesSetting_39 : decode cX3_refusesSetting 39 = .ok (.iconst 0, 1) := by decide +kernel
theorem dX3_refusesSetting_40 : decode cX3_refusesSetting 40 = .ok (.ireturn, 1) := by decide +kernel
theorem dX3_changeSetting_0 : decode cX3_changeSetting 0 = .ok (.aload_n 0, 1) := by decide +kernel
theorem dX3_changeSetting_1 : decode cX3_changeSetting 1 = .ok (.getfield 13, 3) := by decide +kernel
theorem dX3_changeSetting_4 : decode cX3_changeSetting 4 = .ok (.iload_n 1, 1) := by decide +kernel
theorem dX3_changeSetting_5 : decode cX3_changeSetting 5 = .ok (.iaload, 1) := by decide +kernel
theorem dX3_changeSetting_6 : decode cX3_changeSetting 6 = .ok (.istore_n 3, 1) := by decide +kernel
theorem dX3_changeSetting_7 : decode cX3_changeSetting 7 = .ok (.aload_n 0, 1) := by decide +kernel
theorem dX3_changeSetting_8 : decode cX3_changeSetting 8 = .ok (.getfield 13, 3) := by decide +kernel
theorem dX3_changeSetting_11 : decode cX3_changeSetting 11 = .ok (.iload_n 1, 1) := by decide +kernel
theorem dX3_changeSetting_12 : decode cX3_changeSetting 12 = .ok (.iload_n 2, 1) := by decide +kernel
theorem dX3_changeSetting_13 : decode cX3_changeSetting 13 = .ok (.iastore, 1) := by decide +kernel
theorem dX3_changeSetting_14 : decode cX3_changeSetting 14 = .ok (.iload_n 3, 1) := by decide +kernel
theorem dX3_changeSetting_15 : decode cX3_changeSetting 15 = .ok (.ireturn, 1) := by decide +kernel
theorem dX3_hasHonest_0 : decode cX3_hasHonest 0 = .ok (.iconst 0, 1) := by decide +kernel
theorem dX3_hasHonest_1 : decode cX3_hasHonest 1 = .ok (.istore_n 1, 1) := by decide +kernel
theorem dX3_hasHonest_2 : decode cX3_hasHonest 2 = .ok (.iload_n 1, 1) := by decide +kernel
theorem dX3_hasHonest_3 : decode cX3_hasHonest 3 = .ok (.aload_n 0, 1) := by decide +kernel
theorem dX3_hasHonest_4 : decode cX3_hasHonest 4 = .ok (.getfield 42, 3) := by decide +kernel
theorem dX3_hasHonest_7 : decode cX3_hasHonest 7 = .ok (.if_icmp .ge 23, 3) := by decide +kernel
theorem dX3_hasHonest_10 : decode cX3_hasHonest 10 = .ok (.aload_n 0, 1) := by decide +kernel
theorem dX3_hasHonest_11 : decode cX3_hasHonest 11 = .ok (.getfield 20, 3) := by decide +kernel
theorem dX3_hasHonest_14 : decode cX3_hasHonest 14 = .ok (.iload_n 1, 1) := by decide +kernel
theorem dX3_hasHonest_15 : decode cX3_hasHonest 15 = .ok (.aaload, 1) := by decide +kernel
theorem dX3_hasHonest_16 : decode cX3_hasHonest 16 = .ok (.getfield 81, 3) := by decide +kernel
theorem dX3_hasHonest_19 : decode cX3_hasHonest 19 = .ok (.ifCond .ne 5, 3) := by decide +kernel
theorem dX3_hasHonest_22 : decode cX3_hasHonest 22 = .ok (.iconst 1, 1) := by decide +kernel
theorem dX3_hasHonest_23 : decode cX3_hasHonest 23 = .ok (.ireturn, 1) := by decide +kernel
theorem dX3_hasHonest_24 : decode cX3_hasHonest 24 = .ok (.iinc 1 1, 3) := by decide +kernel
theorem dX3_hasHonest_27 : decode cX3_hasHonest 27 = .ok (.goto (-25), 3) := by decide +kernel
theorem dX3_hasHonest_30 : decode cX3_hasHonest 30 = .ok (.iconst 0, 1) := by decide +kernel
theorem dX3_hasHonest_31 : decode cX3_hasHonest 31 = .ok (.ireturn, 1) := by decide +kernel
