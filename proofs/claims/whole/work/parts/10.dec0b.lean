theorem dX3_isFinished_0 : decode cX3_isFinished 0 = .ok (.iconst 0, 1) := by decide +kernel
theorem dX3_isFinished_1 : decode cX3_isFinished 1 = .ok (.istore_n 1, 1) := by decide +kernel
theorem dX3_isFinished_2 : decode cX3_isFinished 2 = .ok (.iload_n 1, 1) := by decide +kernel
theorem dX3_isFinished_3 : decode cX3_isFinished 3 = .ok (.aload_n 0, 1) := by decide +kernel
theorem dX3_isFinished_4 : decode cX3_isFinished 4 = .ok (.getfield 42, 3) := by decide +kernel
theorem dX3_isFinished_7 : decode cX3_isFinished 7 = .ok (.if_icmp .ge 39, 3) := by decide +kernel
theorem dX3_isFinished_10 : decode cX3_isFinished 10 = .ok (.aload_n 0, 1) := by decide +kernel
theorem dX3_isFinished_11 : decode cX3_isFinished 11 = .ok (.getfield 20, 3) := by decide +kernel
theorem dX3_isFinished_14 : decode cX3_isFinished 14 = .ok (.iload_n 1, 1) := by decide +kernel
theorem dX3_isFinished_15 : decode cX3_isFinished 15 = .ok (.aaload, 1) := by decide +kernel
theorem dX3_isFinished_16 : decode cX3_isFinished 16 = .ok (.getfield 81, 3) := by decide +kernel
theorem dX3_isFinished_19 : decode cX3_isFinished 19 = .ok (.ifCond .ne 21, 3) := by decide +kernel
theorem dX3_isFinished_22 : decode cX3_isFinished 22 = .ok (.aload_n 0, 1) := by decide +kernel
theorem dX3_isFinished_23 : decode cX3_isFinished 23 = .ok (.getfield 20, 3) := by decide +kernel
theorem dX3_isFinished_26 : decode cX3_isFinished 26 = .ok (.iload_n 1, 1) := by decide +kernel
theorem dX3_isFinished_27 : decode cX3_isFinished 27 = .ok (.aaload, 1) := by decide +kernel
theorem dX3_isFinished_28 : decode cX3_isFinished 28 = .ok (.getfield 91, 3) := by decide +kernel
theorem dX3_isFinished_31 : decode cX3_isFinished 31 = .ok (.aload_n 0, 1) := by decide +kernel
theorem dX3_isFinished_32 : decode cX3_isFinished 32 = .ok (.getfield 36, 3) := by decide +kernel
theorem dX3_isFinished_35 : decode cX3_isFinished 35 = .ok (.if_icmp .eq 5, 3) := by decide +kernel
theorem dX3_isFinished_38 : decode cX3_isFinished 38 = .ok (.iconst 0, 1) := by decide +kernel
theorem dX3_isFinished_39 : decode cX3_isFinished 39 = .ok (.ireturn, 1) := by decide +kernel
theorem dX3_isFinished_40 : decode cX3_isFinished 40 = .ok (.iinc 1 1, 3) := by decide +kernel
theorem dX3_isFinished_43 : decode cX3_isFinished 43 = .ok (.goto (-41), 3) := by decide +kernel
theorem dX3_isFinished_46 : decode cX3_isFinished 46 = .ok (.iconst 1, 1) := by decide +kernel
theorem dX3_isFinished_47 : decode cX3_isFinished 47 = .ok (.ireturn, 1) := by decide +kernel
theorem dX3_tellPeer_0 : decode cX3_tellPeer 0 = .ok (.aload_n 0, 1) := by decide +kernel
theorem dX3_tellPeer_1 : decode cX3_tellPeer 1 = .ok (.getfield 20, 3) := by decide +kernel
theorem dX3_tellPeer_4 : decode cX3_tellPeer 4 = .ok (.iload_n 1, 1) := by decide +kernel
theorem dX3_tellPeer_5 : decode cX3_tellPeer 5 = .ok (.aaload, 1) := by decide +kernel
theorem dX3_tellPeer_6 : decode cX3_tellPeer 6 = .ok (.astore_n 3, 1) := by decide +kernel
theorem dX3_tellPeer_7 : decode cX3_tellPeer 7 = .ok (.iload_n 2, 1) := by decide +kernel
theorem dX3_tellPeer_8 : decode cX3_tellPeer 8 = .ok (.tableswitch 98 0 8 #[52, 57, 62, 67, 73, 78, 83, 88, 93], 52) := by decide +kernel
theorem dX3_tellPeer_60 : decode cX3_tellPeer 60 = .ok (.aload_n 3, 1) := by decide +kernel
theorem dX3_tellPeer_61 : decode cX3_tellPeer 61 = .ok (.getfield 81, 3) := by decide +kernel
theorem dX3_tellPeer_64 : decode cX3_tellPeer 64 = .ok (.ireturn, 1) := by decide +kernel
theorem dX3_tellPeer_65 : decode cX3_tellPeer 65 = .ok (.aload_n 3, 1) := by decide +kernel
theorem dX3_tellPeer_66 : decode cX3_tellPeer 66 = .ok (.getfield 120, 3) := by decide +kernel
theorem dX3_tellPeer_69 : decode cX3_tellPeer 69 = .ok (.ireturn, 1) := by decide +kernel
theorem dX3_tellPeer_70 : decode cX3_tellPeer 70 = .ok (.aload_n 3, 1) := by decide +kernel
theorem dX3_tellPeer_71 : decode cX3_tellPeer 71 = .ok (.getfield 91, 3) := by decide +kernel
theorem dX3_tellPeer_74 : decode cX3_tellPeer 74 = .ok (.ireturn, 1) := by decide +kernel
theorem dX3_tellPeer_75 : decode cX3_tellPeer 75 = .ok (.aload_n 0, 1) := by decide +kernel
theorem dX3_tellPeer_76 : decode cX3_tellPeer 76 = .ok (.aload_n 3, 1) := by decide +kernel
theorem dX3_tellPeer_77 : decode cX3_tellPeer 77 = .ok (.invokevirtual 123, 3) := by decide +kernel
theorem dX3_tellPeer_80 : decode cX3_tellPeer 80 = .ok (.ireturn, 1) := by decide +kernel
theorem dX3_tellPeer_81 : decode cX3_tellPeer 81 = .ok (.aload_n 3, 1) := by decide +kernel
theorem dX3_tellPeer_82 : decode cX3_tellPeer 82 = .ok (.getfield 127, 3) := by decide +kernel
theorem dX3_tellPeer_85 : decode cX3_tellPeer 85 = .ok (.ireturn, 1) := by decide +kernel
theorem dX3_tellPeer_86 : decode cX3_tellPeer 86 = .ok (.aload_n 3, 1) := by decide +kernel
theorem dX3_tellPeer_87 : decode cX3_tellPeer 87 = .ok (.getfield 130, 3) := by decide +kernel
theorem dX3_tellPeer_90 : decode cX3_tellPeer 90 = .ok (.ireturn, 1) := by decide +kernel
theorem dX3_tellPeer_91 : decode cX3_tellPeer 91 = .ok (.aload_n 3, 1) := by decide +kernel
theorem dX3_tellPeer_92 : decode cX3_tellPeer 92 = .ok (.getfield 133, 3) := by decide +kernel
theorem dX3_tellPeer_95 : decode cX3_tellPeer 95 = .ok (.ireturn, 1) := by decide +kernel
theorem dX3_tellPeer_96 : decode cX3_tellPeer 96 = .ok (.aload_n 3, 1) := by decide +kernel
theorem dX3_tellPeer_97 : decode cX3_tellPeer 97 = .ok (.getfield 136, 3) := by decide +kernel
theorem dX3_tellPeer_100 : decode cX3_tellPeer 100 = .ok (.ireturn, 1) := by decide +kernel
theorem dX3_tellPeer_101 : decode cX3_tellPeer 101 = .ok (.aload_n 3, 1) := by decide +kernel
theorem dX3_tellPeer_102 : decode cX3_tellPeer 102 = .ok (.getfield 139, 3) := by decide +kernel
theorem dX3_tellPeer_105 : decode cX3_tellPeer 105 = .ok (.ireturn, 1) := by decide +kernel
theorem dX3_tellPeer_106 : decode cX3_tellPeer 106 = .ok (.aload_n 0, 1) := by decide +kernel
theorem dX3_tellPeer_107 : decode cX3_tellPeer 107 = .ok (.iload_n 1, 1) := by decide +kernel
theorem dX3_tellPeer_108 : decode cX3_tellPeer 108 = .ok (.invokevirtual 114, 3) := by decide +kernel
theorem dX3_tellPeer_111 : decode cX3_tellPeer 111 = .ok (.ireturn, 1) := by decide +kernel
theorem dX3_sentByAll_0 : decode cX3_sentByAll 0 = .ok (.iconst 0, 1) := by decide +kernel
theorem dX3_sentByAll_1 : decode cX3_sentByAll 1 = .ok (.istore_n 1, 1) := by decide +kernel
theorem dX3_sentByAll_2 : decode cX3_sentByAll 2 = .ok (.iconst 0, 1) := by decide +kernel
theorem dX3_sentByAll_3 : decode cX3_sentByAll 3 = .ok (.istore_n 2, 1) := by decide +kernel
theorem dX3_sentByAll_4 : decode cX3_sentByAll 4 = .ok (.iload_n 2, 1) := by decide +kernel
theorem dX3_sentByAll_5 : decode cX3_sentByAll 5 = .ok (.aload_n 0, 1) := by decide +kernel
theorem dX3_sentByAll_6 : decode cX3_sentByAll 6 = .ok (.getfield 42, 3) := by decide +kernel
theorem dX3_sentByAll_9 : decode cX3_sentByAll 9 = .ok (.if_icmp .ge 21, 3) := by decide +kernel
theorem dX3_sentByAll_12 : decode cX3_sentByAll 12 = .ok (.iload_n 1, 1) := by decide +kernel
theorem dX3_sentByAll_13 : decode cX3_sentByAll 13 = .ok (.aload_n 0, 1) := by decide +kernel
theorem dX3_sentByAll_14 : decode cX3_sentByAll 14 = .ok (.getfield 20, 3) := by decide +kernel
theorem dX3_sentByAll_17 : decode cX3_sentByAll 17 = .ok (.iload_n 2, 1) := by decide +kernel
theorem dX3_sentByAll_18 : decode cX3_sentByAll 18 = .ok (.aaload, 1) := by decide +kernel
theorem dX3_sentByAll_19 : decode cX3_sentByAll 19 = .ok (.getfield 136, 3) := by decide +kernel
theorem dX3_sentByAll_22 : decode cX3_sentByAll 22 = .ok (.iadd, 1) := by decide +kernel
theorem dX3_sentByAll_23 : decode cX3_sentByAll 23 = .ok (.istore_n 1, 1) := by decide +kernel
theorem dX3_sentByAll_24 : decode cX3_sentByAll 24 = .ok (.iinc 2 1, 3) := by decide +kernel
theorem dX3_sentByAll_27 : decode cX3_sentByAll 27 = .ok (.goto (-23), 3) := by decide +kernel
theorem dX3_sentByAll_30 : decode cX3_sentByAll 30 = .ok (.iload_n 1, 1) := by decide +kernel
theorem dX3_sentByAll_31 : decode cX3_sentByAll 31 = .ok (.ireturn, 1) := by decide +kernel
theorem dX3_pairsThatBar_0 : decode cX3_pairsThatBar 0 = .ok (.iconst 0, 1) := by decide +kernel
theorem dX3_pairsThatBar_1 : decode cX3_pairsThatBar 1 = .ok (.istore_n 1, 1) := by decide +kernel
theorem dX3_pairsThatBar_2 : decode cX3_pairsThatBar 2 = .ok (.iconst 0, 1) := by decide +kernel
theorem dX3_pairsThatBar_3 : decode cX3_pairsThatBar 3 = .ok (.istore_n 2, 1) := by decide +kernel
theorem dX3_pairsThatBar_4 : decode cX3_pairsThatBar 4 = .ok (.iload_n 2, 1) := by decide +kernel
theorem dX3_pairsThatBar_5 : decode cX3_pairsThatBar 5 = .ok (.aload_n 0, 1) := by decide +kernel
theorem dX3_pairsThatBar_6 : decode cX3_pairsThatBar 6 = .ok (.getfield 42, 3) := by decide +kernel
theorem dX3_pairsThatBar_9 : decode cX3_pairsThatBar 9 = .ok (.if_icmp .ge 24, 3) := by decide +kernel
theorem dX3_pairsThatBar_12 : decode cX3_pairsThatBar 12 = .ok (.iload_n 1, 1) := by decide +kernel
theorem dX3_pairsThatBar_13 : decode cX3_pairsThatBar 13 = .ok (.aload_n 0, 1) := by decide +kernel
theorem dX3_pairsThatBar_14 : decode cX3_pairsThatBar 14 = .ok (.getfield 20, 3) := by decide +kernel
theorem dX3_pairsThatBar_17 : decode cX3_pairsThatBar 17 = .ok (.iload_n 2, 1) := by decide +kernel
theorem dX3_pairsThatBar_18 : decode cX3_pairsThatBar 18 = .ok (.aaload, 1) := by decide +kernel
theorem dX3_pairsThatBar_19 : decode cX3_pairsThatBar 19 = .ok (.getfield 133, 3) := by decide +kernel
theorem dX3_pairsThatBar_22 : decode cX3_pairsThatBar 22 = .ok (.invokestatic 94, 3) := by decide +kernel
theorem dX3_pairsThatBar_25 : decode cX3_pairsThatBar 25 = .ok (.iadd, 1) := by decide +kernel
theorem dX3_pairsThatBar_26 : decode cX3_pairsThatBar 26 = .ok (.istore_n 1, 1) := by decide +kernel
theorem dX3_pairsThatBar_27 : decode cX3_pairsThatBar 27 = .ok (.iinc 2 1, 3) := by decide +kernel
theorem dX3_pairsThatBar_30 : decode cX3_pairsThatBar 30 = .ok (.goto (-26), 3) := by decide +kernel
theorem dX3_pairsThatBar_33 : decode cX3_pairsThatBar 33 = .ok (.iload_n 1, 1) := by decide +kernel
theorem dX3_pairsThatBar_34 : decode cX3_pairsThatBar 34 = .ok (.ireturn, 1) := by decide +kernel
theorem dX3_tellCount_0 : decode cX3_tellCount 0 = .ok (.iload_n 1, 1) := by decide +kernel
theorem dX3_tellCount_1 : decode cX3_tellCount 1 = .ok (.tableswitch 96 0 8 #[51, 56, 61, 66, 71, 76, 81, 86, 91], 51) := by decide +kernel
theorem dX3_tellCount_52 : decode cX3_tellCount 52 = .ok (.aload_n 0, 1) := by decide +kernel
theorem dX3_tellCount_53 : decode cX3_tellCount 53 = .ok (.getfield 42, 3) := by decide +kernel
theorem dX3_tellCount_56 : decode cX3_tellCount 56 = .ok (.ireturn, 1) := by decide +kernel
theorem dX3_tellCount_57 : decode cX3_tellCount 57 = .ok (.aload_n 0, 1) := by decide +kernel
theorem dX3_tellCount_58 : decode cX3_tellCount 58 = .ok (.getfield 29, 3) := by decide +kernel
theorem dX3_tellCount_61 : decode cX3_tellCount 61 = .ok (.ireturn, 1) := by decide +kernel
theorem dX3_tellCount_62 : decode cX3_tellCount 62 = .ok (.aload_n 0, 1) := by decide +kernel
theorem dX3_tellCount_63 : decode cX3_tellCount 63 = .ok (.getfield 33, 3) := by decide +kernel
theorem dX3_tellCount_66 : decode cX3_tellCount 66 = .ok (.ireturn, 1) := by decide +kernel
theorem dX3_tellCount_67 : decode cX3_tellCount 67 = .ok (.aload_n 0, 1) := by decide +kernel
theorem dX3_tellCount_68 : decode cX3_tellCount 68 = .ok (.getfield 45, 3) := by decide +kernel
theorem dX3_tellCount_71 : decode cX3_tellCount 71 = .ok (.ireturn, 1) := by decide +kernel
theorem dX3_tellCount_72 : decode cX3_tellCount 72 = .ok (.aload_n 0, 1) := by decide +kernel
theorem dX3_tellCount_73 : decode cX3_tellCount 73 = .ok (.invokevirtual 142, 3) := by decide +kernel
theorem dX3_tellCount_76 : decode cX3_tellCount 76 = .ok (.ireturn, 1) := by decide +kernel
theorem dX3_tellCount_77 : decode cX3_tellCount 77 = .ok (.aload_n 0, 1) := by decide +kernel
theorem dX3_tellCount_78 : decode cX3_tellCount 78 = .ok (.getfield 48, 3) := by decide +kernel
theorem dX3_tellCount_81 : decode cX3_tellCount 81 = .ok (.ireturn, 1) := by decide +kernel
theorem dX3_tellCount_82 : decode cX3_tellCount 82 = .ok (.aload_n 0, 1) := by decide +kernel
theorem dX3_tellCount_83 : decode cX3_tellCount 83 = .ok (.getfield 51, 3) := by decide +kernel
theorem dX3_tellCount_86 : decode cX3_tellCount 86 = .ok (.ireturn, 1) := by decide +kernel
theorem dX3_tellCount_87 : decode cX3_tellCount 87 = .ok (.aload_n 0, 1) := by decide +kernel
theorem dX3_tellCount_88 : decode cX3_tellCount 88 = .ok (.getfield 54, 3) := by decide +kernel
theorem dX3_tellCount_91 : decode cX3_tellCount 91 = .ok (.ireturn, 1) := by decide +kernel
theorem dX3_tellCount_92 : decode cX3_tellCount 92 = .ok (.aload_n 0, 1) := by decide +kernel
theorem dX3_tellCount_93 : decode cX3_tellCount 93 = .ok (.invokevirtual 146, 3) := by decide +kernel
theorem dX3_tellCount_96 : decode cX3_tellCount 96 = .ok (.ireturn, 1) := by decide +kernel
theorem dX3_tellCount_97 : decode cX3_tellCount 97 = .ok (.aload_n 0, 1) := by decide +kernel
theorem dX3_tellCount_98 : decode cX3_tellCount 98 = .ok (.invokevirtual 149, 3) := by decide +kernel
theorem dX3_tellCount_101 : decode cX3_tellCount 101 = .ok (.ifCond .eq 7, 3) := by decide +kernel
theorem dX3_tellCount_104 : decode cX3_tellCount 104 = .ok (.iconst 1, 1) := by decide +kernel
theorem dX3_tellCount_105 : decode cX3_tellCount 105 = .ok (.goto 4, 3) := by decide +kernel
theorem dX3_tellCount_108 : decode cX3_tellCount 108 = .ok (.iconst 0, 1) := by decide +kernel
theorem dX3_tellCount_109 : decode cX3_tellCount 109 = .ok (.ireturn, 1) := by decide +kernel
theorem dX4_append_0 : decode cX4_append 0 = .ok (.aload_n 0, 1) := by decide +kernel
theorem dX4_append_1 : decode cX4_append 1 = .ok (.getfield 24, 3) := by decide +kernel
theorem dX4_append_4 : decode cX4_append 4 = .ok (.bipush 120, 2) := by decide +kernel
theorem dX4_append_6 : decode cX4_append 6 = .ok (.if_icmp .ge 23, 3) := by decide +kernel
theorem dX4_append_9 : decode cX4_append 9 = .ok (.aload_n 0, 1) := by decide +kernel
theorem dX4_append_10 : decode cX4_append 10 = .ok (.getfield 11, 3) := by decide +kernel
theorem dX4_append_13 : decode cX4_append 13 = .ok (.aload_n 0, 1) := by decide +kernel
theorem dX4_append_14 : decode cX4_append 14 = .ok (.getfield 24, 3) := by decide +kernel
theorem dX4_append_17 : decode cX4_append 17 = .ok (.iload_n 1, 1) := by decide +kernel
theorem dX4_append_18 : decode cX4_append 18 = .ok (.iastore, 1) := by decide +kernel
theorem dX4_append_19 : decode cX4_append 19 = .ok (.aload_n 0, 1) := by decide +kernel
theorem dX4_append_20 : decode cX4_append 20 = .ok (.dup, 1) := by decide +kernel
theorem dX4_append_21 : decode cX4_append 21 = .ok (.getfield 24, 3) := by decide +kernel
theorem dX4_append_24 : decode cX4_append 24 = .ok (.iconst 1, 1) := by decide +kernel
theorem dX4_append_25 : decode cX4_append 25 = .ok (.iadd, 1) := by decide +kernel
theorem dX4_append_26 : decode cX4_append 26 = .ok (.putfield 24, 3) := by decide +kernel
theorem dX4_append_29 : decode cX4_append 29 = .ok (.return_, 1) := by decide +kernel
theorem dX4_takesLetter_0 : decode cX4_takesLetter 0 = .ok (.iload_n 1, 1) := by decide +kernel
theorem dX4_takesLetter_1 : decode cX4_takesLetter 1 = .ok (.bipush 112, 2) := by decide +kernel
theorem dX4_takesLetter_3 : decode cX4_takesLetter 3 = .ok (.if_icmp .eq 21, 3) := by decide +kernel
theorem dX4_takesLetter_6 : decode cX4_takesLetter 6 = .ok (.iload_n 1, 1) := by decide +kernel
theorem dX4_takesLetter_7 : decode cX4_takesLetter 7 = .ok (.bipush 103, 2) := by decide +kernel
theorem dX4_takesLetter_9 : decode cX4_takesLetter 9 = .ok (.if_icmp .eq 15, 3) := by decide +kernel
theorem dX4_takesLetter_12 : decode cX4_takesLetter 12 = .ok (.iload_n 1, 1) := by decide +kernel
theorem dX4_takesLetter_13 : decode cX4_takesLetter 13 = .ok (.bipush 114, 2) := by decide +kernel
theorem dX4_takesLetter_15 : decode cX4_takesLetter 15 = .ok (.if_icmp .eq 9, 3) := by decide +kernel
theorem dX4_takesLetter_18 : decode cX4_takesLetter 18 = .ok (.iload_n 1, 1) := by decide +kernel
theorem dX4_takesLetter_19 : decode cX4_takesLetter 19 = .ok (.bipush 115, 2) := by decide +kernel
theorem dX4_takesLetter_21 : decode cX4_takesLetter 21 = .ok (.if_icmp .ne 12, 3) := by decide +kernel
theorem dX4_takesLetter_24 : decode cX4_takesLetter 24 = .ok (.aload_n 0, 1) := by decide +kernel
theorem dX4_takesLetter_25 : decode cX4_takesLetter 25 = .ok (.getfield 28, 3) := by decide +kernel
theorem dX4_takesLetter_28 : decode cX4_takesLetter 28 = .ok (.bipush 40, 2) := by decide +kernel
theorem dX4_takesLetter_30 : decode cX4_takesLetter 30 = .ok (.if_icmp .lt 5, 3) := by decide +kernel
theorem dX4_takesLetter_33 : decode cX4_takesLetter 33 = .ok (.iconst 0, 1) := by decide +kernel
theorem dX4_takesLetter_34 : decode cX4_takesLetter 34 = .ok (.ireturn, 1) := by decide +kernel
theorem dX4_takesLetter_35 : decode cX4_takesLetter 35 = .ok (.aload_n 0, 1) := by decide +kernel
theorem dX4_takesLetter_36 : decode cX4_takesLetter 36 = .ok (.getfield 15, 3) := by decide +kernel
theorem dX4_takesLetter_39 : decode cX4_takesLetter 39 = .ok (.aload_n 0, 1) := by decide +kernel
theorem dX4_takesLetter_40 : decode cX4_takesLetter 40 = .ok (.getfield 28, 3) := by decide +kernel
theorem dX4_takesLetter_43 : decode cX4_takesLetter 43 = .ok (.iload_n 1, 1) := by decide +kernel
theorem dX4_takesLetter_44 : decode cX4_takesLetter 44 = .ok (.iastore, 1) := by decide +kernel
theorem dX4_takesLetter_45 : decode cX4_takesLetter 45 = .ok (.aload_n 0, 1) := by decide +kernel
theorem dX4_takesLetter_46 : decode cX4_takesLetter 46 = .ok (.getfield 18, 3) := by decide +kernel
theorem dX4_takesLetter_49 : decode cX4_takesLetter 49 = .ok (.aload_n 0, 1) := by decide +kernel
theorem dX4_takesLetter_50 : decode cX4_takesLetter 50 = .ok (.getfield 28, 3) := by decide +kernel
theorem dX4_takesLetter_53 : decode cX4_takesLetter 53 = .ok (.iconst 0, 1) := by decide +kernel
theorem dX4_takesLetter_54 : decode cX4_takesLetter 54 = .ok (.iastore, 1) := by decide +kernel
theorem dX4_takesLetter_55 : decode cX4_takesLetter 55 = .ok (.aload_n 0, 1) := by decide +kernel
theorem dX4_takesLetter_56 : decode cX4_takesLetter 56 = .ok (.getfield 21, 3) := by decide +kernel
theorem dX4_takesLetter_59 : decode cX4_takesLetter 59 = .ok (.aload_n 0, 1) := by decide +kernel
theorem dX4_takesLetter_60 : decode cX4_takesLetter 60 = .ok (.getfield 28, 3) := by decide +kernel
theorem dX4_takesLetter_63 : decode cX4_takesLetter 63 = .ok (.iconst 0, 1) := by decide +kernel
theorem dX4_takesLetter_64 : decode cX4_takesLetter 64 = .ok (.iastore, 1) := by decide +kernel
theorem dX4_takesLetter_65 : decode cX4_takesLetter 65 = .ok (.aload_n 0, 1) := by decide +kernel
theorem dX4_takesLetter_66 : decode cX4_takesLetter 66 = .ok (.iload_n 1, 1) := by decide +kernel
theorem dX4_takesLetter_67 : decode cX4_takesLetter 67 = .ok (.bipush 114, 2) := by decide +kernel
theorem dX4_takesLetter_69 : decode cX4_takesLetter 69 = .ok (.if_icmp .ne 7, 3) := by decide +kernel
theorem dX4_takesLetter_72 : decode cX4_takesLetter 72 = .ok (.iconst 1, 1) := by decide +kernel
theorem dX4_takesLetter_73 : decode cX4_takesLetter 73 = .ok (.goto 4, 3) := by decide +kernel
theorem dX4_takesLetter_76 : decode cX4_takesLetter 76 = .ok (.iconst 2, 1) := by decide +kernel
theorem dX4_takesLetter_77 : decode cX4_takesLetter 77 = .ok (.putfield 48, 3) := by decide +kernel
theorem dX4_takesLetter_80 : decode cX4_takesLetter 80 = .ok (.aload_n 0, 1) := by decide +kernel
theorem dX4_takesLetter_81 : decode cX4_takesLetter 81 = .ok (.iconst 0, 1) := by decide +kernel
theorem dX4_takesLetter_82 : decode cX4_takesLetter 82 = .ok (.putfield 39, 3) := by decide +kernel
theorem dX4_takesLetter_85 : decode cX4_takesLetter 85 = .ok (.aload_n 0, 1) := by decide +kernel
theorem dX4_takesLetter_86 : decode cX4_takesLetter 86 = .ok (.iconst 1, 1) := by decide +kernel
theorem dX4_takesLetter_87 : decode cX4_takesLetter 87 = .ok (.putfield 31, 3) := by decide +kernel
theorem dX4_takesLetter_90 : decode cX4_takesLetter 90 = .ok (.iconst 1, 1) := by decide +kernel
theorem dX4_takesLetter_91 : decode cX4_takesLetter 91 = .ok (.ireturn, 1) := by decide +kernel
theorem dX4_takesFigure_0 : decode cX4_takesFigure 0 = .ok (.aload_n 0, 1) := by decide +kernel
theorem dX4_takesFigure_1 : decode cX4_takesFigure 1 = .ok (.getfield 39, 3) := by decide +kernel
theorem dX4_takesFigure_4 : decode cX4_takesFigure 4 = .ok (.ifCond .ne 25, 3) := by decide +kernel
theorem dX4_takesFigure_7 : decode cX4_takesFigure 7 = .ok (.aload_n 0, 1) := by decide +kernel
theorem dX4_takesFigure_8 : decode cX4_takesFigure 8 = .ok (.getfield 48, 3) := by decide +kernel
theorem dX4_takesFigure_11 : decode cX4_takesFigure 11 = .ok (.ifCond .ne 5, 3) := by decide +kernel
theorem dX4_takesFigure_14 : decode cX4_takesFigure 14 = .ok (.iconst 0, 1) := by decide +kernel
theorem dX4_takesFigure_15 : decode cX4_takesFigure 15 = .ok (.ireturn, 1) := by decide +kernel
theorem dX4_takesFigure_16 : decode cX4_takesFigure 16 = .ok (.aload_n 0, 1) := by decide +kernel
theorem dX4_takesFigure_17 : decode cX4_takesFigure 17 = .ok (.dup, 1) := by decide +kernel
theorem dX4_takesFigure_18 : decode cX4_takesFigure 18 = .ok (.getfield 48, 3) := by decide +kernel
theorem dX4_takesFigure_21 : decode cX4_takesFigure 21 = .ok (.iconst 1, 1) := by decide +kernel
theorem dX4_takesFigure_22 : decode cX4_takesFigure 22 = .ok (.isub, 1) := by decide +kernel
theorem dX4_takesFigure_23 : decode cX4_takesFigure 23 = .ok (.putfield 48, 3) := by decide +kernel
theorem dX4_takesFigure_26 : decode cX4_takesFigure 26 = .ok (.goto 13, 3) := by decide +kernel
theorem dX4_takesFigure_29 : decode cX4_takesFigure 29 = .ok (.aload_n 0, 1) := by decide +kernel
theorem dX4_takesFigure_30 : decode cX4_takesFigure 30 = .ok (.getfield 39, 3) := by decide +kernel
theorem dX4_takesFigure_33 : decode cX4_takesFigure 33 = .ok (.iconst 2, 1) := by decide +kernel
theorem dX4_takesFigure_34 : decode cX4_takesFigure 34 = .ok (.if_icmp .ne 5, 3) := by decide +kernel
theorem dX4_takesFigure_37 : decode cX4_takesFigure 37 = .ok (.iconst 0, 1) := by decide +kernel
theorem dX4_takesFigure_38 : decode cX4_takesFigure 38 = .ok (.ireturn, 1) := by decide +kernel
theorem dX4_takesFigure_39 : decode cX4_takesFigure 39 = .ok (.aload_n 0, 1) := by decide +kernel
theorem dX4_takesFigure_40 : decode cX4_takesFigure 40 = .ok (.dup, 1) := by decide +kernel
theorem dX4_takesFigure_41 : decode cX4_takesFigure 41 = .ok (.getfield 39, 3) := by decide +kernel
theorem dX4_takesFigure_44 : decode cX4_takesFigure 44 = .ok (.iconst 1, 1) := by decide +kernel
theorem dX4_takesFigure_45 : decode cX4_takesFigure 45 = .ok (.iadd, 1) := by decide +kernel
theorem dX4_takesFigure_46 : decode cX4_takesFigure 46 = .ok (.putfield 39, 3) := by decide +kernel
theorem dX4_takesFigure_49 : decode cX4_takesFigure 49 = .ok (.aload_n 0, 1) := by decide +kernel
theorem dX4_takesFigure_50 : decode cX4_takesFigure 50 = .ok (.getfield 15, 3) := by decide +kernel
theorem dX4_takesFigure_53 : decode cX4_takesFigure 53 = .ok (.aload_n 0, 1) := by decide +kernel
theorem dX4_takesFigure_54 : decode cX4_takesFigure 54 = .ok (.getfield 28, 3) := by decide +kernel
theorem dX4_takesFigure_57 : decode cX4_takesFigure 57 = .ok (.iaload, 1) := by decide +kernel
theorem dX4_takesFigure_58 : decode cX4_takesFigure 58 = .ok (.bipush 114, 2) := by decide +kernel
theorem dX4_takesFigure_60 : decode cX4_takesFigure 60 = .ok (.if_icmp .eq 14, 3) := by decide +kernel
theorem dX4_takesFigure_63 : decode cX4_takesFigure 63 = .ok (.aload_n 0, 1) := by decide +kernel
theorem dX4_takesFigure_64 : decode cX4_takesFigure 64 = .ok (.getfield 48, 3) := by decide +kernel
theorem dX4_takesFigure_67 : decode cX4_takesFigure 67 = .ok (.ifCond .ne 7, 3) := by decide +kernel
theorem dX4_takesFigure_70 : decode cX4_takesFigure 70 = .ok (.iconst 1, 1) := by decide +kernel
theorem dX4_takesFigure_71 : decode cX4_takesFigure 71 = .ok (.goto 4, 3) := by decide +kernel
theorem dX4_takesFigure_74 : decode cX4_takesFigure 74 = .ok (.iconst 0, 1) := by decide +kernel
theorem dX4_takesFigure_75 : decode cX4_takesFigure 75 = .ok (.istore_n 2, 1) := by decide +kernel
theorem dX4_takesFigure_76 : decode cX4_takesFigure 76 = .ok (.iload_n 2, 1) := by decide +kernel
theorem dX4_takesFigure_77 : decode cX4_takesFigure 77 = .ok (.ifCond .eq 10, 3) := by decide +kernel
theorem dX4_takesFigure_80 : decode cX4_takesFigure 80 = .ok (.aload_n 0, 1) := by decide +kernel
theorem dX4_takesFigure_81 : decode cX4_takesFigure 81 = .ok (.getfield 21, 3) := by decide +kernel
theorem dX4_takesFigure_84 : decode cX4_takesFigure 84 = .ok (.goto 7, 3) := by decide +kernel
theorem dX4_takesFigure_87 : decode cX4_takesFigure 87 = .ok (.aload_n 0, 1) := by decide +kernel
theorem dX4_takesFigure_88 : decode cX4_takesFigure 88 = .ok (.getfield 18, 3) := by decide +kernel
theorem dX4_takesFigure_91 : decode cX4_takesFigure 91 = .ok (.astore_n 3, 1) := by decide +kernel
theorem dX4_takesFigure_92 : decode cX4_takesFigure 92 = .ok (.aload_n 3, 1) := by decide +kernel
theorem dX4_takesFigure_93 : decode cX4_takesFigure 93 = .ok (.aload_n 0, 1) := by decide +kernel
theorem dX4_takesFigure_94 : decode cX4_takesFigure 94 = .ok (.getfield 28, 3) := by decide +kernel
theorem dX4_takesFigure_97 : decode cX4_takesFigure 97 = .ok (.aload_n 3, 1) := by decide +kernel
theorem dX4_takesFigure_98 : decode cX4_takesFigure 98 = .ok (.aload_n 0, 1) := by decide +kernel
theorem dX4_takesFigure_99 : decode cX4_takesFigure 99 = .ok (.getfield 28, 3) := by decide +kernel
theorem dX4_takesFigure_102 : decode cX4_takesFigure 102 = .ok (.iaload, 1) := by decide +kernel
theorem dX4_takesFigure_103 : decode cX4_takesFigure 103 = .ok (.bipush 10, 2) := by decide +kernel
theorem dX4_takesFigure_105 : decode cX4_takesFigure 105 = .ok (.imul, 1) := by decide +kernel
theorem dX4_takesFigure_106 : decode cX4_takesFigure 106 = .ok (.iload_n 1, 1) := by decide +kernel
theorem dX4_takesFigure_107 : decode cX4_takesFigure 107 = .ok (.iadd, 1) := by decide +kernel
theorem dX4_takesFigure_108 : decode cX4_takesFigure 108 = .ok (.iastore, 1) := by decide +kernel
theorem dX4_takesFigure_109 : decode cX4_takesFigure 109 = .ok (.iconst 1, 1) := by decide +kernel
theorem dX4_takesFigure_110 : decode cX4_takesFigure 110 = .ok (.ireturn, 1) := by decide +kernel
theorem dX4_takes_0 : decode cX4_takes 0 = .ok (.iload_n 1, 1) := by decide +kernel
theorem dX4_takes_1 : decode cX4_takes 1 = .ok (.bipush 32, 2) := by decide +kernel
theorem dX4_takes_3 : decode cX4_takes 3 = .ok (.if_icmp .ne 10, 3) := by decide +kernel
theorem dX4_takes_6 : decode cX4_takes 6 = .ok (.aload_n 0, 1) := by decide +kernel
theorem dX4_takes_7 : decode cX4_takes 7 = .ok (.iconst 0, 1) := by decide +kernel
theorem dX4_takes_8 : decode cX4_takes 8 = .ok (.putfield 39, 3) := by decide +kernel
theorem dX4_takes_11 : decode cX4_takes 11 = .ok (.iconst 1, 1) := by decide +kernel
theorem dX4_takes_12 : decode cX4_takes 12 = .ok (.ireturn, 1) := by decide +kernel
theorem dX4_takes_13 : decode cX4_takes 13 = .ok (.aload_n 0, 1) := by decide +kernel
theorem dX4_takes_14 : decode cX4_takes 14 = .ok (.getfield 31, 3) := by decide +kernel
theorem dX4_takes_17 : decode cX4_takes 17 = .ok (.ifCond .ne 9, 3) := by decide +kernel
theorem dX4_takes_20 : decode cX4_takes 20 = .ok (.aload_n 0, 1) := by decide +kernel
theorem dX4_takes_21 : decode cX4_takes 21 = .ok (.iload_n 1, 1) := by decide +kernel
theorem dX4_takes_22 : decode cX4_takes 22 = .ok (.invokevirtual 42, 3) := by decide +kernel
theorem dX4_takes_25 : decode cX4_takes 25 = .ok (.ireturn, 1) := by decide +kernel
theorem dX4_takes_26 : decode cX4_takes 26 = .ok (.iload_n 1, 1) := by decide +kernel
theorem dX4_takes_27 : decode cX4_takes 27 = .ok (.bipush 48, 2) := by decide +kernel
theorem dX4_takes_29 : decode cX4_takes 29 = .ok (.if_icmp .lt 18, 3) := by decide +kernel
theorem dX4_takes_32 : decode cX4_takes 32 = .ok (.iload_n 1, 1) := by decide +kernel
theorem dX4_takes_33 : decode cX4_takes 33 = .ok (.bipush 57, 2) := by decide +kernel
theorem dX4_takes_35 : decode cX4_takes 35 = .ok (.if_icmp .gt 12, 3) := by decide +kernel
theorem dX4_takes_38 : decode cX4_takes 38 = .ok (.aload_n 0, 1) := by decide +kernel
theorem dX4_takes_39 : decode cX4_takes 39 = .ok (.iload_n 1, 1) := by decide +kernel
theorem dX4_takes_40 : decode cX4_takes 40 = .ok (.bipush 48, 2) := by decide +kernel
theorem dX4_takes_42 : decode cX4_takes 42 = .ok (.isub, 1) := by decide +kernel
theorem dX4_takes_43 : decode cX4_takes 43 = .ok (.invokevirtual 45, 3) := by decide +kernel
theorem dX4_takes_46 : decode cX4_takes 46 = .ok (.ireturn, 1) := by decide +kernel
theorem dX4_takes_47 : decode cX4_takes 47 = .ok (.iload_n 1, 1) := by decide +kernel
theorem dX4_takes_48 : decode cX4_takes 48 = .ok (.bipush 59, 2) := by decide +kernel
theorem dX4_takes_50 : decode cX4_takes 50 = .ok (.if_icmp .ne 10, 3) := by decide +kernel
theorem dX4_takes_53 : decode cX4_takes 53 = .ok (.aload_n 0, 1) := by decide +kernel
theorem dX4_takes_54 : decode cX4_takes 54 = .ok (.getfield 48, 3) := by decide +kernel
theorem dX4_takes_57 : decode cX4_takes 57 = .ok (.ifCond .le 5, 3) := by decide +kernel
theorem dX4_takes_60 : decode cX4_takes 60 = .ok (.iconst 0, 1) := by decide +kernel
theorem dX4_takes_61 : decode cX4_takes 61 = .ok (.ireturn, 1) := by decide +kernel
theorem dX4_takes_62 : decode cX4_takes 62 = .ok (.aload_n 0, 1) := by decide +kernel
theorem dX4_takes_63 : decode cX4_takes 63 = .ok (.iconst 0, 1) := by decide +kernel
theorem dX4_takes_64 : decode cX4_takes 64 = .ok (.putfield 31, 3) := by decide +kernel
theorem dX4_takes_67 : decode cX4_takes 67 = .ok (.aload_n 0, 1) := by decide +kernel
theorem dX4_takes_68 : decode cX4_takes 68 = .ok (.dup, 1) := by decide +kernel
theorem dX4_takes_69 : decode cX4_takes 69 = .ok (.getfield 28, 3) := by decide +kernel
theorem dX4_takes_72 : decode cX4_takes 72 = .ok (.iconst 1, 1) := by decide +kernel
theorem dX4_takes_73 : decode cX4_takes 73 = .ok (.iadd, 1) := by decide +kernel
theorem dX4_takes_74 : decode cX4_takes 74 = .ok (.putfield 28, 3) := by decide +kernel
theorem dX4_takes_77 : decode cX4_takes 77 = .ok (.iconst 1, 1) := by decide +kernel
theorem dX4_takes_78 : decode cX4_takes 78 = .ok (.ireturn, 1) := by decide +kernel
theorem dX4_read_0 : decode cX4_read 0 = .ok (.aload_n 0, 1) := by decide +kernel
theorem dX4_read_1 : decode cX4_read 1 = .ok (.iconst 0, 1) := by decide +kernel
theorem dX4_read_2 : decode cX4_read 2 = .ok (.putfield 28, 3) := by decide +kernel
theorem dX4_read_5 : decode cX4_read 5 = .ok (.aload_n 0, 1) := by decide +kernel
theorem dX4_read_6 : decode cX4_read 6 = .ok (.iconst 0, 1) := by decide +kernel
theorem dX4_read_7 : decode cX4_read 7 = .ok (.putfield 31, 3) := by decide +kernel
theorem dX4_read_10 : decode cX4_read 10 = .ok (.iconst 0, 1) := by decide +kernel
theorem dX4_read_11 : decode cX4_read 11 = .ok (.istore_n 1, 1) := by decide +kernel
theorem dX4_read_12 : decode cX4_read 12 = .ok (.iload_n 1, 1) := by decide +kernel
theorem dX4_read_13 : decode cX4_read 13 = .ok (.aload_n 0, 1) := by decide +kernel
theorem dX4_read_14 : decode cX4_read 14 = .ok (.getfield 24, 3) := by decide +kernel
theorem dX4_read_17 : decode cX4_read 17 = .ok (.if_icmp .ge 24, 3) := by decide +kernel
theorem dX4_read_20 : decode cX4_read 20 = .ok (.aload_n 0, 1) := by decide +kernel
theorem dX4_read_21 : decode cX4_read 21 = .ok (.aload_n 0, 1) := by decide +kernel
theorem dX4_read_22 : decode cX4_read 22 = .ok (.getfield 11, 3) := by decide +kernel
theorem dX4_read_25 : decode cX4_read 25 = .ok (.iload_n 1, 1) := by decide +kernel
theorem dX4_read_26 : decode cX4_read 26 = .ok (.iaload, 1) := by decide +kernel
theorem dX4_read_27 : decode cX4_read 27 = .ok (.invokevirtual 35, 3) := by decide +kernel
theorem dX4_read_30 : decode cX4_read 30 = .ok (.ifCond .ne 5, 3) := by decide +kernel
theorem dX4_read_33 : decode cX4_read 33 = .ok (.iload_n 1, 1) := by decide +kernel
theorem dX4_read_34 : decode cX4_read 34 = .ok (.ireturn, 1) := by decide +kernel
theorem dX4_read_35 : decode cX4_read 35 = .ok (.iinc 1 1, 3) := by decide +kernel
theorem dX4_read_38 : decode cX4_read 38 = .ok (.goto (-26), 3) := by decide +kernel
theorem dX4_read_41 : decode cX4_read 41 = .ok (.aload_n 0, 1) := by decide +kernel
theorem dX4_read_42 : decode cX4_read 42 = .ok (.getfield 31, 3) := by decide +kernel
theorem dX4_read_45 : decode cX4_read 45 = .ok (.ifCond .ne 10, 3) := by decide +kernel
theorem dX4_read_48 : decode cX4_read 48 = .ok (.aload_n 0, 1) := by decide +kernel
theorem dX4_read_49 : decode cX4_read 49 = .ok (.getfield 28, 3) := by decide +kernel
theorem dX4_read_52 : decode cX4_read 52 = .ok (.ifCond .ne 10, 3) := by decide +kernel
theorem dX4_read_55 : decode cX4_read 55 = .ok (.aload_n 0, 1) := by decide +kernel
theorem dX4_read_56 : decode cX4_read 56 = .ok (.getfield 24, 3) := by decide +kernel
theorem dX4_read_59 : decode cX4_read 59 = .ok (.goto 4, 3) := by decide +kernel
theorem dX4_read_62 : decode cX4_read 62 = .ok (.iconst (-1), 1) := by decide +kernel
theorem dX4_read_63 : decode cX4_read 63 = .ok (.ireturn, 1) := by decide +kernel
theorem dJxf58ca_isNaN_12338_0 : decode cJxf58ca_isNaN_12338 0 = .ok (.fload_n 0, 1) := by decide +kernel
theorem dJxf58ca_isNaN_12338_1 : decode cJxf58ca_isNaN_12338 1 = .ok (.fload_n 0, 1) := by decide +kernel
theorem dJxf58ca_isNaN_12338_2 : decode cJxf58ca_isNaN_12338 2 = .ok (.fcmp .l, 1) := by decide +kernel
theorem dJxf58ca_isNaN_12338_3 : decode cJxf58ca_isNaN_12338 3 = .ok (.ifCond .eq 7, 3) := by decide +kernel
theorem dJxf58ca_isNaN_12338_6 : decode cJxf58ca_isNaN_12338 6 = .ok (.iconst 1, 1) := by decide +kernel
theorem dJxf58ca_isNaN_12338_7 : decode cJxf58ca_isNaN_12338 7 = .ok (.goto 4, 3) := by decide +kernel
theorem dJxf58ca_isNaN_12338_10 : decode cJxf58ca_isNaN_12338 10 = .ok (.iconst 0, 1) := by decide +kernel
theorem dJxf58ca_isNaN_12338_11 : decode cJxf58ca_isNaN_12338 11 = .ok (.ireturn, 1) := by decide +kernel
theorem dJxf58ca_floatToIntBits_5c35a_0 : decode cJxf58ca_floatToIntBits_5c35a 0 = .ok (.fload_n 0, 1) := by decide +kernel
theorem dJxf58ca_floatToIntBits_5c35a_1 : decode cJxf58ca_floatToIntBits_5c35a 1 = .ok (.invokestatic 59, 3) := by decide +kernel
theorem dJxf58ca_floatToIntBits_5c35a_4 : decode cJxf58ca_floatToIntBits_5c35a 4 = .ok (.ifCond .ne 8, 3) := by decide +kernel
theorem dJxf58ca_floatToIntBits_5c35a_7 : decode cJxf58ca_floatToIntBits_5c35a 7 = .ok (.fload_n 0, 1) := by decide +kernel
theorem dJxf58ca_floatToIntBits_5c35a_8 : decode cJxf58ca_floatToIntBits_5c35a 8 = .ok (.invokestatic 74, 3) := by decide +kernel
theorem dJxf58ca_floatToIntBits_5c35a_11 : decode cJxf58ca_floatToIntBits_5c35a 11 = .ok (.ireturn, 1) := by decide +kernel
theorem dJxf58ca_floatToIntBits_5c35a_12 : decode cJxf58ca_floatToIntBits_5c35a 12 = .ok (.ldc 77, 2) := by decide +kernel
theorem dJxf58ca_floatToIntBits_5c35a_14 : decode cJxf58ca_floatToIntBits_5c35a 14 = .ok (.ireturn, 1) := by decide +kernel
theorem dJxe99ae_isNaN_b9ae7_0 : decode cJxe99ae_isNaN_b9ae7 0 = .ok (.dload_n 0, 1) := by decide +kernel
theorem dJxe99ae_isNaN_b9ae7_1 : decode cJxe99ae_isNaN_b9ae7 1 = .ok (.dload_n 0, 1) := by decide +kernel
theorem dJxe99ae_isNaN_b9ae7_2 : decode cJxe99ae_isNaN_b9ae7 2 = .ok (.dcmp .l, 1) := by decide +kernel
theorem dJxe99ae_isNaN_b9ae7_3 : decode cJxe99ae_isNaN_b9ae7 3 = .ok (.ifCond .eq 7, 3) := by decide +kernel
theorem dJxe99ae_isNaN_b9ae7_6 : decode cJxe99ae_isNaN_b9ae7 6 = .ok (.iconst 1, 1) := by decide +kernel
theorem dJxe99ae_isNaN_b9ae7_7 : decode cJxe99ae_isNaN_b9ae7 7 = .ok (.goto 4, 3) := by decide +kernel
theorem dJxe99ae_isNaN_b9ae7_10 : decode cJxe99ae_isNaN_b9ae7 10 = .ok (.iconst 0, 1) := by decide +kernel
theorem dJxe99ae_isNaN_b9ae7_11 : decode cJxe99ae_isNaN_b9ae7 11 = .ok (.ireturn, 1) := by decide +kernel
theorem dJxe99ae_doubleToLongBits_ccdee_0 : decode cJxe99ae_doubleToLongBits_ccdee 0 = .ok (.dload_n 0, 1) := by decide +kernel
theorem dJxe99ae_doubleToLongBits_ccdee_1 : decode cJxe99ae_doubleToLongBits_ccdee 1 = .ok (.invokestatic 122, 3) := by decide +kernel
theorem dJxe99ae_doubleToLongBits_ccdee_4 : decode cJxe99ae_doubleToLongBits_ccdee 4 = .ok (.ifCond .ne 8, 3) := by decide +kernel
theorem dJxe99ae_doubleToLongBits_ccdee_7 : decode cJxe99ae_doubleToLongBits_ccdee 7 = .ok (.dload_n 0, 1) := by decide +kernel
theorem dJxe99ae_doubleToLongBits_ccdee_8 : decode cJxe99ae_doubleToLongBits_ccdee 8 = .ok (.invokestatic 134, 3) := by decide +kernel
theorem dJxe99ae_doubleToLongBits_ccdee_11 : decode cJxe99ae_doubleToLongBits_ccdee 11 = .ok (.lreturn, 1) := by decide +kernel
theorem dJxe99ae_doubleToLongBits_ccdee_12 : decode cJxe99ae_doubleToLongBits_ccdee 12 = .ok (.ldc2_w 137, 3) := by decide +kernel
theorem dJxe99ae_doubleToLongBits_ccdee_15 : decode cJxe99ae_doubleToLongBits_ccdee 15 = .ok (.lreturn, 1) := by decide +kernel
