theorem nd_BP_frameWord_10 : decode nc_BP_frameWord 10 = .ok (.imul, 1) := by decide +kernel
theorem nd_BP_frameWord_11 : decode nc_BP_frameWord 11 = .ok (.iadd, 1) := by decide +kernel
theorem nd_BP_frameWord_12 : decode nc_BP_frameWord 12 = .ok (.invokevirtual 109, 3) := by decide +kernel
theorem nd_BP_frameWord_15 : decode nc_BP_frameWord 15 = .ok (.ireturn, 1) := by decide +kernel
theorem nd_BP_setFrameWord_0 : decode nc_BP_setFrameWord 0 = .ok (.aload_n 0, 1) := by decide +kernel
theorem nd_BP_setFrameWord_1 : decode nc_BP_setFrameWord 1 = .ok (.getfield 9, 3) := by decide +kernel
theorem nd_BP_setFrameWord_4 : decode nc_BP_setFrameWord 4 = .ok (.aload_n 0, 1) := by decide +kernel
theorem nd_BP_setFrameWord_5 : decode nc_BP_setFrameWord 5 = .ok (.getfield 45, 3) := by decide +kernel
theorem nd_BP_setFrameWord_8 : decode nc_BP_setFrameWord 8 = .ok (.iconst 4, 1) := by decide +kernel
theorem nd_BP_setFrameWord_9 : decode nc_BP_setFrameWord 9 = .ok (.iload_n 1, 1) := by decide +kernel
theorem nd_BP_setFrameWord_10 : decode nc_BP_setFrameWord 10 = .ok (.imul, 1) := by decide +kernel
theorem nd_BP_setFrameWord_11 : decode nc_BP_setFrameWord 11 = .ok (.iadd, 1) := by decide +kernel
theorem nd_BP_setFrameWord_12 : decode nc_BP_setFrameWord 12 = .ok (.iload_n 2, 1) := by decide +kernel
theorem nd_BP_setFrameWord_13 : decode nc_BP_setFrameWord 13 = .ok (.invokevirtual 112, 3) := by decide +kernel
theorem nd_BP_setFrameWord_16 : decode nc_BP_setFrameWord 16 = .ok (.return_, 1) := by decide +kernel
theorem nd_BP_stackFrame_0 : decode nc_BP_stackFrame 0 = .ok (.aload_n 0, 1) := by decide +kernel
theorem nd_BP_stackFrame_1 : decode nc_BP_stackFrame 1 = .ok (.getfield 45, 3) := by decide +kernel
theorem nd_BP_stackFrame_4 : decode nc_BP_stackFrame 4 = .ok (.bipush 32, 2) := by decide +kernel
theorem nd_BP_stackFrame_6 : decode nc_BP_stackFrame 6 = .ok (.isub, 1) := by decide +kernel
theorem nd_BP_stackFrame_7 : decode nc_BP_stackFrame 7 = .ok (.istore_n 2, 1) := by decide +kernel
theorem nd_BP_stackFrame_8 : decode nc_BP_stackFrame 8 = .ok (.iconst 0, 1) := by decide +kernel
theorem nd_BP_stackFrame_9 : decode nc_BP_stackFrame 9 = .ok (.istore_n 3, 1) := by decide +kernel
theorem nd_BP_stackFrame_10 : decode nc_BP_stackFrame 10 = .ok (.iload_n 2, 1) := by decide +kernel
theorem nd_BP_stackFrame_11 : decode nc_BP_stackFrame 11 = .ok (.bipush 7, 2) := by decide +kernel
theorem nd_BP_stackFrame_13 : decode nc_BP_stackFrame 13 = .ok (.iand, 1) := by decide +kernel
theorem nd_BP_stackFrame_14 : decode nc_BP_stackFrame 14 = .ok (.ifCond .eq 10, 3) := by decide +kernel
theorem nd_BP_stackFrame_17 : decode nc_BP_stackFrame 17 = .ok (.iinc 2 (-4), 3) := by decide +kernel
theorem nd_BP_stackFrame_20 : decode nc_BP_stackFrame 20 = .ok (.sipush 512, 3) := by decide +kernel
theorem nd_BP_stackFrame_23 : decode nc_BP_stackFrame 23 = .ok (.istore_n 3, 1) := by decide +kernel
theorem nd_BP_stackFrame_24 : decode nc_BP_stackFrame 24 = .ok (.aload_n 0, 1) := by decide +kernel
theorem nd_BP_stackFrame_25 : decode nc_BP_stackFrame 25 = .ok (.iload_n 2, 1) := by decide +kernel
theorem nd_BP_stackFrame_26 : decode nc_BP_stackFrame 26 = .ok (.bipush 8, 2) := by decide +kernel
theorem nd_BP_stackFrame_28 : decode nc_BP_stackFrame 28 = .ok (.invokevirtual 101, 3) := by decide +kernel
theorem nd_BP_stackFrame_31 : decode nc_BP_stackFrame 31 = .ok (.ifCond .ne 5, 3) := by decide +kernel
theorem nd_BP_stackFrame_34 : decode nc_BP_stackFrame 34 = .ok (.iconst 0, 1) := by decide +kernel
theorem nd_BP_stackFrame_35 : decode nc_BP_stackFrame 35 = .ok (.ireturn, 1) := by decide +kernel
theorem nd_BP_stackFrame_36 : decode nc_BP_stackFrame 36 = .ok (.aload_n 0, 1) := by decide +kernel
theorem nd_BP_stackFrame_37 : decode nc_BP_stackFrame 37 = .ok (.iload_n 2, 1) := by decide +kernel
theorem nd_BP_stackFrame_38 : decode nc_BP_stackFrame 38 = .ok (.putfield 45, 3) := by decide +kernel
theorem nd_BP_stackFrame_41 : decode nc_BP_stackFrame 41 = .ok (.iconst 0, 1) := by decide +kernel
theorem nd_BP_stackFrame_42 : decode nc_BP_stackFrame 42 = .ok (.istore 4, 2) := by decide +kernel
theorem nd_BP_stackFrame_44 : decode nc_BP_stackFrame 44 = .ok (.iload 4, 2) := by decide +kernel
theorem nd_BP_stackFrame_46 : decode nc_BP_stackFrame 46 = .ok (.iconst 4, 1) := by decide +kernel
theorem nd_BP_stackFrame_47 : decode nc_BP_stackFrame 47 = .ok (.if_icmp .ge 22, 3) := by decide +kernel
theorem nd_BP_stackFrame_50 : decode nc_BP_stackFrame 50 = .ok (.aload_n 0, 1) := by decide +kernel
theorem nd_BP_stackFrame_51 : decode nc_BP_stackFrame 51 = .ok (.iload 4, 2) := by decide +kernel
theorem nd_BP_stackFrame_53 : decode nc_BP_stackFrame 53 = .ok (.aload_n 0, 1) := by decide +kernel
theorem nd_BP_stackFrame_54 : decode nc_BP_stackFrame 54 = .ok (.getfield 22, 3) := by decide +kernel
theorem nd_BP_stackFrame_57 : decode nc_BP_stackFrame 57 = .ok (.iload 4, 2) := by decide +kernel
theorem nd_BP_stackFrame_59 : decode nc_BP_stackFrame 59 = .ok (.iaload, 1) := by decide +kernel
theorem nd_BP_stackFrame_60 : decode nc_BP_stackFrame 60 = .ok (.invokevirtual 115, 3) := by decide +kernel
theorem nd_BP_stackFrame_63 : decode nc_BP_stackFrame 63 = .ok (.iinc 4 1, 3) := by decide +kernel
theorem nd_BP_stackFrame_66 : decode nc_BP_stackFrame 66 = .ok (.goto (-22), 3) := by decide +kernel
theorem nd_BP_stackFrame_69 : decode nc_BP_stackFrame 69 = .ok (.aload_n 0, 1) := by decide +kernel
theorem nd_BP_stackFrame_70 : decode nc_BP_stackFrame 70 = .ok (.iconst 4, 1) := by decide +kernel
theorem nd_BP_stackFrame_71 : decode nc_BP_stackFrame 71 = .ok (.iconst 0, 1) := by decide +kernel
theorem nd_BP_stackFrame_72 : decode nc_BP_stackFrame 72 = .ok (.invokevirtual 115, 3) := by decide +kernel
theorem nd_BP_stackFrame_75 : decode nc_BP_stackFrame 75 = .ok (.aload_n 0, 1) := by decide +kernel
theorem nd_BP_stackFrame_76 : decode nc_BP_stackFrame 76 = .ok (.iconst 5, 1) := by decide +kernel
theorem nd_BP_stackFrame_77 : decode nc_BP_stackFrame 77 = .ok (.aload_n 0, 1) := by decide +kernel
theorem nd_BP_stackFrame_78 : decode nc_BP_stackFrame 78 = .ok (.getfield 48, 3) := by decide +kernel
theorem nd_BP_stackFrame_81 : decode nc_BP_stackFrame 81 = .ok (.invokevirtual 115, 3) := by decide +kernel
theorem nd_BP_stackFrame_84 : decode nc_BP_stackFrame 84 = .ok (.aload_n 0, 1) := by decide +kernel
theorem nd_BP_stackFrame_85 : decode nc_BP_stackFrame 85 = .ok (.bipush 6, 2) := by decide +kernel
theorem nd_BP_stackFrame_87 : decode nc_BP_stackFrame 87 = .ok (.iload_n 1, 1) := by decide +kernel
theorem nd_BP_stackFrame_88 : decode nc_BP_stackFrame 88 = .ok (.invokevirtual 115, 3) := by decide +kernel
theorem nd_BP_stackFrame_91 : decode nc_BP_stackFrame 91 = .ok (.aload_n 0, 1) := by decide +kernel
theorem nd_BP_stackFrame_92 : decode nc_BP_stackFrame 92 = .ok (.bipush 7, 2) := by decide +kernel
theorem nd_BP_stackFrame_94 : decode nc_BP_stackFrame 94 = .ok (.aload_n 0, 1) := by decide +kernel
theorem nd_BP_stackFrame_95 : decode nc_BP_stackFrame 95 = .ok (.getfield 57, 3) := by decide +kernel
theorem nd_BP_stackFrame_98 : decode nc_BP_stackFrame 98 = .ok (.bipush 28, 2) := by decide +kernel
theorem nd_BP_stackFrame_100 : decode nc_BP_stackFrame 100 = .ok (.ishl, 1) := by decide +kernel
theorem nd_BP_stackFrame_101 : decode nc_BP_stackFrame 101 = .ok (.ldc 118, 2) := by decide +kernel
theorem nd_BP_stackFrame_103 : decode nc_BP_stackFrame 103 = .ok (.iadd, 1) := by decide +kernel
theorem nd_BP_stackFrame_104 : decode nc_BP_stackFrame 104 = .ok (.iload_n 3, 1) := by decide +kernel
theorem nd_BP_stackFrame_105 : decode nc_BP_stackFrame 105 = .ok (.iadd, 1) := by decide +kernel
theorem nd_BP_stackFrame_106 : decode nc_BP_stackFrame 106 = .ok (.invokevirtual 115, 3) := by decide +kernel
theorem nd_BP_stackFrame_109 : decode nc_BP_stackFrame 109 = .ok (.aload_n 0, 1) := by decide +kernel
theorem nd_BP_stackFrame_110 : decode nc_BP_stackFrame 110 = .ok (.iconst 1, 1) := by decide +kernel
theorem nd_BP_stackFrame_111 : decode nc_BP_stackFrame 111 = .ok (.putfield 60, 3) := by decide +kernel
theorem nd_BP_stackFrame_114 : decode nc_BP_stackFrame 114 = .ok (.iconst 1, 1) := by decide +kernel
theorem nd_BP_stackFrame_115 : decode nc_BP_stackFrame 115 = .ok (.ireturn, 1) := by decide +kernel
theorem nd_BP_takeFrame_0 : decode nc_BP_takeFrame 0 = .ok (.aload_n 0, 1) := by decide +kernel
theorem nd_BP_takeFrame_1 : decode nc_BP_takeFrame 1 = .ok (.aload_n 0, 1) := by decide +kernel
theorem nd_BP_takeFrame_2 : decode nc_BP_takeFrame 2 = .ok (.getfield 45, 3) := by decide +kernel
theorem nd_BP_takeFrame_5 : decode nc_BP_takeFrame 5 = .ok (.bipush 8, 2) := by decide +kernel
theorem nd_BP_takeFrame_7 : decode nc_BP_takeFrame 7 = .ok (.invokevirtual 101, 3) := by decide +kernel
theorem nd_BP_takeFrame_10 : decode nc_BP_takeFrame 10 = .ok (.ifCond .ne 5, 3) := by decide +kernel
theorem nd_BP_takeFrame_13 : decode nc_BP_takeFrame 13 = .ok (.iconst 0, 1) := by decide +kernel
theorem nd_BP_takeFrame_14 : decode nc_BP_takeFrame 14 = .ok (.ireturn, 1) := by decide +kernel
theorem nd_BP_takeFrame_15 : decode nc_BP_takeFrame 15 = .ok (.iconst 0, 1) := by decide +kernel
theorem nd_BP_takeFrame_16 : decode nc_BP_takeFrame 16 = .ok (.istore_n 1, 1) := by decide +kernel
theorem nd_BP_takeFrame_17 : decode nc_BP_takeFrame 17 = .ok (.iload_n 1, 1) := by decide +kernel
theorem nd_BP_takeFrame_18 : decode nc_BP_takeFrame 18 = .ok (.iconst 4, 1) := by decide +kernel
theorem nd_BP_takeFrame_19 : decode nc_BP_takeFrame 19 = .ok (.if_icmp .ge 20, 3) := by decide +kernel
theorem nd_BP_takeFrame_22 : decode nc_BP_takeFrame 22 = .ok (.aload_n 0, 1) := by decide +kernel
theorem nd_BP_takeFrame_23 : decode nc_BP_takeFrame 23 = .ok (.getfield 22, 3) := by decide +kernel
theorem nd_BP_takeFrame_26 : decode nc_BP_takeFrame 26 = .ok (.iload_n 1, 1) := by decide +kernel
theorem nd_BP_takeFrame_27 : decode nc_BP_takeFrame 27 = .ok (.aload_n 0, 1) := by decide +kernel
theorem nd_BP_takeFrame_28 : decode nc_BP_takeFrame 28 = .ok (.iload_n 1, 1) := by decide +kernel
theorem nd_BP_takeFrame_29 : decode nc_BP_takeFrame 29 = .ok (.invokevirtual 119, 3) := by decide +kernel
theorem nd_BP_takeFrame_32 : decode nc_BP_takeFrame 32 = .ok (.iastore, 1) := by decide +kernel
theorem nd_BP_takeFrame_33 : decode nc_BP_takeFrame 33 = .ok (.iinc 1 1, 3) := by decide +kernel
theorem nd_BP_takeFrame_36 : decode nc_BP_takeFrame 36 = .ok (.goto (-19), 3) := by decide +kernel
theorem nd_BP_takeFrame_39 : decode nc_BP_takeFrame 39 = .ok (.aload_n 0, 1) := by decide +kernel
theorem nd_BP_takeFrame_40 : decode nc_BP_takeFrame 40 = .ok (.aload_n 0, 1) := by decide +kernel
theorem nd_BP_takeFrame_41 : decode nc_BP_takeFrame 41 = .ok (.iconst 5, 1) := by decide +kernel
theorem nd_BP_takeFrame_42 : decode nc_BP_takeFrame 42 = .ok (.invokevirtual 119, 3) := by decide +kernel
theorem nd_BP_takeFrame_45 : decode nc_BP_takeFrame 45 = .ok (.putfield 48, 3) := by decide +kernel
theorem nd_BP_takeFrame_48 : decode nc_BP_takeFrame 48 = .ok (.aload_n 0, 1) := by decide +kernel
theorem nd_BP_takeFrame_49 : decode nc_BP_takeFrame 49 = .ok (.aload_n 0, 1) := by decide +kernel
theorem nd_BP_takeFrame_50 : decode nc_BP_takeFrame 50 = .ok (.bipush 6, 2) := by decide +kernel
theorem nd_BP_takeFrame_52 : decode nc_BP_takeFrame 52 = .ok (.invokevirtual 119, 3) := by decide +kernel
theorem nd_BP_takeFrame_55 : decode nc_BP_takeFrame 55 = .ok (.bipush (-2), 2) := by decide +kernel
theorem nd_BP_takeFrame_57 : decode nc_BP_takeFrame 57 = .ok (.iand, 1) := by decide +kernel
theorem nd_BP_takeFrame_58 : decode nc_BP_takeFrame 58 = .ok (.putfield 54, 3) := by decide +kernel
theorem nd_BP_takeFrame_61 : decode nc_BP_takeFrame 61 = .ok (.aload_n 0, 1) := by decide +kernel
theorem nd_BP_takeFrame_62 : decode nc_BP_takeFrame 62 = .ok (.bipush 7, 2) := by decide +kernel
theorem nd_BP_takeFrame_64 : decode nc_BP_takeFrame 64 = .ok (.invokevirtual 119, 3) := by decide +kernel
theorem nd_BP_takeFrame_67 : decode nc_BP_takeFrame 67 = .ok (.istore_n 1, 1) := by decide +kernel
theorem nd_BP_takeFrame_68 : decode nc_BP_takeFrame 68 = .ok (.aload_n 0, 1) := by decide +kernel
theorem nd_BP_takeFrame_69 : decode nc_BP_takeFrame 69 = .ok (.iload_n 1, 1) := by decide +kernel
theorem nd_BP_takeFrame_70 : decode nc_BP_takeFrame 70 = .ok (.bipush 28, 2) := by decide +kernel
theorem nd_BP_takeFrame_72 : decode nc_BP_takeFrame 72 = .ok (.iushr, 1) := by decide +kernel
theorem nd_BP_takeFrame_73 : decode nc_BP_takeFrame 73 = .ok (.putfield 57, 3) := by decide +kernel
theorem nd_BP_takeFrame_76 : decode nc_BP_takeFrame 76 = .ok (.aload_n 0, 1) := by decide +kernel
theorem nd_BP_takeFrame_77 : decode nc_BP_takeFrame 77 = .ok (.dup, 1) := by decide +kernel
theorem nd_BP_takeFrame_78 : decode nc_BP_takeFrame 78 = .ok (.getfield 45, 3) := by decide +kernel
theorem nd_BP_takeFrame_81 : decode nc_BP_takeFrame 81 = .ok (.iload_n 1, 1) := by decide +kernel
theorem nd_BP_takeFrame_82 : decode nc_BP_takeFrame 82 = .ok (.sipush 512, 3) := by decide +kernel
theorem nd_BP_takeFrame_85 : decode nc_BP_takeFrame 85 = .ok (.iand, 1) := by decide +kernel
theorem nd_BP_takeFrame_86 : decode nc_BP_takeFrame 86 = .ok (.ifCond .ne 8, 3) := by decide +kernel
theorem nd_BP_takeFrame_89 : decode nc_BP_takeFrame 89 = .ok (.bipush 32, 2) := by decide +kernel
theorem nd_BP_takeFrame_91 : decode nc_BP_takeFrame 91 = .ok (.goto 5, 3) := by decide +kernel
theorem nd_BP_takeFrame_94 : decode nc_BP_takeFrame 94 = .ok (.bipush 36, 2) := by decide +kernel
theorem nd_BP_takeFrame_96 : decode nc_BP_takeFrame 96 = .ok (.iadd, 1) := by decide +kernel
theorem nd_BP_takeFrame_97 : decode nc_BP_takeFrame 97 = .ok (.putfield 45, 3) := by decide +kernel
theorem nd_BP_takeFrame_100 : decode nc_BP_takeFrame 100 = .ok (.aload_n 0, 1) := by decide +kernel
theorem nd_BP_takeFrame_101 : decode nc_BP_takeFrame 101 = .ok (.iconst 0, 1) := by decide +kernel
theorem nd_BP_takeFrame_102 : decode nc_BP_takeFrame 102 = .ok (.putfield 60, 3) := by decide +kernel
theorem nd_BP_takeFrame_105 : decode nc_BP_takeFrame 105 = .ok (.iconst 1, 1) := by decide +kernel
theorem nd_BP_takeFrame_106 : decode nc_BP_takeFrame 106 = .ok (.ireturn, 1) := by decide +kernel
theorem nd_BP_registerValue_0 : decode nc_BP_registerValue 0 = .ok (.iload_n 1, 1) := by decide +kernel
theorem nd_BP_registerValue_1 : decode nc_BP_registerValue 1 = .ok (.ifCond .lt 9, 3) := by decide +kernel
theorem nd_BP_registerValue_4 : decode nc_BP_registerValue 4 = .ok (.iload_n 1, 1) := by decide +kernel
theorem nd_BP_registerValue_5 : decode nc_BP_registerValue 5 = .ok (.bipush 11, 2) := by decide +kernel
theorem nd_BP_registerValue_7 : decode nc_BP_registerValue 7 = .ok (.if_icmp .le 5, 3) := by decide +kernel
theorem nd_BP_registerValue_10 : decode nc_BP_registerValue 10 = .ok (.iconst 0, 1) := by decide +kernel
theorem nd_BP_registerValue_11 : decode nc_BP_registerValue 11 = .ok (.ireturn, 1) := by decide +kernel
theorem nd_BP_registerValue_12 : decode nc_BP_registerValue 12 = .ok (.iload_n 1, 1) := by decide +kernel
theorem nd_BP_registerValue_13 : decode nc_BP_registerValue 13 = .ok (.bipush 8, 2) := by decide +kernel
theorem nd_BP_registerValue_15 : decode nc_BP_registerValue 15 = .ok (.if_icmp .ge 30, 3) := by decide +kernel
theorem nd_BP_registerValue_18 : decode nc_BP_registerValue 18 = .ok (.aload_n 0, 1) := by decide +kernel
theorem nd_BP_registerValue_19 : decode nc_BP_registerValue 19 = .ok (.getfield 60, 3) := by decide +kernel
theorem nd_BP_registerValue_22 : decode nc_BP_registerValue 22 = .ok (.ifCond .eq 16, 3) := by decide +kernel
theorem nd_BP_registerValue_25 : decode nc_BP_registerValue 25 = .ok (.iload_n 1, 1) := by decide +kernel
theorem nd_BP_registerValue_26 : decode nc_BP_registerValue 26 = .ok (.iconst 4, 1) := by decide +kernel
theorem nd_BP_registerValue_27 : decode nc_BP_registerValue 27 = .ok (.if_icmp .ge 11, 3) := by decide +kernel
theorem nd_BP_registerValue_30 : decode nc_BP_registerValue 30 = .ok (.aload_n 0, 1) := by decide +kernel
theorem nd_BP_registerValue_31 : decode nc_BP_registerValue 31 = .ok (.iload_n 1, 1) := by decide +kernel
theorem nd_BP_registerValue_32 : decode nc_BP_registerValue 32 = .ok (.invokevirtual 119, 3) := by decide +kernel
theorem nd_BP_registerValue_35 : decode nc_BP_registerValue 35 = .ok (.goto 9, 3) := by decide +kernel
theorem nd_BP_registerValue_38 : decode nc_BP_registerValue 38 = .ok (.aload_n 0, 1) := by decide +kernel
theorem nd_BP_registerValue_39 : decode nc_BP_registerValue 39 = .ok (.getfield 22, 3) := by decide +kernel
theorem nd_BP_registerValue_42 : decode nc_BP_registerValue 42 = .ok (.iload_n 1, 1) := by decide +kernel
theorem nd_BP_registerValue_43 : decode nc_BP_registerValue 43 = .ok (.iaload, 1) := by decide +kernel
theorem nd_BP_registerValue_44 : decode nc_BP_registerValue 44 = .ok (.ireturn, 1) := by decide +kernel
theorem nd_BP_registerValue_45 : decode nc_BP_registerValue 45 = .ok (.iload_n 1, 1) := by decide +kernel
theorem nd_BP_registerValue_46 : decode nc_BP_registerValue 46 = .ok (.tableswitch 72 8 10 #[26, 31, 51], 26) := by decide +kernel
theorem nd_BP_registerValue_72 : decode nc_BP_registerValue 72 = .ok (.aload_n 0, 1) := by decide +kernel
theorem nd_BP_registerValue_73 : decode nc_BP_registerValue 73 = .ok (.getfield 45, 3) := by decide +kernel
theorem nd_BP_registerValue_76 : decode nc_BP_registerValue 76 = .ok (.ireturn, 1) := by decide +kernel
theorem nd_BP_registerValue_77 : decode nc_BP_registerValue 77 = .ok (.aload_n 0, 1) := by decide +kernel
theorem nd_BP_registerValue_78 : decode nc_BP_registerValue 78 = .ok (.getfield 60, 3) := by decide +kernel
theorem nd_BP_registerValue_81 : decode nc_BP_registerValue 81 = .ok (.ifCond .eq 11, 3) := by decide +kernel
theorem nd_BP_registerValue_84 : decode nc_BP_registerValue 84 = .ok (.aload_n 0, 1) := by decide +kernel
theorem nd_BP_registerValue_85 : decode nc_BP_registerValue 85 = .ok (.iconst 5, 1) := by decide +kernel
theorem nd_BP_registerValue_86 : decode nc_BP_registerValue 86 = .ok (.invokevirtual 119, 3) := by decide +kernel
theorem nd_BP_registerValue_89 : decode nc_BP_registerValue 89 = .ok (.goto 7, 3) := by decide +kernel
theorem nd_BP_registerValue_92 : decode nc_BP_registerValue 92 = .ok (.aload_n 0, 1) := by decide +kernel
theorem nd_BP_registerValue_93 : decode nc_BP_registerValue 93 = .ok (.getfield 48, 3) := by decide +kernel
theorem nd_BP_registerValue_96 : decode nc_BP_registerValue 96 = .ok (.ireturn, 1) := by decide +kernel
theorem nd_BP_registerValue_97 : decode nc_BP_registerValue 97 = .ok (.aload_n 0, 1) := by decide +kernel
theorem nd_BP_registerValue_98 : decode nc_BP_registerValue 98 = .ok (.getfield 60, 3) := by decide +kernel
theorem nd_BP_registerValue_101 : decode nc_BP_registerValue 101 = .ok (.ifCond .eq 12, 3) := by decide +kernel
theorem nd_BP_registerValue_104 : decode nc_BP_registerValue 104 = .ok (.aload_n 0, 1) := by decide +kernel
theorem nd_BP_registerValue_105 : decode nc_BP_registerValue 105 = .ok (.bipush 6, 2) := by decide +kernel
theorem nd_BP_registerValue_107 : decode nc_BP_registerValue 107 = .ok (.invokevirtual 119, 3) := by decide +kernel
theorem nd_BP_registerValue_110 : decode nc_BP_registerValue 110 = .ok (.goto 7, 3) := by decide +kernel
theorem nd_BP_registerValue_113 : decode nc_BP_registerValue 113 = .ok (.aload_n 0, 1) := by decide +kernel
theorem nd_BP_registerValue_114 : decode nc_BP_registerValue 114 = .ok (.getfield 54, 3) := by decide +kernel
theorem nd_BP_registerValue_117 : decode nc_BP_registerValue 117 = .ok (.ireturn, 1) := by decide +kernel
theorem nd_BP_registerValue_118 : decode nc_BP_registerValue 118 = .ok (.aload_n 0, 1) := by decide +kernel
theorem nd_BP_registerValue_119 : decode nc_BP_registerValue 119 = .ok (.getfield 60, 3) := by decide +kernel
theorem nd_BP_registerValue_122 : decode nc_BP_registerValue 122 = .ok (.ifCond .eq 15, 3) := by decide +kernel
theorem nd_BP_registerValue_125 : decode nc_BP_registerValue 125 = .ok (.aload_n 0, 1) := by decide +kernel
theorem nd_BP_registerValue_126 : decode nc_BP_registerValue 126 = .ok (.bipush 7, 2) := by decide +kernel
theorem nd_BP_registerValue_128 : decode nc_BP_registerValue 128 = .ok (.invokevirtual 119, 3) := by decide +kernel
theorem nd_BP_registerValue_131 : decode nc_BP_registerValue 131 = .ok (.bipush 28, 2) := by decide +kernel
theorem nd_BP_registerValue_133 : decode nc_BP_registerValue 133 = .ok (.iushr, 1) := by decide +kernel
theorem nd_BP_registerValue_134 : decode nc_BP_registerValue 134 = .ok (.goto 7, 3) := by decide +kernel
theorem nd_BP_registerValue_137 : decode nc_BP_registerValue 137 = .ok (.aload_n 0, 1) := by decide +kernel
theorem nd_BP_registerValue_138 : decode nc_BP_registerValue 138 = .ok (.getfield 57, 3) := by decide +kernel
theorem nd_BP_registerValue_141 : decode nc_BP_registerValue 141 = .ok (.ireturn, 1) := by decide +kernel
theorem nd_Lo_init_0 : decode nc_Lo_init 0 = .ok (.aload_n 0, 1) := by decide +kernel
theorem nd_Lo_init_1 : decode nc_Lo_init 1 = .ok (.invokespecial 5, 3) := by decide +kernel
theorem nd_Lo_init_4 : decode nc_Lo_init 4 = .ok (.aload_n 0, 1) := by decide +kernel
theorem nd_Lo_init_5 : decode nc_Lo_init 5 = .ok (.aload_n 1, 1) := by decide +kernel
theorem nd_Lo_init_6 : decode nc_Lo_init 6 = .ok (.putfield 11, 3) := by decide +kernel
theorem nd_Lo_init_9 : decode nc_Lo_init 9 = .ok (.aload_n 0, 1) := by decide +kernel
theorem nd_Lo_init_10 : decode nc_Lo_init 10 = .ok (.aload_n 2, 1) := by decide +kernel
theorem nd_Lo_init_11 : decode nc_Lo_init 11 = .ok (.putfield 15, 3) := by decide +kernel
theorem nd_Lo_init_14 : decode nc_Lo_init 14 = .ok (.return_, 1) := by decide +kernel
theorem nd_Lo_loadAll_0 : decode nc_Lo_loadAll 0 = .ok (.iconst 0, 1) := by decide +kernel
theorem nd_Lo_loadAll_1 : decode nc_Lo_loadAll 1 = .ok (.istore_n 1, 1) := by decide +kernel
theorem nd_Lo_loadAll_2 : decode nc_Lo_loadAll 2 = .ok (.iload_n 1, 1) := by decide +kernel
theorem nd_Lo_loadAll_3 : decode nc_Lo_loadAll 3 = .ok (.iconst 4, 1) := by decide +kernel
theorem nd_Lo_loadAll_4 : decode nc_Lo_loadAll 4 = .ok (.if_icmp .ge 27, 3) := by decide +kernel
theorem nd_Lo_loadAll_7 : decode nc_Lo_loadAll 7 = .ok (.aload_n 0, 1) := by decide +kernel
theorem nd_Lo_loadAll_8 : decode nc_Lo_loadAll 8 = .ok (.getfield 15, 3) := by decide +kernel
theorem nd_Lo_loadAll_11 : decode nc_Lo_loadAll 11 = .ok (.iload_n 1, 1) := by decide +kernel
theorem nd_Lo_loadAll_12 : decode nc_Lo_loadAll 12 = .ok (.aaload, 1) := by decide +kernel
theorem nd_Lo_loadAll_13 : decode nc_Lo_loadAll 13 = .ok (.invokevirtual 19, 3) := by decide +kernel
theorem nd_Lo_loadAll_16 : decode nc_Lo_loadAll 16 = .ok (.aload_n 0, 1) := by decide +kernel
theorem nd_Lo_loadAll_17 : decode nc_Lo_loadAll 17 = .ok (.getfield 15, 3) := by decide +kernel
theorem nd_Lo_loadAll_20 : decode nc_Lo_loadAll 20 = .ok (.iload_n 1, 1) := by decide +kernel
theorem nd_Lo_loadAll_21 : decode nc_Lo_loadAll 21 = .ok (.aaload, 1) := by decide +kernel
theorem nd_Lo_loadAll_22 : decode nc_Lo_loadAll 22 = .ok (.invokevirtual 24, 3) := by decide +kernel
theorem nd_Lo_loadAll_25 : decode nc_Lo_loadAll 25 = .ok (.iinc 1 1, 3) := by decide +kernel
theorem nd_Lo_loadAll_28 : decode nc_Lo_loadAll 28 = .ok (.goto (-26), 3) := by decide +kernel
theorem nd_Lo_loadAll_31 : decode nc_Lo_loadAll 31 = .ok (.aload_n 0, 1) := by decide +kernel
theorem nd_Lo_loadAll_32 : decode nc_Lo_loadAll 32 = .ok (.iconst 0, 1) := by decide +kernel
theorem nd_Lo_loadAll_33 : decode nc_Lo_loadAll 33 = .ok (.putfield 27, 3) := by decide +kernel
theorem nd_Lo_loadAll_36 : decode nc_Lo_loadAll 36 = .ok (.aload_n 0, 1) := by decide +kernel
theorem nd_Lo_loadAll_37 : decode nc_Lo_loadAll 37 = .ok (.iconst 0, 1) := by decide +kernel
theorem nd_Lo_loadAll_38 : decode nc_Lo_loadAll 38 = .ok (.putfield 31, 3) := by decide +kernel
theorem nd_Lo_loadAll_41 : decode nc_Lo_loadAll 41 = .ok (.iconst 0, 1) := by decide +kernel
theorem nd_Lo_loadAll_42 : decode nc_Lo_loadAll 42 = .ok (.istore_n 1, 1) := by decide +kernel
theorem nd_Lo_loadAll_43 : decode nc_Lo_loadAll 43 = .ok (.iconst 0, 1) := by decide +kernel
theorem nd_Lo_loadAll_44 : decode nc_Lo_loadAll 44 = .ok (.istore_n 2, 1) := by decide +kernel
theorem nd_Lo_loadAll_45 : decode nc_Lo_loadAll 45 = .ok (.iload_n 2, 1) := by decide +kernel
theorem nd_Lo_loadAll_46 : decode nc_Lo_loadAll 46 = .ok (.bipush 32, 2) := by decide +kernel
theorem nd_Lo_loadAll_48 : decode nc_Lo_loadAll 48 = .ok (.if_icmp .ge 36, 3) := by decide +kernel
theorem nd_Lo_loadAll_51 : decode nc_Lo_loadAll 51 = .ok (.aload_n 0, 1) := by decide +kernel
theorem nd_Lo_loadAll_52 : decode nc_Lo_loadAll 52 = .ok (.iload_n 1, 1) := by decide +kernel
theorem nd_Lo_loadAll_53 : decode nc_Lo_loadAll 53 = .ok (.invokevirtual 34, 3) := by decide +kernel
theorem nd_Lo_loadAll_56 : decode nc_Lo_loadAll 56 = .ok (.ifCond .eq 28, 3) := by decide +kernel
theorem nd_Lo_loadAll_59 : decode nc_Lo_loadAll 59 = .ok (.aload_n 0, 1) := by decide +kernel
theorem nd_Lo_loadAll_60 : decode nc_Lo_loadAll 60 = .ok (.iload_n 1, 1) := by decide +kernel
theorem nd_Lo_loadAll_61 : decode nc_Lo_loadAll 61 = .ok (.invokevirtual 38, 3) := by decide +kernel
theorem nd_Lo_loadAll_64 : decode nc_Lo_loadAll 64 = .ok (.iload_n 1, 1) := by decide +kernel
theorem nd_Lo_loadAll_65 : decode nc_Lo_loadAll 65 = .ok (.aload_n 0, 1) := by decide +kernel
theorem nd_Lo_loadAll_66 : decode nc_Lo_loadAll 66 = .ok (.getfield 11, 3) := by decide +kernel
theorem nd_Lo_loadAll_69 : decode nc_Lo_loadAll 69 = .ok (.getfield 42, 3) := by decide +kernel
theorem nd_Lo_loadAll_72 : decode nc_Lo_loadAll 72 = .ok (.iload_n 1, 1) := by decide +kernel
theorem nd_Lo_loadAll_73 : decode nc_Lo_loadAll 73 = .ok (.iconst 1, 1) := by decide +kernel
theorem nd_Lo_loadAll_74 : decode nc_Lo_loadAll 74 = .ok (.iadd, 1) := by decide +kernel
theorem nd_Lo_loadAll_75 : decode nc_Lo_loadAll 75 = .ok (.iaload, 1) := by decide +kernel
theorem nd_Lo_loadAll_76 : decode nc_Lo_loadAll 76 = .ok (.iadd, 1) := by decide +kernel
theorem nd_Lo_loadAll_77 : decode nc_Lo_loadAll 77 = .ok (.istore_n 1, 1) := by decide +kernel
theorem nd_Lo_loadAll_78 : decode nc_Lo_loadAll 78 = .ok (.iinc 2 1, 3) := by decide +kernel
theorem nd_Lo_loadAll_81 : decode nc_Lo_loadAll 81 = .ok (.goto (-36), 3) := by decide +kernel
theorem nd_Lo_loadAll_84 : decode nc_Lo_loadAll 84 = .ok (.aload_n 0, 1) := by decide +kernel
theorem nd_Lo_loadAll_85 : decode nc_Lo_loadAll 85 = .ok (.getfield 27, 3) := by decide +kernel
theorem nd_Lo_loadAll_88 : decode nc_Lo_loadAll 88 = .ok (.ireturn, 1) := by decide +kernel
theorem nd_Lo_isHeader_0 : decode nc_Lo_isHeader 0 = .ok (.iload_n 1, 1) := by decide +kernel
theorem nd_Lo_isHeader_1 : decode nc_Lo_isHeader 1 = .ok (.bipush 6, 2) := by decide +kernel
theorem nd_Lo_isHeader_3 : decode nc_Lo_isHeader 3 = .ok (.iadd, 1) := by decide +kernel
theorem nd_Lo_isHeader_4 : decode nc_Lo_isHeader 4 = .ok (.sipush 256, 3) := by decide +kernel
theorem nd_Lo_isHeader_7 : decode nc_Lo_isHeader 7 = .ok (.if_icmp .gt 18, 3) := by decide +kernel
theorem nd_Lo_isHeader_10 : decode nc_Lo_isHeader 10 = .ok (.aload_n 0, 1) := by decide +kernel
theorem nd_Lo_isHeader_11 : decode nc_Lo_isHeader 11 = .ok (.getfield 11, 3) := by decide +kernel
theorem nd_Lo_isHeader_14 : decode nc_Lo_isHeader 14 = .ok (.getfield 42, 3) := by decide +kernel
theorem nd_Lo_isHeader_17 : decode nc_Lo_isHeader 17 = .ok (.iload_n 1, 1) := by decide +kernel
theorem nd_Lo_isHeader_18 : decode nc_Lo_isHeader 18 = .ok (.iaload, 1) := by decide +kernel
theorem nd_Lo_isHeader_19 : decode nc_Lo_isHeader 19 = .ok (.sipush 21570, 3) := by decide +kernel
theorem nd_Lo_isHeader_22 : decode nc_Lo_isHeader 22 = .ok (.if_icmp .eq 5, 3) := by decide +kernel
theorem nd_Lo_isHeader_25 : decode nc_Lo_isHeader 25 = .ok (.iconst 0, 1) := by decide +kernel
theorem nd_Lo_isHeader_26 : decode nc_Lo_isHeader 26 = .ok (.ireturn, 1) := by decide +kernel
theorem nd_Lo_isHeader_27 : decode nc_Lo_isHeader 27 = .ok (.aload_n 0, 1) := by decide +kernel
theorem nd_Lo_isHeader_28 : decode nc_Lo_isHeader 28 = .ok (.getfield 11, 3) := by decide +kernel
theorem nd_Lo_isHeader_31 : decode nc_Lo_isHeader 31 = .ok (.getfield 42, 3) := by decide +kernel
theorem nd_Lo_isHeader_34 : decode nc_Lo_isHeader 34 = .ok (.iload_n 1, 1) := by decide +kernel
theorem nd_Lo_isHeader_35 : decode nc_Lo_isHeader 35 = .ok (.iconst 1, 1) := by decide +kernel
theorem nd_Lo_isHeader_36 : decode nc_Lo_isHeader 36 = .ok (.iadd, 1) := by decide +kernel
theorem nd_Lo_isHeader_37 : decode nc_Lo_isHeader 37 = .ok (.iaload, 1) := by decide +kernel
theorem nd_Lo_isHeader_38 : decode nc_Lo_isHeader 38 = .ok (.istore_n 2, 1) := by decide +kernel
theorem nd_Lo_isHeader_39 : decode nc_Lo_isHeader 39 = .ok (.iload_n 2, 1) := by decide +kernel
theorem nd_Lo_isHeader_40 : decode nc_Lo_isHeader 40 = .ok (.bipush 8, 2) := by decide +kernel
theorem nd_Lo_isHeader_42 : decode nc_Lo_isHeader 42 = .ok (.if_icmp .lt 22, 3) := by decide +kernel
theorem nd_Lo_isHeader_45 : decode nc_Lo_isHeader 45 = .ok (.iload_n 2, 1) := by decide +kernel
theorem nd_Lo_isHeader_46 : decode nc_Lo_isHeader 46 = .ok (.iconst 1, 1) := by decide +kernel
theorem nd_Lo_isHeader_47 : decode nc_Lo_isHeader 47 = .ok (.iand, 1) := by decide +kernel
theorem nd_Lo_isHeader_48 : decode nc_Lo_isHeader 48 = .ok (.ifCond .ne 16, 3) := by decide +kernel
theorem nd_Lo_isHeader_51 : decode nc_Lo_isHeader 51 = .ok (.iload_n 1, 1) := by decide +kernel
theorem nd_Lo_isHeader_52 : decode nc_Lo_isHeader 52 = .ok (.iload_n 2, 1) := by decide +kernel
theorem nd_Lo_isHeader_53 : decode nc_Lo_isHeader 53 = .ok (.iadd, 1) := by decide +kernel
theorem nd_Lo_isHeader_54 : decode nc_Lo_isHeader 54 = .ok (.sipush 256, 3) := by decide +kernel
theorem nd_Lo_isHeader_57 : decode nc_Lo_isHeader 57 = .ok (.if_icmp .gt 7, 3) := by decide +kernel
theorem nd_Lo_isHeader_60 : decode nc_Lo_isHeader 60 = .ok (.iconst 1, 1) := by decide +kernel
theorem nd_Lo_isHeader_61 : decode nc_Lo_isHeader 61 = .ok (.goto 4, 3) := by decide +kernel
theorem nd_Lo_isHeader_64 : decode nc_Lo_isHeader 64 = .ok (.iconst 0, 1) := by decide +kernel
theorem nd_Lo_isHeader_65 : decode nc_Lo_isHeader 65 = .ok (.ireturn, 1) := by decide +kernel
theorem nd_Lo_loadAt_0 : decode nc_Lo_loadAt 0 = .ok (.aload_n 0, 1) := by decide +kernel
theorem nd_Lo_loadAt_1 : decode nc_Lo_loadAt 1 = .ok (.getfield 11, 3) := by decide +kernel
theorem nd_Lo_loadAt_4 : decode nc_Lo_loadAt 4 = .ok (.getfield 42, 3) := by decide +kernel
theorem nd_Lo_loadAt_7 : decode nc_Lo_loadAt 7 = .ok (.astore_n 2, 1) := by decide +kernel
theorem nd_Lo_loadAt_8 : decode nc_Lo_loadAt 8 = .ok (.aload_n 2, 1) := by decide +kernel
theorem nd_Lo_loadAt_9 : decode nc_Lo_loadAt 9 = .ok (.iload_n 1, 1) := by decide +kernel
theorem nd_Lo_loadAt_10 : decode nc_Lo_loadAt 10 = .ok (.iconst 1, 1) := by decide +kernel
theorem nd_Lo_loadAt_11 : decode nc_Lo_loadAt 11 = .ok (.iadd, 1) := by decide +kernel
theorem nd_Lo_loadAt_12 : decode nc_Lo_loadAt 12 = .ok (.iaload, 1) := by decide +kernel
theorem nd_Lo_loadAt_13 : decode nc_Lo_loadAt 13 = .ok (.istore_n 3, 1) := by decide +kernel
theorem nd_Lo_loadAt_14 : decode nc_Lo_loadAt 14 = .ok (.aload_n 2, 1) := by decide +kernel
theorem nd_Lo_loadAt_15 : decode nc_Lo_loadAt 15 = .ok (.iload_n 1, 1) := by decide +kernel
theorem nd_Lo_loadAt_16 : decode nc_Lo_loadAt 16 = .ok (.iconst 2, 1) := by decide +kernel
theorem nd_Lo_loadAt_17 : decode nc_Lo_loadAt 17 = .ok (.iadd, 1) := by decide +kernel
theorem nd_Lo_loadAt_18 : decode nc_Lo_loadAt 18 = .ok (.iaload, 1) := by decide +kernel
theorem nd_Lo_loadAt_19 : decode nc_Lo_loadAt 19 = .ok (.istore 4, 2) := by decide +kernel
theorem nd_Lo_loadAt_21 : decode nc_Lo_loadAt 21 = .ok (.aload_n 2, 1) := by decide +kernel
theorem nd_Lo_loadAt_22 : decode nc_Lo_loadAt 22 = .ok (.iload_n 1, 1) := by decide +kernel
theorem nd_Lo_loadAt_23 : decode nc_Lo_loadAt 23 = .ok (.iconst 3, 1) := by decide +kernel
theorem nd_Lo_loadAt_24 : decode nc_Lo_loadAt 24 = .ok (.iadd, 1) := by decide +kernel
theorem nd_Lo_loadAt_25 : decode nc_Lo_loadAt 25 = .ok (.iaload, 1) := by decide +kernel
theorem nd_Lo_loadAt_26 : decode nc_Lo_loadAt 26 = .ok (.istore 5, 2) := by decide +kernel
theorem nd_Lo_loadAt_28 : decode nc_Lo_loadAt 28 = .ok (.aload_n 2, 1) := by decide +kernel
theorem nd_Lo_loadAt_29 : decode nc_Lo_loadAt 29 = .ok (.iload_n 1, 1) := by decide +kernel
theorem nd_Lo_loadAt_30 : decode nc_Lo_loadAt 30 = .ok (.iconst 4, 1) := by decide +kernel
theorem nd_Lo_loadAt_31 : decode nc_Lo_loadAt 31 = .ok (.iadd, 1) := by decide +kernel
theorem nd_Lo_loadAt_32 : decode nc_Lo_loadAt 32 = .ok (.iaload, 1) := by decide +kernel
theorem nd_Lo_loadAt_33 : decode nc_Lo_loadAt 33 = .ok (.istore 6, 2) := by decide +kernel
theorem nd_Lo_loadAt_35 : decode nc_Lo_loadAt 35 = .ok (.aload_n 2, 1) := by decide +kernel
theorem nd_Lo_loadAt_36 : decode nc_Lo_loadAt 36 = .ok (.iload_n 1, 1) := by decide +kernel
theorem nd_Lo_loadAt_37 : decode nc_Lo_loadAt 37 = .ok (.iconst 5, 1) := by decide +kernel
theorem nd_Lo_loadAt_38 : decode nc_Lo_loadAt 38 = .ok (.iadd, 1) := by decide +kernel
theorem nd_Lo_loadAt_39 : decode nc_Lo_loadAt 39 = .ok (.iaload, 1) := by decide +kernel
theorem nd_Lo_loadAt_40 : decode nc_Lo_loadAt 40 = .ok (.istore 7, 2) := by decide +kernel
theorem nd_Lo_loadAt_42 : decode nc_Lo_loadAt 42 = .ok (.aload_n 0, 1) := by decide +kernel
theorem nd_Lo_loadAt_43 : decode nc_Lo_loadAt 43 = .ok (.getfield 27, 3) := by decide +kernel
theorem nd_Lo_loadAt_46 : decode nc_Lo_loadAt 46 = .ok (.iconst 4, 1) := by decide +kernel
theorem nd_Lo_loadAt_47 : decode nc_Lo_loadAt 47 = .ok (.if_icmp .ge 16, 3) := by decide +kernel
theorem nd_Lo_loadAt_50 : decode nc_Lo_loadAt 50 = .ok (.iload 4, 2) := by decide +kernel
theorem nd_Lo_loadAt_52 : decode nc_Lo_loadAt 52 = .ok (.iconst 2, 1) := by decide +kernel
theorem nd_Lo_loadAt_53 : decode nc_Lo_loadAt 53 = .ok (.if_icmp .gt 10, 3) := by decide +kernel
theorem nd_Lo_loadAt_56 : decode nc_Lo_loadAt 56 = .ok (.iload 7, 2) := by decide +kernel
theorem nd_Lo_loadAt_58 : decode nc_Lo_loadAt 58 = .ok (.bipush 15, 2) := by decide +kernel
theorem nd_Lo_loadAt_60 : decode nc_Lo_loadAt 60 = .ok (.if_icmp .le 4, 3) := by decide +kernel
theorem nd_Lo_loadAt_63 : decode nc_Lo_loadAt 63 = .ok (.return_, 1) := by decide +kernel
theorem nd_Lo_loadAt_64 : decode nc_Lo_loadAt 64 = .ok (.bipush 16, 2) := by decide +kernel
theorem nd_Lo_loadAt_66 : decode nc_Lo_loadAt 66 = .ok (.iload 4, 2) := by decide +kernel
theorem nd_Lo_loadAt_68 : decode nc_Lo_loadAt 68 = .ok (.ishl, 1) := by decide +kernel
theorem nd_Lo_loadAt_69 : decode nc_Lo_loadAt 69 = .ok (.istore 8, 2) := by decide +kernel
theorem nd_Lo_loadAt_71 : decode nc_Lo_loadAt 71 = .ok (.iload 5, 2) := by decide +kernel
theorem nd_Lo_loadAt_73 : decode nc_Lo_loadAt 73 = .ok (.bipush 8, 2) := by decide +kernel
theorem nd_Lo_loadAt_75 : decode nc_Lo_loadAt 75 = .ok (.if_icmp .lt 23, 3) := by decide +kernel
theorem nd_Lo_loadAt_78 : decode nc_Lo_loadAt 78 = .ok (.iload 5, 2) := by decide +kernel
theorem nd_Lo_loadAt_80 : decode nc_Lo_loadAt 80 = .ok (.iload 8, 2) := by decide +kernel
theorem nd_Lo_loadAt_82 : decode nc_Lo_loadAt 82 = .ok (.if_icmp .gt 16, 3) := by decide +kernel
theorem nd_Lo_loadAt_85 : decode nc_Lo_loadAt 85 = .ok (.iload 6, 2) := by decide +kernel
theorem nd_Lo_loadAt_87 : decode nc_Lo_loadAt 87 = .ok (.bipush 6, 2) := by decide +kernel
theorem nd_Lo_loadAt_89 : decode nc_Lo_loadAt 89 = .ok (.if_icmp .lt 9, 3) := by decide +kernel
theorem nd_Lo_loadAt_92 : decode nc_Lo_loadAt 92 = .ok (.iload 6, 2) := by decide +kernel
theorem nd_Lo_loadAt_94 : decode nc_Lo_loadAt 94 = .ok (.iload_n 3, 1) := by decide +kernel
theorem nd_Lo_loadAt_95 : decode nc_Lo_loadAt 95 = .ok (.if_icmp .lt 4, 3) := by decide +kernel
theorem nd_Lo_loadAt_98 : decode nc_Lo_loadAt 98 = .ok (.return_, 1) := by decide +kernel
theorem nd_Lo_loadAt_99 : decode nc_Lo_loadAt 99 = .ok (.aload_n 0, 1) := by decide +kernel
theorem nd_Lo_loadAt_100 : decode nc_Lo_loadAt 100 = .ok (.getfield 31, 3) := by decide +kernel
theorem nd_Lo_loadAt_103 : decode nc_Lo_loadAt 103 = .ok (.iload 8, 2) := by decide +kernel
theorem nd_Lo_loadAt_105 : decode nc_Lo_loadAt 105 = .ok (.iadd, 1) := by decide +kernel
theorem nd_Lo_loadAt_106 : decode nc_Lo_loadAt 106 = .ok (.iconst 1, 1) := by decide +kernel
theorem nd_Lo_loadAt_107 : decode nc_Lo_loadAt 107 = .ok (.isub, 1) := by decide +kernel
theorem nd_Lo_loadAt_108 : decode nc_Lo_loadAt 108 = .ok (.iload 8, 2) := by decide +kernel
theorem nd_Lo_loadAt_110 : decode nc_Lo_loadAt 110 = .ok (.ineg, 1) := by decide +kernel
theorem nd_Lo_loadAt_111 : decode nc_Lo_loadAt 111 = .ok (.iand, 1) := by decide +kernel
theorem nd_Lo_loadAt_112 : decode nc_Lo_loadAt 112 = .ok (.istore 9, 2) := by decide +kernel
theorem nd_Lo_loadAt_114 : decode nc_Lo_loadAt 114 = .ok (.iload 9, 2) := by decide +kernel
theorem nd_Lo_loadAt_116 : decode nc_Lo_loadAt 116 = .ok (.iload 8, 2) := by decide +kernel
theorem nd_Lo_loadAt_118 : decode nc_Lo_loadAt 118 = .ok (.iadd, 1) := by decide +kernel
theorem nd_Lo_loadAt_119 : decode nc_Lo_loadAt 119 = .ok (.sipush 128, 3) := by decide +kernel
theorem nd_Lo_loadAt_122 : decode nc_Lo_loadAt 122 = .ok (.if_icmp .le 4, 3) := by decide +kernel
theorem nd_Lo_loadAt_125 : decode nc_Lo_loadAt 125 = .ok (.return_, 1) := by decide +kernel
theorem nd_Lo_loadAt_126 : decode nc_Lo_loadAt 126 = .ok (.aload_n 0, 1) := by decide +kernel
theorem nd_Lo_loadAt_127 : decode nc_Lo_loadAt 127 = .ok (.getfield 15, 3) := by decide +kernel
theorem nd_Lo_loadAt_130 : decode nc_Lo_loadAt 130 = .ok (.aload_n 0, 1) := by decide +kernel
theorem nd_Lo_loadAt_131 : decode nc_Lo_loadAt 131 = .ok (.getfield 27, 3) := by decide +kernel
theorem nd_Lo_loadAt_134 : decode nc_Lo_loadAt 134 = .ok (.aaload, 1) := by decide +kernel
theorem nd_Lo_loadAt_135 : decode nc_Lo_loadAt 135 = .ok (.astore 10, 2) := by decide +kernel
theorem nd_Lo_loadAt_137 : decode nc_Lo_loadAt 137 = .ok (.aload 10, 2) := by decide +kernel
theorem nd_Lo_loadAt_139 : decode nc_Lo_loadAt 139 = .ok (.iconst 2, 1) := by decide +kernel
theorem nd_Lo_loadAt_140 : decode nc_Lo_loadAt 140 = .ok (.iload_n 1, 1) := by decide +kernel
theorem nd_Lo_loadAt_141 : decode nc_Lo_loadAt 141 = .ok (.imul, 1) := by decide +kernel
theorem nd_Lo_loadAt_142 : decode nc_Lo_loadAt 142 = .ok (.putfield 48, 3) := by decide +kernel
theorem nd_Lo_loadAt_145 : decode nc_Lo_loadAt 145 = .ok (.aload 10, 2) := by decide +kernel
theorem nd_Lo_loadAt_147 : decode nc_Lo_loadAt 147 = .ok (.iconst 2, 1) := by decide +kernel
theorem nd_Lo_loadAt_148 : decode nc_Lo_loadAt 148 = .ok (.iload_n 1, 1) := by decide +kernel
theorem nd_Lo_loadAt_149 : decode nc_Lo_loadAt 149 = .ok (.iload_n 3, 1) := by decide +kernel
theorem nd_Lo_loadAt_150 : decode nc_Lo_loadAt 150 = .ok (.iadd, 1) := by decide +kernel
theorem nd_Lo_loadAt_151 : decode nc_Lo_loadAt 151 = .ok (.imul, 1) := by decide +kernel
theorem nd_Lo_loadAt_152 : decode nc_Lo_loadAt 152 = .ok (.putfield 51, 3) := by decide +kernel
theorem nd_Lo_loadAt_155 : decode nc_Lo_loadAt 155 = .ok (.aload 10, 2) := by decide +kernel
theorem nd_Lo_loadAt_157 : decode nc_Lo_loadAt 157 = .ok (.iconst 2, 1) := by decide +kernel
theorem nd_Lo_loadAt_158 : decode nc_Lo_loadAt 158 = .ok (.iload_n 1, 1) := by decide +kernel
theorem nd_Lo_loadAt_159 : decode nc_Lo_loadAt 159 = .ok (.iload 6, 2) := by decide +kernel
theorem nd_Lo_loadAt_161 : decode nc_Lo_loadAt 161 = .ok (.iadd, 1) := by decide +kernel
theorem nd_Lo_loadAt_162 : decode nc_Lo_loadAt 162 = .ok (.imul, 1) := by decide +kernel
theorem nd_Lo_loadAt_163 : decode nc_Lo_loadAt 163 = .ok (.putfield 54, 3) := by decide +kernel
theorem nd_Lo_loadAt_166 : decode nc_Lo_loadAt 166 = .ok (.aload 10, 2) := by decide +kernel
theorem nd_Lo_loadAt_168 : decode nc_Lo_loadAt 168 = .ok (.sipush 4096, 3) := by decide +kernel
theorem nd_Lo_loadAt_171 : decode nc_Lo_loadAt 171 = .ok (.iconst 4, 1) := by decide +kernel
theorem nd_Lo_loadAt_172 : decode nc_Lo_loadAt 172 = .ok (.iload 9, 2) := by decide +kernel
theorem nd_Lo_loadAt_174 : decode nc_Lo_loadAt 174 = .ok (.imul, 1) := by decide +kernel
theorem nd_Lo_loadAt_175 : decode nc_Lo_loadAt 175 = .ok (.iadd, 1) := by decide +kernel
theorem nd_Lo_loadAt_176 : decode nc_Lo_loadAt 176 = .ok (.putfield 57, 3) := by decide +kernel
theorem nd_Lo_loadAt_179 : decode nc_Lo_loadAt 179 = .ok (.aload 10, 2) := by decide +kernel
theorem nd_Lo_loadAt_181 : decode nc_Lo_loadAt 181 = .ok (.iload 8, 2) := by decide +kernel
theorem nd_Lo_loadAt_183 : decode nc_Lo_loadAt 183 = .ok (.putfield 60, 3) := by decide +kernel
theorem nd_Lo_loadAt_186 : decode nc_Lo_loadAt 186 = .ok (.aload 10, 2) := by decide +kernel
theorem nd_Lo_loadAt_188 : decode nc_Lo_loadAt 188 = .ok (.iload 5, 2) := by decide +kernel
theorem nd_Lo_loadAt_190 : decode nc_Lo_loadAt 190 = .ok (.putfield 63, 3) := by decide +kernel
theorem nd_Lo_loadAt_193 : decode nc_Lo_loadAt 193 = .ok (.aload 10, 2) := by decide +kernel
theorem nd_Lo_loadAt_195 : decode nc_Lo_loadAt 195 = .ok (.iload 7, 2) := by decide +kernel
theorem nd_Lo_loadAt_197 : decode nc_Lo_loadAt 197 = .ok (.putfield 66, 3) := by decide +kernel
theorem nd_Lo_loadAt_200 : decode nc_Lo_loadAt 200 = .ok (.aload 10, 2) := by decide +kernel
theorem nd_Lo_loadAt_202 : decode nc_Lo_loadAt 202 = .ok (.invokevirtual 69, 3) := by decide +kernel
theorem nd_Lo_loadAt_205 : decode nc_Lo_loadAt 205 = .ok (.aload_n 0, 1) := by decide +kernel
theorem nd_Lo_loadAt_206 : decode nc_Lo_loadAt 206 = .ok (.dup, 1) := by decide +kernel
theorem nd_Lo_loadAt_207 : decode nc_Lo_loadAt 207 = .ok (.getfield 27, 3) := by decide +kernel
theorem nd_Lo_loadAt_210 : decode nc_Lo_loadAt 210 = .ok (.iconst 1, 1) := by decide +kernel
theorem nd_Lo_loadAt_211 : decode nc_Lo_loadAt 211 = .ok (.iadd, 1) := by decide +kernel
theorem nd_Lo_loadAt_212 : decode nc_Lo_loadAt 212 = .ok (.putfield 27, 3) := by decide +kernel
theorem nd_Lo_loadAt_215 : decode nc_Lo_loadAt 215 = .ok (.aload_n 0, 1) := by decide +kernel
theorem nd_Lo_loadAt_216 : decode nc_Lo_loadAt 216 = .ok (.iload 9, 2) := by decide +kernel
theorem nd_Lo_loadAt_218 : decode nc_Lo_loadAt 218 = .ok (.iload 8, 2) := by decide +kernel
theorem nd_Lo_loadAt_220 : decode nc_Lo_loadAt 220 = .ok (.iadd, 1) := by decide +kernel
theorem nd_Lo_loadAt_221 : decode nc_Lo_loadAt 221 = .ok (.putfield 31, 3) := by decide +kernel
theorem nd_Lo_loadAt_224 : decode nc_Lo_loadAt 224 = .ok (.return_, 1) := by decide +kernel
theorem nd_Co_init_0 : decode nc_Co_init 0 = .ok (.aload_n 0, 1) := by decide +kernel
theorem nd_Co_init_1 : decode nc_Co_init 1 = .ok (.invokespecial 1, 3) := by decide +kernel
theorem nd_Co_init_4 : decode nc_Co_init 4 = .ok (.aload_n 0, 1) := by decide +kernel
theorem nd_Co_init_5 : decode nc_Co_init 5 = .ok (.bipush 8, 2) := by decide +kernel
theorem nd_Co_init_7 : decode nc_Co_init 7 = .ok (.newarray .int, 2) := by decide +kernel
theorem nd_Co_init_9 : decode nc_Co_init 9 = .ok (.putfield 9, 3) := by decide +kernel
theorem nd_Co_init_12 : decode nc_Co_init 12 = .ok (.aload_n 0, 1) := by decide +kernel
theorem nd_Co_init_13 : decode nc_Co_init 13 = .ok (.bipush 16, 2) := by decide +kernel
theorem nd_Co_init_15 : decode nc_Co_init 15 = .ok (.newarray .int, 2) := by decide +kernel
theorem nd_Co_init_17 : decode nc_Co_init 17 = .ok (.putfield 13, 3) := by decide +kernel
theorem nd_Co_init_20 : decode nc_Co_init 20 = .ok (.return_, 1) := by decide +kernel
theorem nd_Co_clear_0 : decode nc_Co_clear 0 = .ok (.aload_n 0, 1) := by decide +kernel
theorem nd_Co_clear_1 : decode nc_Co_clear 1 = .ok (.iconst 0, 1) := by decide +kernel
theorem nd_Co_clear_2 : decode nc_Co_clear 2 = .ok (.putfield 16, 3) := by decide +kernel
theorem nd_Co_clear_5 : decode nc_Co_clear 5 = .ok (.aload_n 0, 1) := by decide +kernel
theorem nd_Co_clear_6 : decode nc_Co_clear 6 = .ok (.iconst 0, 1) := by decide +kernel
theorem nd_Co_clear_7 : decode nc_Co_clear 7 = .ok (.putfield 20, 3) := by decide +kernel
theorem nd_Co_clear_10 : decode nc_Co_clear 10 = .ok (.return_, 1) := by decide +kernel
theorem nd_Co_addInput_0 : decode nc_Co_addInput 0 = .ok (.aload_n 0, 1) := by decide +kernel
theorem nd_Co_addInput_1 : decode nc_Co_addInput 1 = .ok (.getfield 16, 3) := by decide +kernel
theorem nd_Co_addInput_4 : decode nc_Co_addInput 4 = .ok (.bipush 8, 2) := by decide +kernel
theorem nd_Co_addInput_6 : decode nc_Co_addInput 6 = .ok (.if_icmp .lt 5, 3) := by decide +kernel
theorem nd_Co_addInput_9 : decode nc_Co_addInput 9 = .ok (.iconst 0, 1) := by decide +kernel
theorem nd_Co_addInput_10 : decode nc_Co_addInput 10 = .ok (.ireturn, 1) := by decide +kernel
theorem nd_Co_addInput_11 : decode nc_Co_addInput 11 = .ok (.aload_n 0, 1) := by decide +kernel
theorem nd_Co_addInput_12 : decode nc_Co_addInput 12 = .ok (.getfield 9, 3) := by decide +kernel
theorem nd_Co_addInput_15 : decode nc_Co_addInput 15 = .ok (.aload_n 0, 1) := by decide +kernel
theorem nd_Co_addInput_16 : decode nc_Co_addInput 16 = .ok (.getfield 16, 3) := by decide +kernel
theorem nd_Co_addInput_19 : decode nc_Co_addInput 19 = .ok (.iload_n 1, 1) := by decide +kernel
theorem nd_Co_addInput_20 : decode nc_Co_addInput 20 = .ok (.iastore, 1) := by decide +kernel
theorem nd_Co_addInput_21 : decode nc_Co_addInput 21 = .ok (.aload_n 0, 1) := by decide +kernel
theorem nd_Co_addInput_22 : decode nc_Co_addInput 22 = .ok (.dup, 1) := by decide +kernel
theorem nd_Co_addInput_23 : decode nc_Co_addInput 23 = .ok (.getfield 16, 3) := by decide +kernel
theorem nd_Co_addInput_26 : decode nc_Co_addInput 26 = .ok (.iconst 1, 1) := by decide +kernel
theorem nd_Co_addInput_27 : decode nc_Co_addInput 27 = .ok (.iadd, 1) := by decide +kernel
theorem nd_Co_addInput_28 : decode nc_Co_addInput 28 = .ok (.putfield 16, 3) := by decide +kernel
theorem nd_Co_addInput_31 : decode nc_Co_addInput 31 = .ok (.iconst 1, 1) := by decide +kernel
theorem nd_Co_addInput_32 : decode nc_Co_addInput 32 = .ok (.ireturn, 1) := by decide +kernel
theorem nd_Co_removeInput_0 : decode nc_Co_removeInput 0 = .ok (.aload_n 0, 1) := by decide +kernel
theorem nd_Co_removeInput_1 : decode nc_Co_removeInput 1 = .ok (.getfield 9, 3) := by decide +kernel
theorem nd_Co_removeInput_4 : decode nc_Co_removeInput 4 = .ok (.iconst 0, 1) := by decide +kernel
theorem nd_Co_removeInput_5 : decode nc_Co_removeInput 5 = .ok (.iaload, 1) := by decide +kernel
theorem nd_Co_removeInput_6 : decode nc_Co_removeInput 6 = .ok (.istore_n 1, 1) := by decide +kernel
theorem nd_Co_removeInput_7 : decode nc_Co_removeInput 7 = .ok (.iconst 1, 1) := by decide +kernel
theorem nd_Co_removeInput_8 : decode nc_Co_removeInput 8 = .ok (.istore_n 2, 1) := by decide +kernel
theorem nd_Co_removeInput_9 : decode nc_Co_removeInput 9 = .ok (.iload_n 2, 1) := by decide +kernel
theorem nd_Co_removeInput_10 : decode nc_Co_removeInput 10 = .ok (.aload_n 0, 1) := by decide +kernel
theorem nd_Co_removeInput_11 : decode nc_Co_removeInput 11 = .ok (.getfield 16, 3) := by decide +kernel
theorem nd_Co_removeInput_14 : decode nc_Co_removeInput 14 = .ok (.if_icmp .ge 23, 3) := by decide +kernel
theorem nd_Co_removeInput_17 : decode nc_Co_removeInput 17 = .ok (.aload_n 0, 1) := by decide +kernel
theorem nd_Co_removeInput_18 : decode nc_Co_removeInput 18 = .ok (.getfield 9, 3) := by decide +kernel
theorem nd_Co_removeInput_21 : decode nc_Co_removeInput 21 = .ok (.iload_n 2, 1) := by decide +kernel
theorem nd_Co_removeInput_22 : decode nc_Co_removeInput 22 = .ok (.iconst 1, 1) := by decide +kernel
theorem nd_Co_removeInput_23 : decode nc_Co_removeInput 23 = .ok (.isub, 1) := by decide +kernel
theorem nd_Co_removeInput_24 : decode nc_Co_removeInput 24 = .ok (.aload_n 0, 1) := by decide +kernel
theorem nd_Co_removeInput_25 : decode nc_Co_removeInput 25 = .ok (.getfield 9, 3) := by decide +kernel
theorem nd_Co_removeInput_28 : decode nc_Co_removeInput 28 = .ok (.iload_n 2, 1) := by decide +kernel
theorem nd_Co_removeInput_29 : decode nc_Co_removeInput 29 = .ok (.iaload, 1) := by decide +kernel
theorem nd_Co_removeInput_30 : decode nc_Co_removeInput 30 = .ok (.iastore, 1) := by decide +kernel
theorem nd_Co_removeInput_31 : decode nc_Co_removeInput 31 = .ok (.iinc 2 1, 3) := by decide +kernel
theorem nd_Co_removeInput_34 : decode nc_Co_removeInput 34 = .ok (.goto (-25), 3) := by decide +kernel
theorem nd_Co_removeInput_37 : decode nc_Co_removeInput 37 = .ok (.aload_n 0, 1) := by decide +kernel
theorem nd_Co_removeInput_38 : decode nc_Co_removeInput 38 = .ok (.aload_n 0, 1) := by decide +kernel
theorem nd_Co_removeInput_39 : decode nc_Co_removeInput 39 = .ok (.getfield 16, 3) := by decide +kernel
theorem nd_Co_removeInput_42 : decode nc_Co_removeInput 42 = .ok (.iconst 1, 1) := by decide +kernel
theorem nd_Co_removeInput_43 : decode nc_Co_removeInput 43 = .ok (.isub, 1) := by decide +kernel
theorem nd_Co_removeInput_44 : decode nc_Co_removeInput 44 = .ok (.iconst 0, 1) := by decide +kernel
theorem nd_Co_removeInput_45 : decode nc_Co_removeInput 45 = .ok (.invokestatic 23, 3) := by decide +kernel
theorem nd_Co_removeInput_48 : decode nc_Co_removeInput 48 = .ok (.putfield 16, 3) := by decide +kernel
theorem nd_Co_removeInput_51 : decode nc_Co_removeInput 51 = .ok (.iload_n 1, 1) := by decide +kernel
theorem nd_Co_removeInput_52 : decode nc_Co_removeInput 52 = .ok (.ireturn, 1) := by decide +kernel
theorem nd_Co_addOutput_0 : decode nc_Co_addOutput 0 = .ok (.aload_n 0, 1) := by decide +kernel
theorem nd_Co_addOutput_1 : decode nc_Co_addOutput 1 = .ok (.getfield 13, 3) := by decide +kernel
theorem nd_Co_addOutput_4 : decode nc_Co_addOutput 4 = .ok (.aload_n 0, 1) := by decide +kernel
theorem nd_Co_addOutput_5 : decode nc_Co_addOutput 5 = .ok (.getfield 20, 3) := by decide +kernel
theorem nd_Co_addOutput_8 : decode nc_Co_addOutput 8 = .ok (.bipush 15, 2) := by decide +kernel
theorem nd_Co_addOutput_10 : decode nc_Co_addOutput 10 = .ok (.iand, 1) := by decide +kernel
theorem nd_Co_addOutput_11 : decode nc_Co_addOutput 11 = .ok (.iload_n 1, 1) := by decide +kernel
theorem nd_Co_addOutput_12 : decode nc_Co_addOutput 12 = .ok (.iastore, 1) := by decide +kernel
theorem nd_Co_addOutput_13 : decode nc_Co_addOutput 13 = .ok (.aload_n 0, 1) := by decide +kernel
theorem nd_Co_addOutput_14 : decode nc_Co_addOutput 14 = .ok (.dup, 1) := by decide +kernel
theorem nd_Co_addOutput_15 : decode nc_Co_addOutput 15 = .ok (.getfield 20, 3) := by decide +kernel
theorem nd_Co_addOutput_18 : decode nc_Co_addOutput 18 = .ok (.iconst 1, 1) := by decide +kernel
theorem nd_Co_addOutput_19 : decode nc_Co_addOutput 19 = .ok (.iadd, 1) := by decide +kernel
theorem nd_Co_addOutput_20 : decode nc_Co_addOutput 20 = .ok (.putfield 20, 3) := by decide +kernel
theorem nd_Co_addOutput_23 : decode nc_Co_addOutput 23 = .ok (.return_, 1) := by decide +kernel
theorem nd_Co_latestOutput_0 : decode nc_Co_latestOutput 0 = .ok (.iload_n 1, 1) := by decide +kernel
theorem nd_Co_latestOutput_1 : decode nc_Co_latestOutput 1 = .ok (.ifCond .lt 17, 3) := by decide +kernel
theorem nd_Co_latestOutput_4 : decode nc_Co_latestOutput 4 = .ok (.iload_n 1, 1) := by decide +kernel
theorem nd_Co_latestOutput_5 : decode nc_Co_latestOutput 5 = .ok (.bipush 16, 2) := by decide +kernel
theorem nd_Co_latestOutput_7 : decode nc_Co_latestOutput 7 = .ok (.if_icmp .ge 11, 3) := by decide +kernel
theorem nd_Co_latestOutput_10 : decode nc_Co_latestOutput 10 = .ok (.iload_n 1, 1) := by decide +kernel
theorem nd_Co_latestOutput_11 : decode nc_Co_latestOutput 11 = .ok (.aload_n 0, 1) := by decide +kernel
theorem nd_Co_latestOutput_12 : decode nc_Co_latestOutput 12 = .ok (.getfield 20, 3) := by decide +kernel
theorem nd_Co_latestOutput_15 : decode nc_Co_latestOutput 15 = .ok (.if_icmp .lt 5, 3) := by decide +kernel
theorem nd_Co_latestOutput_18 : decode nc_Co_latestOutput 18 = .ok (.iconst 0, 1) := by decide +kernel
theorem nd_Co_latestOutput_19 : decode nc_Co_latestOutput 19 = .ok (.ireturn, 1) := by decide +kernel
theorem nd_Co_latestOutput_20 : decode nc_Co_latestOutput 20 = .ok (.aload_n 0, 1) := by decide +kernel
theorem nd_Co_latestOutput_21 : decode nc_Co_latestOutput 21 = .ok (.getfield 13, 3) := by decide +kernel
theorem nd_Co_latestOutput_24 : decode nc_Co_latestOutput 24 = .ok (.aload_n 0, 1) := by decide +kernel
theorem nd_Co_latestOutput_25 : decode nc_Co_latestOutput 25 = .ok (.getfield 20, 3) := by decide +kernel
theorem nd_Co_latestOutput_28 : decode nc_Co_latestOutput 28 = .ok (.iconst 1, 1) := by decide +kernel
theorem nd_Co_latestOutput_29 : decode nc_Co_latestOutput 29 = .ok (.isub, 1) := by decide +kernel
theorem nd_Co_latestOutput_30 : decode nc_Co_latestOutput 30 = .ok (.iload_n 1, 1) := by decide +kernel
theorem nd_Co_latestOutput_31 : decode nc_Co_latestOutput 31 = .ok (.isub, 1) := by decide +kernel
theorem nd_Co_latestOutput_32 : decode nc_Co_latestOutput 32 = .ok (.bipush 15, 2) := by decide +kernel
theorem nd_Co_latestOutput_34 : decode nc_Co_latestOutput 34 = .ok (.iand, 1) := by decide +kernel
theorem nd_Co_latestOutput_35 : decode nc_Co_latestOutput 35 = .ok (.iaload, 1) := by decide +kernel
theorem nd_Co_latestOutput_36 : decode nc_Co_latestOutput 36 = .ok (.ireturn, 1) := by decide +kernel
theorem nd_Ke_init_0 : decode nc_Ke_init 0 = .ok (.aload_n 0, 1) := by decide +kernel
theorem nd_Ke_init_1 : decode nc_Ke_init 1 = .ok (.invokespecial 3, 3) := by decide +kernel
theorem nd_Ke_init_4 : decode nc_Ke_init 4 = .ok (.aload_n 0, 1) := by decide +kernel
theorem nd_Ke_init_5 : decode nc_Ke_init 5 = .ok (.aload_n 1, 1) := by decide +kernel
theorem nd_Ke_init_6 : decode nc_Ke_init 6 = .ok (.putfield 9, 3) := by decide +kernel
theorem nd_Ke_init_9 : decode nc_Ke_init 9 = .ok (.aload_n 0, 1) := by decide +kernel
theorem nd_Ke_init_10 : decode nc_Ke_init 10 = .ok (.aload_n 2, 1) := by decide +kernel
theorem nd_Ke_init_11 : decode nc_Ke_init 11 = .ok (.putfield 15, 3) := by decide +kernel
theorem nd_Ke_init_14 : decode nc_Ke_init 14 = .ok (.aload_n 0, 1) := by decide +kernel
theorem nd_Ke_init_15 : decode nc_Ke_init 15 = .ok (.aload_n 3, 1) := by decide +kernel
theorem nd_Ke_init_16 : decode nc_Ke_init 16 = .ok (.putfield 19, 3) := by decide +kernel
theorem nd_Ke_init_19 : decode nc_Ke_init 19 = .ok (.return_, 1) := by decide +kernel
theorem nd_Ke_beginTick_0 : decode nc_Ke_beginTick 0 = .ok (.aload_n 0, 1) := by decide +kernel
theorem nd_Ke_beginTick_1 : decode nc_Ke_beginTick 1 = .ok (.dup, 1) := by decide +kernel
theorem nd_Ke_beginTick_2 : decode nc_Ke_beginTick 2 = .ok (.getfield 23, 3) := by decide +kernel
theorem nd_Ke_beginTick_5 : decode nc_Ke_beginTick 5 = .ok (.iconst 1, 1) := by decide +kernel
theorem nd_Ke_beginTick_6 : decode nc_Ke_beginTick 6 = .ok (.iadd, 1) := by decide +kernel
theorem nd_Ke_beginTick_7 : decode nc_Ke_beginTick 7 = .ok (.putfield 23, 3) := by decide +kernel
theorem nd_Ke_beginTick_10 : decode nc_Ke_beginTick 10 = .ok (.iconst 0, 1) := by decide +kernel
theorem nd_Ke_beginTick_11 : decode nc_Ke_beginTick 11 = .ok (.istore_n 1, 1) := by decide +kernel
theorem nd_Ke_beginTick_12 : decode nc_Ke_beginTick 12 = .ok (.iload_n 1, 1) := by decide +kernel
theorem nd_Ke_beginTick_13 : decode nc_Ke_beginTick 13 = .ok (.iconst 4, 1) := by decide +kernel
theorem nd_Ke_beginTick_14 : decode nc_Ke_beginTick 14 = .ok (.if_icmp .ge 33, 3) := by decide +kernel
theorem nd_Ke_beginTick_17 : decode nc_Ke_beginTick 17 = .ok (.aload_n 0, 1) := by decide +kernel
theorem nd_Ke_beginTick_18 : decode nc_Ke_beginTick 18 = .ok (.aload_n 0, 1) := by decide +kernel
theorem nd_Ke_beginTick_19 : decode nc_Ke_beginTick 19 = .ok (.getfield 15, 3) := by decide +kernel
theorem nd_Ke_beginTick_22 : decode nc_Ke_beginTick 22 = .ok (.iload_n 1, 1) := by decide +kernel
theorem nd_Ke_beginTick_23 : decode nc_Ke_beginTick 23 = .ok (.aaload, 1) := by decide +kernel
theorem nd_Ke_beginTick_24 : decode nc_Ke_beginTick 24 = .ok (.iconst 0, 1) := by decide +kernel
theorem nd_Ke_beginTick_25 : decode nc_Ke_beginTick 25 = .ok (.invokevirtual 27, 3) := by decide +kernel
theorem nd_Ke_beginTick_28 : decode nc_Ke_beginTick 28 = .ok (.ifCond .eq 13, 3) := by decide +kernel
theorem nd_Ke_beginTick_31 : decode nc_Ke_beginTick 31 = .ok (.aload_n 0, 1) := by decide +kernel
theorem nd_Ke_beginTick_32 : decode nc_Ke_beginTick 32 = .ok (.aload_n 0, 1) := by decide +kernel
theorem nd_Ke_beginTick_33 : decode nc_Ke_beginTick 33 = .ok (.getfield 15, 3) := by decide +kernel
theorem nd_Ke_beginTick_36 : decode nc_Ke_beginTick 36 = .ok (.iload_n 1, 1) := by decide +kernel
theorem nd_Ke_beginTick_37 : decode nc_Ke_beginTick 37 = .ok (.aaload, 1) := by decide +kernel
theorem nd_Ke_beginTick_38 : decode nc_Ke_beginTick 38 = .ok (.invokevirtual 31, 3) := by decide +kernel
theorem nd_Ke_beginTick_41 : decode nc_Ke_beginTick 41 = .ok (.iinc 1 1, 3) := by decide +kernel
theorem nd_Ke_beginTick_44 : decode nc_Ke_beginTick 44 = .ok (.goto (-32), 3) := by decide +kernel
theorem nd_Ke_beginTick_47 : decode nc_Ke_beginTick 47 = .ok (.return_, 1) := by decide +kernel
theorem nd_Ke_takeInput_0 : decode nc_Ke_takeInput 0 = .ok (.iconst 0, 1) := by decide +kernel
theorem nd_Ke_takeInput_1 : decode nc_Ke_takeInput 1 = .ok (.istore_n 2, 1) := by decide +kernel
theorem nd_Ke_takeInput_2 : decode nc_Ke_takeInput 2 = .ok (.iload_n 2, 1) := by decide +kernel
theorem nd_Ke_takeInput_3 : decode nc_Ke_takeInput 3 = .ok (.iconst 4, 1) := by decide +kernel
theorem nd_Ke_takeInput_4 : decode nc_Ke_takeInput 4 = .ok (.if_icmp .ge 36, 3) := by decide +kernel
theorem nd_Ke_takeInput_7 : decode nc_Ke_takeInput 7 = .ok (.aload_n 0, 1) := by decide +kernel
theorem nd_Ke_takeInput_8 : decode nc_Ke_takeInput 8 = .ok (.aload_n 0, 1) := by decide +kernel
theorem nd_Ke_takeInput_9 : decode nc_Ke_takeInput 9 = .ok (.getfield 15, 3) := by decide +kernel
theorem nd_Ke_takeInput_12 : decode nc_Ke_takeInput 12 = .ok (.iload_n 2, 1) := by decide +kernel
theorem nd_Ke_takeInput_13 : decode nc_Ke_takeInput 13 = .ok (.aaload, 1) := by decide +kernel
theorem nd_Ke_takeInput_14 : decode nc_Ke_takeInput 14 = .ok (.iconst 1, 1) := by decide +kernel
theorem nd_Ke_takeInput_15 : decode nc_Ke_takeInput 15 = .ok (.invokevirtual 27, 3) := by decide +kernel
theorem nd_Ke_takeInput_18 : decode nc_Ke_takeInput 18 = .ok (.ifCond .eq 16, 3) := by decide +kernel
theorem nd_Ke_takeInput_21 : decode nc_Ke_takeInput 21 = .ok (.aload_n 0, 1) := by decide +kernel
theorem nd_Ke_takeInput_22 : decode nc_Ke_takeInput 22 = .ok (.aload_n 0, 1) := by decide +kernel
theorem nd_Ke_takeInput_23 : decode nc_Ke_takeInput 23 = .ok (.getfield 15, 3) := by decide +kernel
theorem nd_Ke_takeInput_26 : decode nc_Ke_takeInput 26 = .ok (.iload_n 2, 1) := by decide +kernel
theorem nd_Ke_takeInput_27 : decode nc_Ke_takeInput 27 = .ok (.aaload, 1) := by decide +kernel
theorem nd_Ke_takeInput_28 : decode nc_Ke_takeInput 28 = .ok (.iload_n 1, 1) := by decide +kernel
theorem nd_Ke_takeInput_29 : decode nc_Ke_takeInput 29 = .ok (.invokevirtual 35, 3) := by decide +kernel
theorem nd_Ke_takeInput_32 : decode nc_Ke_takeInput 32 = .ok (.iconst 1, 1) := by decide +kernel
theorem nd_Ke_takeInput_33 : decode nc_Ke_takeInput 33 = .ok (.ireturn, 1) := by decide +kernel
theorem nd_Ke_takeInput_34 : decode nc_Ke_takeInput 34 = .ok (.iinc 2 1, 3) := by decide +kernel
theorem nd_Ke_takeInput_37 : decode nc_Ke_takeInput 37 = .ok (.goto (-35), 3) := by decide +kernel
theorem nd_Ke_takeInput_40 : decode nc_Ke_takeInput 40 = .ok (.aload_n 0, 1) := by decide +kernel
theorem nd_Ke_takeInput_41 : decode nc_Ke_takeInput 41 = .ok (.getfield 19, 3) := by decide +kernel
theorem nd_Ke_takeInput_44 : decode nc_Ke_takeInput 44 = .ok (.iload_n 1, 1) := by decide +kernel
theorem nd_Ke_takeInput_45 : decode nc_Ke_takeInput 45 = .ok (.invokevirtual 39, 3) := by decide +kernel
theorem nd_Ke_takeInput_48 : decode nc_Ke_takeInput 48 = .ok (.ireturn, 1) := by decide +kernel
theorem nd_Ke_takeSample_0 : decode nc_Ke_takeSample 0 = .ok (.iconst 0, 1) := by decide +kernel
theorem nd_Ke_takeSample_1 : decode nc_Ke_takeSample 1 = .ok (.istore_n 2, 1) := by decide +kernel
theorem nd_Ke_takeSample_2 : decode nc_Ke_takeSample 2 = .ok (.iconst 0, 1) := by decide +kernel
theorem nd_Ke_takeSample_3 : decode nc_Ke_takeSample 3 = .ok (.istore_n 3, 1) := by decide +kernel
theorem nd_Ke_takeSample_4 : decode nc_Ke_takeSample 4 = .ok (.iload_n 3, 1) := by decide +kernel
theorem nd_Ke_takeSample_5 : decode nc_Ke_takeSample 5 = .ok (.iconst 4, 1) := by decide +kernel
theorem nd_Ke_takeSample_6 : decode nc_Ke_takeSample 6 = .ok (.if_icmp .ge 90, 3) := by decide +kernel
theorem nd_Ke_takeSample_9 : decode nc_Ke_takeSample 9 = .ok (.aload_n 0, 1) := by decide +kernel
theorem nd_Ke_takeSample_10 : decode nc_Ke_takeSample 10 = .ok (.getfield 15, 3) := by decide +kernel
theorem nd_Ke_takeSample_13 : decode nc_Ke_takeSample 13 = .ok (.iload_n 3, 1) := by decide +kernel
theorem nd_Ke_takeSample_14 : decode nc_Ke_takeSample 14 = .ok (.aaload, 1) := by decide +kernel
theorem nd_Ke_takeSample_15 : decode nc_Ke_takeSample 15 = .ok (.astore 4, 2) := by decide +kernel
theorem nd_Ke_takeSample_17 : decode nc_Ke_takeSample 17 = .ok (.aload_n 0, 1) := by decide +kernel
theorem nd_Ke_takeSample_18 : decode nc_Ke_takeSample 18 = .ok (.aload 4, 2) := by decide +kernel
theorem nd_Ke_takeSample_20 : decode nc_Ke_takeSample 20 = .ok (.iconst 2, 1) := by decide +kernel
theorem nd_Ke_takeSample_21 : decode nc_Ke_takeSample 21 = .ok (.invokevirtual 27, 3) := by decide +kernel
theorem nd_Ke_takeSample_24 : decode nc_Ke_takeSample 24 = .ok (.ifCond .eq 66, 3) := by decide +kernel
theorem nd_Ke_takeSample_27 : decode nc_Ke_takeSample 27 = .ok (.aload 4, 2) := by decide +kernel
theorem nd_Ke_takeSample_29 : decode nc_Ke_takeSample 29 = .ok (.getfield 45, 3) := by decide +kernel
theorem nd_Ke_takeSample_32 : decode nc_Ke_takeSample 32 = .ok (.getfield 51, 3) := by decide +kernel
theorem nd_Ke_takeSample_35 : decode nc_Ke_takeSample 35 = .ok (.iconst 2, 1) := by decide +kernel
theorem nd_Ke_takeSample_36 : decode nc_Ke_takeSample 36 = .ok (.iaload, 1) := by decide +kernel
theorem nd_Ke_takeSample_37 : decode nc_Ke_takeSample 37 = .ok (.istore 5, 2) := by decide +kernel
theorem nd_Ke_takeSample_39 : decode nc_Ke_takeSample 39 = .ok (.aload_n 0, 1) := by decide +kernel
theorem nd_Ke_takeSample_40 : decode nc_Ke_takeSample 40 = .ok (.getfield 9, 3) := by decide +kernel
theorem nd_Ke_takeSample_43 : decode nc_Ke_takeSample 43 = .ok (.iload 5, 2) := by decide +kernel
theorem nd_Ke_takeSample_45 : decode nc_Ke_takeSample 45 = .ok (.iconst 4, 1) := by decide +kernel
theorem nd_Ke_takeSample_46 : decode nc_Ke_takeSample 46 = .ok (.iadd, 1) := by decide +kernel
theorem nd_Ke_takeSample_47 : decode nc_Ke_takeSample 47 = .ok (.invokevirtual 57, 3) := by decide +kernel
theorem nd_Ke_takeSample_50 : decode nc_Ke_takeSample 50 = .ok (.iconst 1, 1) := by decide +kernel
theorem nd_Ke_takeSample_51 : decode nc_Ke_takeSample 51 = .ok (.iadd, 1) := by decide +kernel
theorem nd_Ke_takeSample_52 : decode nc_Ke_takeSample 52 = .ok (.istore 6, 2) := by decide +kernel
theorem nd_Ke_takeSample_54 : decode nc_Ke_takeSample 54 = .ok (.aload_n 0, 1) := by decide +kernel
theorem nd_Ke_takeSample_55 : decode nc_Ke_takeSample 55 = .ok (.getfield 9, 3) := by decide +kernel
theorem nd_Ke_takeSample_58 : decode nc_Ke_takeSample 58 = .ok (.iload 5, 2) := by decide +kernel
theorem nd_Ke_takeSample_60 : decode nc_Ke_takeSample 60 = .ok (.iconst 0, 1) := by decide +kernel
theorem nd_Ke_takeSample_61 : decode nc_Ke_takeSample 61 = .ok (.invokevirtual 63, 3) := by decide +kernel
theorem nd_Ke_takeSample_64 : decode nc_Ke_takeSample 64 = .ok (.aload_n 0, 1) := by decide +kernel
theorem nd_Ke_takeSample_65 : decode nc_Ke_takeSample 65 = .ok (.getfield 9, 3) := by decide +kernel
theorem nd_Ke_takeSample_68 : decode nc_Ke_takeSample 68 = .ok (.iload 5, 2) := by decide +kernel
theorem nd_Ke_takeSample_70 : decode nc_Ke_takeSample 70 = .ok (.iconst 4, 1) := by decide +kernel
theorem nd_Ke_takeSample_71 : decode nc_Ke_takeSample 71 = .ok (.iadd, 1) := by decide +kernel
theorem nd_Ke_takeSample_72 : decode nc_Ke_takeSample 72 = .ok (.iload 6, 2) := by decide +kernel
theorem nd_Ke_takeSample_74 : decode nc_Ke_takeSample 74 = .ok (.invokevirtual 63, 3) := by decide +kernel
theorem nd_Ke_takeSample_77 : decode nc_Ke_takeSample 77 = .ok (.aload_n 0, 1) := by decide +kernel
theorem nd_Ke_takeSample_78 : decode nc_Ke_takeSample 78 = .ok (.aload 4, 2) := by decide +kernel
theorem nd_Ke_takeSample_80 : decode nc_Ke_takeSample 80 = .ok (.iconst 2, 1) := by decide +kernel
theorem nd_Ke_takeSample_81 : decode nc_Ke_takeSample 81 = .ok (.iload_n 1, 1) := by decide +kernel
theorem nd_Ke_takeSample_82 : decode nc_Ke_takeSample 82 = .ok (.iload 6, 2) := by decide +kernel
theorem nd_Ke_takeSample_84 : decode nc_Ke_takeSample 84 = .ok (.invokevirtual 67, 3) := by decide +kernel
theorem nd_Ke_takeSample_87 : decode nc_Ke_takeSample 87 = .ok (.iinc 2 1, 3) := by decide +kernel
theorem nd_Ke_takeSample_90 : decode nc_Ke_takeSample 90 = .ok (.iinc 3 1, 3) := by decide +kernel
theorem nd_Ke_takeSample_93 : decode nc_Ke_takeSample 93 = .ok (.goto (-89), 3) := by decide +kernel
theorem nd_Ke_takeSample_96 : decode nc_Ke_takeSample 96 = .ok (.iload_n 2, 1) := by decide +kernel
theorem nd_Ke_takeSample_97 : decode nc_Ke_takeSample 97 = .ok (.ireturn, 1) := by decide +kernel
theorem nd_Ke_waitForUpcall_0 : decode nc_Ke_waitForUpcall 0 = .ok (.aload_n 1, 1) := by decide +kernel
theorem nd_Ke_waitForUpcall_1 : decode nc_Ke_waitForUpcall 1 = .ok (.getfield 45, 3) := by decide +kernel
theorem nd_Ke_waitForUpcall_4 : decode nc_Ke_waitForUpcall 4 = .ok (.getfield 71, 3) := by decide +kernel
theorem nd_Ke_waitForUpcall_7 : decode nc_Ke_waitForUpcall 7 = .ok (.astore_n 2, 1) := by decide +kernel
theorem nd_Ke_waitForUpcall_8 : decode nc_Ke_waitForUpcall 8 = .ok (.aload_n 1, 1) := by decide +kernel
theorem nd_Ke_waitForUpcall_9 : decode nc_Ke_waitForUpcall 9 = .ok (.iconst 1, 1) := by decide +kernel
theorem nd_Ke_waitForUpcall_10 : decode nc_Ke_waitForUpcall 10 = .ok (.putfield 75, 3) := by decide +kernel
theorem nd_Ke_waitForUpcall_13 : decode nc_Ke_waitForUpcall 13 = .ok (.aload_n 2, 1) := by decide +kernel
theorem nd_Ke_waitForUpcall_14 : decode nc_Ke_waitForUpcall 14 = .ok (.getfield 78, 3) := by decide +kernel
theorem nd_Ke_waitForUpcall_17 : decode nc_Ke_waitForUpcall 17 = .ok (.ifCond .le 40, 3) := by decide +kernel
theorem nd_Ke_waitForUpcall_20 : decode nc_Ke_waitForUpcall 20 = .ok (.aload_n 2, 1) := by decide +kernel
theorem nd_Ke_waitForUpcall_21 : decode nc_Ke_waitForUpcall 21 = .ok (.getfield 83, 3) := by decide +kernel
theorem nd_Ke_waitForUpcall_24 : decode nc_Ke_waitForUpcall 24 = .ok (.iconst 0, 1) := by decide +kernel
theorem nd_Ke_waitForUpcall_25 : decode nc_Ke_waitForUpcall 25 = .ok (.iaload, 1) := by decide +kernel
theorem nd_Ke_waitForUpcall_26 : decode nc_Ke_waitForUpcall 26 = .ok (.istore_n 3, 1) := by decide +kernel
theorem nd_Ke_waitForUpcall_27 : decode nc_Ke_waitForUpcall 27 = .ok (.aload_n 2, 1) := by decide +kernel
theorem nd_Ke_waitForUpcall_28 : decode nc_Ke_waitForUpcall 28 = .ok (.getfield 86, 3) := by decide +kernel
theorem nd_Ke_waitForUpcall_31 : decode nc_Ke_waitForUpcall 31 = .ok (.iconst 0, 1) := by decide +kernel
theorem nd_Ke_waitForUpcall_32 : decode nc_Ke_waitForUpcall 32 = .ok (.iaload, 1) := by decide +kernel
theorem nd_Ke_waitForUpcall_33 : decode nc_Ke_waitForUpcall 33 = .ok (.istore 4, 2) := by decide +kernel
theorem nd_Ke_waitForUpcall_35 : decode nc_Ke_waitForUpcall 35 = .ok (.aload_n 2, 1) := by decide +kernel
theorem nd_Ke_waitForUpcall_36 : decode nc_Ke_waitForUpcall 36 = .ok (.getfield 89, 3) := by decide +kernel
theorem nd_Ke_waitForUpcall_39 : decode nc_Ke_waitForUpcall 39 = .ok (.iconst 0, 1) := by decide +kernel
theorem nd_Ke_waitForUpcall_40 : decode nc_Ke_waitForUpcall 40 = .ok (.iaload, 1) := by decide +kernel
theorem nd_Ke_waitForUpcall_41 : decode nc_Ke_waitForUpcall 41 = .ok (.istore 5, 2) := by decide +kernel
theorem nd_Ke_waitForUpcall_43 : decode nc_Ke_waitForUpcall 43 = .ok (.aload_n 2, 1) := by decide +kernel
theorem nd_Ke_waitForUpcall_44 : decode nc_Ke_waitForUpcall 44 = .ok (.invokevirtual 92, 3) := by decide +kernel
theorem nd_Ke_waitForUpcall_47 : decode nc_Ke_waitForUpcall 47 = .ok (.aload_n 0, 1) := by decide +kernel
theorem nd_Ke_waitForUpcall_48 : decode nc_Ke_waitForUpcall 48 = .ok (.aload_n 1, 1) := by decide +kernel
theorem nd_Ke_waitForUpcall_49 : decode nc_Ke_waitForUpcall 49 = .ok (.iload_n 3, 1) := by decide +kernel
theorem nd_Ke_waitForUpcall_50 : decode nc_Ke_waitForUpcall 50 = .ok (.iload 4, 2) := by decide +kernel
theorem nd_Ke_waitForUpcall_52 : decode nc_Ke_waitForUpcall 52 = .ok (.iload 5, 2) := by decide +kernel
theorem nd_Ke_waitForUpcall_54 : decode nc_Ke_waitForUpcall 54 = .ok (.invokevirtual 67, 3) := by decide +kernel
theorem nd_Ke_waitForUpcall_57 : decode nc_Ke_waitForUpcall 57 = .ok (.return_, 1) := by decide +kernel
theorem nd_Ke_answer_0 : decode nc_Ke_answer 0 = .ok (.aload_n 1, 1) := by decide +kernel
theorem nd_Ke_answer_1 : decode nc_Ke_answer 1 = .ok (.getfield 95, 3) := by decide +kernel
theorem nd_Ke_answer_4 : decode nc_Ke_answer 4 = .ok (.iconst 0, 1) := by decide +kernel
theorem nd_Ke_answer_5 : decode nc_Ke_answer 5 = .ok (.iaload, 1) := by decide +kernel
theorem nd_Ke_answer_6 : decode nc_Ke_answer 6 = .ok (.istore_n 3, 1) := by decide +kernel
theorem nd_Ke_answer_7 : decode nc_Ke_answer 7 = .ok (.aload_n 1, 1) := by decide +kernel
theorem nd_Ke_answer_8 : decode nc_Ke_answer 8 = .ok (.getfield 95, 3) := by decide +kernel
theorem nd_Ke_answer_11 : decode nc_Ke_answer 11 = .ok (.iconst 1, 1) := by decide +kernel
theorem nd_Ke_answer_12 : decode nc_Ke_answer 12 = .ok (.iaload, 1) := by decide +kernel
theorem nd_Ke_answer_13 : decode nc_Ke_answer 13 = .ok (.istore 4, 2) := by decide +kernel
theorem nd_Ke_answer_15 : decode nc_Ke_answer 15 = .ok (.aload_n 1, 1) := by decide +kernel
theorem nd_Ke_answer_16 : decode nc_Ke_answer 16 = .ok (.getfield 95, 3) := by decide +kernel
theorem nd_Ke_answer_19 : decode nc_Ke_answer 19 = .ok (.iconst 2, 1) := by decide +kernel
theorem nd_Ke_answer_20 : decode nc_Ke_answer 20 = .ok (.iaload, 1) := by decide +kernel
theorem nd_Ke_answer_21 : decode nc_Ke_answer 21 = .ok (.istore 5, 2) := by decide +kernel
theorem nd_Ke_answer_23 : decode nc_Ke_answer 23 = .ok (.iload_n 2, 1) := by decide +kernel
theorem nd_Ke_answer_24 : decode nc_Ke_answer 24 = .ok (.iconst 1, 1) := by decide +kernel
theorem nd_Ke_answer_25 : decode nc_Ke_answer 25 = .ok (.if_icmp .lt 8, 3) := by decide +kernel
theorem nd_Ke_answer_28 : decode nc_Ke_answer 28 = .ok (.iload_n 2, 1) := by decide +kernel
theorem nd_Ke_answer_29 : decode nc_Ke_answer 29 = .ok (.iconst 3, 1) := by decide +kernel
theorem nd_Ke_answer_30 : decode nc_Ke_answer 30 = .ok (.if_icmp .le 5, 3) := by decide +kernel
theorem nd_Ke_answer_33 : decode nc_Ke_answer 33 = .ok (.iconst (-1), 1) := by decide +kernel
theorem nd_Ke_answer_34 : decode nc_Ke_answer 34 = .ok (.ireturn, 1) := by decide +kernel
theorem nd_Ke_answer_35 : decode nc_Ke_answer 35 = .ok (.iload_n 3, 1) := by decide +kernel
theorem nd_Ke_answer_36 : decode nc_Ke_answer 36 = .ok (.ifCond .lt 8, 3) := by decide +kernel
theorem nd_Ke_answer_39 : decode nc_Ke_answer 39 = .ok (.iload_n 3, 1) := by decide +kernel
theorem nd_Ke_answer_40 : decode nc_Ke_answer 40 = .ok (.iconst 3, 1) := by decide +kernel
theorem nd_Ke_answer_41 : decode nc_Ke_answer 41 = .ok (.if_icmp .lt 6, 3) := by decide +kernel
theorem nd_Ke_answer_44 : decode nc_Ke_answer 44 = .ok (.bipush (-2), 2) := by decide +kernel
theorem nd_Ke_answer_46 : decode nc_Ke_answer 46 = .ok (.ireturn, 1) := by decide +kernel
theorem nd_Ke_answer_47 : decode nc_Ke_answer 47 = .ok (.aload_n 1, 1) := by decide +kernel
theorem nd_Ke_answer_48 : decode nc_Ke_answer 48 = .ok (.getfield 45, 3) := by decide +kernel
theorem nd_Ke_answer_51 : decode nc_Ke_answer 51 = .ok (.iload_n 3, 1) := by decide +kernel
theorem nd_Ke_answer_52 : decode nc_Ke_answer 52 = .ok (.invokevirtual 98, 3) := by decide +kernel
theorem nd_Ke_answer_55 : decode nc_Ke_answer 55 = .ok (.ifCond .ne 15, 3) := by decide +kernel
theorem nd_Ke_answer_58 : decode nc_Ke_answer 58 = .ok (.aload_n 0, 1) := by decide +kernel
theorem nd_Ke_answer_59 : decode nc_Ke_answer 59 = .ok (.aload_n 1, 1) := by decide +kernel
theorem nd_Ke_answer_60 : decode nc_Ke_answer 60 = .ok (.iload_n 3, 1) := by decide +kernel
theorem nd_Ke_answer_61 : decode nc_Ke_answer 61 = .ok (.invokevirtual 101, 3) := by decide +kernel
theorem nd_Ke_answer_64 : decode nc_Ke_answer 64 = .ok (.ifCond .ne 6, 3) := by decide +kernel
theorem nd_Ke_answer_67 : decode nc_Ke_answer 67 = .ok (.bipush (-4), 2) := by decide +kernel
theorem nd_Ke_answer_69 : decode nc_Ke_answer 69 = .ok (.ireturn, 1) := by decide +kernel
theorem nd_Ke_answer_70 : decode nc_Ke_answer 70 = .ok (.iload_n 2, 1) := by decide +kernel
theorem nd_Ke_answer_71 : decode nc_Ke_answer 71 = .ok (.iconst 1, 1) := by decide +kernel
theorem nd_Ke_answer_72 : decode nc_Ke_answer 72 = .ok (.if_icmp .ne 17, 3) := by decide +kernel
theorem nd_Ke_answer_75 : decode nc_Ke_answer 75 = .ok (.aload_n 0, 1) := by decide +kernel
theorem nd_Ke_answer_76 : decode nc_Ke_answer 76 = .ok (.aload_n 1, 1) := by decide +kernel
theorem nd_Ke_answer_77 : decode nc_Ke_answer 77 = .ok (.getfield 45, 3) := by decide +kernel
theorem nd_Ke_answer_80 : decode nc_Ke_answer 80 = .ok (.iload_n 3, 1) := by decide +kernel
theorem nd_Ke_answer_81 : decode nc_Ke_answer 81 = .ok (.iload 4, 2) := by decide +kernel
theorem nd_Ke_answer_83 : decode nc_Ke_answer 83 = .ok (.iload 5, 2) := by decide +kernel
theorem nd_Ke_answer_85 : decode nc_Ke_answer 85 = .ok (.invokevirtual 104, 3) := by decide +kernel
theorem nd_Ke_answer_88 : decode nc_Ke_answer 88 = .ok (.ireturn, 1) := by decide +kernel
theorem nd_Ke_answer_89 : decode nc_Ke_answer 89 = .ok (.iload_n 2, 1) := by decide +kernel
theorem nd_Ke_answer_90 : decode nc_Ke_answer 90 = .ok (.iconst 3, 1) := by decide +kernel
theorem nd_Ke_answer_91 : decode nc_Ke_answer 91 = .ok (.if_icmp .ne 14, 3) := by decide +kernel
theorem nd_Ke_answer_94 : decode nc_Ke_answer 94 = .ok (.aload_n 0, 1) := by decide +kernel
theorem nd_Ke_answer_95 : decode nc_Ke_answer 95 = .ok (.aload_n 1, 1) := by decide +kernel
theorem nd_Ke_answer_96 : decode nc_Ke_answer 96 = .ok (.iload_n 3, 1) := by decide +kernel
theorem nd_Ke_answer_97 : decode nc_Ke_answer 97 = .ok (.iload 4, 2) := by decide +kernel
theorem nd_Ke_answer_99 : decode nc_Ke_answer 99 = .ok (.iload 5, 2) := by decide +kernel
theorem nd_Ke_answer_101 : decode nc_Ke_answer 101 = .ok (.invokevirtual 108, 3) := by decide +kernel
theorem nd_Ke_answer_104 : decode nc_Ke_answer 104 = .ok (.ireturn, 1) := by decide +kernel
theorem nd_Ke_answer_105 : decode nc_Ke_answer 105 = .ok (.iload 4, 2) := by decide +kernel
theorem nd_Ke_answer_107 : decode nc_Ke_answer 107 = .ok (.ifCond .ne 5, 3) := by decide +kernel
theorem nd_Ke_answer_110 : decode nc_Ke_answer 110 = .ok (.iconst 0, 1) := by decide +kernel
theorem nd_Ke_answer_111 : decode nc_Ke_answer 111 = .ok (.ireturn, 1) := by decide +kernel
theorem nd_Ke_answer_112 : decode nc_Ke_answer 112 = .ok (.iload_n 3, 1) := by decide +kernel
theorem nd_Ke_answer_113 : decode nc_Ke_answer 113 = .ok (.lookupswitch 47 #[(0, 27), (1, 37)], 27) := by decide +kernel
theorem nd_Ke_answer_140 : decode nc_Ke_answer 140 = .ok (.aload_n 0, 1) := by decide +kernel
theorem nd_Ke_answer_141 : decode nc_Ke_answer 141 = .ok (.aload_n 1, 1) := by decide +kernel
theorem nd_Ke_answer_142 : decode nc_Ke_answer 142 = .ok (.iload 4, 2) := by decide +kernel
theorem nd_Ke_answer_144 : decode nc_Ke_answer 144 = .ok (.iload 5, 2) := by decide +kernel
theorem nd_Ke_answer_146 : decode nc_Ke_answer 146 = .ok (.invokevirtual 112, 3) := by decide +kernel
theorem nd_Ke_answer_149 : decode nc_Ke_answer 149 = .ok (.ireturn, 1) := by decide +kernel
theorem nd_Ke_answer_150 : decode nc_Ke_answer 150 = .ok (.aload_n 0, 1) := by decide +kernel
theorem nd_Ke_answer_151 : decode nc_Ke_answer 151 = .ok (.aload_n 1, 1) := by decide +kernel
theorem nd_Ke_answer_152 : decode nc_Ke_answer 152 = .ok (.iload 4, 2) := by decide +kernel
theorem nd_Ke_answer_154 : decode nc_Ke_answer 154 = .ok (.iload 5, 2) := by decide +kernel
theorem nd_Ke_answer_156 : decode nc_Ke_answer 156 = .ok (.invokevirtual 116, 3) := by decide +kernel
theorem nd_Ke_answer_159 : decode nc_Ke_answer 159 = .ok (.ireturn, 1) := by decide +kernel
theorem nd_Ke_answer_160 : decode nc_Ke_answer 160 = .ok (.aload_n 0, 1) := by decide +kernel
theorem nd_Ke_answer_161 : decode nc_Ke_answer 161 = .ok (.aload_n 1, 1) := by decide +kernel
theorem nd_Ke_answer_162 : decode nc_Ke_answer 162 = .ok (.iload 4, 2) := by decide +kernel
theorem nd_Ke_answer_164 : decode nc_Ke_answer 164 = .ok (.invokevirtual 119, 3) := by decide +kernel
theorem nd_Ke_answer_167 : decode nc_Ke_answer 167 = .ok (.ireturn, 1) := by decide +kernel
theorem nd_Ke_makeGrant_0 : decode nc_Ke_makeGrant 0 = .ok (.aload_n 1, 1) := by decide +kernel
theorem nd_Ke_makeGrant_1 : decode nc_Ke_makeGrant 1 = .ok (.getfield 45, 3) := by decide +kernel
theorem nd_Ke_makeGrant_4 : decode nc_Ke_makeGrant 4 = .ok (.astore_n 3, 1) := by decide +kernel
theorem nd_Ke_makeGrant_5 : decode nc_Ke_makeGrant 5 = .ok (.aload_n 3, 1) := by decide +kernel
theorem nd_Ke_makeGrant_6 : decode nc_Ke_makeGrant 6 = .ok (.getfield 123, 3) := by decide +kernel
theorem nd_Ke_makeGrant_9 : decode nc_Ke_makeGrant 9 = .ok (.iconst 2, 1) := by decide +kernel
theorem nd_Ke_makeGrant_10 : decode nc_Ke_makeGrant 10 = .ok (.iadd, 1) := by decide +kernel
theorem nd_Ke_makeGrant_11 : decode nc_Ke_makeGrant 11 = .ok (.istore 4, 2) := by decide +kernel
theorem nd_Ke_makeGrant_13 : decode nc_Ke_makeGrant 13 = .ok (.aload_n 1, 1) := by decide +kernel
theorem nd_Ke_makeGrant_14 : decode nc_Ke_makeGrant 14 = .ok (.iload 4, 2) := by decide +kernel
theorem nd_Ke_makeGrant_16 : decode nc_Ke_makeGrant 16 = .ok (.invokevirtual 126, 3) := by decide +kernel
theorem nd_Ke_makeGrant_19 : decode nc_Ke_makeGrant 19 = .ok (.istore 5, 2) := by decide +kernel
theorem nd_Ke_makeGrant_21 : decode nc_Ke_makeGrant 21 = .ok (.iload 5, 2) := by decide +kernel
theorem nd_Ke_makeGrant_23 : decode nc_Ke_makeGrant 23 = .ok (.aload_n 1, 1) := by decide +kernel
theorem nd_Ke_makeGrant_24 : decode nc_Ke_makeGrant 24 = .ok (.getfield 129, 3) := by decide +kernel
theorem nd_Ke_makeGrant_27 : decode nc_Ke_makeGrant 27 = .ok (.if_icmp .lt 19, 3) := by decide +kernel
theorem nd_Ke_makeGrant_30 : decode nc_Ke_makeGrant 30 = .ok (.aload_n 3, 1) := by decide +kernel
theorem nd_Ke_makeGrant_31 : decode nc_Ke_makeGrant 31 = .ok (.aload_n 1, 1) := by decide +kernel
theorem nd_Ke_makeGrant_32 : decode nc_Ke_makeGrant 32 = .ok (.getfield 132, 3) := by decide +kernel
theorem nd_Ke_makeGrant_35 : decode nc_Ke_makeGrant 35 = .ok (.iconst 4, 1) := by decide +kernel
theorem nd_Ke_makeGrant_36 : decode nc_Ke_makeGrant 36 = .ok (.iload 5, 2) := by decide +kernel
theorem nd_Ke_makeGrant_38 : decode nc_Ke_makeGrant 38 = .ok (.imul, 1) := by decide +kernel
theorem nd_Ke_makeGrant_39 : decode nc_Ke_makeGrant 39 = .ok (.iadd, 1) := by decide +kernel
theorem nd_Ke_makeGrant_40 : decode nc_Ke_makeGrant 40 = .ok (.invokevirtual 135, 3) := by decide +kernel
theorem nd_Ke_makeGrant_43 : decode nc_Ke_makeGrant 43 = .ok (.ifCond .ne 5, 3) := by decide +kernel
theorem nd_Ke_makeGrant_46 : decode nc_Ke_makeGrant 46 = .ok (.iconst 0, 1) := by decide +kernel
theorem nd_Ke_makeGrant_47 : decode nc_Ke_makeGrant 47 = .ok (.ireturn, 1) := by decide +kernel
theorem nd_Ke_makeGrant_48 : decode nc_Ke_makeGrant 48 = .ok (.aload_n 1, 1) := by decide +kernel
theorem nd_Ke_makeGrant_49 : decode nc_Ke_makeGrant 49 = .ok (.getfield 132, 3) := by decide +kernel
theorem nd_Ke_makeGrant_52 : decode nc_Ke_makeGrant 52 = .ok (.iconst 4, 1) := by decide +kernel
theorem nd_Ke_makeGrant_53 : decode nc_Ke_makeGrant 53 = .ok (.aload_n 1, 1) := by decide +kernel
theorem nd_Ke_makeGrant_54 : decode nc_Ke_makeGrant 54 = .ok (.getfield 138, 3) := by decide +kernel
theorem nd_Ke_makeGrant_57 : decode nc_Ke_makeGrant 57 = .ok (.iload 4, 2) := by decide +kernel
theorem nd_Ke_makeGrant_59 : decode nc_Ke_makeGrant 59 = .ok (.isub, 1) := by decide +kernel
theorem nd_Ke_makeGrant_60 : decode nc_Ke_makeGrant 60 = .ok (.imul, 1) := by decide +kernel
theorem nd_Ke_makeGrant_61 : decode nc_Ke_makeGrant 61 = .ok (.iadd, 1) := by decide +kernel
theorem nd_Ke_makeGrant_62 : decode nc_Ke_makeGrant 62 = .ok (.istore 6, 2) := by decide +kernel
theorem nd_Ke_makeGrant_64 : decode nc_Ke_makeGrant 64 = .ok (.aload_n 1, 1) := by decide +kernel
theorem nd_Ke_makeGrant_65 : decode nc_Ke_makeGrant 65 = .ok (.iload 5, 2) := by decide +kernel
theorem nd_Ke_makeGrant_67 : decode nc_Ke_makeGrant 67 = .ok (.putfield 141, 3) := by decide +kernel
theorem nd_Ke_makeGrant_70 : decode nc_Ke_makeGrant 70 = .ok (.aload_n 3, 1) := by decide +kernel
theorem nd_Ke_makeGrant_71 : decode nc_Ke_makeGrant 71 = .ok (.iload 4, 2) := by decide +kernel
theorem nd_Ke_makeGrant_73 : decode nc_Ke_makeGrant 73 = .ok (.putfield 123, 3) := by decide +kernel
theorem nd_Ke_makeGrant_76 : decode nc_Ke_makeGrant 76 = .ok (.aload_n 3, 1) := by decide +kernel
theorem nd_Ke_makeGrant_77 : decode nc_Ke_makeGrant 77 = .ok (.getfield 51, 3) := by decide +kernel
theorem nd_Ke_makeGrant_80 : decode nc_Ke_makeGrant 80 = .ok (.iload_n 2, 1) := by decide +kernel
theorem nd_Ke_makeGrant_81 : decode nc_Ke_makeGrant 81 = .ok (.iload 6, 2) := by decide +kernel
theorem nd_Ke_makeGrant_83 : decode nc_Ke_makeGrant 83 = .ok (.iastore, 1) := by decide +kernel
theorem nd_Ke_makeGrant_84 : decode nc_Ke_makeGrant 84 = .ok (.aload_n 0, 1) := by decide +kernel
theorem nd_Ke_makeGrant_85 : decode nc_Ke_makeGrant 85 = .ok (.getfield 9, 3) := by decide +kernel
theorem nd_Ke_makeGrant_88 : decode nc_Ke_makeGrant 88 = .ok (.iload 6, 2) := by decide +kernel
theorem nd_Ke_makeGrant_90 : decode nc_Ke_makeGrant 90 = .ok (.iconst 2, 1) := by decide +kernel
theorem nd_Ke_makeGrant_91 : decode nc_Ke_makeGrant 91 = .ok (.invokevirtual 144, 3) := by decide +kernel
theorem nd_Ke_makeGrant_94 : decode nc_Ke_makeGrant 94 = .ok (.iconst 1, 1) := by decide +kernel
theorem nd_Ke_makeGrant_95 : decode nc_Ke_makeGrant 95 = .ok (.ireturn, 1) := by decide +kernel
theorem nd_Ke_subscribe_0 : decode nc_Ke_subscribe 0 = .ok (.aload_n 1, 1) := by decide +kernel
theorem nd_Ke_subscribe_1 : decode nc_Ke_subscribe 1 = .ok (.getfield 147, 3) := by decide +kernel
theorem nd_Ke_subscribe_4 : decode nc_Ke_subscribe 4 = .ok (.iload_n 2, 1) := by decide +kernel
theorem nd_Ke_subscribe_5 : decode nc_Ke_subscribe 5 = .ok (.iload_n 3, 1) := by decide +kernel
theorem nd_Ke_subscribe_6 : decode nc_Ke_subscribe 6 = .ok (.iastore, 1) := by decide +kernel
theorem nd_Ke_subscribe_7 : decode nc_Ke_subscribe 7 = .ok (.aload_n 1, 1) := by decide +kernel
theorem nd_Ke_subscribe_8 : decode nc_Ke_subscribe 8 = .ok (.getfield 150, 3) := by decide +kernel
theorem nd_Ke_subscribe_11 : decode nc_Ke_subscribe 11 = .ok (.iload_n 2, 1) := by decide +kernel
theorem nd_Ke_subscribe_12 : decode nc_Ke_subscribe 12 = .ok (.iload 4, 2) := by decide +kernel
theorem nd_Ke_subscribe_14 : decode nc_Ke_subscribe 14 = .ok (.iastore, 1) := by decide +kernel
theorem nd_Ke_subscribe_15 : decode nc_Ke_subscribe 15 = .ok (.aload_n 1, 1) := by decide +kernel
theorem nd_Ke_subscribe_16 : decode nc_Ke_subscribe 16 = .ok (.getfield 71, 3) := by decide +kernel
theorem nd_Ke_subscribe_19 : decode nc_Ke_subscribe 19 = .ok (.iload_n 2, 1) := by decide +kernel
theorem nd_Ke_subscribe_20 : decode nc_Ke_subscribe 20 = .ok (.invokevirtual 153, 3) := by decide +kernel
theorem nd_Ke_subscribe_23 : decode nc_Ke_subscribe 23 = .ok (.iconst 0, 1) := by decide +kernel
theorem nd_Ke_subscribe_24 : decode nc_Ke_subscribe 24 = .ok (.ireturn, 1) := by decide +kernel
theorem nd_Ke_allow_0 : decode nc_Ke_allow 0 = .ok (.iload_n 3, 1) := by decide +kernel
theorem nd_Ke_allow_1 : decode nc_Ke_allow 1 = .ok (.iconst 3, 1) := by decide +kernel
theorem nd_Ke_allow_2 : decode nc_Ke_allow 2 = .ok (.iand, 1) := by decide +kernel
theorem nd_Ke_allow_3 : decode nc_Ke_allow 3 = .ok (.ifCond .ne 7, 3) := by decide +kernel
theorem nd_Ke_allow_6 : decode nc_Ke_allow 6 = .ok (.iconst 1, 1) := by decide +kernel
theorem nd_Ke_allow_7 : decode nc_Ke_allow 7 = .ok (.goto 4, 3) := by decide +kernel
theorem nd_Ke_allow_10 : decode nc_Ke_allow 10 = .ok (.iconst 0, 1) := by decide +kernel
theorem nd_Ke_allow_11 : decode nc_Ke_allow 11 = .ok (.istore 5, 2) := by decide +kernel
theorem nd_Ke_allow_13 : decode nc_Ke_allow 13 = .ok (.iload 4, 2) := by decide +kernel
theorem nd_Ke_allow_15 : decode nc_Ke_allow 15 = .ok (.ifCond .lt 23, 3) := by decide +kernel
theorem nd_Ke_allow_18 : decode nc_Ke_allow 18 = .ok (.iload 4, 2) := by decide +kernel
theorem nd_Ke_allow_20 : decode nc_Ke_allow 20 = .ok (.ifCond .le 21, 3) := by decide +kernel
theorem nd_Ke_allow_23 : decode nc_Ke_allow 23 = .ok (.iload 5, 2) := by decide +kernel
theorem nd_Ke_allow_25 : decode nc_Ke_allow 25 = .ok (.ifCond .eq 13, 3) := by decide +kernel
theorem nd_Ke_allow_28 : decode nc_Ke_allow 28 = .ok (.aload_n 1, 1) := by decide +kernel
theorem nd_Ke_allow_29 : decode nc_Ke_allow 29 = .ok (.iload_n 3, 1) := by decide +kernel
theorem nd_Ke_allow_30 : decode nc_Ke_allow 30 = .ok (.iload 4, 2) := by decide +kernel
theorem nd_Ke_allow_32 : decode nc_Ke_allow 32 = .ok (.invokevirtual 157, 3) := by decide +kernel
theorem nd_Ke_allow_35 : decode nc_Ke_allow 35 = .ok (.ifCond .ne 6, 3) := by decide +kernel
theorem nd_Ke_allow_38 : decode nc_Ke_allow 38 = .ok (.bipush (-3), 2) := by decide +kernel
theorem nd_Ke_allow_40 : decode nc_Ke_allow 40 = .ok (.ireturn, 1) := by decide +kernel
theorem nd_Ke_allow_41 : decode nc_Ke_allow 41 = .ok (.aload_n 1, 1) := by decide +kernel
theorem nd_Ke_allow_42 : decode nc_Ke_allow 42 = .ok (.getfield 45, 3) := by decide +kernel
theorem nd_Ke_allow_45 : decode nc_Ke_allow 45 = .ok (.getfield 161, 3) := by decide +kernel
theorem nd_Ke_allow_48 : decode nc_Ke_allow 48 = .ok (.iload_n 2, 1) := by decide +kernel
theorem nd_Ke_allow_49 : decode nc_Ke_allow 49 = .ok (.iload_n 3, 1) := by decide +kernel
theorem nd_Ke_allow_50 : decode nc_Ke_allow 50 = .ok (.iastore, 1) := by decide +kernel
theorem nd_Ke_allow_51 : decode nc_Ke_allow 51 = .ok (.aload_n 1, 1) := by decide +kernel
theorem nd_Ke_allow_52 : decode nc_Ke_allow 52 = .ok (.getfield 45, 3) := by decide +kernel
theorem nd_Ke_allow_55 : decode nc_Ke_allow 55 = .ok (.getfield 164, 3) := by decide +kernel
theorem nd_Ke_allow_58 : decode nc_Ke_allow 58 = .ok (.iload_n 2, 1) := by decide +kernel
theorem nd_Ke_allow_59 : decode nc_Ke_allow 59 = .ok (.iload 4, 2) := by decide +kernel
theorem nd_Ke_allow_61 : decode nc_Ke_allow 61 = .ok (.iastore, 1) := by decide +kernel
theorem nd_Ke_allow_62 : decode nc_Ke_allow 62 = .ok (.iconst 0, 1) := by decide +kernel
theorem nd_Ke_allow_63 : decode nc_Ke_allow 63 = .ok (.ireturn, 1) := by decide +kernel
theorem nd_Ke_commandAlarm_0 : decode nc_Ke_commandAlarm 0 = .ok (.aload_n 1, 1) := by decide +kernel
theorem nd_Ke_commandAlarm_1 : decode nc_Ke_commandAlarm 1 = .ok (.getfield 45, 3) := by decide +kernel
theorem nd_Ke_commandAlarm_4 : decode nc_Ke_commandAlarm 4 = .ok (.getfield 51, 3) := by decide +kernel
theorem nd_Ke_commandAlarm_7 : decode nc_Ke_commandAlarm 7 = .ok (.iconst 0, 1) := by decide +kernel
theorem nd_Ke_commandAlarm_8 : decode nc_Ke_commandAlarm 8 = .ok (.iaload, 1) := by decide +kernel
theorem nd_Ke_commandAlarm_9 : decode nc_Ke_commandAlarm 9 = .ok (.istore 4, 2) := by decide +kernel
theorem nd_Ke_commandAlarm_11 : decode nc_Ke_commandAlarm 11 = .ok (.iload_n 2, 1) := by decide +kernel
theorem nd_Ke_commandAlarm_12 : decode nc_Ke_commandAlarm 12 = .ok (.tableswitch 48 1 3 #[28, 36, 43], 28) := by decide +kernel
theorem nd_Ke_commandAlarm_40 : decode nc_Ke_commandAlarm 40 = .ok (.aload_n 0, 1) := by decide +kernel
theorem nd_Ke_commandAlarm_41 : decode nc_Ke_commandAlarm 41 = .ok (.iload 4, 2) := by decide +kernel
theorem nd_Ke_commandAlarm_43 : decode nc_Ke_commandAlarm 43 = .ok (.iload_n 3, 1) := by decide +kernel
theorem nd_Ke_commandAlarm_44 : decode nc_Ke_commandAlarm 44 = .ok (.invokevirtual 167, 3) := by decide +kernel
theorem nd_Ke_commandAlarm_47 : decode nc_Ke_commandAlarm 47 = .ok (.ireturn, 1) := by decide +kernel
theorem nd_Ke_commandAlarm_48 : decode nc_Ke_commandAlarm 48 = .ok (.aload_n 0, 1) := by decide +kernel
theorem nd_Ke_commandAlarm_49 : decode nc_Ke_commandAlarm 49 = .ok (.iload 4, 2) := by decide +kernel
theorem nd_Ke_commandAlarm_51 : decode nc_Ke_commandAlarm 51 = .ok (.invokevirtual 171, 3) := by decide +kernel
theorem nd_Ke_commandAlarm_54 : decode nc_Ke_commandAlarm 54 = .ok (.ireturn, 1) := by decide +kernel
theorem nd_Ke_commandAlarm_55 : decode nc_Ke_commandAlarm 55 = .ok (.aload_n 0, 1) := by decide +kernel
theorem nd_Ke_commandAlarm_56 : decode nc_Ke_commandAlarm 56 = .ok (.getfield 23, 3) := by decide +kernel
theorem nd_Ke_commandAlarm_59 : decode nc_Ke_commandAlarm 59 = .ok (.ireturn, 1) := by decide +kernel
theorem nd_Ke_commandAlarm_60 : decode nc_Ke_commandAlarm 60 = .ok (.iconst (-1), 1) := by decide +kernel
theorem nd_Ke_commandAlarm_61 : decode nc_Ke_commandAlarm 61 = .ok (.ireturn, 1) := by decide +kernel
theorem nd_Ke_setAlarm_0 : decode nc_Ke_setAlarm 0 = .ok (.iload_n 2, 1) := by decide +kernel
theorem nd_Ke_setAlarm_1 : decode nc_Ke_setAlarm 1 = .ok (.iconst 1, 1) := by decide +kernel
theorem nd_Ke_setAlarm_2 : decode nc_Ke_setAlarm 2 = .ok (.if_icmp .lt 10, 3) := by decide +kernel
theorem nd_Ke_setAlarm_5 : decode nc_Ke_setAlarm 5 = .ok (.iload_n 2, 1) := by decide +kernel
theorem nd_Ke_setAlarm_6 : decode nc_Ke_setAlarm 6 = .ok (.sipush 1000, 3) := by decide +kernel
theorem nd_Ke_setAlarm_9 : decode nc_Ke_setAlarm 9 = .ok (.if_icmp .le 6, 3) := by decide +kernel
theorem nd_Ke_setAlarm_12 : decode nc_Ke_setAlarm 12 = .ok (.bipush (-3), 2) := by decide +kernel
theorem nd_Ke_setAlarm_14 : decode nc_Ke_setAlarm 14 = .ok (.ireturn, 1) := by decide +kernel
theorem nd_Ke_setAlarm_15 : decode nc_Ke_setAlarm 15 = .ok (.aload_n 0, 1) := by decide +kernel
theorem nd_Ke_setAlarm_16 : decode nc_Ke_setAlarm 16 = .ok (.getfield 9, 3) := by decide +kernel
theorem nd_Ke_setAlarm_19 : decode nc_Ke_setAlarm 19 = .ok (.iload_n 1, 1) := by decide +kernel
theorem nd_Ke_setAlarm_20 : decode nc_Ke_setAlarm 20 = .ok (.iconst 1, 1) := by decide +kernel
theorem nd_Ke_setAlarm_21 : decode nc_Ke_setAlarm 21 = .ok (.invokevirtual 63, 3) := by decide +kernel
theorem nd_Ke_setAlarm_24 : decode nc_Ke_setAlarm 24 = .ok (.aload_n 0, 1) := by decide +kernel
theorem nd_Ke_setAlarm_25 : decode nc_Ke_setAlarm 25 = .ok (.getfield 9, 3) := by decide +kernel
theorem nd_Ke_setAlarm_28 : decode nc_Ke_setAlarm 28 = .ok (.iload_n 1, 1) := by decide +kernel
theorem nd_Ke_setAlarm_29 : decode nc_Ke_setAlarm 29 = .ok (.iconst 4, 1) := by decide +kernel
theorem nd_Ke_setAlarm_30 : decode nc_Ke_setAlarm 30 = .ok (.iadd, 1) := by decide +kernel
theorem nd_Ke_setAlarm_31 : decode nc_Ke_setAlarm 31 = .ok (.aload_n 0, 1) := by decide +kernel
theorem nd_Ke_setAlarm_32 : decode nc_Ke_setAlarm 32 = .ok (.getfield 23, 3) := by decide +kernel
theorem nd_Ke_setAlarm_35 : decode nc_Ke_setAlarm 35 = .ok (.iload_n 2, 1) := by decide +kernel
theorem nd_Ke_setAlarm_36 : decode nc_Ke_setAlarm 36 = .ok (.iadd, 1) := by decide +kernel
theorem nd_Ke_setAlarm_37 : decode nc_Ke_setAlarm 37 = .ok (.invokevirtual 63, 3) := by decide +kernel
theorem nd_Ke_setAlarm_40 : decode nc_Ke_setAlarm 40 = .ok (.iconst 0, 1) := by decide +kernel
theorem nd_Ke_setAlarm_41 : decode nc_Ke_setAlarm 41 = .ok (.ireturn, 1) := by decide +kernel
theorem nd_Ke_cancelAlarm_0 : decode nc_Ke_cancelAlarm 0 = .ok (.aload_n 0, 1) := by decide +kernel
theorem nd_Ke_cancelAlarm_1 : decode nc_Ke_cancelAlarm 1 = .ok (.getfield 9, 3) := by decide +kernel
theorem nd_Ke_cancelAlarm_4 : decode nc_Ke_cancelAlarm 4 = .ok (.iload_n 1, 1) := by decide +kernel
theorem nd_Ke_cancelAlarm_5 : decode nc_Ke_cancelAlarm 5 = .ok (.invokevirtual 57, 3) := by decide +kernel
theorem nd_Ke_cancelAlarm_8 : decode nc_Ke_cancelAlarm 8 = .ok (.istore_n 2, 1) := by decide +kernel
theorem nd_Ke_cancelAlarm_9 : decode nc_Ke_cancelAlarm 9 = .ok (.aload_n 0, 1) := by decide +kernel
theorem nd_Ke_cancelAlarm_10 : decode nc_Ke_cancelAlarm 10 = .ok (.getfield 9, 3) := by decide +kernel
theorem nd_Ke_cancelAlarm_13 : decode nc_Ke_cancelAlarm 13 = .ok (.iload_n 1, 1) := by decide +kernel
theorem nd_Ke_cancelAlarm_14 : decode nc_Ke_cancelAlarm 14 = .ok (.iconst 0, 1) := by decide +kernel
theorem nd_Ke_cancelAlarm_15 : decode nc_Ke_cancelAlarm 15 = .ok (.invokevirtual 63, 3) := by decide +kernel
theorem nd_Ke_cancelAlarm_18 : decode nc_Ke_cancelAlarm 18 = .ok (.iload_n 2, 1) := by decide +kernel
theorem nd_Ke_cancelAlarm_19 : decode nc_Ke_cancelAlarm 19 = .ok (.ireturn, 1) := by decide +kernel
theorem nd_Ke_commandConsole_0 : decode nc_Ke_commandConsole 0 = .ok (.iload_n 2, 1) := by decide +kernel
theorem nd_Ke_commandConsole_1 : decode nc_Ke_commandConsole 1 = .ok (.lookupswitch 99 #[(1, 27), (2, 43)], 27) := by decide +kernel
theorem nd_Ke_commandConsole_28 : decode nc_Ke_commandConsole 28 = .ok (.iload_n 3, 1) := by decide +kernel
theorem nd_Ke_commandConsole_29 : decode nc_Ke_commandConsole 29 = .ok (.ifCond .ge 8, 3) := by decide +kernel
theorem nd_Ke_commandConsole_32 : decode nc_Ke_commandConsole 32 = .ok (.bipush (-3), 2) := by decide +kernel
theorem nd_Ke_commandConsole_34 : decode nc_Ke_commandConsole 34 = .ok (.goto 9, 3) := by decide +kernel
theorem nd_Ke_commandConsole_37 : decode nc_Ke_commandConsole 37 = .ok (.aload_n 0, 1) := by decide +kernel
theorem nd_Ke_commandConsole_38 : decode nc_Ke_commandConsole 38 = .ok (.aload_n 1, 1) := by decide +kernel
theorem nd_Ke_commandConsole_39 : decode nc_Ke_commandConsole 39 = .ok (.iload_n 3, 1) := by decide +kernel
theorem nd_Ke_commandConsole_40 : decode nc_Ke_commandConsole 40 = .ok (.invokevirtual 174, 3) := by decide +kernel
theorem nd_Ke_commandConsole_43 : decode nc_Ke_commandConsole 43 = .ok (.ireturn, 1) := by decide +kernel
theorem nd_Ke_commandConsole_44 : decode nc_Ke_commandConsole 44 = .ok (.aload_n 0, 1) := by decide +kernel
theorem nd_Ke_commandConsole_45 : decode nc_Ke_commandConsole 45 = .ok (.aload_n 1, 1) := by decide +kernel
theorem nd_Ke_commandConsole_46 : decode nc_Ke_commandConsole 46 = .ok (.iconst 1, 1) := by decide +kernel
theorem nd_Ke_commandConsole_47 : decode nc_Ke_commandConsole 47 = .ok (.invokevirtual 27, 3) := by decide +kernel
theorem nd_Ke_commandConsole_50 : decode nc_Ke_commandConsole 50 = .ok (.ifCond .eq 6, 3) := by decide +kernel
theorem nd_Ke_commandConsole_53 : decode nc_Ke_commandConsole 53 = .ok (.bipush (-5), 2) := by decide +kernel
theorem nd_Ke_commandConsole_55 : decode nc_Ke_commandConsole 55 = .ok (.ireturn, 1) := by decide +kernel
theorem nd_Ke_commandConsole_56 : decode nc_Ke_commandConsole 56 = .ok (.aload_n 0, 1) := by decide +kernel
theorem nd_Ke_commandConsole_57 : decode nc_Ke_commandConsole 57 = .ok (.getfield 19, 3) := by decide +kernel
theorem nd_Ke_commandConsole_60 : decode nc_Ke_commandConsole 60 = .ok (.getfield 177, 3) := by decide +kernel
theorem nd_Ke_commandConsole_63 : decode nc_Ke_commandConsole 63 = .ok (.ifCond .le 18, 3) := by decide +kernel
theorem nd_Ke_commandConsole_66 : decode nc_Ke_commandConsole 66 = .ok (.aload_n 0, 1) := by decide +kernel
theorem nd_Ke_commandConsole_67 : decode nc_Ke_commandConsole 67 = .ok (.aload_n 1, 1) := by decide +kernel
theorem nd_Ke_commandConsole_68 : decode nc_Ke_commandConsole 68 = .ok (.aload_n 0, 1) := by decide +kernel
theorem nd_Ke_commandConsole_69 : decode nc_Ke_commandConsole 69 = .ok (.getfield 19, 3) := by decide +kernel
theorem nd_Ke_commandConsole_72 : decode nc_Ke_commandConsole 72 = .ok (.invokevirtual 180, 3) := by decide +kernel
theorem nd_Ke_commandConsole_75 : decode nc_Ke_commandConsole 75 = .ok (.invokevirtual 35, 3) := by decide +kernel
theorem nd_Ke_commandConsole_78 : decode nc_Ke_commandConsole 78 = .ok (.goto 20, 3) := by decide +kernel
theorem nd_Ke_commandConsole_81 : decode nc_Ke_commandConsole 81 = .ok (.aload_n 0, 1) := by decide +kernel
theorem nd_Ke_commandConsole_82 : decode nc_Ke_commandConsole 82 = .ok (.getfield 9, 3) := by decide +kernel
theorem nd_Ke_commandConsole_85 : decode nc_Ke_commandConsole 85 = .ok (.aload_n 1, 1) := by decide +kernel
theorem nd_Ke_commandConsole_86 : decode nc_Ke_commandConsole 86 = .ok (.getfield 45, 3) := by decide +kernel
theorem nd_Ke_commandConsole_89 : decode nc_Ke_commandConsole 89 = .ok (.getfield 51, 3) := by decide +kernel
theorem nd_Ke_commandConsole_92 : decode nc_Ke_commandConsole 92 = .ok (.iconst 1, 1) := by decide +kernel
theorem nd_Ke_commandConsole_93 : decode nc_Ke_commandConsole 93 = .ok (.iaload, 1) := by decide +kernel
theorem nd_Ke_commandConsole_94 : decode nc_Ke_commandConsole 94 = .ok (.iconst 1, 1) := by decide +kernel
theorem nd_Ke_commandConsole_95 : decode nc_Ke_commandConsole 95 = .ok (.invokevirtual 63, 3) := by decide +kernel
theorem nd_Ke_commandConsole_98 : decode nc_Ke_commandConsole 98 = .ok (.iconst 0, 1) := by decide +kernel
theorem nd_Ke_commandConsole_99 : decode nc_Ke_commandConsole 99 = .ok (.ireturn, 1) := by decide +kernel
theorem nd_Ke_commandConsole_100 : decode nc_Ke_commandConsole 100 = .ok (.iconst (-1), 1) := by decide +kernel
theorem nd_Ke_commandConsole_101 : decode nc_Ke_commandConsole 101 = .ok (.ireturn, 1) := by decide +kernel
theorem nd_Ke_putOut_0 : decode nc_Ke_putOut 0 = .ok (.iload_n 2, 1) := by decide +kernel
theorem nd_Ke_putOut_1 : decode nc_Ke_putOut 1 = .ok (.aload_n 1, 1) := by decide +kernel
theorem nd_Ke_putOut_2 : decode nc_Ke_putOut 2 = .ok (.getfield 45, 3) := by decide +kernel
theorem nd_Ke_putOut_5 : decode nc_Ke_putOut 5 = .ok (.getfield 164, 3) := by decide +kernel
