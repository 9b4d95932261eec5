theorem nd_Pr_pop_45 : decode nc_Pr_pop 45 = .ok (.iconst 4, 1) := by decide +kernel
theorem nd_Pr_pop_46 : decode nc_Pr_pop 46 = .ok (.ireturn, 1) := by decide +kernel
theorem nd_Pr_pop_47 : decode nc_Pr_pop 47 = .ok (.iinc 4 1, 3) := by decide +kernel
theorem nd_Pr_pop_50 : decode nc_Pr_pop 50 = .ok (.goto (-27), 3) := by decide +kernel
theorem nd_Pr_pop_53 : decode nc_Pr_pop 53 = .ok (.aload_n 1, 1) := by decide +kernel
theorem nd_Pr_pop_54 : decode nc_Pr_pop 54 = .ok (.getfield 64, 3) := by decide +kernel
theorem nd_Pr_pop_57 : decode nc_Pr_pop 57 = .ok (.iconst 4, 1) := by decide +kernel
theorem nd_Pr_pop_58 : decode nc_Pr_pop 58 = .ok (.iload_n 3, 1) := by decide +kernel
theorem nd_Pr_pop_59 : decode nc_Pr_pop 59 = .ok (.imul, 1) := by decide +kernel
theorem nd_Pr_pop_60 : decode nc_Pr_pop 60 = .ok (.iadd, 1) := by decide +kernel
theorem nd_Pr_pop_61 : decode nc_Pr_pop 61 = .ok (.istore 4, 2) := by decide +kernel
theorem nd_Pr_pop_63 : decode nc_Pr_pop 63 = .ok (.iload_n 2, 1) := by decide +kernel
theorem nd_Pr_pop_64 : decode nc_Pr_pop 64 = .ok (.sipush 256, 3) := by decide +kernel
theorem nd_Pr_pop_67 : decode nc_Pr_pop 67 = .ok (.iand, 1) := by decide +kernel
theorem nd_Pr_pop_68 : decode nc_Pr_pop 68 = .ok (.ifCond .eq 30, 3) := by decide +kernel
theorem nd_Pr_pop_71 : decode nc_Pr_pop 71 = .ok (.aload_n 1, 1) := by decide +kernel
theorem nd_Pr_pop_72 : decode nc_Pr_pop 72 = .ok (.iload 4, 2) := by decide +kernel
theorem nd_Pr_pop_74 : decode nc_Pr_pop 74 = .ok (.iconst 4, 1) := by decide +kernel
theorem nd_Pr_pop_75 : decode nc_Pr_pop 75 = .ok (.isub, 1) := by decide +kernel
theorem nd_Pr_pop_76 : decode nc_Pr_pop 76 = .ok (.invokevirtual 106, 3) := by decide +kernel
theorem nd_Pr_pop_79 : decode nc_Pr_pop 79 = .ok (.istore 5, 2) := by decide +kernel
theorem nd_Pr_pop_81 : decode nc_Pr_pop 81 = .ok (.iload 5, 2) := by decide +kernel
theorem nd_Pr_pop_83 : decode nc_Pr_pop 83 = .ok (.iconst 1, 1) := by decide +kernel
theorem nd_Pr_pop_84 : decode nc_Pr_pop 84 = .ok (.iand, 1) := by decide +kernel
theorem nd_Pr_pop_85 : decode nc_Pr_pop 85 = .ok (.ifCond .ne 5, 3) := by decide +kernel
theorem nd_Pr_pop_88 : decode nc_Pr_pop 88 = .ok (.iconst 5, 1) := by decide +kernel
theorem nd_Pr_pop_89 : decode nc_Pr_pop 89 = .ok (.ireturn, 1) := by decide +kernel
theorem nd_Pr_pop_90 : decode nc_Pr_pop 90 = .ok (.aload_n 0, 1) := by decide +kernel
theorem nd_Pr_pop_91 : decode nc_Pr_pop 91 = .ok (.iload 5, 2) := by decide +kernel
theorem nd_Pr_pop_93 : decode nc_Pr_pop 93 = .ok (.iconst 1, 1) := by decide +kernel
theorem nd_Pr_pop_94 : decode nc_Pr_pop 94 = .ok (.isub, 1) := by decide +kernel
theorem nd_Pr_pop_95 : decode nc_Pr_pop 95 = .ok (.putfield 25, 3) := by decide +kernel
theorem nd_Pr_pop_98 : decode nc_Pr_pop 98 = .ok (.aload_n 1, 1) := by decide +kernel
theorem nd_Pr_pop_99 : decode nc_Pr_pop 99 = .ok (.getfield 64, 3) := by decide +kernel
theorem nd_Pr_pop_102 : decode nc_Pr_pop 102 = .ok (.istore 5, 2) := by decide +kernel
theorem nd_Pr_pop_104 : decode nc_Pr_pop 104 = .ok (.iconst 0, 1) := by decide +kernel
theorem nd_Pr_pop_105 : decode nc_Pr_pop 105 = .ok (.istore 6, 2) := by decide +kernel
theorem nd_Pr_pop_107 : decode nc_Pr_pop 107 = .ok (.iload 6, 2) := by decide +kernel
theorem nd_Pr_pop_109 : decode nc_Pr_pop 109 = .ok (.bipush 8, 2) := by decide +kernel
theorem nd_Pr_pop_111 : decode nc_Pr_pop 111 = .ok (.if_icmp .ge 35, 3) := by decide +kernel
theorem nd_Pr_pop_114 : decode nc_Pr_pop 114 = .ok (.iload_n 2, 1) := by decide +kernel
theorem nd_Pr_pop_115 : decode nc_Pr_pop 115 = .ok (.iload 6, 2) := by decide +kernel
theorem nd_Pr_pop_117 : decode nc_Pr_pop 117 = .ok (.ishr, 1) := by decide +kernel
theorem nd_Pr_pop_118 : decode nc_Pr_pop 118 = .ok (.iconst 1, 1) := by decide +kernel
theorem nd_Pr_pop_119 : decode nc_Pr_pop 119 = .ok (.iand, 1) := by decide +kernel
theorem nd_Pr_pop_120 : decode nc_Pr_pop 120 = .ok (.iconst 1, 1) := by decide +kernel
theorem nd_Pr_pop_121 : decode nc_Pr_pop 121 = .ok (.if_icmp .ne 19, 3) := by decide +kernel
theorem nd_Pr_pop_124 : decode nc_Pr_pop 124 = .ok (.aload_n 1, 1) := by decide +kernel
theorem nd_Pr_pop_125 : decode nc_Pr_pop 125 = .ok (.getfield 57, 3) := by decide +kernel
theorem nd_Pr_pop_128 : decode nc_Pr_pop 128 = .ok (.iload 6, 2) := by decide +kernel
theorem nd_Pr_pop_130 : decode nc_Pr_pop 130 = .ok (.aload_n 1, 1) := by decide +kernel
theorem nd_Pr_pop_131 : decode nc_Pr_pop 131 = .ok (.iload 5, 2) := by decide +kernel
theorem nd_Pr_pop_133 : decode nc_Pr_pop 133 = .ok (.invokevirtual 106, 3) := by decide +kernel
theorem nd_Pr_pop_136 : decode nc_Pr_pop 136 = .ok (.iastore, 1) := by decide +kernel
theorem nd_Pr_pop_137 : decode nc_Pr_pop 137 = .ok (.iinc 5 4, 3) := by decide +kernel
theorem nd_Pr_pop_140 : decode nc_Pr_pop 140 = .ok (.iinc 6 1, 3) := by decide +kernel
theorem nd_Pr_pop_143 : decode nc_Pr_pop 143 = .ok (.goto (-36), 3) := by decide +kernel
theorem nd_Pr_pop_146 : decode nc_Pr_pop 146 = .ok (.aload_n 1, 1) := by decide +kernel
theorem nd_Pr_pop_147 : decode nc_Pr_pop 147 = .ok (.iload 4, 2) := by decide +kernel
theorem nd_Pr_pop_149 : decode nc_Pr_pop 149 = .ok (.putfield 64, 3) := by decide +kernel
theorem nd_Pr_pop_152 : decode nc_Pr_pop 152 = .ok (.iconst 0, 1) := by decide +kernel
theorem nd_Pr_pop_153 : decode nc_Pr_pop 153 = .ok (.ireturn, 1) := by decide +kernel
theorem nd_Pr_branchIf_0 : decode nc_Pr_branchIf 0 = .ok (.iload_n 2, 1) := by decide +kernel
theorem nd_Pr_branchIf_1 : decode nc_Pr_branchIf 1 = .ok (.bipush 8, 2) := by decide +kernel
theorem nd_Pr_branchIf_3 : decode nc_Pr_branchIf 3 = .ok (.ishr, 1) := by decide +kernel
theorem nd_Pr_branchIf_4 : decode nc_Pr_branchIf 4 = .ok (.bipush 15, 2) := by decide +kernel
theorem nd_Pr_branchIf_6 : decode nc_Pr_branchIf 6 = .ok (.iand, 1) := by decide +kernel
theorem nd_Pr_branchIf_7 : decode nc_Pr_branchIf 7 = .ok (.istore_n 3, 1) := by decide +kernel
theorem nd_Pr_branchIf_8 : decode nc_Pr_branchIf 8 = .ok (.iload_n 3, 1) := by decide +kernel
theorem nd_Pr_branchIf_9 : decode nc_Pr_branchIf 9 = .ok (.bipush 15, 2) := by decide +kernel
theorem nd_Pr_branchIf_11 : decode nc_Pr_branchIf 11 = .ok (.if_icmp .ne 13, 3) := by decide +kernel
theorem nd_Pr_branchIf_14 : decode nc_Pr_branchIf 14 = .ok (.sipush 256, 3) := by decide +kernel
theorem nd_Pr_branchIf_17 : decode nc_Pr_branchIf 17 = .ok (.iload_n 2, 1) := by decide +kernel
theorem nd_Pr_branchIf_18 : decode nc_Pr_branchIf 18 = .ok (.sipush 255, 3) := by decide +kernel
theorem nd_Pr_branchIf_21 : decode nc_Pr_branchIf 21 = .ok (.iand, 1) := by decide +kernel
theorem nd_Pr_branchIf_22 : decode nc_Pr_branchIf 22 = .ok (.iadd, 1) := by decide +kernel
theorem nd_Pr_branchIf_23 : decode nc_Pr_branchIf 23 = .ok (.ireturn, 1) := by decide +kernel
theorem nd_Pr_branchIf_24 : decode nc_Pr_branchIf 24 = .ok (.iload_n 3, 1) := by decide +kernel
theorem nd_Pr_branchIf_25 : decode nc_Pr_branchIf 25 = .ok (.bipush 14, 2) := by decide +kernel
theorem nd_Pr_branchIf_27 : decode nc_Pr_branchIf 27 = .ok (.if_icmp .ne 5, 3) := by decide +kernel
theorem nd_Pr_branchIf_30 : decode nc_Pr_branchIf 30 = .ok (.iconst 2, 1) := by decide +kernel
theorem nd_Pr_branchIf_31 : decode nc_Pr_branchIf 31 = .ok (.ireturn, 1) := by decide +kernel
theorem nd_Pr_branchIf_32 : decode nc_Pr_branchIf 32 = .ok (.iload_n 3, 1) := by decide +kernel
theorem nd_Pr_branchIf_33 : decode nc_Pr_branchIf 33 = .ok (.iconst 1, 1) := by decide +kernel
theorem nd_Pr_branchIf_34 : decode nc_Pr_branchIf 34 = .ok (.iand, 1) := by decide +kernel
theorem nd_Pr_branchIf_35 : decode nc_Pr_branchIf 35 = .ok (.ifCond .ne 7, 3) := by decide +kernel
theorem nd_Pr_branchIf_38 : decode nc_Pr_branchIf 38 = .ok (.iconst 1, 1) := by decide +kernel
theorem nd_Pr_branchIf_39 : decode nc_Pr_branchIf 39 = .ok (.goto 4, 3) := by decide +kernel
theorem nd_Pr_branchIf_42 : decode nc_Pr_branchIf 42 = .ok (.iconst 0, 1) := by decide +kernel
theorem nd_Pr_branchIf_43 : decode nc_Pr_branchIf 43 = .ok (.istore 4, 2) := by decide +kernel
theorem nd_Pr_branchIf_45 : decode nc_Pr_branchIf 45 = .ok (.aload_n 0, 1) := by decide +kernel
theorem nd_Pr_branchIf_46 : decode nc_Pr_branchIf 46 = .ok (.aload_n 1, 1) := by decide +kernel
theorem nd_Pr_branchIf_47 : decode nc_Pr_branchIf 47 = .ok (.getfield 90, 3) := by decide +kernel
theorem nd_Pr_branchIf_50 : decode nc_Pr_branchIf 50 = .ok (.iload_n 3, 1) := by decide +kernel
theorem nd_Pr_branchIf_51 : decode nc_Pr_branchIf 51 = .ok (.iconst 1, 1) := by decide +kernel
theorem nd_Pr_branchIf_52 : decode nc_Pr_branchIf 52 = .ok (.ishr, 1) := by decide +kernel
theorem nd_Pr_branchIf_53 : decode nc_Pr_branchIf 53 = .ok (.invokevirtual 122, 3) := by decide +kernel
theorem nd_Pr_branchIf_56 : decode nc_Pr_branchIf 56 = .ok (.iload 4, 2) := by decide +kernel
theorem nd_Pr_branchIf_58 : decode nc_Pr_branchIf 58 = .ok (.if_icmp .ne 29, 3) := by decide +kernel
theorem nd_Pr_branchIf_61 : decode nc_Pr_branchIf 61 = .ok (.aload_n 0, 1) := by decide +kernel
theorem nd_Pr_branchIf_62 : decode nc_Pr_branchIf 62 = .ok (.aload_n 1, 1) := by decide +kernel
theorem nd_Pr_branchIf_63 : decode nc_Pr_branchIf 63 = .ok (.getfield 15, 3) := by decide +kernel
theorem nd_Pr_branchIf_66 : decode nc_Pr_branchIf 66 = .ok (.iconst 4, 1) := by decide +kernel
theorem nd_Pr_branchIf_67 : decode nc_Pr_branchIf 67 = .ok (.iadd, 1) := by decide +kernel
theorem nd_Pr_branchIf_68 : decode nc_Pr_branchIf 68 = .ok (.iconst 2, 1) := by decide +kernel
theorem nd_Pr_branchIf_69 : decode nc_Pr_branchIf 69 = .ok (.iload_n 2, 1) := by decide +kernel
theorem nd_Pr_branchIf_70 : decode nc_Pr_branchIf 70 = .ok (.sipush 255, 3) := by decide +kernel
theorem nd_Pr_branchIf_73 : decode nc_Pr_branchIf 73 = .ok (.iand, 1) := by decide +kernel
theorem nd_Pr_branchIf_74 : decode nc_Pr_branchIf 74 = .ok (.iload_n 2, 1) := by decide +kernel
theorem nd_Pr_branchIf_75 : decode nc_Pr_branchIf 75 = .ok (.sipush 128, 3) := by decide +kernel
theorem nd_Pr_branchIf_78 : decode nc_Pr_branchIf 78 = .ok (.iand, 1) := by decide +kernel
theorem nd_Pr_branchIf_79 : decode nc_Pr_branchIf 79 = .ok (.iconst 1, 1) := by decide +kernel
theorem nd_Pr_branchIf_80 : decode nc_Pr_branchIf 80 = .ok (.ishl, 1) := by decide +kernel
theorem nd_Pr_branchIf_81 : decode nc_Pr_branchIf 81 = .ok (.isub, 1) := by decide +kernel
theorem nd_Pr_branchIf_82 : decode nc_Pr_branchIf 82 = .ok (.imul, 1) := by decide +kernel
theorem nd_Pr_branchIf_83 : decode nc_Pr_branchIf 83 = .ok (.iadd, 1) := by decide +kernel
theorem nd_Pr_branchIf_84 : decode nc_Pr_branchIf 84 = .ok (.putfield 25, 3) := by decide +kernel
theorem nd_Pr_branchIf_87 : decode nc_Pr_branchIf 87 = .ok (.iconst 0, 1) := by decide +kernel
theorem nd_Pr_branchIf_88 : decode nc_Pr_branchIf 88 = .ok (.ireturn, 1) := by decide +kernel
theorem nd_Pr_holds_0 : decode nc_Pr_holds 0 = .ok (.iload_n 1, 1) := by decide +kernel
theorem nd_Pr_holds_1 : decode nc_Pr_holds 1 = .ok (.iconst 4, 1) := by decide +kernel
theorem nd_Pr_holds_2 : decode nc_Pr_holds 2 = .ok (.iand, 1) := by decide +kernel
theorem nd_Pr_holds_3 : decode nc_Pr_holds 3 = .ok (.ifCond .eq 7, 3) := by decide +kernel
theorem nd_Pr_holds_6 : decode nc_Pr_holds 6 = .ok (.iconst 1, 1) := by decide +kernel
theorem nd_Pr_holds_7 : decode nc_Pr_holds 7 = .ok (.goto 4, 3) := by decide +kernel
theorem nd_Pr_holds_10 : decode nc_Pr_holds 10 = .ok (.iconst 0, 1) := by decide +kernel
theorem nd_Pr_holds_11 : decode nc_Pr_holds 11 = .ok (.istore_n 3, 1) := by decide +kernel
theorem nd_Pr_holds_12 : decode nc_Pr_holds 12 = .ok (.iload_n 1, 1) := by decide +kernel
theorem nd_Pr_holds_13 : decode nc_Pr_holds 13 = .ok (.iconst 2, 1) := by decide +kernel
theorem nd_Pr_holds_14 : decode nc_Pr_holds 14 = .ok (.iand, 1) := by decide +kernel
theorem nd_Pr_holds_15 : decode nc_Pr_holds 15 = .ok (.ifCond .eq 7, 3) := by decide +kernel
theorem nd_Pr_holds_18 : decode nc_Pr_holds 18 = .ok (.iconst 1, 1) := by decide +kernel
theorem nd_Pr_holds_19 : decode nc_Pr_holds 19 = .ok (.goto 4, 3) := by decide +kernel
theorem nd_Pr_holds_22 : decode nc_Pr_holds 22 = .ok (.iconst 0, 1) := by decide +kernel
theorem nd_Pr_holds_23 : decode nc_Pr_holds 23 = .ok (.istore 4, 2) := by decide +kernel
theorem nd_Pr_holds_25 : decode nc_Pr_holds 25 = .ok (.iload_n 1, 1) := by decide +kernel
theorem nd_Pr_holds_26 : decode nc_Pr_holds 26 = .ok (.bipush 8, 2) := by decide +kernel
theorem nd_Pr_holds_28 : decode nc_Pr_holds 28 = .ok (.iand, 1) := by decide +kernel
theorem nd_Pr_holds_29 : decode nc_Pr_holds 29 = .ok (.ifCond .eq 7, 3) := by decide +kernel
theorem nd_Pr_holds_32 : decode nc_Pr_holds 32 = .ok (.iconst 1, 1) := by decide +kernel
theorem nd_Pr_holds_33 : decode nc_Pr_holds 33 = .ok (.goto 4, 3) := by decide +kernel
theorem nd_Pr_holds_36 : decode nc_Pr_holds 36 = .ok (.iconst 0, 1) := by decide +kernel
theorem nd_Pr_holds_37 : decode nc_Pr_holds 37 = .ok (.istore 5, 2) := by decide +kernel
theorem nd_Pr_holds_39 : decode nc_Pr_holds 39 = .ok (.iload_n 1, 1) := by decide +kernel
theorem nd_Pr_holds_40 : decode nc_Pr_holds 40 = .ok (.iconst 1, 1) := by decide +kernel
theorem nd_Pr_holds_41 : decode nc_Pr_holds 41 = .ok (.iand, 1) := by decide +kernel
theorem nd_Pr_holds_42 : decode nc_Pr_holds 42 = .ok (.ifCond .eq 7, 3) := by decide +kernel
theorem nd_Pr_holds_45 : decode nc_Pr_holds 45 = .ok (.iconst 1, 1) := by decide +kernel
theorem nd_Pr_holds_46 : decode nc_Pr_holds 46 = .ok (.goto 4, 3) := by decide +kernel
theorem nd_Pr_holds_49 : decode nc_Pr_holds 49 = .ok (.iconst 0, 1) := by decide +kernel
theorem nd_Pr_holds_50 : decode nc_Pr_holds 50 = .ok (.istore 6, 2) := by decide +kernel
theorem nd_Pr_holds_52 : decode nc_Pr_holds 52 = .ok (.iload_n 2, 1) := by decide +kernel
theorem nd_Pr_holds_53 : decode nc_Pr_holds 53 = .ok (.tableswitch 78 0 5 #[39, 41, 44, 47, 50, 65], 39) := by decide +kernel
theorem nd_Pr_holds_92 : decode nc_Pr_holds 92 = .ok (.iload_n 3, 1) := by decide +kernel
theorem nd_Pr_holds_93 : decode nc_Pr_holds 93 = .ok (.ireturn, 1) := by decide +kernel
theorem nd_Pr_holds_94 : decode nc_Pr_holds 94 = .ok (.iload 4, 2) := by decide +kernel
theorem nd_Pr_holds_96 : decode nc_Pr_holds 96 = .ok (.ireturn, 1) := by decide +kernel
theorem nd_Pr_holds_97 : decode nc_Pr_holds 97 = .ok (.iload 5, 2) := by decide +kernel
theorem nd_Pr_holds_99 : decode nc_Pr_holds 99 = .ok (.ireturn, 1) := by decide +kernel
theorem nd_Pr_holds_100 : decode nc_Pr_holds 100 = .ok (.iload 6, 2) := by decide +kernel
theorem nd_Pr_holds_102 : decode nc_Pr_holds 102 = .ok (.ireturn, 1) := by decide +kernel
theorem nd_Pr_holds_103 : decode nc_Pr_holds 103 = .ok (.iload 4, 2) := by decide +kernel
theorem nd_Pr_holds_105 : decode nc_Pr_holds 105 = .ok (.ifCond .eq 11, 3) := by decide +kernel
theorem nd_Pr_holds_108 : decode nc_Pr_holds 108 = .ok (.iload_n 3, 1) := by decide +kernel
theorem nd_Pr_holds_109 : decode nc_Pr_holds 109 = .ok (.ifCond .ne 7, 3) := by decide +kernel
theorem nd_Pr_holds_112 : decode nc_Pr_holds 112 = .ok (.iconst 1, 1) := by decide +kernel
theorem nd_Pr_holds_113 : decode nc_Pr_holds 113 = .ok (.goto 4, 3) := by decide +kernel
theorem nd_Pr_holds_116 : decode nc_Pr_holds 116 = .ok (.iconst 0, 1) := by decide +kernel
theorem nd_Pr_holds_117 : decode nc_Pr_holds 117 = .ok (.ireturn, 1) := by decide +kernel
theorem nd_Pr_holds_118 : decode nc_Pr_holds 118 = .ok (.iload 5, 2) := by decide +kernel
theorem nd_Pr_holds_120 : decode nc_Pr_holds 120 = .ok (.iload 6, 2) := by decide +kernel
theorem nd_Pr_holds_122 : decode nc_Pr_holds 122 = .ok (.if_icmp .ne 7, 3) := by decide +kernel
theorem nd_Pr_holds_125 : decode nc_Pr_holds 125 = .ok (.iconst 1, 1) := by decide +kernel
theorem nd_Pr_holds_126 : decode nc_Pr_holds 126 = .ok (.goto 4, 3) := by decide +kernel
theorem nd_Pr_holds_129 : decode nc_Pr_holds 129 = .ok (.iconst 0, 1) := by decide +kernel
theorem nd_Pr_holds_130 : decode nc_Pr_holds 130 = .ok (.ireturn, 1) := by decide +kernel
theorem nd_Pr_holds_131 : decode nc_Pr_holds 131 = .ok (.iload_n 3, 1) := by decide +kernel
theorem nd_Pr_holds_132 : decode nc_Pr_holds 132 = .ok (.ifCond .ne 14, 3) := by decide +kernel
theorem nd_Pr_holds_135 : decode nc_Pr_holds 135 = .ok (.iload 5, 2) := by decide +kernel
theorem nd_Pr_holds_137 : decode nc_Pr_holds 137 = .ok (.iload 6, 2) := by decide +kernel
theorem nd_Pr_holds_139 : decode nc_Pr_holds 139 = .ok (.if_icmp .ne 7, 3) := by decide +kernel
theorem nd_Pr_holds_142 : decode nc_Pr_holds 142 = .ok (.iconst 1, 1) := by decide +kernel
theorem nd_Pr_holds_143 : decode nc_Pr_holds 143 = .ok (.goto 4, 3) := by decide +kernel
theorem nd_Pr_holds_146 : decode nc_Pr_holds 146 = .ok (.iconst 0, 1) := by decide +kernel
theorem nd_Pr_holds_147 : decode nc_Pr_holds 147 = .ok (.ireturn, 1) := by decide +kernel
theorem nd_Pr_shift_0 : decode nc_Pr_shift 0 = .ok (.iload_n 3, 1) := by decide +kernel
theorem nd_Pr_shift_1 : decode nc_Pr_shift 1 = .ok (.istore 5, 2) := by decide +kernel
theorem nd_Pr_shift_3 : decode nc_Pr_shift 3 = .ok (.iload 4, 2) := by decide +kernel
theorem nd_Pr_shift_5 : decode nc_Pr_shift 5 = .ok (.ifCond .le 104, 3) := by decide +kernel
theorem nd_Pr_shift_8 : decode nc_Pr_shift 8 = .ok (.iload 4, 2) := by decide +kernel
theorem nd_Pr_shift_10 : decode nc_Pr_shift 10 = .ok (.bipush 33, 2) := by decide +kernel
theorem nd_Pr_shift_12 : decode nc_Pr_shift 12 = .ok (.invokestatic 125, 3) := by decide +kernel
theorem nd_Pr_shift_15 : decode nc_Pr_shift 15 = .ok (.istore 6, 2) := by decide +kernel
theorem nd_Pr_shift_17 : decode nc_Pr_shift 17 = .ok (.iload_n 2, 1) := by decide +kernel
theorem nd_Pr_shift_18 : decode nc_Pr_shift 18 = .ok (.ifCond .eq 8, 3) := by decide +kernel
theorem nd_Pr_shift_21 : decode nc_Pr_shift 21 = .ok (.iload_n 2, 1) := by decide +kernel
theorem nd_Pr_shift_22 : decode nc_Pr_shift 22 = .ok (.iconst 1, 1) := by decide +kernel
theorem nd_Pr_shift_23 : decode nc_Pr_shift 23 = .ok (.if_icmp .ne 12, 3) := by decide +kernel
theorem nd_Pr_shift_26 : decode nc_Pr_shift 26 = .ok (.iload_n 3, 1) := by decide +kernel
theorem nd_Pr_shift_27 : decode nc_Pr_shift 27 = .ok (.i2l, 1) := by decide +kernel
theorem nd_Pr_shift_28 : decode nc_Pr_shift 28 = .ok (.ldc2_w 131, 3) := by decide +kernel
theorem nd_Pr_shift_31 : decode nc_Pr_shift 31 = .ok (.land, 1) := by decide +kernel
theorem nd_Pr_shift_32 : decode nc_Pr_shift 32 = .ok (.goto 5, 3) := by decide +kernel
theorem nd_Pr_shift_35 : decode nc_Pr_shift 35 = .ok (.iload_n 3, 1) := by decide +kernel
theorem nd_Pr_shift_36 : decode nc_Pr_shift 36 = .ok (.i2l, 1) := by decide +kernel
theorem nd_Pr_shift_37 : decode nc_Pr_shift 37 = .ok (.lstore 7, 2) := by decide +kernel
theorem nd_Pr_shift_39 : decode nc_Pr_shift 39 = .ok (.iload_n 2, 1) := by decide +kernel
theorem nd_Pr_shift_40 : decode nc_Pr_shift 40 = .ok (.ifCond .ne 11, 3) := by decide +kernel
theorem nd_Pr_shift_43 : decode nc_Pr_shift 43 = .ok (.lload 7, 2) := by decide +kernel
theorem nd_Pr_shift_45 : decode nc_Pr_shift 45 = .ok (.iload 6, 2) := by decide +kernel
theorem nd_Pr_shift_47 : decode nc_Pr_shift 47 = .ok (.lshl, 1) := by decide +kernel
theorem nd_Pr_shift_48 : decode nc_Pr_shift 48 = .ok (.goto 10, 3) := by decide +kernel
theorem nd_Pr_shift_51 : decode nc_Pr_shift 51 = .ok (.lload 7, 2) := by decide +kernel
theorem nd_Pr_shift_53 : decode nc_Pr_shift 53 = .ok (.iconst 1, 1) := by decide +kernel
theorem nd_Pr_shift_54 : decode nc_Pr_shift 54 = .ok (.lshl, 1) := by decide +kernel
theorem nd_Pr_shift_55 : decode nc_Pr_shift 55 = .ok (.iload 6, 2) := by decide +kernel
theorem nd_Pr_shift_57 : decode nc_Pr_shift 57 = .ok (.lshr, 1) := by decide +kernel
theorem nd_Pr_shift_58 : decode nc_Pr_shift 58 = .ok (.lstore 9, 2) := by decide +kernel
theorem nd_Pr_shift_60 : decode nc_Pr_shift 60 = .ok (.iload_n 2, 1) := by decide +kernel
theorem nd_Pr_shift_61 : decode nc_Pr_shift 61 = .ok (.ifCond .ne 8, 3) := by decide +kernel
theorem nd_Pr_shift_64 : decode nc_Pr_shift 64 = .ok (.lload 9, 2) := by decide +kernel
theorem nd_Pr_shift_66 : decode nc_Pr_shift 66 = .ok (.goto 7, 3) := by decide +kernel
theorem nd_Pr_shift_69 : decode nc_Pr_shift 69 = .ok (.lload 9, 2) := by decide +kernel
theorem nd_Pr_shift_71 : decode nc_Pr_shift 71 = .ok (.iconst 1, 1) := by decide +kernel
theorem nd_Pr_shift_72 : decode nc_Pr_shift 72 = .ok (.lshr, 1) := by decide +kernel
theorem nd_Pr_shift_73 : decode nc_Pr_shift 73 = .ok (.l2i, 1) := by decide +kernel
theorem nd_Pr_shift_74 : decode nc_Pr_shift 74 = .ok (.istore 5, 2) := by decide +kernel
theorem nd_Pr_shift_76 : decode nc_Pr_shift 76 = .ok (.aload_n 0, 1) := by decide +kernel
theorem nd_Pr_shift_77 : decode nc_Pr_shift 77 = .ok (.aload_n 1, 1) := by decide +kernel
theorem nd_Pr_shift_78 : decode nc_Pr_shift 78 = .ok (.iload_n 2, 1) := by decide +kernel
theorem nd_Pr_shift_79 : decode nc_Pr_shift 79 = .ok (.ifCond .ne 13, 3) := by decide +kernel
theorem nd_Pr_shift_82 : decode nc_Pr_shift 82 = .ok (.lload 9, 2) := by decide +kernel
theorem nd_Pr_shift_84 : decode nc_Pr_shift 84 = .ok (.bipush 32, 2) := by decide +kernel
theorem nd_Pr_shift_86 : decode nc_Pr_shift 86 = .ok (.lshr, 1) := by decide +kernel
theorem nd_Pr_shift_87 : decode nc_Pr_shift 87 = .ok (.lconst 1, 1) := by decide +kernel
theorem nd_Pr_shift_88 : decode nc_Pr_shift 88 = .ok (.land, 1) := by decide +kernel
theorem nd_Pr_shift_89 : decode nc_Pr_shift 89 = .ok (.goto 7, 3) := by decide +kernel
theorem nd_Pr_shift_92 : decode nc_Pr_shift 92 = .ok (.lload 9, 2) := by decide +kernel
theorem nd_Pr_shift_94 : decode nc_Pr_shift 94 = .ok (.lconst 1, 1) := by decide +kernel
theorem nd_Pr_shift_95 : decode nc_Pr_shift 95 = .ok (.land, 1) := by decide +kernel
theorem nd_Pr_shift_96 : decode nc_Pr_shift 96 = .ok (.lconst 1, 1) := by decide +kernel
theorem nd_Pr_shift_97 : decode nc_Pr_shift 97 = .ok (.lcmp, 1) := by decide +kernel
theorem nd_Pr_shift_98 : decode nc_Pr_shift 98 = .ok (.ifCond .ne 7, 3) := by decide +kernel
theorem nd_Pr_shift_101 : decode nc_Pr_shift 101 = .ok (.iconst 1, 1) := by decide +kernel
theorem nd_Pr_shift_102 : decode nc_Pr_shift 102 = .ok (.goto 4, 3) := by decide +kernel
theorem nd_Pr_shift_105 : decode nc_Pr_shift 105 = .ok (.iconst 0, 1) := by decide +kernel
theorem nd_Pr_shift_106 : decode nc_Pr_shift 106 = .ok (.invokevirtual 133, 3) := by decide +kernel
theorem nd_Pr_shift_109 : decode nc_Pr_shift 109 = .ok (.aload_n 0, 1) := by decide +kernel
theorem nd_Pr_shift_110 : decode nc_Pr_shift 110 = .ok (.aload_n 1, 1) := by decide +kernel
theorem nd_Pr_shift_111 : decode nc_Pr_shift 111 = .ok (.iload 5, 2) := by decide +kernel
theorem nd_Pr_shift_113 : decode nc_Pr_shift 113 = .ok (.invokevirtual 86, 3) := by decide +kernel
theorem nd_Pr_shift_116 : decode nc_Pr_shift 116 = .ok (.iload 5, 2) := by decide +kernel
theorem nd_Pr_shift_118 : decode nc_Pr_shift 118 = .ok (.ireturn, 1) := by decide +kernel
theorem nd_Pr_rotate_0 : decode nc_Pr_rotate 0 = .ok (.iload_n 3, 1) := by decide +kernel
theorem nd_Pr_rotate_1 : decode nc_Pr_rotate 1 = .ok (.bipush 31, 2) := by decide +kernel
theorem nd_Pr_rotate_3 : decode nc_Pr_rotate 3 = .ok (.iand, 1) := by decide +kernel
theorem nd_Pr_rotate_4 : decode nc_Pr_rotate 4 = .ok (.istore 4, 2) := by decide +kernel
theorem nd_Pr_rotate_6 : decode nc_Pr_rotate 6 = .ok (.iload 4, 2) := by decide +kernel
theorem nd_Pr_rotate_8 : decode nc_Pr_rotate 8 = .ok (.ifCond .ne 7, 3) := by decide +kernel
theorem nd_Pr_rotate_11 : decode nc_Pr_rotate 11 = .ok (.iload_n 2, 1) := by decide +kernel
theorem nd_Pr_rotate_12 : decode nc_Pr_rotate 12 = .ok (.goto 15, 3) := by decide +kernel
theorem nd_Pr_rotate_15 : decode nc_Pr_rotate 15 = .ok (.iload_n 2, 1) := by decide +kernel
theorem nd_Pr_rotate_16 : decode nc_Pr_rotate 16 = .ok (.iload 4, 2) := by decide +kernel
theorem nd_Pr_rotate_18 : decode nc_Pr_rotate 18 = .ok (.iushr, 1) := by decide +kernel
theorem nd_Pr_rotate_19 : decode nc_Pr_rotate 19 = .ok (.iload_n 2, 1) := by decide +kernel
theorem nd_Pr_rotate_20 : decode nc_Pr_rotate 20 = .ok (.bipush 32, 2) := by decide +kernel
theorem nd_Pr_rotate_22 : decode nc_Pr_rotate 22 = .ok (.iload 4, 2) := by decide +kernel
theorem nd_Pr_rotate_24 : decode nc_Pr_rotate 24 = .ok (.isub, 1) := by decide +kernel
theorem nd_Pr_rotate_25 : decode nc_Pr_rotate 25 = .ok (.ishl, 1) := by decide +kernel
theorem nd_Pr_rotate_26 : decode nc_Pr_rotate 26 = .ok (.ior, 1) := by decide +kernel
theorem nd_Pr_rotate_27 : decode nc_Pr_rotate 27 = .ok (.istore 5, 2) := by decide +kernel
theorem nd_Pr_rotate_29 : decode nc_Pr_rotate 29 = .ok (.iload_n 3, 1) := by decide +kernel
theorem nd_Pr_rotate_30 : decode nc_Pr_rotate 30 = .ok (.ifCond .le 18, 3) := by decide +kernel
theorem nd_Pr_rotate_33 : decode nc_Pr_rotate 33 = .ok (.aload_n 0, 1) := by decide +kernel
theorem nd_Pr_rotate_34 : decode nc_Pr_rotate 34 = .ok (.aload_n 1, 1) := by decide +kernel
theorem nd_Pr_rotate_35 : decode nc_Pr_rotate 35 = .ok (.iload 5, 2) := by decide +kernel
theorem nd_Pr_rotate_37 : decode nc_Pr_rotate 37 = .ok (.ifCond .ge 7, 3) := by decide +kernel
theorem nd_Pr_rotate_40 : decode nc_Pr_rotate 40 = .ok (.iconst 1, 1) := by decide +kernel
theorem nd_Pr_rotate_41 : decode nc_Pr_rotate 41 = .ok (.goto 4, 3) := by decide +kernel
theorem nd_Pr_rotate_44 : decode nc_Pr_rotate 44 = .ok (.iconst 0, 1) := by decide +kernel
theorem nd_Pr_rotate_45 : decode nc_Pr_rotate 45 = .ok (.invokevirtual 133, 3) := by decide +kernel
theorem nd_Pr_rotate_48 : decode nc_Pr_rotate 48 = .ok (.aload_n 0, 1) := by decide +kernel
theorem nd_Pr_rotate_49 : decode nc_Pr_rotate 49 = .ok (.aload_n 1, 1) := by decide +kernel
theorem nd_Pr_rotate_50 : decode nc_Pr_rotate 50 = .ok (.iload 5, 2) := by decide +kernel
theorem nd_Pr_rotate_52 : decode nc_Pr_rotate 52 = .ok (.invokevirtual 86, 3) := by decide +kernel
theorem nd_Pr_rotate_55 : decode nc_Pr_rotate 55 = .ok (.iload 5, 2) := by decide +kernel
theorem nd_Pr_rotate_57 : decode nc_Pr_rotate 57 = .ok (.ireturn, 1) := by decide +kernel
theorem nd_Pr_add_0 : decode nc_Pr_add 0 = .ok (.iload_n 2, 1) := by decide +kernel
theorem nd_Pr_add_1 : decode nc_Pr_add 1 = .ok (.i2l, 1) := by decide +kernel
theorem nd_Pr_add_2 : decode nc_Pr_add 2 = .ok (.iload_n 3, 1) := by decide +kernel
theorem nd_Pr_add_3 : decode nc_Pr_add 3 = .ok (.i2l, 1) := by decide +kernel
theorem nd_Pr_add_4 : decode nc_Pr_add 4 = .ok (.ladd, 1) := by decide +kernel
theorem nd_Pr_add_5 : decode nc_Pr_add 5 = .ok (.iload 4, 2) := by decide +kernel
theorem nd_Pr_add_7 : decode nc_Pr_add 7 = .ok (.i2l, 1) := by decide +kernel
theorem nd_Pr_add_8 : decode nc_Pr_add 8 = .ok (.ladd, 1) := by decide +kernel
theorem nd_Pr_add_9 : decode nc_Pr_add 9 = .ok (.lstore 5, 2) := by decide +kernel
theorem nd_Pr_add_11 : decode nc_Pr_add 11 = .ok (.iload_n 2, 1) := by decide +kernel
theorem nd_Pr_add_12 : decode nc_Pr_add 12 = .ok (.i2l, 1) := by decide +kernel
theorem nd_Pr_add_13 : decode nc_Pr_add 13 = .ok (.ldc2_w 131, 3) := by decide +kernel
theorem nd_Pr_add_16 : decode nc_Pr_add 16 = .ok (.land, 1) := by decide +kernel
theorem nd_Pr_add_17 : decode nc_Pr_add 17 = .ok (.iload_n 3, 1) := by decide +kernel
theorem nd_Pr_add_18 : decode nc_Pr_add 18 = .ok (.i2l, 1) := by decide +kernel
theorem nd_Pr_add_19 : decode nc_Pr_add 19 = .ok (.ldc2_w 131, 3) := by decide +kernel
theorem nd_Pr_add_22 : decode nc_Pr_add 22 = .ok (.land, 1) := by decide +kernel
theorem nd_Pr_add_23 : decode nc_Pr_add 23 = .ok (.ladd, 1) := by decide +kernel
theorem nd_Pr_add_24 : decode nc_Pr_add 24 = .ok (.iload 4, 2) := by decide +kernel
theorem nd_Pr_add_26 : decode nc_Pr_add 26 = .ok (.i2l, 1) := by decide +kernel
theorem nd_Pr_add_27 : decode nc_Pr_add 27 = .ok (.ladd, 1) := by decide +kernel
theorem nd_Pr_add_28 : decode nc_Pr_add 28 = .ok (.lstore 7, 2) := by decide +kernel
theorem nd_Pr_add_30 : decode nc_Pr_add 30 = .ok (.lload 5, 2) := by decide +kernel
theorem nd_Pr_add_32 : decode nc_Pr_add 32 = .ok (.l2i, 1) := by decide +kernel
theorem nd_Pr_add_33 : decode nc_Pr_add 33 = .ok (.istore 9, 2) := by decide +kernel
theorem nd_Pr_add_35 : decode nc_Pr_add 35 = .ok (.aload_n 1, 1) := by decide +kernel
theorem nd_Pr_add_36 : decode nc_Pr_add 36 = .ok (.lload 7, 2) := by decide +kernel
theorem nd_Pr_add_38 : decode nc_Pr_add 38 = .ok (.ldc2_w 131, 3) := by decide +kernel
theorem nd_Pr_add_41 : decode nc_Pr_add 41 = .ok (.lcmp, 1) := by decide +kernel
theorem nd_Pr_add_42 : decode nc_Pr_add 42 = .ok (.ifCond .le 7, 3) := by decide +kernel
theorem nd_Pr_add_45 : decode nc_Pr_add 45 = .ok (.iconst 2, 1) := by decide +kernel
theorem nd_Pr_add_46 : decode nc_Pr_add 46 = .ok (.goto 4, 3) := by decide +kernel
theorem nd_Pr_add_49 : decode nc_Pr_add 49 = .ok (.iconst 0, 1) := by decide +kernel
theorem nd_Pr_add_50 : decode nc_Pr_add 50 = .ok (.lload 5, 2) := by decide +kernel
theorem nd_Pr_add_52 : decode nc_Pr_add 52 = .ok (.iload 9, 2) := by decide +kernel
theorem nd_Pr_add_54 : decode nc_Pr_add 54 = .ok (.i2l, 1) := by decide +kernel
theorem nd_Pr_add_55 : decode nc_Pr_add 55 = .ok (.lcmp, 1) := by decide +kernel
theorem nd_Pr_add_56 : decode nc_Pr_add 56 = .ok (.ifCond .ne 7, 3) := by decide +kernel
theorem nd_Pr_add_59 : decode nc_Pr_add 59 = .ok (.iconst 0, 1) := by decide +kernel
theorem nd_Pr_add_60 : decode nc_Pr_add 60 = .ok (.goto 4, 3) := by decide +kernel
theorem nd_Pr_add_63 : decode nc_Pr_add 63 = .ok (.iconst 1, 1) := by decide +kernel
theorem nd_Pr_add_64 : decode nc_Pr_add 64 = .ok (.iadd, 1) := by decide +kernel
theorem nd_Pr_add_65 : decode nc_Pr_add 65 = .ok (.putfield 90, 3) := by decide +kernel
theorem nd_Pr_add_68 : decode nc_Pr_add 68 = .ok (.aload_n 0, 1) := by decide +kernel
theorem nd_Pr_add_69 : decode nc_Pr_add 69 = .ok (.aload_n 1, 1) := by decide +kernel
theorem nd_Pr_add_70 : decode nc_Pr_add 70 = .ok (.iload 9, 2) := by decide +kernel
theorem nd_Pr_add_72 : decode nc_Pr_add 72 = .ok (.invokevirtual 86, 3) := by decide +kernel
theorem nd_Pr_add_75 : decode nc_Pr_add 75 = .ok (.iload 9, 2) := by decide +kernel
theorem nd_Pr_add_77 : decode nc_Pr_add 77 = .ok (.ireturn, 1) := by decide +kernel
theorem nd_Pr_setSigns_0 : decode nc_Pr_setSigns 0 = .ok (.iload_n 2, 1) := by decide +kernel
theorem nd_Pr_setSigns_1 : decode nc_Pr_setSigns 1 = .ok (.ifCond .ge 8, 3) := by decide +kernel
theorem nd_Pr_setSigns_4 : decode nc_Pr_setSigns 4 = .ok (.bipush 8, 2) := by decide +kernel
theorem nd_Pr_setSigns_6 : decode nc_Pr_setSigns 6 = .ok (.goto 4, 3) := by decide +kernel
theorem nd_Pr_setSigns_9 : decode nc_Pr_setSigns 9 = .ok (.iconst 0, 1) := by decide +kernel
theorem nd_Pr_setSigns_10 : decode nc_Pr_setSigns 10 = .ok (.iload_n 2, 1) := by decide +kernel
theorem nd_Pr_setSigns_11 : decode nc_Pr_setSigns 11 = .ok (.ifCond .ne 7, 3) := by decide +kernel
theorem nd_Pr_setSigns_14 : decode nc_Pr_setSigns 14 = .ok (.iconst 4, 1) := by decide +kernel
theorem nd_Pr_setSigns_15 : decode nc_Pr_setSigns 15 = .ok (.goto 4, 3) := by decide +kernel
theorem nd_Pr_setSigns_18 : decode nc_Pr_setSigns 18 = .ok (.iconst 0, 1) := by decide +kernel
theorem nd_Pr_setSigns_19 : decode nc_Pr_setSigns 19 = .ok (.iadd, 1) := by decide +kernel
theorem nd_Pr_setSigns_20 : decode nc_Pr_setSigns 20 = .ok (.istore_n 3, 1) := by decide +kernel
theorem nd_Pr_setSigns_21 : decode nc_Pr_setSigns 21 = .ok (.aload_n 1, 1) := by decide +kernel
theorem nd_Pr_setSigns_22 : decode nc_Pr_setSigns 22 = .ok (.aload_n 1, 1) := by decide +kernel
theorem nd_Pr_setSigns_23 : decode nc_Pr_setSigns 23 = .ok (.getfield 90, 3) := by decide +kernel
theorem nd_Pr_setSigns_26 : decode nc_Pr_setSigns 26 = .ok (.iconst 3, 1) := by decide +kernel
theorem nd_Pr_setSigns_27 : decode nc_Pr_setSigns 27 = .ok (.iand, 1) := by decide +kernel
theorem nd_Pr_setSigns_28 : decode nc_Pr_setSigns 28 = .ok (.iload_n 3, 1) := by decide +kernel
theorem nd_Pr_setSigns_29 : decode nc_Pr_setSigns 29 = .ok (.ior, 1) := by decide +kernel
theorem nd_Pr_setSigns_30 : decode nc_Pr_setSigns 30 = .ok (.putfield 90, 3) := by decide +kernel
theorem nd_Pr_setSigns_33 : decode nc_Pr_setSigns 33 = .ok (.return_, 1) := by decide +kernel
theorem nd_Pr_setCarry_0 : decode nc_Pr_setCarry 0 = .ok (.aload_n 1, 1) := by decide +kernel
theorem nd_Pr_setCarry_1 : decode nc_Pr_setCarry 1 = .ok (.iload_n 2, 1) := by decide +kernel
theorem nd_Pr_setCarry_2 : decode nc_Pr_setCarry 2 = .ok (.ifCond .eq 12, 3) := by decide +kernel
theorem nd_Pr_setCarry_5 : decode nc_Pr_setCarry 5 = .ok (.aload_n 1, 1) := by decide +kernel
theorem nd_Pr_setCarry_6 : decode nc_Pr_setCarry 6 = .ok (.getfield 90, 3) := by decide +kernel
theorem nd_Pr_setCarry_9 : decode nc_Pr_setCarry 9 = .ok (.iconst 2, 1) := by decide +kernel
theorem nd_Pr_setCarry_10 : decode nc_Pr_setCarry 10 = .ok (.ior, 1) := by decide +kernel
theorem nd_Pr_setCarry_11 : decode nc_Pr_setCarry 11 = .ok (.goto 10, 3) := by decide +kernel
theorem nd_Pr_setCarry_14 : decode nc_Pr_setCarry 14 = .ok (.aload_n 1, 1) := by decide +kernel
theorem nd_Pr_setCarry_15 : decode nc_Pr_setCarry 15 = .ok (.getfield 90, 3) := by decide +kernel
theorem nd_Pr_setCarry_18 : decode nc_Pr_setCarry 18 = .ok (.bipush (-3), 2) := by decide +kernel
theorem nd_Pr_setCarry_20 : decode nc_Pr_setCarry 20 = .ok (.iand, 1) := by decide +kernel
theorem nd_Pr_setCarry_21 : decode nc_Pr_setCarry 21 = .ok (.putfield 90, 3) := by decide +kernel
theorem nd_Pr_setCarry_24 : decode nc_Pr_setCarry 24 = .ok (.return_, 1) := by decide +kernel
theorem nd_GM_init_0 : decode nc_GM_init 0 = .ok (.aload_n 0, 1) := by decide +kernel
theorem nd_GM_init_1 : decode nc_GM_init 1 = .ok (.invokespecial 1, 3) := by decide +kernel
theorem nd_GM_init_4 : decode nc_GM_init 4 = .ok (.aload_n 0, 1) := by decide +kernel
theorem nd_GM_init_5 : decode nc_GM_init 5 = .ok (.sipush 256, 3) := by decide +kernel
theorem nd_GM_init_8 : decode nc_GM_init 8 = .ok (.newarray .int, 2) := by decide +kernel
theorem nd_GM_init_10 : decode nc_GM_init 10 = .ok (.putfield 7, 3) := by decide +kernel
theorem nd_GM_init_13 : decode nc_GM_init 13 = .ok (.aload_n 0, 1) := by decide +kernel
theorem nd_GM_init_14 : decode nc_GM_init 14 = .ok (.sipush 128, 3) := by decide +kernel
theorem nd_GM_init_17 : decode nc_GM_init 17 = .ok (.newarray .int, 2) := by decide +kernel
theorem nd_GM_init_19 : decode nc_GM_init 19 = .ok (.putfield 13, 3) := by decide +kernel
theorem nd_GM_init_22 : decode nc_GM_init 22 = .ok (.aload_n 0, 1) := by decide +kernel
theorem nd_GM_init_23 : decode nc_GM_init 23 = .ok (.iconst (-1), 1) := by decide +kernel
theorem nd_GM_init_24 : decode nc_GM_init 24 = .ok (.putfield 16, 3) := by decide +kernel
theorem nd_GM_init_27 : decode nc_GM_init 27 = .ok (.aload_n 0, 1) := by decide +kernel
theorem nd_GM_init_28 : decode nc_GM_init 28 = .ok (.iconst 4, 1) := by decide +kernel
theorem nd_GM_init_29 : decode nc_GM_init 29 = .ok (.newarray .int, 2) := by decide +kernel
theorem nd_GM_init_31 : decode nc_GM_init 31 = .ok (.putfield 20, 3) := by decide +kernel
theorem nd_GM_init_34 : decode nc_GM_init 34 = .ok (.aload_n 0, 1) := by decide +kernel
theorem nd_GM_init_35 : decode nc_GM_init 35 = .ok (.iconst 4, 1) := by decide +kernel
theorem nd_GM_init_36 : decode nc_GM_init 36 = .ok (.newarray .int, 2) := by decide +kernel
theorem nd_GM_init_38 : decode nc_GM_init 38 = .ok (.putfield 23, 3) := by decide +kernel
theorem nd_GM_init_41 : decode nc_GM_init 41 = .ok (.aload_n 0, 1) := by decide +kernel
theorem nd_GM_init_42 : decode nc_GM_init 42 = .ok (.iconst 4, 1) := by decide +kernel
theorem nd_GM_init_43 : decode nc_GM_init 43 = .ok (.newarray .int, 2) := by decide +kernel
theorem nd_GM_init_45 : decode nc_GM_init 45 = .ok (.putfield 26, 3) := by decide +kernel
theorem nd_GM_init_48 : decode nc_GM_init 48 = .ok (.aload_n 0, 1) := by decide +kernel
theorem nd_GM_init_49 : decode nc_GM_init 49 = .ok (.iconst 4, 1) := by decide +kernel
theorem nd_GM_init_50 : decode nc_GM_init 50 = .ok (.newarray .int, 2) := by decide +kernel
theorem nd_GM_init_52 : decode nc_GM_init 52 = .ok (.putfield 29, 3) := by decide +kernel
theorem nd_GM_init_55 : decode nc_GM_init 55 = .ok (.aload_n 0, 1) := by decide +kernel
theorem nd_GM_init_56 : decode nc_GM_init 56 = .ok (.iconst 4, 1) := by decide +kernel
theorem nd_GM_init_57 : decode nc_GM_init 57 = .ok (.newarray .int, 2) := by decide +kernel
theorem nd_GM_init_59 : decode nc_GM_init 59 = .ok (.putfield 32, 3) := by decide +kernel
theorem nd_GM_init_62 : decode nc_GM_init 62 = .ok (.aload_n 0, 1) := by decide +kernel
theorem nd_GM_init_63 : decode nc_GM_init 63 = .ok (.iconst 4, 1) := by decide +kernel
theorem nd_GM_init_64 : decode nc_GM_init 64 = .ok (.newarray .int, 2) := by decide +kernel
theorem nd_GM_init_66 : decode nc_GM_init 66 = .ok (.putfield 35, 3) := by decide +kernel
theorem nd_GM_init_69 : decode nc_GM_init 69 = .ok (.aload_n 0, 1) := by decide +kernel
theorem nd_GM_init_70 : decode nc_GM_init 70 = .ok (.iconst 4, 1) := by decide +kernel
theorem nd_GM_init_71 : decode nc_GM_init 71 = .ok (.newarray .int, 2) := by decide +kernel
theorem nd_GM_init_73 : decode nc_GM_init 73 = .ok (.putfield 38, 3) := by decide +kernel
theorem nd_GM_init_76 : decode nc_GM_init 76 = .ok (.aload_n 0, 1) := by decide +kernel
theorem nd_GM_init_77 : decode nc_GM_init 77 = .ok (.iconst 4, 1) := by decide +kernel
theorem nd_GM_init_78 : decode nc_GM_init 78 = .ok (.newarray .int, 2) := by decide +kernel
theorem nd_GM_init_80 : decode nc_GM_init 80 = .ok (.putfield 41, 3) := by decide +kernel
theorem nd_GM_init_83 : decode nc_GM_init 83 = .ok (.aload_n 0, 1) := by decide +kernel
theorem nd_GM_init_84 : decode nc_GM_init 84 = .ok (.bipush 32, 2) := by decide +kernel
theorem nd_GM_init_86 : decode nc_GM_init 86 = .ok (.newarray .int, 2) := by decide +kernel
theorem nd_GM_init_88 : decode nc_GM_init 88 = .ok (.putfield 44, 3) := by decide +kernel
theorem nd_GM_init_91 : decode nc_GM_init 91 = .ok (.aload_n 0, 1) := by decide +kernel
theorem nd_GM_init_92 : decode nc_GM_init 92 = .ok (.iconst 4, 1) := by decide +kernel
theorem nd_GM_init_93 : decode nc_GM_init 93 = .ok (.newarray .int, 2) := by decide +kernel
theorem nd_GM_init_95 : decode nc_GM_init 95 = .ok (.putfield 47, 3) := by decide +kernel
theorem nd_GM_init_98 : decode nc_GM_init 98 = .ok (.aload_n 0, 1) := by decide +kernel
theorem nd_GM_init_99 : decode nc_GM_init 99 = .ok (.iconst 4, 1) := by decide +kernel
theorem nd_GM_init_100 : decode nc_GM_init 100 = .ok (.newarray .int, 2) := by decide +kernel
theorem nd_GM_init_102 : decode nc_GM_init 102 = .ok (.putfield 50, 3) := by decide +kernel
theorem nd_GM_init_105 : decode nc_GM_init 105 = .ok (.aload_n 0, 1) := by decide +kernel
theorem nd_GM_init_106 : decode nc_GM_init 106 = .ok (.iconst 4, 1) := by decide +kernel
theorem nd_GM_init_107 : decode nc_GM_init 107 = .ok (.newarray .int, 2) := by decide +kernel
theorem nd_GM_init_109 : decode nc_GM_init 109 = .ok (.putfield 53, 3) := by decide +kernel
theorem nd_GM_init_112 : decode nc_GM_init 112 = .ok (.aload_n 0, 1) := by decide +kernel
theorem nd_GM_init_113 : decode nc_GM_init 113 = .ok (.iconst 4, 1) := by decide +kernel
theorem nd_GM_init_114 : decode nc_GM_init 114 = .ok (.newarray .int, 2) := by decide +kernel
theorem nd_GM_init_116 : decode nc_GM_init 116 = .ok (.putfield 56, 3) := by decide +kernel
theorem nd_GM_init_119 : decode nc_GM_init 119 = .ok (.aload_n 0, 1) := by decide +kernel
theorem nd_GM_init_120 : decode nc_GM_init 120 = .ok (.iconst 4, 1) := by decide +kernel
theorem nd_GM_init_121 : decode nc_GM_init 121 = .ok (.newarray .boolean, 2) := by decide +kernel
theorem nd_GM_init_123 : decode nc_GM_init 123 = .ok (.putfield 59, 3) := by decide +kernel
theorem nd_GM_init_126 : decode nc_GM_init 126 = .ok (.aload_n 0, 1) := by decide +kernel
theorem nd_GM_init_127 : decode nc_GM_init 127 = .ok (.iconst 4, 1) := by decide +kernel
theorem nd_GM_init_128 : decode nc_GM_init 128 = .ok (.newarray .int, 2) := by decide +kernel
theorem nd_GM_init_130 : decode nc_GM_init 130 = .ok (.putfield 63, 3) := by decide +kernel
theorem nd_GM_init_133 : decode nc_GM_init 133 = .ok (.aload_n 0, 1) := by decide +kernel
theorem nd_GM_init_134 : decode nc_GM_init 134 = .ok (.iconst 4, 1) := by decide +kernel
theorem nd_GM_init_135 : decode nc_GM_init 135 = .ok (.newarray .int, 2) := by decide +kernel
theorem nd_GM_init_137 : decode nc_GM_init 137 = .ok (.putfield 66, 3) := by decide +kernel
theorem nd_GM_init_140 : decode nc_GM_init 140 = .ok (.aload_n 0, 1) := by decide +kernel
theorem nd_GM_init_141 : decode nc_GM_init 141 = .ok (.iconst 4, 1) := by decide +kernel
theorem nd_GM_init_142 : decode nc_GM_init 142 = .ok (.newarray .int, 2) := by decide +kernel
theorem nd_GM_init_144 : decode nc_GM_init 144 = .ok (.putfield 69, 3) := by decide +kernel
theorem nd_GM_init_147 : decode nc_GM_init 147 = .ok (.aload_n 0, 1) := by decide +kernel
theorem nd_GM_init_148 : decode nc_GM_init 148 = .ok (.bipush 12, 2) := by decide +kernel
theorem nd_GM_init_150 : decode nc_GM_init 150 = .ok (.newarray .int, 2) := by decide +kernel
theorem nd_GM_init_152 : decode nc_GM_init 152 = .ok (.putfield 72, 3) := by decide +kernel
theorem nd_GM_init_155 : decode nc_GM_init 155 = .ok (.aload_n 0, 1) := by decide +kernel
theorem nd_GM_init_156 : decode nc_GM_init 156 = .ok (.bipush 12, 2) := by decide +kernel
theorem nd_GM_init_158 : decode nc_GM_init 158 = .ok (.newarray .int, 2) := by decide +kernel
theorem nd_GM_init_160 : decode nc_GM_init 160 = .ok (.putfield 75, 3) := by decide +kernel
theorem nd_GM_init_163 : decode nc_GM_init 163 = .ok (.aload_n 0, 1) := by decide +kernel
theorem nd_GM_init_164 : decode nc_GM_init 164 = .ok (.bipush 12, 2) := by decide +kernel
theorem nd_GM_init_166 : decode nc_GM_init 166 = .ok (.newarray .int, 2) := by decide +kernel
theorem nd_GM_init_168 : decode nc_GM_init 168 = .ok (.putfield 78, 3) := by decide +kernel
theorem nd_GM_init_171 : decode nc_GM_init 171 = .ok (.aload_n 0, 1) := by decide +kernel
theorem nd_GM_init_172 : decode nc_GM_init 172 = .ok (.bipush 12, 2) := by decide +kernel
theorem nd_GM_init_174 : decode nc_GM_init 174 = .ok (.newarray .int, 2) := by decide +kernel
theorem nd_GM_init_176 : decode nc_GM_init 176 = .ok (.putfield 81, 3) := by decide +kernel
theorem nd_GM_init_179 : decode nc_GM_init 179 = .ok (.aload_n 0, 1) := by decide +kernel
theorem nd_GM_init_180 : decode nc_GM_init 180 = .ok (.bipush 12, 2) := by decide +kernel
theorem nd_GM_init_182 : decode nc_GM_init 182 = .ok (.newarray .int, 2) := by decide +kernel
theorem nd_GM_init_184 : decode nc_GM_init 184 = .ok (.putfield 84, 3) := by decide +kernel
theorem nd_GM_init_187 : decode nc_GM_init 187 = .ok (.aload_n 0, 1) := by decide +kernel
theorem nd_GM_init_188 : decode nc_GM_init 188 = .ok (.bipush 16, 2) := by decide +kernel
theorem nd_GM_init_190 : decode nc_GM_init 190 = .ok (.newarray .int, 2) := by decide +kernel
theorem nd_GM_init_192 : decode nc_GM_init 192 = .ok (.putfield 87, 3) := by decide +kernel
theorem nd_GM_init_195 : decode nc_GM_init 195 = .ok (.aload_n 0, 1) := by decide +kernel
theorem nd_GM_init_196 : decode nc_GM_init 196 = .ok (.bipush 16, 2) := by decide +kernel
theorem nd_GM_init_198 : decode nc_GM_init 198 = .ok (.newarray .int, 2) := by decide +kernel
theorem nd_GM_init_200 : decode nc_GM_init 200 = .ok (.putfield 90, 3) := by decide +kernel
theorem nd_GM_init_203 : decode nc_GM_init 203 = .ok (.aload_n 0, 1) := by decide +kernel
theorem nd_GM_init_204 : decode nc_GM_init 204 = .ok (.bipush 16, 2) := by decide +kernel
theorem nd_GM_init_206 : decode nc_GM_init 206 = .ok (.newarray .int, 2) := by decide +kernel
theorem nd_GM_init_208 : decode nc_GM_init 208 = .ok (.putfield 93, 3) := by decide +kernel
theorem nd_GM_init_211 : decode nc_GM_init 211 = .ok (.aload_n 0, 1) := by decide +kernel
theorem nd_GM_init_212 : decode nc_GM_init 212 = .ok (.bipush 16, 2) := by decide +kernel
theorem nd_GM_init_214 : decode nc_GM_init 214 = .ok (.newarray .int, 2) := by decide +kernel
theorem nd_GM_init_216 : decode nc_GM_init 216 = .ok (.putfield 96, 3) := by decide +kernel
theorem nd_GM_init_219 : decode nc_GM_init 219 = .ok (.aload_n 0, 1) := by decide +kernel
theorem nd_GM_init_220 : decode nc_GM_init 220 = .ok (.bipush 8, 2) := by decide +kernel
theorem nd_GM_init_222 : decode nc_GM_init 222 = .ok (.newarray .int, 2) := by decide +kernel
theorem nd_GM_init_224 : decode nc_GM_init 224 = .ok (.putfield 99, 3) := by decide +kernel
theorem nd_GM_init_227 : decode nc_GM_init 227 = .ok (.aload_n 0, 1) := by decide +kernel
theorem nd_GM_init_228 : decode nc_GM_init 228 = .ok (.bipush 16, 2) := by decide +kernel
theorem nd_GM_init_230 : decode nc_GM_init 230 = .ok (.newarray .int, 2) := by decide +kernel
theorem nd_GM_init_232 : decode nc_GM_init 232 = .ok (.putfield 102, 3) := by decide +kernel
theorem nd_GM_init_235 : decode nc_GM_init 235 = .ok (.return_, 1) := by decide +kernel
theorem nd_GM_there_0 : decode nc_GM_there 0 = .ok (.iload_n 1, 1) := by decide +kernel
theorem nd_GM_there_1 : decode nc_GM_there 1 = .ok (.ifCond .lt 15, 3) := by decide +kernel
theorem nd_GM_there_4 : decode nc_GM_there 4 = .ok (.iload_n 1, 1) := by decide +kernel
theorem nd_GM_there_5 : decode nc_GM_there 5 = .ok (.aload_n 0, 1) := by decide +kernel
theorem nd_GM_there_6 : decode nc_GM_there 6 = .ok (.getfield 105, 3) := by decide +kernel
theorem nd_GM_there_9 : decode nc_GM_there 9 = .ok (.if_icmp .ge 7, 3) := by decide +kernel
theorem nd_GM_there_12 : decode nc_GM_there 12 = .ok (.iconst 1, 1) := by decide +kernel
theorem nd_GM_there_13 : decode nc_GM_there 13 = .ok (.goto 4, 3) := by decide +kernel
theorem nd_GM_there_16 : decode nc_GM_there 16 = .ok (.iconst 0, 1) := by decide +kernel
theorem nd_GM_there_17 : decode nc_GM_there 17 = .ok (.ireturn, 1) := by decide +kernel
theorem nd_GM_burn_0 : decode nc_GM_burn 0 = .ok (.iload_n 1, 1) := by decide +kernel
theorem nd_GM_burn_1 : decode nc_GM_burn 1 = .ok (.ifCond .lt 20, 3) := by decide +kernel
theorem nd_GM_burn_4 : decode nc_GM_burn 4 = .ok (.iload_n 1, 1) := by decide +kernel
theorem nd_GM_burn_5 : decode nc_GM_burn 5 = .ok (.sipush 255, 3) := by decide +kernel
theorem nd_GM_burn_8 : decode nc_GM_burn 8 = .ok (.if_icmp .gt 13, 3) := by decide +kernel
theorem nd_GM_burn_11 : decode nc_GM_burn 11 = .ok (.iload_n 2, 1) := by decide +kernel
theorem nd_GM_burn_12 : decode nc_GM_burn 12 = .ok (.ifCond .lt 9, 3) := by decide +kernel
theorem nd_GM_burn_15 : decode nc_GM_burn 15 = .ok (.iload_n 2, 1) := by decide +kernel
theorem nd_GM_burn_16 : decode nc_GM_burn 16 = .ok (.ldc 108, 2) := by decide +kernel
theorem nd_GM_burn_18 : decode nc_GM_burn 18 = .ok (.if_icmp .le 5, 3) := by decide +kernel
theorem nd_GM_burn_21 : decode nc_GM_burn 21 = .ok (.iconst (-1), 1) := by decide +kernel
theorem nd_GM_burn_22 : decode nc_GM_burn 22 = .ok (.ireturn, 1) := by decide +kernel
theorem nd_GM_burn_23 : decode nc_GM_burn 23 = .ok (.aload_n 0, 1) := by decide +kernel
theorem nd_GM_burn_24 : decode nc_GM_burn 24 = .ok (.getfield 7, 3) := by decide +kernel
theorem nd_GM_burn_27 : decode nc_GM_burn 27 = .ok (.iload_n 1, 1) := by decide +kernel
theorem nd_GM_burn_28 : decode nc_GM_burn 28 = .ok (.iaload, 1) := by decide +kernel
theorem nd_GM_burn_29 : decode nc_GM_burn 29 = .ok (.istore_n 3, 1) := by decide +kernel
theorem nd_GM_burn_30 : decode nc_GM_burn 30 = .ok (.aload_n 0, 1) := by decide +kernel
theorem nd_GM_burn_31 : decode nc_GM_burn 31 = .ok (.getfield 7, 3) := by decide +kernel
theorem nd_GM_burn_34 : decode nc_GM_burn 34 = .ok (.iload_n 1, 1) := by decide +kernel
theorem nd_GM_burn_35 : decode nc_GM_burn 35 = .ok (.iload_n 2, 1) := by decide +kernel
theorem nd_GM_burn_36 : decode nc_GM_burn 36 = .ok (.iastore, 1) := by decide +kernel
theorem nd_GM_burn_37 : decode nc_GM_burn 37 = .ok (.iload_n 3, 1) := by decide +kernel
theorem nd_GM_burn_38 : decode nc_GM_burn 38 = .ok (.ireturn, 1) := by decide +kernel
theorem nd_GM_boot_0 : decode nc_GM_boot 0 = .ok (.iconst 0, 1) := by decide +kernel
theorem nd_GM_boot_1 : decode nc_GM_boot 1 = .ok (.istore_n 1, 1) := by decide +kernel
theorem nd_GM_boot_2 : decode nc_GM_boot 2 = .ok (.iload_n 1, 1) := by decide +kernel
theorem nd_GM_boot_3 : decode nc_GM_boot 3 = .ok (.sipush 128, 3) := by decide +kernel
theorem nd_GM_boot_6 : decode nc_GM_boot 6 = .ok (.if_icmp .ge 16, 3) := by decide +kernel
theorem nd_GM_boot_9 : decode nc_GM_boot 9 = .ok (.aload_n 0, 1) := by decide +kernel
theorem nd_GM_boot_10 : decode nc_GM_boot 10 = .ok (.getfield 13, 3) := by decide +kernel
theorem nd_GM_boot_13 : decode nc_GM_boot 13 = .ok (.iload_n 1, 1) := by decide +kernel
theorem nd_GM_boot_14 : decode nc_GM_boot 14 = .ok (.iconst 0, 1) := by decide +kernel
theorem nd_GM_boot_15 : decode nc_GM_boot 15 = .ok (.iastore, 1) := by decide +kernel
theorem nd_GM_boot_16 : decode nc_GM_boot 16 = .ok (.iinc 1 1, 3) := by decide +kernel
theorem nd_GM_boot_19 : decode nc_GM_boot 19 = .ok (.goto (-17), 3) := by decide +kernel
theorem nd_GM_boot_22 : decode nc_GM_boot 22 = .ok (.aload_n 0, 1) := by decide +kernel
theorem nd_GM_boot_23 : decode nc_GM_boot 23 = .ok (.iconst 0, 1) := by decide +kernel
theorem nd_GM_boot_24 : decode nc_GM_boot 24 = .ok (.putfield 109, 3) := by decide +kernel
theorem nd_GM_boot_27 : decode nc_GM_boot 27 = .ok (.aload_n 0, 1) := by decide +kernel
theorem nd_GM_boot_28 : decode nc_GM_boot 28 = .ok (.iconst 0, 1) := by decide +kernel
theorem nd_GM_boot_29 : decode nc_GM_boot 29 = .ok (.putfield 112, 3) := by decide +kernel
theorem nd_GM_boot_32 : decode nc_GM_boot 32 = .ok (.aload_n 0, 1) := by decide +kernel
theorem nd_GM_boot_33 : decode nc_GM_boot 33 = .ok (.iconst 0, 1) := by decide +kernel
theorem nd_GM_boot_34 : decode nc_GM_boot 34 = .ok (.putfield 115, 3) := by decide +kernel
theorem nd_GM_boot_37 : decode nc_GM_boot 37 = .ok (.aload_n 0, 1) := by decide +kernel
theorem nd_GM_boot_38 : decode nc_GM_boot 38 = .ok (.iconst (-1), 1) := by decide +kernel
theorem nd_GM_boot_39 : decode nc_GM_boot 39 = .ok (.putfield 16, 3) := by decide +kernel
theorem nd_GM_boot_42 : decode nc_GM_boot 42 = .ok (.aload_n 0, 1) := by decide +kernel
theorem nd_GM_boot_43 : decode nc_GM_boot 43 = .ok (.iconst 0, 1) := by decide +kernel
theorem nd_GM_boot_44 : decode nc_GM_boot 44 = .ok (.putfield 118, 3) := by decide +kernel
theorem nd_GM_boot_47 : decode nc_GM_boot 47 = .ok (.aload_n 0, 1) := by decide +kernel
theorem nd_GM_boot_48 : decode nc_GM_boot 48 = .ok (.iconst 0, 1) := by decide +kernel
theorem nd_GM_boot_49 : decode nc_GM_boot 49 = .ok (.putfield 105, 3) := by decide +kernel
theorem nd_GM_boot_52 : decode nc_GM_boot 52 = .ok (.aload_n 0, 1) := by decide +kernel
theorem nd_GM_boot_53 : decode nc_GM_boot 53 = .ok (.iconst 0, 1) := by decide +kernel
theorem nd_GM_boot_54 : decode nc_GM_boot 54 = .ok (.putfield 121, 3) := by decide +kernel
theorem nd_GM_boot_57 : decode nc_GM_boot 57 = .ok (.iconst 0, 1) := by decide +kernel
theorem nd_GM_boot_58 : decode nc_GM_boot 58 = .ok (.istore_n 1, 1) := by decide +kernel
theorem nd_GM_boot_59 : decode nc_GM_boot 59 = .ok (.iconst 0, 1) := by decide +kernel
theorem nd_GM_boot_60 : decode nc_GM_boot 60 = .ok (.istore_n 2, 1) := by decide +kernel
theorem nd_GM_boot_61 : decode nc_GM_boot 61 = .ok (.iload_n 1, 1) := by decide +kernel
theorem nd_GM_boot_62 : decode nc_GM_boot 62 = .ok (.bipush 6, 2) := by decide +kernel
theorem nd_GM_boot_64 : decode nc_GM_boot 64 = .ok (.iadd, 1) := by decide +kernel
theorem nd_GM_boot_65 : decode nc_GM_boot 65 = .ok (.sipush 256, 3) := by decide +kernel
theorem nd_GM_boot_68 : decode nc_GM_boot 68 = .ok (.if_icmp .gt 239, 3) := by decide +kernel
theorem nd_GM_boot_71 : decode nc_GM_boot 71 = .ok (.aload_n 0, 1) := by decide +kernel
theorem nd_GM_boot_72 : decode nc_GM_boot 72 = .ok (.getfield 7, 3) := by decide +kernel
theorem nd_GM_boot_75 : decode nc_GM_boot 75 = .ok (.iload_n 1, 1) := by decide +kernel
theorem nd_GM_boot_76 : decode nc_GM_boot 76 = .ok (.iaload, 1) := by decide +kernel
theorem nd_GM_boot_77 : decode nc_GM_boot 77 = .ok (.sipush 21570, 3) := by decide +kernel
theorem nd_GM_boot_80 : decode nc_GM_boot 80 = .ok (.if_icmp .ne 227, 3) := by decide +kernel
theorem nd_GM_boot_83 : decode nc_GM_boot 83 = .ok (.aload_n 0, 1) := by decide +kernel
theorem nd_GM_boot_84 : decode nc_GM_boot 84 = .ok (.getfield 7, 3) := by decide +kernel
theorem nd_GM_boot_87 : decode nc_GM_boot 87 = .ok (.iload_n 1, 1) := by decide +kernel
theorem nd_GM_boot_88 : decode nc_GM_boot 88 = .ok (.iconst 1, 1) := by decide +kernel
theorem nd_GM_boot_89 : decode nc_GM_boot 89 = .ok (.iadd, 1) := by decide +kernel
theorem nd_GM_boot_90 : decode nc_GM_boot 90 = .ok (.iaload, 1) := by decide +kernel
theorem nd_GM_boot_91 : decode nc_GM_boot 91 = .ok (.bipush 8, 2) := by decide +kernel
theorem nd_GM_boot_93 : decode nc_GM_boot 93 = .ok (.if_icmp .lt 214, 3) := by decide +kernel
theorem nd_GM_boot_96 : decode nc_GM_boot 96 = .ok (.aload_n 0, 1) := by decide +kernel
theorem nd_GM_boot_97 : decode nc_GM_boot 97 = .ok (.getfield 7, 3) := by decide +kernel
theorem nd_GM_boot_100 : decode nc_GM_boot 100 = .ok (.iload_n 1, 1) := by decide +kernel
theorem nd_GM_boot_101 : decode nc_GM_boot 101 = .ok (.iconst 1, 1) := by decide +kernel
theorem nd_GM_boot_102 : decode nc_GM_boot 102 = .ok (.iadd, 1) := by decide +kernel
theorem nd_GM_boot_103 : decode nc_GM_boot 103 = .ok (.iaload, 1) := by decide +kernel
theorem nd_GM_boot_104 : decode nc_GM_boot 104 = .ok (.iconst 2, 1) := by decide +kernel
theorem nd_GM_boot_105 : decode nc_GM_boot 105 = .ok (.irem, 1) := by decide +kernel
theorem nd_GM_boot_106 : decode nc_GM_boot 106 = .ok (.ifCond .ne 201, 3) := by decide +kernel
theorem nd_GM_boot_109 : decode nc_GM_boot 109 = .ok (.iload_n 1, 1) := by decide +kernel
theorem nd_GM_boot_110 : decode nc_GM_boot 110 = .ok (.aload_n 0, 1) := by decide +kernel
theorem nd_GM_boot_111 : decode nc_GM_boot 111 = .ok (.getfield 7, 3) := by decide +kernel
theorem nd_GM_boot_114 : decode nc_GM_boot 114 = .ok (.iload_n 1, 1) := by decide +kernel
theorem nd_GM_boot_115 : decode nc_GM_boot 115 = .ok (.iconst 1, 1) := by decide +kernel
theorem nd_GM_boot_116 : decode nc_GM_boot 116 = .ok (.iadd, 1) := by decide +kernel
theorem nd_GM_boot_117 : decode nc_GM_boot 117 = .ok (.iaload, 1) := by decide +kernel
theorem nd_GM_boot_118 : decode nc_GM_boot 118 = .ok (.iadd, 1) := by decide +kernel
theorem nd_GM_boot_119 : decode nc_GM_boot 119 = .ok (.sipush 256, 3) := by decide +kernel
theorem nd_GM_boot_122 : decode nc_GM_boot 122 = .ok (.if_icmp .gt 185, 3) := by decide +kernel
theorem nd_GM_boot_125 : decode nc_GM_boot 125 = .ok (.aload_n 0, 1) := by decide +kernel
theorem nd_GM_boot_126 : decode nc_GM_boot 126 = .ok (.getfield 7, 3) := by decide +kernel
theorem nd_GM_boot_129 : decode nc_GM_boot 129 = .ok (.iload_n 1, 1) := by decide +kernel
theorem nd_GM_boot_130 : decode nc_GM_boot 130 = .ok (.iconst 2, 1) := by decide +kernel
theorem nd_GM_boot_131 : decode nc_GM_boot 131 = .ok (.iadd, 1) := by decide +kernel
theorem nd_GM_boot_132 : decode nc_GM_boot 132 = .ok (.iaload, 1) := by decide +kernel
theorem nd_GM_boot_133 : decode nc_GM_boot 133 = .ok (.istore_n 3, 1) := by decide +kernel
theorem nd_GM_boot_134 : decode nc_GM_boot 134 = .ok (.iload_n 3, 1) := by decide +kernel
theorem nd_GM_boot_135 : decode nc_GM_boot 135 = .ok (.ifCond .ne 8, 3) := by decide +kernel
theorem nd_GM_boot_138 : decode nc_GM_boot 138 = .ok (.bipush 16, 2) := by decide +kernel
theorem nd_GM_boot_140 : decode nc_GM_boot 140 = .ok (.goto 15, 3) := by decide +kernel
theorem nd_GM_boot_143 : decode nc_GM_boot 143 = .ok (.iload_n 3, 1) := by decide +kernel
theorem nd_GM_boot_144 : decode nc_GM_boot 144 = .ok (.iconst 1, 1) := by decide +kernel
theorem nd_GM_boot_145 : decode nc_GM_boot 145 = .ok (.if_icmp .ne 8, 3) := by decide +kernel
theorem nd_GM_boot_148 : decode nc_GM_boot 148 = .ok (.bipush 32, 2) := by decide +kernel
theorem nd_GM_boot_150 : decode nc_GM_boot 150 = .ok (.goto 5, 3) := by decide +kernel
theorem nd_GM_boot_153 : decode nc_GM_boot 153 = .ok (.bipush 64, 2) := by decide +kernel
theorem nd_GM_boot_155 : decode nc_GM_boot 155 = .ok (.istore 4, 2) := by decide +kernel
theorem nd_GM_boot_157 : decode nc_GM_boot 157 = .ok (.iload_n 2, 1) := by decide +kernel
theorem nd_GM_boot_158 : decode nc_GM_boot 158 = .ok (.iload 4, 2) := by decide +kernel
theorem nd_GM_boot_160 : decode nc_GM_boot 160 = .ok (.iadd, 1) := by decide +kernel
theorem nd_GM_boot_161 : decode nc_GM_boot 161 = .ok (.iconst 1, 1) := by decide +kernel
theorem nd_GM_boot_162 : decode nc_GM_boot 162 = .ok (.isub, 1) := by decide +kernel
theorem nd_GM_boot_163 : decode nc_GM_boot 163 = .ok (.iload 4, 2) := by decide +kernel
theorem nd_GM_boot_165 : decode nc_GM_boot 165 = .ok (.idiv, 1) := by decide +kernel
theorem nd_GM_boot_166 : decode nc_GM_boot 166 = .ok (.iload 4, 2) := by decide +kernel
theorem nd_GM_boot_168 : decode nc_GM_boot 168 = .ok (.imul, 1) := by decide +kernel
theorem nd_GM_boot_169 : decode nc_GM_boot 169 = .ok (.istore 5, 2) := by decide +kernel
theorem nd_GM_boot_171 : decode nc_GM_boot 171 = .ok (.iload_n 3, 1) := by decide +kernel
theorem nd_GM_boot_172 : decode nc_GM_boot 172 = .ok (.iconst 2, 1) := by decide +kernel
theorem nd_GM_boot_173 : decode nc_GM_boot 173 = .ok (.if_icmp .gt 78, 3) := by decide +kernel
theorem nd_GM_boot_176 : decode nc_GM_boot 176 = .ok (.aload_n 0, 1) := by decide +kernel
theorem nd_GM_boot_177 : decode nc_GM_boot 177 = .ok (.getfield 7, 3) := by decide +kernel
theorem nd_GM_boot_180 : decode nc_GM_boot 180 = .ok (.iload_n 1, 1) := by decide +kernel
theorem nd_GM_boot_181 : decode nc_GM_boot 181 = .ok (.iconst 3, 1) := by decide +kernel
theorem nd_GM_boot_182 : decode nc_GM_boot 182 = .ok (.iadd, 1) := by decide +kernel
theorem nd_GM_boot_183 : decode nc_GM_boot 183 = .ok (.iaload, 1) := by decide +kernel
theorem nd_GM_boot_184 : decode nc_GM_boot 184 = .ok (.bipush 8, 2) := by decide +kernel
theorem nd_GM_boot_186 : decode nc_GM_boot 186 = .ok (.if_icmp .lt 65, 3) := by decide +kernel
theorem nd_GM_boot_189 : decode nc_GM_boot 189 = .ok (.aload_n 0, 1) := by decide +kernel
theorem nd_GM_boot_190 : decode nc_GM_boot 190 = .ok (.getfield 7, 3) := by decide +kernel
theorem nd_GM_boot_193 : decode nc_GM_boot 193 = .ok (.iload_n 1, 1) := by decide +kernel
theorem nd_GM_boot_194 : decode nc_GM_boot 194 = .ok (.iconst 3, 1) := by decide +kernel
theorem nd_GM_boot_195 : decode nc_GM_boot 195 = .ok (.iadd, 1) := by decide +kernel
theorem nd_GM_boot_196 : decode nc_GM_boot 196 = .ok (.iaload, 1) := by decide +kernel
theorem nd_GM_boot_197 : decode nc_GM_boot 197 = .ok (.iload 4, 2) := by decide +kernel
theorem nd_GM_boot_199 : decode nc_GM_boot 199 = .ok (.if_icmp .gt 52, 3) := by decide +kernel
theorem nd_GM_boot_202 : decode nc_GM_boot 202 = .ok (.aload_n 0, 1) := by decide +kernel
theorem nd_GM_boot_203 : decode nc_GM_boot 203 = .ok (.getfield 7, 3) := by decide +kernel
theorem nd_GM_boot_206 : decode nc_GM_boot 206 = .ok (.iload_n 1, 1) := by decide +kernel
theorem nd_GM_boot_207 : decode nc_GM_boot 207 = .ok (.iconst 4, 1) := by decide +kernel
theorem nd_GM_boot_208 : decode nc_GM_boot 208 = .ok (.iadd, 1) := by decide +kernel
theorem nd_GM_boot_209 : decode nc_GM_boot 209 = .ok (.iaload, 1) := by decide +kernel
theorem nd_GM_boot_210 : decode nc_GM_boot 210 = .ok (.bipush 6, 2) := by decide +kernel
theorem nd_GM_boot_212 : decode nc_GM_boot 212 = .ok (.if_icmp .lt 39, 3) := by decide +kernel
theorem nd_GM_boot_215 : decode nc_GM_boot 215 = .ok (.aload_n 0, 1) := by decide +kernel
theorem nd_GM_boot_216 : decode nc_GM_boot 216 = .ok (.getfield 7, 3) := by decide +kernel
theorem nd_GM_boot_219 : decode nc_GM_boot 219 = .ok (.iload_n 1, 1) := by decide +kernel
theorem nd_GM_boot_220 : decode nc_GM_boot 220 = .ok (.iconst 4, 1) := by decide +kernel
theorem nd_GM_boot_221 : decode nc_GM_boot 221 = .ok (.iadd, 1) := by decide +kernel
theorem nd_GM_boot_222 : decode nc_GM_boot 222 = .ok (.iaload, 1) := by decide +kernel
theorem nd_GM_boot_223 : decode nc_GM_boot 223 = .ok (.aload_n 0, 1) := by decide +kernel
theorem nd_GM_boot_224 : decode nc_GM_boot 224 = .ok (.getfield 7, 3) := by decide +kernel
theorem nd_GM_boot_227 : decode nc_GM_boot 227 = .ok (.iload_n 1, 1) := by decide +kernel
theorem nd_GM_boot_228 : decode nc_GM_boot 228 = .ok (.iconst 1, 1) := by decide +kernel
theorem nd_GM_boot_229 : decode nc_GM_boot 229 = .ok (.iadd, 1) := by decide +kernel
theorem nd_GM_boot_230 : decode nc_GM_boot 230 = .ok (.iaload, 1) := by decide +kernel
theorem nd_GM_boot_231 : decode nc_GM_boot 231 = .ok (.if_icmp .ge 20, 3) := by decide +kernel
theorem nd_GM_boot_234 : decode nc_GM_boot 234 = .ok (.aload_n 0, 1) := by decide +kernel
theorem nd_GM_boot_235 : decode nc_GM_boot 235 = .ok (.getfield 7, 3) := by decide +kernel
theorem nd_GM_boot_238 : decode nc_GM_boot 238 = .ok (.iload_n 1, 1) := by decide +kernel
theorem nd_GM_boot_239 : decode nc_GM_boot 239 = .ok (.iconst 5, 1) := by decide +kernel
theorem nd_GM_boot_240 : decode nc_GM_boot 240 = .ok (.iadd, 1) := by decide +kernel
theorem nd_GM_boot_241 : decode nc_GM_boot 241 = .ok (.iaload, 1) := by decide +kernel
theorem nd_GM_boot_242 : decode nc_GM_boot 242 = .ok (.bipush 15, 2) := by decide +kernel
theorem nd_GM_boot_244 : decode nc_GM_boot 244 = .ok (.if_icmp .gt 7, 3) := by decide +kernel
theorem nd_GM_boot_247 : decode nc_GM_boot 247 = .ok (.iconst 1, 1) := by decide +kernel
theorem nd_GM_boot_248 : decode nc_GM_boot 248 = .ok (.goto 4, 3) := by decide +kernel
theorem nd_GM_boot_251 : decode nc_GM_boot 251 = .ok (.iconst 0, 1) := by decide +kernel
theorem nd_GM_boot_252 : decode nc_GM_boot 252 = .ok (.istore 6, 2) := by decide +kernel
theorem nd_GM_boot_254 : decode nc_GM_boot 254 = .ok (.iload 6, 2) := by decide +kernel
theorem nd_GM_boot_256 : decode nc_GM_boot 256 = .ok (.ifCond .eq 37, 3) := by decide +kernel
theorem nd_GM_boot_259 : decode nc_GM_boot 259 = .ok (.aload_n 0, 1) := by decide +kernel
theorem nd_GM_boot_260 : decode nc_GM_boot 260 = .ok (.getfield 105, 3) := by decide +kernel
theorem nd_GM_boot_263 : decode nc_GM_boot 263 = .ok (.iconst 4, 1) := by decide +kernel
theorem nd_GM_boot_264 : decode nc_GM_boot 264 = .ok (.if_icmp .ge 29, 3) := by decide +kernel
theorem nd_GM_boot_267 : decode nc_GM_boot 267 = .ok (.iload 5, 2) := by decide +kernel
theorem nd_GM_boot_269 : decode nc_GM_boot 269 = .ok (.iload 4, 2) := by decide +kernel
theorem nd_GM_boot_271 : decode nc_GM_boot 271 = .ok (.iadd, 1) := by decide +kernel
theorem nd_GM_boot_272 : decode nc_GM_boot 272 = .ok (.sipush 128, 3) := by decide +kernel
theorem nd_GM_boot_275 : decode nc_GM_boot 275 = .ok (.if_icmp .gt 18, 3) := by decide +kernel
theorem nd_GM_boot_278 : decode nc_GM_boot 278 = .ok (.aload_n 0, 1) := by decide +kernel
theorem nd_GM_boot_279 : decode nc_GM_boot 279 = .ok (.iload_n 1, 1) := by decide +kernel
theorem nd_GM_boot_280 : decode nc_GM_boot 280 = .ok (.iload 5, 2) := by decide +kernel
theorem nd_GM_boot_282 : decode nc_GM_boot 282 = .ok (.iload 4, 2) := by decide +kernel
theorem nd_GM_boot_284 : decode nc_GM_boot 284 = .ok (.invokevirtual 124, 3) := by decide +kernel
theorem nd_GM_boot_287 : decode nc_GM_boot 287 = .ok (.iload 5, 2) := by decide +kernel
theorem nd_GM_boot_289 : decode nc_GM_boot 289 = .ok (.iload 4, 2) := by decide +kernel
theorem nd_GM_boot_291 : decode nc_GM_boot 291 = .ok (.iadd, 1) := by decide +kernel
theorem nd_GM_boot_292 : decode nc_GM_boot 292 = .ok (.istore_n 2, 1) := by decide +kernel
theorem nd_GM_boot_293 : decode nc_GM_boot 293 = .ok (.iload_n 1, 1) := by decide +kernel
theorem nd_GM_boot_294 : decode nc_GM_boot 294 = .ok (.aload_n 0, 1) := by decide +kernel
theorem nd_GM_boot_295 : decode nc_GM_boot 295 = .ok (.getfield 7, 3) := by decide +kernel
theorem nd_GM_boot_298 : decode nc_GM_boot 298 = .ok (.iload_n 1, 1) := by decide +kernel
theorem nd_GM_boot_299 : decode nc_GM_boot 299 = .ok (.iconst 1, 1) := by decide +kernel
theorem nd_GM_boot_300 : decode nc_GM_boot 300 = .ok (.iadd, 1) := by decide +kernel
theorem nd_GM_boot_301 : decode nc_GM_boot 301 = .ok (.iaload, 1) := by decide +kernel
theorem nd_GM_boot_302 : decode nc_GM_boot 302 = .ok (.iadd, 1) := by decide +kernel
theorem nd_GM_boot_303 : decode nc_GM_boot 303 = .ok (.istore_n 1, 1) := by decide +kernel
theorem nd_GM_boot_304 : decode nc_GM_boot 304 = .ok (.goto (-243), 3) := by decide +kernel
theorem nd_GM_boot_307 : decode nc_GM_boot 307 = .ok (.aload_n 0, 1) := by decide +kernel
theorem nd_GM_boot_308 : decode nc_GM_boot 308 = .ok (.getfield 105, 3) := by decide +kernel
theorem nd_GM_boot_311 : decode nc_GM_boot 311 = .ok (.ireturn, 1) := by decide +kernel
theorem nd_GM_load_0 : decode nc_GM_load 0 = .ok (.aload_n 0, 1) := by decide +kernel
theorem nd_GM_load_1 : decode nc_GM_load 1 = .ok (.getfield 105, 3) := by decide +kernel
theorem nd_GM_load_4 : decode nc_GM_load 4 = .ok (.istore 4, 2) := by decide +kernel
theorem nd_GM_load_6 : decode nc_GM_load 6 = .ok (.aload_n 0, 1) := by decide +kernel
theorem nd_GM_load_7 : decode nc_GM_load 7 = .ok (.dup, 1) := by decide +kernel
theorem nd_GM_load_8 : decode nc_GM_load 8 = .ok (.getfield 105, 3) := by decide +kernel
theorem nd_GM_load_11 : decode nc_GM_load 11 = .ok (.iconst 1, 1) := by decide +kernel
theorem nd_GM_load_12 : decode nc_GM_load 12 = .ok (.iadd, 1) := by decide +kernel
theorem nd_GM_load_13 : decode nc_GM_load 13 = .ok (.putfield 105, 3) := by decide +kernel
theorem nd_GM_load_16 : decode nc_GM_load 16 = .ok (.aload_n 0, 1) := by decide +kernel
theorem nd_GM_load_17 : decode nc_GM_load 17 = .ok (.getfield 20, 3) := by decide +kernel
theorem nd_GM_load_20 : decode nc_GM_load 20 = .ok (.iload 4, 2) := by decide +kernel
theorem nd_GM_load_22 : decode nc_GM_load 22 = .ok (.iload_n 1, 1) := by decide +kernel
theorem nd_GM_load_23 : decode nc_GM_load 23 = .ok (.iastore, 1) := by decide +kernel
theorem nd_GM_load_24 : decode nc_GM_load 24 = .ok (.aload_n 0, 1) := by decide +kernel
theorem nd_GM_load_25 : decode nc_GM_load 25 = .ok (.getfield 23, 3) := by decide +kernel
theorem nd_GM_load_28 : decode nc_GM_load 28 = .ok (.iload 4, 2) := by decide +kernel
theorem nd_GM_load_30 : decode nc_GM_load 30 = .ok (.aload_n 0, 1) := by decide +kernel
theorem nd_GM_load_31 : decode nc_GM_load 31 = .ok (.getfield 7, 3) := by decide +kernel
theorem nd_GM_load_34 : decode nc_GM_load 34 = .ok (.iload_n 1, 1) := by decide +kernel
theorem nd_GM_load_35 : decode nc_GM_load 35 = .ok (.iconst 1, 1) := by decide +kernel
theorem nd_GM_load_36 : decode nc_GM_load 36 = .ok (.iadd, 1) := by decide +kernel
theorem nd_GM_load_37 : decode nc_GM_load 37 = .ok (.iaload, 1) := by decide +kernel
theorem nd_GM_load_38 : decode nc_GM_load 38 = .ok (.iastore, 1) := by decide +kernel
theorem nd_GM_load_39 : decode nc_GM_load 39 = .ok (.aload_n 0, 1) := by decide +kernel
theorem nd_GM_load_40 : decode nc_GM_load 40 = .ok (.getfield 26, 3) := by decide +kernel
theorem nd_GM_load_43 : decode nc_GM_load 43 = .ok (.iload 4, 2) := by decide +kernel
theorem nd_GM_load_45 : decode nc_GM_load 45 = .ok (.iload_n 2, 1) := by decide +kernel
theorem nd_GM_load_46 : decode nc_GM_load 46 = .ok (.iastore, 1) := by decide +kernel
theorem nd_GM_load_47 : decode nc_GM_load 47 = .ok (.aload_n 0, 1) := by decide +kernel
theorem nd_GM_load_48 : decode nc_GM_load 48 = .ok (.getfield 29, 3) := by decide +kernel
theorem nd_GM_load_51 : decode nc_GM_load 51 = .ok (.iload 4, 2) := by decide +kernel
theorem nd_GM_load_53 : decode nc_GM_load 53 = .ok (.iload_n 3, 1) := by decide +kernel
theorem nd_GM_load_54 : decode nc_GM_load 54 = .ok (.iastore, 1) := by decide +kernel
theorem nd_GM_load_55 : decode nc_GM_load 55 = .ok (.aload_n 0, 1) := by decide +kernel
theorem nd_GM_load_56 : decode nc_GM_load 56 = .ok (.getfield 32, 3) := by decide +kernel
theorem nd_GM_load_59 : decode nc_GM_load 59 = .ok (.iload 4, 2) := by decide +kernel
theorem nd_GM_load_61 : decode nc_GM_load 61 = .ok (.aload_n 0, 1) := by decide +kernel
theorem nd_GM_load_62 : decode nc_GM_load 62 = .ok (.getfield 7, 3) := by decide +kernel
theorem nd_GM_load_65 : decode nc_GM_load 65 = .ok (.iload_n 1, 1) := by decide +kernel
theorem nd_GM_load_66 : decode nc_GM_load 66 = .ok (.iconst 3, 1) := by decide +kernel
theorem nd_GM_load_67 : decode nc_GM_load 67 = .ok (.iadd, 1) := by decide +kernel
theorem nd_GM_load_68 : decode nc_GM_load 68 = .ok (.iaload, 1) := by decide +kernel
theorem nd_GM_load_69 : decode nc_GM_load 69 = .ok (.iastore, 1) := by decide +kernel
theorem nd_GM_load_70 : decode nc_GM_load 70 = .ok (.aload_n 0, 1) := by decide +kernel
theorem nd_GM_load_71 : decode nc_GM_load 71 = .ok (.getfield 35, 3) := by decide +kernel
theorem nd_GM_load_74 : decode nc_GM_load 74 = .ok (.iload 4, 2) := by decide +kernel
theorem nd_GM_load_76 : decode nc_GM_load 76 = .ok (.iconst 2, 1) := by decide +kernel
theorem nd_GM_load_77 : decode nc_GM_load 77 = .ok (.iload_n 1, 1) := by decide +kernel
theorem nd_GM_load_78 : decode nc_GM_load 78 = .ok (.aload_n 0, 1) := by decide +kernel
theorem nd_GM_load_79 : decode nc_GM_load 79 = .ok (.getfield 7, 3) := by decide +kernel
theorem nd_GM_load_82 : decode nc_GM_load 82 = .ok (.iload_n 1, 1) := by decide +kernel
theorem nd_GM_load_83 : decode nc_GM_load 83 = .ok (.iconst 4, 1) := by decide +kernel
theorem nd_GM_load_84 : decode nc_GM_load 84 = .ok (.iadd, 1) := by decide +kernel
theorem nd_GM_load_85 : decode nc_GM_load 85 = .ok (.iaload, 1) := by decide +kernel
theorem nd_GM_load_86 : decode nc_GM_load 86 = .ok (.iadd, 1) := by decide +kernel
theorem nd_GM_load_87 : decode nc_GM_load 87 = .ok (.imul, 1) := by decide +kernel
theorem nd_GM_load_88 : decode nc_GM_load 88 = .ok (.iastore, 1) := by decide +kernel
theorem nd_GM_load_89 : decode nc_GM_load 89 = .ok (.aload_n 0, 1) := by decide +kernel
theorem nd_GM_load_90 : decode nc_GM_load 90 = .ok (.getfield 38, 3) := by decide +kernel
theorem nd_GM_load_93 : decode nc_GM_load 93 = .ok (.iload 4, 2) := by decide +kernel
theorem nd_GM_load_95 : decode nc_GM_load 95 = .ok (.aload_n 0, 1) := by decide +kernel
theorem nd_GM_load_96 : decode nc_GM_load 96 = .ok (.getfield 7, 3) := by decide +kernel
theorem nd_GM_load_99 : decode nc_GM_load 99 = .ok (.iload_n 1, 1) := by decide +kernel
theorem nd_GM_load_100 : decode nc_GM_load 100 = .ok (.iconst 5, 1) := by decide +kernel
theorem nd_GM_load_101 : decode nc_GM_load 101 = .ok (.iadd, 1) := by decide +kernel
theorem nd_GM_load_102 : decode nc_GM_load 102 = .ok (.iaload, 1) := by decide +kernel
theorem nd_GM_load_103 : decode nc_GM_load 103 = .ok (.iastore, 1) := by decide +kernel
theorem nd_GM_load_104 : decode nc_GM_load 104 = .ok (.aload_n 0, 1) := by decide +kernel
theorem nd_GM_load_105 : decode nc_GM_load 105 = .ok (.getfield 63, 3) := by decide +kernel
theorem nd_GM_load_108 : decode nc_GM_load 108 = .ok (.iload 4, 2) := by decide +kernel
theorem nd_GM_load_110 : decode nc_GM_load 110 = .ok (.iconst 0, 1) := by decide +kernel
theorem nd_GM_load_111 : decode nc_GM_load 111 = .ok (.iastore, 1) := by decide +kernel
theorem nd_GM_load_112 : decode nc_GM_load 112 = .ok (.aload_n 0, 1) := by decide +kernel
theorem nd_GM_load_113 : decode nc_GM_load 113 = .ok (.getfield 66, 3) := by decide +kernel
theorem nd_GM_load_116 : decode nc_GM_load 116 = .ok (.iload 4, 2) := by decide +kernel
theorem nd_GM_load_118 : decode nc_GM_load 118 = .ok (.iconst 0, 1) := by decide +kernel
theorem nd_GM_load_119 : decode nc_GM_load 119 = .ok (.iastore, 1) := by decide +kernel
theorem nd_GM_load_120 : decode nc_GM_load 120 = .ok (.aload_n 0, 1) := by decide +kernel
theorem nd_GM_load_121 : decode nc_GM_load 121 = .ok (.getfield 69, 3) := by decide +kernel
theorem nd_GM_load_124 : decode nc_GM_load 124 = .ok (.iload 4, 2) := by decide +kernel
theorem nd_GM_load_126 : decode nc_GM_load 126 = .ok (.iconst 0, 1) := by decide +kernel
theorem nd_GM_load_127 : decode nc_GM_load 127 = .ok (.iastore, 1) := by decide +kernel
theorem nd_GM_load_128 : decode nc_GM_load 128 = .ok (.aload_n 0, 1) := by decide +kernel
theorem nd_GM_load_129 : decode nc_GM_load 129 = .ok (.iload 4, 2) := by decide +kernel
theorem nd_GM_load_131 : decode nc_GM_load 131 = .ok (.invokevirtual 128, 3) := by decide +kernel
theorem nd_GM_load_134 : decode nc_GM_load 134 = .ok (.return_, 1) := by decide +kernel
theorem nd_GM_begin_0 : decode nc_GM_begin 0 = .ok (.iconst 0, 1) := by decide +kernel
theorem nd_GM_begin_1 : decode nc_GM_begin 1 = .ok (.istore_n 2, 1) := by decide +kernel
theorem nd_GM_begin_2 : decode nc_GM_begin 2 = .ok (.iload_n 2, 1) := by decide +kernel
theorem nd_GM_begin_3 : decode nc_GM_begin 3 = .ok (.aload_n 0, 1) := by decide +kernel
theorem nd_GM_begin_4 : decode nc_GM_begin 4 = .ok (.getfield 29, 3) := by decide +kernel
theorem nd_GM_begin_7 : decode nc_GM_begin 7 = .ok (.iload_n 1, 1) := by decide +kernel
theorem nd_GM_begin_8 : decode nc_GM_begin 8 = .ok (.iaload, 1) := by decide +kernel
theorem nd_GM_begin_9 : decode nc_GM_begin 9 = .ok (.if_icmp .ge 23, 3) := by decide +kernel
theorem nd_GM_begin_12 : decode nc_GM_begin 12 = .ok (.aload_n 0, 1) := by decide +kernel
theorem nd_GM_begin_13 : decode nc_GM_begin 13 = .ok (.getfield 13, 3) := by decide +kernel
theorem nd_GM_begin_16 : decode nc_GM_begin 16 = .ok (.aload_n 0, 1) := by decide +kernel
theorem nd_GM_begin_17 : decode nc_GM_begin 17 = .ok (.getfield 26, 3) := by decide +kernel
theorem nd_GM_begin_20 : decode nc_GM_begin 20 = .ok (.iload_n 1, 1) := by decide +kernel
theorem nd_GM_begin_21 : decode nc_GM_begin 21 = .ok (.iaload, 1) := by decide +kernel
theorem nd_GM_begin_22 : decode nc_GM_begin 22 = .ok (.iload_n 2, 1) := by decide +kernel
theorem nd_GM_begin_23 : decode nc_GM_begin 23 = .ok (.iadd, 1) := by decide +kernel
theorem nd_GM_begin_24 : decode nc_GM_begin 24 = .ok (.iconst 0, 1) := by decide +kernel
theorem nd_GM_begin_25 : decode nc_GM_begin 25 = .ok (.iastore, 1) := by decide +kernel
theorem nd_GM_begin_26 : decode nc_GM_begin 26 = .ok (.iinc 2 1, 3) := by decide +kernel
theorem nd_GM_begin_29 : decode nc_GM_begin 29 = .ok (.goto (-27), 3) := by decide +kernel
theorem nd_GM_begin_32 : decode nc_GM_begin 32 = .ok (.iconst 0, 1) := by decide +kernel
theorem nd_GM_begin_33 : decode nc_GM_begin 33 = .ok (.istore_n 2, 1) := by decide +kernel
theorem nd_GM_begin_34 : decode nc_GM_begin 34 = .ok (.iload_n 2, 1) := by decide +kernel
theorem nd_GM_begin_35 : decode nc_GM_begin 35 = .ok (.bipush 8, 2) := by decide +kernel
theorem nd_GM_begin_37 : decode nc_GM_begin 37 = .ok (.if_icmp .ge 21, 3) := by decide +kernel
theorem nd_GM_begin_40 : decode nc_GM_begin 40 = .ok (.aload_n 0, 1) := by decide +kernel
theorem nd_GM_begin_41 : decode nc_GM_begin 41 = .ok (.getfield 44, 3) := by decide +kernel
theorem nd_GM_begin_44 : decode nc_GM_begin 44 = .ok (.bipush 8, 2) := by decide +kernel
theorem nd_GM_begin_46 : decode nc_GM_begin 46 = .ok (.iload_n 1, 1) := by decide +kernel
theorem nd_GM_begin_47 : decode nc_GM_begin 47 = .ok (.imul, 1) := by decide +kernel
theorem nd_GM_begin_48 : decode nc_GM_begin 48 = .ok (.iload_n 2, 1) := by decide +kernel
theorem nd_GM_begin_49 : decode nc_GM_begin 49 = .ok (.iadd, 1) := by decide +kernel
theorem nd_GM_begin_50 : decode nc_GM_begin 50 = .ok (.iconst 0, 1) := by decide +kernel
theorem nd_GM_begin_51 : decode nc_GM_begin 51 = .ok (.iastore, 1) := by decide +kernel
theorem nd_GM_begin_52 : decode nc_GM_begin 52 = .ok (.iinc 2 1, 3) := by decide +kernel
theorem nd_GM_begin_55 : decode nc_GM_begin 55 = .ok (.goto (-21), 3) := by decide +kernel
theorem nd_GM_begin_58 : decode nc_GM_begin 58 = .ok (.aload_n 0, 1) := by decide +kernel
theorem nd_GM_begin_59 : decode nc_GM_begin 59 = .ok (.getfield 56, 3) := by decide +kernel
theorem nd_GM_begin_62 : decode nc_GM_begin 62 = .ok (.iload_n 1, 1) := by decide +kernel
theorem nd_GM_begin_63 : decode nc_GM_begin 63 = .ok (.iconst 0, 1) := by decide +kernel
theorem nd_GM_begin_64 : decode nc_GM_begin 64 = .ok (.iastore, 1) := by decide +kernel
theorem nd_GM_begin_65 : decode nc_GM_begin 65 = .ok (.aload_n 0, 1) := by decide +kernel
theorem nd_GM_begin_66 : decode nc_GM_begin 66 = .ok (.getfield 47, 3) := by decide +kernel
theorem nd_GM_begin_69 : decode nc_GM_begin 69 = .ok (.iload_n 1, 1) := by decide +kernel
theorem nd_GM_begin_70 : decode nc_GM_begin 70 = .ok (.sipush 4096, 3) := by decide +kernel
theorem nd_GM_begin_73 : decode nc_GM_begin 73 = .ok (.iconst 4, 1) := by decide +kernel
theorem nd_GM_begin_74 : decode nc_GM_begin 74 = .ok (.aload_n 0, 1) := by decide +kernel
theorem nd_GM_begin_75 : decode nc_GM_begin 75 = .ok (.getfield 26, 3) := by decide +kernel
theorem nd_GM_begin_78 : decode nc_GM_begin 78 = .ok (.iload_n 1, 1) := by decide +kernel
theorem nd_GM_begin_79 : decode nc_GM_begin 79 = .ok (.iaload, 1) := by decide +kernel
theorem nd_GM_begin_80 : decode nc_GM_begin 80 = .ok (.aload_n 0, 1) := by decide +kernel
theorem nd_GM_begin_81 : decode nc_GM_begin 81 = .ok (.getfield 32, 3) := by decide +kernel
theorem nd_GM_begin_84 : decode nc_GM_begin 84 = .ok (.iload_n 1, 1) := by decide +kernel
theorem nd_GM_begin_85 : decode nc_GM_begin 85 = .ok (.iaload, 1) := by decide +kernel
theorem nd_GM_begin_86 : decode nc_GM_begin 86 = .ok (.iadd, 1) := by decide +kernel
theorem nd_GM_begin_87 : decode nc_GM_begin 87 = .ok (.imul, 1) := by decide +kernel
theorem nd_GM_begin_88 : decode nc_GM_begin 88 = .ok (.iadd, 1) := by decide +kernel
theorem nd_GM_begin_89 : decode nc_GM_begin 89 = .ok (.iastore, 1) := by decide +kernel
theorem nd_GM_begin_90 : decode nc_GM_begin 90 = .ok (.aload_n 0, 1) := by decide +kernel
theorem nd_GM_begin_91 : decode nc_GM_begin 91 = .ok (.getfield 50, 3) := by decide +kernel
theorem nd_GM_begin_94 : decode nc_GM_begin 94 = .ok (.iload_n 1, 1) := by decide +kernel
theorem nd_GM_begin_95 : decode nc_GM_begin 95 = .ok (.iconst 0, 1) := by decide +kernel
theorem nd_GM_begin_96 : decode nc_GM_begin 96 = .ok (.iastore, 1) := by decide +kernel
theorem nd_GM_begin_97 : decode nc_GM_begin 97 = .ok (.aload_n 0, 1) := by decide +kernel
theorem nd_GM_begin_98 : decode nc_GM_begin 98 = .ok (.getfield 53, 3) := by decide +kernel
theorem nd_GM_begin_101 : decode nc_GM_begin 101 = .ok (.iload_n 1, 1) := by decide +kernel
theorem nd_GM_begin_102 : decode nc_GM_begin 102 = .ok (.aload_n 0, 1) := by decide +kernel
theorem nd_GM_begin_103 : decode nc_GM_begin 103 = .ok (.getfield 35, 3) := by decide +kernel
theorem nd_GM_begin_106 : decode nc_GM_begin 106 = .ok (.iload_n 1, 1) := by decide +kernel
theorem nd_GM_begin_107 : decode nc_GM_begin 107 = .ok (.iaload, 1) := by decide +kernel
theorem nd_GM_begin_108 : decode nc_GM_begin 108 = .ok (.iastore, 1) := by decide +kernel
theorem nd_GM_begin_109 : decode nc_GM_begin 109 = .ok (.aload_n 0, 1) := by decide +kernel
theorem nd_GM_begin_110 : decode nc_GM_begin 110 = .ok (.getfield 59, 3) := by decide +kernel
theorem nd_GM_begin_113 : decode nc_GM_begin 113 = .ok (.iload_n 1, 1) := by decide +kernel
theorem nd_GM_begin_114 : decode nc_GM_begin 114 = .ok (.iconst 0, 1) := by decide +kernel
theorem nd_GM_begin_115 : decode nc_GM_begin 115 = .ok (.bastore, 1) := by decide +kernel
theorem nd_GM_begin_116 : decode nc_GM_begin 116 = .ok (.aload_n 0, 1) := by decide +kernel
theorem nd_GM_begin_117 : decode nc_GM_begin 117 = .ok (.iload_n 1, 1) := by decide +kernel
theorem nd_GM_begin_118 : decode nc_GM_begin 118 = .ok (.invokevirtual 132, 3) := by decide +kernel
theorem nd_GM_begin_121 : decode nc_GM_begin 121 = .ok (.aload_n 0, 1) := by decide +kernel
theorem nd_GM_begin_122 : decode nc_GM_begin 122 = .ok (.getfield 41, 3) := by decide +kernel
theorem nd_GM_begin_125 : decode nc_GM_begin 125 = .ok (.iload_n 1, 1) := by decide +kernel
theorem nd_GM_begin_126 : decode nc_GM_begin 126 = .ok (.iconst 0, 1) := by decide +kernel
theorem nd_GM_begin_127 : decode nc_GM_begin 127 = .ok (.iastore, 1) := by decide +kernel
theorem nd_GM_begin_128 : decode nc_GM_begin 128 = .ok (.return_, 1) := by decide +kernel
theorem nd_GM_forget_0 : decode nc_GM_forget 0 = .ok (.iconst 0, 1) := by decide +kernel
theorem nd_GM_forget_1 : decode nc_GM_forget 1 = .ok (.istore_n 2, 1) := by decide +kernel
theorem nd_GM_forget_2 : decode nc_GM_forget 2 = .ok (.iload_n 2, 1) := by decide +kernel
theorem nd_GM_forget_3 : decode nc_GM_forget 3 = .ok (.iconst 3, 1) := by decide +kernel
theorem nd_GM_forget_4 : decode nc_GM_forget 4 = .ok (.if_icmp .ge 48, 3) := by decide +kernel
theorem nd_GM_forget_7 : decode nc_GM_forget 7 = .ok (.aload_n 0, 1) := by decide +kernel
theorem nd_GM_forget_8 : decode nc_GM_forget 8 = .ok (.getfield 72, 3) := by decide +kernel
theorem nd_GM_forget_11 : decode nc_GM_forget 11 = .ok (.iconst 3, 1) := by decide +kernel
theorem nd_GM_forget_12 : decode nc_GM_forget 12 = .ok (.iload_n 1, 1) := by decide +kernel
theorem nd_GM_forget_13 : decode nc_GM_forget 13 = .ok (.imul, 1) := by decide +kernel
theorem nd_GM_forget_14 : decode nc_GM_forget 14 = .ok (.iload_n 2, 1) := by decide +kernel
theorem nd_GM_forget_15 : decode nc_GM_forget 15 = .ok (.iadd, 1) := by decide +kernel
theorem nd_GM_forget_16 : decode nc_GM_forget 16 = .ok (.iconst 0, 1) := by decide +kernel
theorem nd_GM_forget_17 : decode nc_GM_forget 17 = .ok (.iastore, 1) := by decide +kernel
theorem nd_GM_forget_18 : decode nc_GM_forget 18 = .ok (.aload_n 0, 1) := by decide +kernel
theorem nd_GM_forget_19 : decode nc_GM_forget 19 = .ok (.getfield 75, 3) := by decide +kernel
theorem nd_GM_forget_22 : decode nc_GM_forget 22 = .ok (.iconst 3, 1) := by decide +kernel
theorem nd_GM_forget_23 : decode nc_GM_forget 23 = .ok (.iload_n 1, 1) := by decide +kernel
theorem nd_GM_forget_24 : decode nc_GM_forget 24 = .ok (.imul, 1) := by decide +kernel
theorem nd_GM_forget_25 : decode nc_GM_forget 25 = .ok (.iload_n 2, 1) := by decide +kernel
theorem nd_GM_forget_26 : decode nc_GM_forget 26 = .ok (.iadd, 1) := by decide +kernel
theorem nd_GM_forget_27 : decode nc_GM_forget 27 = .ok (.iconst 0, 1) := by decide +kernel
theorem nd_GM_forget_28 : decode nc_GM_forget 28 = .ok (.iastore, 1) := by decide +kernel
theorem nd_GM_forget_29 : decode nc_GM_forget 29 = .ok (.aload_n 0, 1) := by decide +kernel
theorem nd_GM_forget_30 : decode nc_GM_forget 30 = .ok (.getfield 84, 3) := by decide +kernel
theorem nd_GM_forget_33 : decode nc_GM_forget 33 = .ok (.iconst 3, 1) := by decide +kernel
theorem nd_GM_forget_34 : decode nc_GM_forget 34 = .ok (.iload_n 1, 1) := by decide +kernel
theorem nd_GM_forget_35 : decode nc_GM_forget 35 = .ok (.imul, 1) := by decide +kernel
theorem nd_GM_forget_36 : decode nc_GM_forget 36 = .ok (.iload_n 2, 1) := by decide +kernel
theorem nd_GM_forget_37 : decode nc_GM_forget 37 = .ok (.iadd, 1) := by decide +kernel
theorem nd_GM_forget_38 : decode nc_GM_forget 38 = .ok (.iconst 0, 1) := by decide +kernel
theorem nd_GM_forget_39 : decode nc_GM_forget 39 = .ok (.iastore, 1) := by decide +kernel
theorem nd_GM_forget_40 : decode nc_GM_forget 40 = .ok (.aload_n 0, 1) := by decide +kernel
theorem nd_GM_forget_41 : decode nc_GM_forget 41 = .ok (.iload_n 1, 1) := by decide +kernel
theorem nd_GM_forget_42 : decode nc_GM_forget 42 = .ok (.iload_n 2, 1) := by decide +kernel
theorem nd_GM_forget_43 : decode nc_GM_forget 43 = .ok (.invokevirtual 135, 3) := by decide +kernel
theorem nd_GM_forget_46 : decode nc_GM_forget 46 = .ok (.iinc 2 1, 3) := by decide +kernel
theorem nd_GM_forget_49 : decode nc_GM_forget 49 = .ok (.goto (-47), 3) := by decide +kernel
theorem nd_GM_forget_52 : decode nc_GM_forget 52 = .ok (.return_, 1) := by decide +kernel
theorem nd_GM_drop_0 : decode nc_GM_drop 0 = .ok (.iconst 0, 1) := by decide +kernel
theorem nd_GM_drop_1 : decode nc_GM_drop 1 = .ok (.istore_n 3, 1) := by decide +kernel
theorem nd_GM_drop_2 : decode nc_GM_drop 2 = .ok (.iconst 0, 1) := by decide +kernel
theorem nd_GM_drop_3 : decode nc_GM_drop 3 = .ok (.istore 4, 2) := by decide +kernel
theorem nd_GM_drop_5 : decode nc_GM_drop 5 = .ok (.iload 4, 2) := by decide +kernel
theorem nd_GM_drop_7 : decode nc_GM_drop 7 = .ok (.aload_n 0, 1) := by decide +kernel
theorem nd_GM_drop_8 : decode nc_GM_drop 8 = .ok (.getfield 121, 3) := by decide +kernel
theorem nd_GM_drop_11 : decode nc_GM_drop 11 = .ok (.if_icmp .ge 41, 3) := by decide +kernel
theorem nd_GM_drop_14 : decode nc_GM_drop 14 = .ok (.aload_n 0, 1) := by decide +kernel
theorem nd_GM_drop_15 : decode nc_GM_drop 15 = .ok (.getfield 87, 3) := by decide +kernel
theorem nd_GM_drop_18 : decode nc_GM_drop 18 = .ok (.iload 4, 2) := by decide +kernel
theorem nd_GM_drop_20 : decode nc_GM_drop 20 = .ok (.iaload, 1) := by decide +kernel
theorem nd_GM_drop_21 : decode nc_GM_drop 21 = .ok (.iload_n 1, 1) := by decide +kernel
theorem nd_GM_drop_22 : decode nc_GM_drop 22 = .ok (.if_icmp .ne 14, 3) := by decide +kernel
theorem nd_GM_drop_25 : decode nc_GM_drop 25 = .ok (.aload_n 0, 1) := by decide +kernel
theorem nd_GM_drop_26 : decode nc_GM_drop 26 = .ok (.getfield 90, 3) := by decide +kernel
theorem nd_GM_drop_29 : decode nc_GM_drop 29 = .ok (.iload 4, 2) := by decide +kernel
theorem nd_GM_drop_31 : decode nc_GM_drop 31 = .ok (.iaload, 1) := by decide +kernel
theorem nd_GM_drop_32 : decode nc_GM_drop 32 = .ok (.iload_n 2, 1) := by decide +kernel
theorem nd_GM_drop_33 : decode nc_GM_drop 33 = .ok (.if_icmp .eq 13, 3) := by decide +kernel
theorem nd_GM_drop_36 : decode nc_GM_drop 36 = .ok (.aload_n 0, 1) := by decide +kernel
theorem nd_GM_drop_37 : decode nc_GM_drop 37 = .ok (.iload 4, 2) := by decide +kernel
theorem nd_GM_drop_39 : decode nc_GM_drop 39 = .ok (.iload_n 3, 1) := by decide +kernel
theorem nd_GM_drop_40 : decode nc_GM_drop 40 = .ok (.invokevirtual 139, 3) := by decide +kernel
theorem nd_GM_drop_43 : decode nc_GM_drop 43 = .ok (.iinc 3 1, 3) := by decide +kernel
theorem nd_GM_drop_46 : decode nc_GM_drop 46 = .ok (.iinc 4 1, 3) := by decide +kernel
theorem nd_GM_drop_49 : decode nc_GM_drop 49 = .ok (.goto (-44), 3) := by decide +kernel
theorem nd_GM_drop_52 : decode nc_GM_drop 52 = .ok (.aload_n 0, 1) := by decide +kernel
theorem nd_GM_drop_53 : decode nc_GM_drop 53 = .ok (.iload_n 3, 1) := by decide +kernel
theorem nd_GM_drop_54 : decode nc_GM_drop 54 = .ok (.putfield 121, 3) := by decide +kernel
theorem nd_GM_drop_57 : decode nc_GM_drop 57 = .ok (.return_, 1) := by decide +kernel
theorem nd_GM_move_0 : decode nc_GM_move 0 = .ok (.aload_n 0, 1) := by decide +kernel
theorem nd_GM_move_1 : decode nc_GM_move 1 = .ok (.getfield 87, 3) := by decide +kernel
theorem nd_GM_move_4 : decode nc_GM_move 4 = .ok (.iload_n 2, 1) := by decide +kernel
theorem nd_GM_move_5 : decode nc_GM_move 5 = .ok (.aload_n 0, 1) := by decide +kernel
theorem nd_GM_move_6 : decode nc_GM_move 6 = .ok (.getfield 87, 3) := by decide +kernel
theorem nd_GM_move_9 : decode nc_GM_move 9 = .ok (.iload_n 1, 1) := by decide +kernel
theorem nd_GM_move_10 : decode nc_GM_move 10 = .ok (.iaload, 1) := by decide +kernel
theorem nd_GM_move_11 : decode nc_GM_move 11 = .ok (.iastore, 1) := by decide +kernel
theorem nd_GM_move_12 : decode nc_GM_move 12 = .ok (.aload_n 0, 1) := by decide +kernel
theorem nd_GM_move_13 : decode nc_GM_move 13 = .ok (.getfield 90, 3) := by decide +kernel
theorem nd_GM_move_16 : decode nc_GM_move 16 = .ok (.iload_n 2, 1) := by decide +kernel
theorem nd_GM_move_17 : decode nc_GM_move 17 = .ok (.aload_n 0, 1) := by decide +kernel
theorem nd_GM_move_18 : decode nc_GM_move 18 = .ok (.getfield 90, 3) := by decide +kernel
theorem nd_GM_move_21 : decode nc_GM_move 21 = .ok (.iload_n 1, 1) := by decide +kernel
theorem nd_GM_move_22 : decode nc_GM_move 22 = .ok (.iaload, 1) := by decide +kernel
theorem nd_GM_move_23 : decode nc_GM_move 23 = .ok (.iastore, 1) := by decide +kernel
theorem nd_GM_move_24 : decode nc_GM_move 24 = .ok (.aload_n 0, 1) := by decide +kernel
theorem nd_GM_move_25 : decode nc_GM_move 25 = .ok (.getfield 93, 3) := by decide +kernel
theorem nd_GM_move_28 : decode nc_GM_move 28 = .ok (.iload_n 2, 1) := by decide +kernel
theorem nd_GM_move_29 : decode nc_GM_move 29 = .ok (.aload_n 0, 1) := by decide +kernel
theorem nd_GM_move_30 : decode nc_GM_move 30 = .ok (.getfield 93, 3) := by decide +kernel
theorem nd_GM_move_33 : decode nc_GM_move 33 = .ok (.iload_n 1, 1) := by decide +kernel
theorem nd_GM_move_34 : decode nc_GM_move 34 = .ok (.iaload, 1) := by decide +kernel
theorem nd_GM_move_35 : decode nc_GM_move 35 = .ok (.iastore, 1) := by decide +kernel
theorem nd_GM_move_36 : decode nc_GM_move 36 = .ok (.aload_n 0, 1) := by decide +kernel
theorem nd_GM_move_37 : decode nc_GM_move 37 = .ok (.getfield 96, 3) := by decide +kernel
theorem nd_GM_move_40 : decode nc_GM_move 40 = .ok (.iload_n 2, 1) := by decide +kernel
theorem nd_GM_move_41 : decode nc_GM_move 41 = .ok (.aload_n 0, 1) := by decide +kernel
theorem nd_GM_move_42 : decode nc_GM_move 42 = .ok (.getfield 96, 3) := by decide +kernel
theorem nd_GM_move_45 : decode nc_GM_move 45 = .ok (.iload_n 1, 1) := by decide +kernel
theorem nd_GM_move_46 : decode nc_GM_move 46 = .ok (.iaload, 1) := by decide +kernel
theorem nd_GM_move_47 : decode nc_GM_move 47 = .ok (.iastore, 1) := by decide +kernel
theorem nd_GM_move_48 : decode nc_GM_move 48 = .ok (.return_, 1) := by decide +kernel
theorem nd_GM_halt_0 : decode nc_GM_halt 0 = .ok (.aload_n 0, 1) := by decide +kernel
theorem nd_GM_halt_1 : decode nc_GM_halt 1 = .ok (.iload_n 1, 1) := by decide +kernel
theorem nd_GM_halt_2 : decode nc_GM_halt 2 = .ok (.invokevirtual 132, 3) := by decide +kernel
theorem nd_GM_halt_5 : decode nc_GM_halt 5 = .ok (.aload_n 0, 1) := by decide +kernel
theorem nd_GM_halt_6 : decode nc_GM_halt 6 = .ok (.getfield 41, 3) := by decide +kernel
theorem nd_GM_halt_9 : decode nc_GM_halt 9 = .ok (.iload_n 1, 1) := by decide +kernel
