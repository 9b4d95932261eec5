theorem nd_GM_leap_84 : decode nc_GM_leap 84 = .ok (.iconst 1, 1) := by decide +kernel
theorem nd_GM_leap_85 : decode nc_GM_leap 85 = .ok (.iand, 1) := by decide +kernel
theorem nd_GM_leap_86 : decode nc_GM_leap 86 = .ok (.ifCond .ne 9, 3) := by decide +kernel
theorem nd_GM_leap_89 : decode nc_GM_leap 89 = .ok (.aload_n 0, 1) := by decide +kernel
theorem nd_GM_leap_90 : decode nc_GM_leap 90 = .ok (.iconst 5, 1) := by decide +kernel
theorem nd_GM_leap_91 : decode nc_GM_leap 91 = .ok (.putfield 161, 3) := by decide +kernel
theorem nd_GM_leap_94 : decode nc_GM_leap 94 = .ok (.return_, 1) := by decide +kernel
theorem nd_GM_leap_95 : decode nc_GM_leap 95 = .ok (.aload_n 0, 1) := by decide +kernel
theorem nd_GM_leap_96 : decode nc_GM_leap 96 = .ok (.iload 5, 2) := by decide +kernel
theorem nd_GM_leap_98 : decode nc_GM_leap 98 = .ok (.iconst 1, 1) := by decide +kernel
theorem nd_GM_leap_99 : decode nc_GM_leap 99 = .ok (.isub, 1) := by decide +kernel
theorem nd_GM_leap_100 : decode nc_GM_leap 100 = .ok (.putfield 199, 3) := by decide +kernel
theorem nd_GM_leap_103 : decode nc_GM_leap 103 = .ok (.aload_n 0, 1) := by decide +kernel
theorem nd_GM_leap_104 : decode nc_GM_leap 104 = .ok (.getfield 50, 3) := by decide +kernel
theorem nd_GM_leap_107 : decode nc_GM_leap 107 = .ok (.iload_n 1, 1) := by decide +kernel
theorem nd_GM_leap_108 : decode nc_GM_leap 108 = .ok (.iload 4, 2) := by decide +kernel
theorem nd_GM_leap_110 : decode nc_GM_leap 110 = .ok (.sipush 143, 3) := by decide +kernel
theorem nd_GM_leap_113 : decode nc_GM_leap 113 = .ok (.if_icmp .ne 14, 3) := by decide +kernel
theorem nd_GM_leap_116 : decode nc_GM_leap 116 = .ok (.aload_n 0, 1) := by decide +kernel
theorem nd_GM_leap_117 : decode nc_GM_leap 117 = .ok (.getfield 53, 3) := by decide +kernel
theorem nd_GM_leap_120 : decode nc_GM_leap 120 = .ok (.iload_n 1, 1) := by decide +kernel
theorem nd_GM_leap_121 : decode nc_GM_leap 121 = .ok (.iaload, 1) := by decide +kernel
theorem nd_GM_leap_122 : decode nc_GM_leap 122 = .ok (.iconst 3, 1) := by decide +kernel
theorem nd_GM_leap_123 : decode nc_GM_leap 123 = .ok (.iadd, 1) := by decide +kernel
theorem nd_GM_leap_124 : decode nc_GM_leap 124 = .ok (.goto 9, 3) := by decide +kernel
theorem nd_GM_leap_127 : decode nc_GM_leap 127 = .ok (.aload_n 0, 1) := by decide +kernel
theorem nd_GM_leap_128 : decode nc_GM_leap 128 = .ok (.getfield 50, 3) := by decide +kernel
theorem nd_GM_leap_131 : decode nc_GM_leap 131 = .ok (.iload_n 1, 1) := by decide +kernel
theorem nd_GM_leap_132 : decode nc_GM_leap 132 = .ok (.iaload, 1) := by decide +kernel
theorem nd_GM_leap_133 : decode nc_GM_leap 133 = .ok (.iastore, 1) := by decide +kernel
theorem nd_GM_leap_134 : decode nc_GM_leap 134 = .ok (.return_, 1) := by decide +kernel
theorem nd_GM_named_0 : decode nc_GM_named 0 = .ok (.iconst 0, 1) := by decide +kernel
theorem nd_GM_named_1 : decode nc_GM_named 1 = .ok (.istore_n 1, 1) := by decide +kernel
theorem nd_GM_named_2 : decode nc_GM_named 2 = .ok (.iconst 0, 1) := by decide +kernel
theorem nd_GM_named_3 : decode nc_GM_named 3 = .ok (.istore_n 2, 1) := by decide +kernel
theorem nd_GM_named_4 : decode nc_GM_named 4 = .ok (.iload_n 2, 1) := by decide +kernel
theorem nd_GM_named_5 : decode nc_GM_named 5 = .ok (.bipush 9, 2) := by decide +kernel
theorem nd_GM_named_7 : decode nc_GM_named 7 = .ok (.if_icmp .ge 17, 3) := by decide +kernel
theorem nd_GM_named_10 : decode nc_GM_named 10 = .ok (.iload_n 1, 1) := by decide +kernel
theorem nd_GM_named_11 : decode nc_GM_named 11 = .ok (.iload_n 0, 1) := by decide +kernel
theorem nd_GM_named_12 : decode nc_GM_named 12 = .ok (.iload_n 2, 1) := by decide +kernel
theorem nd_GM_named_13 : decode nc_GM_named 13 = .ok (.ishr, 1) := by decide +kernel
theorem nd_GM_named_14 : decode nc_GM_named 14 = .ok (.iconst 1, 1) := by decide +kernel
theorem nd_GM_named_15 : decode nc_GM_named 15 = .ok (.iand, 1) := by decide +kernel
theorem nd_GM_named_16 : decode nc_GM_named 16 = .ok (.iadd, 1) := by decide +kernel
theorem nd_GM_named_17 : decode nc_GM_named 17 = .ok (.istore_n 1, 1) := by decide +kernel
theorem nd_GM_named_18 : decode nc_GM_named 18 = .ok (.iinc 2 1, 3) := by decide +kernel
theorem nd_GM_named_21 : decode nc_GM_named 21 = .ok (.goto (-17), 3) := by decide +kernel
theorem nd_GM_named_24 : decode nc_GM_named 24 = .ok (.iload_n 1, 1) := by decide +kernel
theorem nd_GM_named_25 : decode nc_GM_named 25 = .ok (.ireturn, 1) := by decide +kernel
theorem nd_GM_push_0 : decode nc_GM_push 0 = .ok (.aload_n 0, 1) := by decide +kernel
theorem nd_GM_push_1 : decode nc_GM_push 1 = .ok (.getfield 47, 3) := by decide +kernel
theorem nd_GM_push_4 : decode nc_GM_push 4 = .ok (.iload_n 1, 1) := by decide +kernel
theorem nd_GM_push_5 : decode nc_GM_push 5 = .ok (.iaload, 1) := by decide +kernel
theorem nd_GM_push_6 : decode nc_GM_push 6 = .ok (.iconst 4, 1) := by decide +kernel
theorem nd_GM_push_7 : decode nc_GM_push 7 = .ok (.iload_n 2, 1) := by decide +kernel
theorem nd_GM_push_8 : decode nc_GM_push 8 = .ok (.invokestatic 202, 3) := by decide +kernel
theorem nd_GM_push_11 : decode nc_GM_push 11 = .ok (.imul, 1) := by decide +kernel
theorem nd_GM_push_12 : decode nc_GM_push 12 = .ok (.isub, 1) := by decide +kernel
theorem nd_GM_push_13 : decode nc_GM_push 13 = .ok (.istore_n 3, 1) := by decide +kernel
theorem nd_GM_push_14 : decode nc_GM_push 14 = .ok (.iload_n 3, 1) := by decide +kernel
theorem nd_GM_push_15 : decode nc_GM_push 15 = .ok (.istore 4, 2) := by decide +kernel
theorem nd_GM_push_17 : decode nc_GM_push 17 = .ok (.iconst 0, 1) := by decide +kernel
theorem nd_GM_push_18 : decode nc_GM_push 18 = .ok (.istore 5, 2) := by decide +kernel
theorem nd_GM_push_20 : decode nc_GM_push 20 = .ok (.iload 5, 2) := by decide +kernel
theorem nd_GM_push_22 : decode nc_GM_push 22 = .ok (.bipush 9, 2) := by decide +kernel
theorem nd_GM_push_24 : decode nc_GM_push 24 = .ok (.if_icmp .ge 31, 3) := by decide +kernel
theorem nd_GM_push_27 : decode nc_GM_push 27 = .ok (.iload_n 2, 1) := by decide +kernel
theorem nd_GM_push_28 : decode nc_GM_push 28 = .ok (.iload 5, 2) := by decide +kernel
theorem nd_GM_push_30 : decode nc_GM_push 30 = .ok (.ishr, 1) := by decide +kernel
theorem nd_GM_push_31 : decode nc_GM_push 31 = .ok (.iconst 1, 1) := by decide +kernel
theorem nd_GM_push_32 : decode nc_GM_push 32 = .ok (.iand, 1) := by decide +kernel
theorem nd_GM_push_33 : decode nc_GM_push 33 = .ok (.iconst 1, 1) := by decide +kernel
theorem nd_GM_push_34 : decode nc_GM_push 34 = .ok (.if_icmp .ne 15, 3) := by decide +kernel
theorem nd_GM_push_37 : decode nc_GM_push 37 = .ok (.aload_n 0, 1) := by decide +kernel
theorem nd_GM_push_38 : decode nc_GM_push 38 = .ok (.iload_n 1, 1) := by decide +kernel
theorem nd_GM_push_39 : decode nc_GM_push 39 = .ok (.iload 4, 2) := by decide +kernel
theorem nd_GM_push_41 : decode nc_GM_push 41 = .ok (.iconst 1, 1) := by decide +kernel
theorem nd_GM_push_42 : decode nc_GM_push 42 = .ok (.invokevirtual 195, 3) := by decide +kernel
theorem nd_GM_push_45 : decode nc_GM_push 45 = .ok (.pop, 1) := by decide +kernel
theorem nd_GM_push_46 : decode nc_GM_push 46 = .ok (.iinc 4 4, 3) := by decide +kernel
theorem nd_GM_push_49 : decode nc_GM_push 49 = .ok (.iinc 5 1, 3) := by decide +kernel
theorem nd_GM_push_52 : decode nc_GM_push 52 = .ok (.goto (-32), 3) := by decide +kernel
theorem nd_GM_push_55 : decode nc_GM_push 55 = .ok (.aload_n 0, 1) := by decide +kernel
theorem nd_GM_push_56 : decode nc_GM_push 56 = .ok (.getfield 161, 3) := by decide +kernel
theorem nd_GM_push_59 : decode nc_GM_push 59 = .ok (.ifCond .le 4, 3) := by decide +kernel
theorem nd_GM_push_62 : decode nc_GM_push 62 = .ok (.return_, 1) := by decide +kernel
theorem nd_GM_push_63 : decode nc_GM_push 63 = .ok (.iload_n 3, 1) := by decide +kernel
theorem nd_GM_push_64 : decode nc_GM_push 64 = .ok (.istore 4, 2) := by decide +kernel
theorem nd_GM_push_66 : decode nc_GM_push 66 = .ok (.iconst 0, 1) := by decide +kernel
theorem nd_GM_push_67 : decode nc_GM_push 67 = .ok (.istore 5, 2) := by decide +kernel
theorem nd_GM_push_69 : decode nc_GM_push 69 = .ok (.iload 5, 2) := by decide +kernel
theorem nd_GM_push_71 : decode nc_GM_push 71 = .ok (.bipush 9, 2) := by decide +kernel
theorem nd_GM_push_73 : decode nc_GM_push 73 = .ok (.if_icmp .ge 56, 3) := by decide +kernel
theorem nd_GM_push_76 : decode nc_GM_push 76 = .ok (.iload_n 2, 1) := by decide +kernel
theorem nd_GM_push_77 : decode nc_GM_push 77 = .ok (.iload 5, 2) := by decide +kernel
theorem nd_GM_push_79 : decode nc_GM_push 79 = .ok (.ishr, 1) := by decide +kernel
theorem nd_GM_push_80 : decode nc_GM_push 80 = .ok (.iconst 1, 1) := by decide +kernel
theorem nd_GM_push_81 : decode nc_GM_push 81 = .ok (.iand, 1) := by decide +kernel
theorem nd_GM_push_82 : decode nc_GM_push 82 = .ok (.iconst 1, 1) := by decide +kernel
theorem nd_GM_push_83 : decode nc_GM_push 83 = .ok (.if_icmp .ne 40, 3) := by decide +kernel
theorem nd_GM_push_86 : decode nc_GM_push 86 = .ok (.aload_n 0, 1) := by decide +kernel
theorem nd_GM_push_87 : decode nc_GM_push 87 = .ok (.iload 4, 2) := by decide +kernel
theorem nd_GM_push_89 : decode nc_GM_push 89 = .ok (.iload 5, 2) := by decide +kernel
theorem nd_GM_push_91 : decode nc_GM_push 91 = .ok (.bipush 8, 2) := by decide +kernel
theorem nd_GM_push_93 : decode nc_GM_push 93 = .ok (.if_icmp .ne 12, 3) := by decide +kernel
theorem nd_GM_push_96 : decode nc_GM_push 96 = .ok (.aload_n 0, 1) := by decide +kernel
theorem nd_GM_push_97 : decode nc_GM_push 97 = .ok (.getfield 50, 3) := by decide +kernel
theorem nd_GM_push_100 : decode nc_GM_push 100 = .ok (.iload_n 1, 1) := by decide +kernel
theorem nd_GM_push_101 : decode nc_GM_push 101 = .ok (.iaload, 1) := by decide +kernel
theorem nd_GM_push_102 : decode nc_GM_push 102 = .ok (.goto 15, 3) := by decide +kernel
theorem nd_GM_push_105 : decode nc_GM_push 105 = .ok (.aload_n 0, 1) := by decide +kernel
theorem nd_GM_push_106 : decode nc_GM_push 106 = .ok (.getfield 44, 3) := by decide +kernel
theorem nd_GM_push_109 : decode nc_GM_push 109 = .ok (.bipush 8, 2) := by decide +kernel
theorem nd_GM_push_111 : decode nc_GM_push 111 = .ok (.iload_n 1, 1) := by decide +kernel
theorem nd_GM_push_112 : decode nc_GM_push 112 = .ok (.imul, 1) := by decide +kernel
theorem nd_GM_push_113 : decode nc_GM_push 113 = .ok (.iload 5, 2) := by decide +kernel
theorem nd_GM_push_115 : decode nc_GM_push 115 = .ok (.iadd, 1) := by decide +kernel
theorem nd_GM_push_116 : decode nc_GM_push 116 = .ok (.iaload, 1) := by decide +kernel
theorem nd_GM_push_117 : decode nc_GM_push 117 = .ok (.invokevirtual 167, 3) := by decide +kernel
theorem nd_GM_push_120 : decode nc_GM_push 120 = .ok (.iinc 4 4, 3) := by decide +kernel
theorem nd_GM_push_123 : decode nc_GM_push 123 = .ok (.iinc 5 1, 3) := by decide +kernel
theorem nd_GM_push_126 : decode nc_GM_push 126 = .ok (.goto (-57), 3) := by decide +kernel
theorem nd_GM_push_129 : decode nc_GM_push 129 = .ok (.aload_n 0, 1) := by decide +kernel
theorem nd_GM_push_130 : decode nc_GM_push 130 = .ok (.getfield 47, 3) := by decide +kernel
theorem nd_GM_push_133 : decode nc_GM_push 133 = .ok (.iload_n 1, 1) := by decide +kernel
theorem nd_GM_push_134 : decode nc_GM_push 134 = .ok (.iload_n 3, 1) := by decide +kernel
theorem nd_GM_push_135 : decode nc_GM_push 135 = .ok (.iastore, 1) := by decide +kernel
theorem nd_GM_push_136 : decode nc_GM_push 136 = .ok (.return_, 1) := by decide +kernel
theorem nd_GM_pop_0 : decode nc_GM_pop 0 = .ok (.iload_n 2, 1) := by decide +kernel
theorem nd_GM_pop_1 : decode nc_GM_pop 1 = .ok (.invokestatic 202, 3) := by decide +kernel
theorem nd_GM_pop_4 : decode nc_GM_pop 4 = .ok (.istore_n 3, 1) := by decide +kernel
theorem nd_GM_pop_5 : decode nc_GM_pop 5 = .ok (.iconst 0, 1) := by decide +kernel
theorem nd_GM_pop_6 : decode nc_GM_pop 6 = .ok (.istore 4, 2) := by decide +kernel
theorem nd_GM_pop_8 : decode nc_GM_pop 8 = .ok (.iload 4, 2) := by decide +kernel
theorem nd_GM_pop_10 : decode nc_GM_pop 10 = .ok (.iload_n 3, 1) := by decide +kernel
theorem nd_GM_pop_11 : decode nc_GM_pop 11 = .ok (.if_icmp .ge 27, 3) := by decide +kernel
theorem nd_GM_pop_14 : decode nc_GM_pop 14 = .ok (.aload_n 0, 1) := by decide +kernel
theorem nd_GM_pop_15 : decode nc_GM_pop 15 = .ok (.iload_n 1, 1) := by decide +kernel
theorem nd_GM_pop_16 : decode nc_GM_pop 16 = .ok (.aload_n 0, 1) := by decide +kernel
theorem nd_GM_pop_17 : decode nc_GM_pop 17 = .ok (.getfield 47, 3) := by decide +kernel
theorem nd_GM_pop_20 : decode nc_GM_pop 20 = .ok (.iload_n 1, 1) := by decide +kernel
theorem nd_GM_pop_21 : decode nc_GM_pop 21 = .ok (.iaload, 1) := by decide +kernel
theorem nd_GM_pop_22 : decode nc_GM_pop 22 = .ok (.iconst 4, 1) := by decide +kernel
theorem nd_GM_pop_23 : decode nc_GM_pop 23 = .ok (.iload 4, 2) := by decide +kernel
theorem nd_GM_pop_25 : decode nc_GM_pop 25 = .ok (.imul, 1) := by decide +kernel
theorem nd_GM_pop_26 : decode nc_GM_pop 26 = .ok (.iadd, 1) := by decide +kernel
theorem nd_GM_pop_27 : decode nc_GM_pop 27 = .ok (.iconst 0, 1) := by decide +kernel
theorem nd_GM_pop_28 : decode nc_GM_pop 28 = .ok (.invokevirtual 195, 3) := by decide +kernel
theorem nd_GM_pop_31 : decode nc_GM_pop 31 = .ok (.pop, 1) := by decide +kernel
theorem nd_GM_pop_32 : decode nc_GM_pop 32 = .ok (.iinc 4 1, 3) := by decide +kernel
theorem nd_GM_pop_35 : decode nc_GM_pop 35 = .ok (.goto (-27), 3) := by decide +kernel
theorem nd_GM_pop_38 : decode nc_GM_pop 38 = .ok (.aload_n 0, 1) := by decide +kernel
theorem nd_GM_pop_39 : decode nc_GM_pop 39 = .ok (.getfield 161, 3) := by decide +kernel
theorem nd_GM_pop_42 : decode nc_GM_pop 42 = .ok (.ifCond .le 4, 3) := by decide +kernel
theorem nd_GM_pop_45 : decode nc_GM_pop 45 = .ok (.return_, 1) := by decide +kernel
theorem nd_GM_pop_46 : decode nc_GM_pop 46 = .ok (.aload_n 0, 1) := by decide +kernel
theorem nd_GM_pop_47 : decode nc_GM_pop 47 = .ok (.getfield 47, 3) := by decide +kernel
theorem nd_GM_pop_50 : decode nc_GM_pop 50 = .ok (.iload_n 1, 1) := by decide +kernel
theorem nd_GM_pop_51 : decode nc_GM_pop 51 = .ok (.iaload, 1) := by decide +kernel
theorem nd_GM_pop_52 : decode nc_GM_pop 52 = .ok (.iconst 4, 1) := by decide +kernel
theorem nd_GM_pop_53 : decode nc_GM_pop 53 = .ok (.iload_n 3, 1) := by decide +kernel
theorem nd_GM_pop_54 : decode nc_GM_pop 54 = .ok (.imul, 1) := by decide +kernel
theorem nd_GM_pop_55 : decode nc_GM_pop 55 = .ok (.iadd, 1) := by decide +kernel
theorem nd_GM_pop_56 : decode nc_GM_pop 56 = .ok (.iconst 4, 1) := by decide +kernel
theorem nd_GM_pop_57 : decode nc_GM_pop 57 = .ok (.isub, 1) := by decide +kernel
theorem nd_GM_pop_58 : decode nc_GM_pop 58 = .ok (.istore 4, 2) := by decide +kernel
theorem nd_GM_pop_60 : decode nc_GM_pop 60 = .ok (.iload_n 2, 1) := by decide +kernel
theorem nd_GM_pop_61 : decode nc_GM_pop 61 = .ok (.sipush 256, 3) := by decide +kernel
theorem nd_GM_pop_64 : decode nc_GM_pop 64 = .ok (.iand, 1) := by decide +kernel
theorem nd_GM_pop_65 : decode nc_GM_pop 65 = .ok (.ifCond .eq 20, 3) := by decide +kernel
theorem nd_GM_pop_68 : decode nc_GM_pop 68 = .ok (.aload_n 0, 1) := by decide +kernel
theorem nd_GM_pop_69 : decode nc_GM_pop 69 = .ok (.iload 4, 2) := by decide +kernel
theorem nd_GM_pop_71 : decode nc_GM_pop 71 = .ok (.invokevirtual 172, 3) := by decide +kernel
theorem nd_GM_pop_74 : decode nc_GM_pop 74 = .ok (.iconst 1, 1) := by decide +kernel
theorem nd_GM_pop_75 : decode nc_GM_pop 75 = .ok (.iand, 1) := by decide +kernel
theorem nd_GM_pop_76 : decode nc_GM_pop 76 = .ok (.ifCond .ne 9, 3) := by decide +kernel
theorem nd_GM_pop_79 : decode nc_GM_pop 79 = .ok (.aload_n 0, 1) := by decide +kernel
theorem nd_GM_pop_80 : decode nc_GM_pop 80 = .ok (.iconst 5, 1) := by decide +kernel
theorem nd_GM_pop_81 : decode nc_GM_pop 81 = .ok (.putfield 161, 3) := by decide +kernel
theorem nd_GM_pop_84 : decode nc_GM_pop 84 = .ok (.return_, 1) := by decide +kernel
theorem nd_GM_pop_85 : decode nc_GM_pop 85 = .ok (.aload_n 0, 1) := by decide +kernel
theorem nd_GM_pop_86 : decode nc_GM_pop 86 = .ok (.getfield 47, 3) := by decide +kernel
theorem nd_GM_pop_89 : decode nc_GM_pop 89 = .ok (.iload_n 1, 1) := by decide +kernel
theorem nd_GM_pop_90 : decode nc_GM_pop 90 = .ok (.iaload, 1) := by decide +kernel
theorem nd_GM_pop_91 : decode nc_GM_pop 91 = .ok (.istore 5, 2) := by decide +kernel
theorem nd_GM_pop_93 : decode nc_GM_pop 93 = .ok (.iconst 0, 1) := by decide +kernel
theorem nd_GM_pop_94 : decode nc_GM_pop 94 = .ok (.istore 6, 2) := by decide +kernel
theorem nd_GM_pop_96 : decode nc_GM_pop 96 = .ok (.iload 6, 2) := by decide +kernel
theorem nd_GM_pop_98 : decode nc_GM_pop 98 = .ok (.bipush 8, 2) := by decide +kernel
theorem nd_GM_pop_100 : decode nc_GM_pop 100 = .ok (.if_icmp .ge 40, 3) := by decide +kernel
theorem nd_GM_pop_103 : decode nc_GM_pop 103 = .ok (.iload_n 2, 1) := by decide +kernel
theorem nd_GM_pop_104 : decode nc_GM_pop 104 = .ok (.iload 6, 2) := by decide +kernel
theorem nd_GM_pop_106 : decode nc_GM_pop 106 = .ok (.ishr, 1) := by decide +kernel
theorem nd_GM_pop_107 : decode nc_GM_pop 107 = .ok (.iconst 1, 1) := by decide +kernel
theorem nd_GM_pop_108 : decode nc_GM_pop 108 = .ok (.iand, 1) := by decide +kernel
theorem nd_GM_pop_109 : decode nc_GM_pop 109 = .ok (.iconst 1, 1) := by decide +kernel
theorem nd_GM_pop_110 : decode nc_GM_pop 110 = .ok (.if_icmp .ne 24, 3) := by decide +kernel
theorem nd_GM_pop_113 : decode nc_GM_pop 113 = .ok (.aload_n 0, 1) := by decide +kernel
theorem nd_GM_pop_114 : decode nc_GM_pop 114 = .ok (.getfield 44, 3) := by decide +kernel
theorem nd_GM_pop_117 : decode nc_GM_pop 117 = .ok (.bipush 8, 2) := by decide +kernel
theorem nd_GM_pop_119 : decode nc_GM_pop 119 = .ok (.iload_n 1, 1) := by decide +kernel
theorem nd_GM_pop_120 : decode nc_GM_pop 120 = .ok (.imul, 1) := by decide +kernel
theorem nd_GM_pop_121 : decode nc_GM_pop 121 = .ok (.iload 6, 2) := by decide +kernel
theorem nd_GM_pop_123 : decode nc_GM_pop 123 = .ok (.iadd, 1) := by decide +kernel
theorem nd_GM_pop_124 : decode nc_GM_pop 124 = .ok (.aload_n 0, 1) := by decide +kernel
theorem nd_GM_pop_125 : decode nc_GM_pop 125 = .ok (.iload 5, 2) := by decide +kernel
theorem nd_GM_pop_127 : decode nc_GM_pop 127 = .ok (.invokevirtual 172, 3) := by decide +kernel
theorem nd_GM_pop_130 : decode nc_GM_pop 130 = .ok (.iastore, 1) := by decide +kernel
theorem nd_GM_pop_131 : decode nc_GM_pop 131 = .ok (.iinc 5 4, 3) := by decide +kernel
theorem nd_GM_pop_134 : decode nc_GM_pop 134 = .ok (.iinc 6 1, 3) := by decide +kernel
theorem nd_GM_pop_137 : decode nc_GM_pop 137 = .ok (.goto (-41), 3) := by decide +kernel
theorem nd_GM_pop_140 : decode nc_GM_pop 140 = .ok (.aload_n 0, 1) := by decide +kernel
theorem nd_GM_pop_141 : decode nc_GM_pop 141 = .ok (.iload_n 2, 1) := by decide +kernel
theorem nd_GM_pop_142 : decode nc_GM_pop 142 = .ok (.sipush 256, 3) := by decide +kernel
theorem nd_GM_pop_145 : decode nc_GM_pop 145 = .ok (.iand, 1) := by decide +kernel
theorem nd_GM_pop_146 : decode nc_GM_pop 146 = .ok (.ifCond .eq 14, 3) := by decide +kernel
theorem nd_GM_pop_149 : decode nc_GM_pop 149 = .ok (.aload_n 0, 1) := by decide +kernel
theorem nd_GM_pop_150 : decode nc_GM_pop 150 = .ok (.iload 4, 2) := by decide +kernel
theorem nd_GM_pop_152 : decode nc_GM_pop 152 = .ok (.invokevirtual 172, 3) := by decide +kernel
theorem nd_GM_pop_155 : decode nc_GM_pop 155 = .ok (.iconst 1, 1) := by decide +kernel
theorem nd_GM_pop_156 : decode nc_GM_pop 156 = .ok (.isub, 1) := by decide +kernel
theorem nd_GM_pop_157 : decode nc_GM_pop 157 = .ok (.goto 7, 3) := by decide +kernel
theorem nd_GM_pop_160 : decode nc_GM_pop 160 = .ok (.aload_n 0, 1) := by decide +kernel
theorem nd_GM_pop_161 : decode nc_GM_pop 161 = .ok (.getfield 199, 3) := by decide +kernel
theorem nd_GM_pop_164 : decode nc_GM_pop 164 = .ok (.putfield 199, 3) := by decide +kernel
theorem nd_GM_pop_167 : decode nc_GM_pop 167 = .ok (.aload_n 0, 1) := by decide +kernel
theorem nd_GM_pop_168 : decode nc_GM_pop 168 = .ok (.getfield 47, 3) := by decide +kernel
theorem nd_GM_pop_171 : decode nc_GM_pop 171 = .ok (.iload_n 1, 1) := by decide +kernel
theorem nd_GM_pop_172 : decode nc_GM_pop 172 = .ok (.dup2, 1) := by decide +kernel
theorem nd_GM_pop_173 : decode nc_GM_pop 173 = .ok (.iaload, 1) := by decide +kernel
theorem nd_GM_pop_174 : decode nc_GM_pop 174 = .ok (.iconst 4, 1) := by decide +kernel
theorem nd_GM_pop_175 : decode nc_GM_pop 175 = .ok (.iload_n 3, 1) := by decide +kernel
theorem nd_GM_pop_176 : decode nc_GM_pop 176 = .ok (.imul, 1) := by decide +kernel
theorem nd_GM_pop_177 : decode nc_GM_pop 177 = .ok (.iadd, 1) := by decide +kernel
theorem nd_GM_pop_178 : decode nc_GM_pop 178 = .ok (.iastore, 1) := by decide +kernel
theorem nd_GM_pop_179 : decode nc_GM_pop 179 = .ok (.return_, 1) := by decide +kernel
theorem nd_GM_holds_0 : decode nc_GM_holds 0 = .ok (.aload_n 0, 1) := by decide +kernel
theorem nd_GM_holds_1 : decode nc_GM_holds 1 = .ok (.getfield 56, 3) := by decide +kernel
theorem nd_GM_holds_4 : decode nc_GM_holds 4 = .ok (.iload_n 1, 1) := by decide +kernel
theorem nd_GM_holds_5 : decode nc_GM_holds 5 = .ok (.iaload, 1) := by decide +kernel
theorem nd_GM_holds_6 : decode nc_GM_holds 6 = .ok (.bipush 8, 2) := by decide +kernel
theorem nd_GM_holds_8 : decode nc_GM_holds 8 = .ok (.iand, 1) := by decide +kernel
theorem nd_GM_holds_9 : decode nc_GM_holds 9 = .ok (.ifCond .eq 7, 3) := by decide +kernel
theorem nd_GM_holds_12 : decode nc_GM_holds 12 = .ok (.iconst 1, 1) := by decide +kernel
theorem nd_GM_holds_13 : decode nc_GM_holds 13 = .ok (.goto 4, 3) := by decide +kernel
theorem nd_GM_holds_16 : decode nc_GM_holds 16 = .ok (.iconst 0, 1) := by decide +kernel
theorem nd_GM_holds_17 : decode nc_GM_holds 17 = .ok (.istore_n 3, 1) := by decide +kernel
theorem nd_GM_holds_18 : decode nc_GM_holds 18 = .ok (.aload_n 0, 1) := by decide +kernel
theorem nd_GM_holds_19 : decode nc_GM_holds 19 = .ok (.getfield 56, 3) := by decide +kernel
theorem nd_GM_holds_22 : decode nc_GM_holds 22 = .ok (.iload_n 1, 1) := by decide +kernel
theorem nd_GM_holds_23 : decode nc_GM_holds 23 = .ok (.iaload, 1) := by decide +kernel
theorem nd_GM_holds_24 : decode nc_GM_holds 24 = .ok (.iconst 4, 1) := by decide +kernel
theorem nd_GM_holds_25 : decode nc_GM_holds 25 = .ok (.iand, 1) := by decide +kernel
theorem nd_GM_holds_26 : decode nc_GM_holds 26 = .ok (.ifCond .eq 7, 3) := by decide +kernel
theorem nd_GM_holds_29 : decode nc_GM_holds 29 = .ok (.iconst 1, 1) := by decide +kernel
theorem nd_GM_holds_30 : decode nc_GM_holds 30 = .ok (.goto 4, 3) := by decide +kernel
theorem nd_GM_holds_33 : decode nc_GM_holds 33 = .ok (.iconst 0, 1) := by decide +kernel
theorem nd_GM_holds_34 : decode nc_GM_holds 34 = .ok (.istore 4, 2) := by decide +kernel
theorem nd_GM_holds_36 : decode nc_GM_holds 36 = .ok (.aload_n 0, 1) := by decide +kernel
theorem nd_GM_holds_37 : decode nc_GM_holds 37 = .ok (.getfield 56, 3) := by decide +kernel
theorem nd_GM_holds_40 : decode nc_GM_holds 40 = .ok (.iload_n 1, 1) := by decide +kernel
theorem nd_GM_holds_41 : decode nc_GM_holds 41 = .ok (.iaload, 1) := by decide +kernel
theorem nd_GM_holds_42 : decode nc_GM_holds 42 = .ok (.iconst 2, 1) := by decide +kernel
theorem nd_GM_holds_43 : decode nc_GM_holds 43 = .ok (.iand, 1) := by decide +kernel
theorem nd_GM_holds_44 : decode nc_GM_holds 44 = .ok (.ifCond .eq 7, 3) := by decide +kernel
theorem nd_GM_holds_47 : decode nc_GM_holds 47 = .ok (.iconst 1, 1) := by decide +kernel
theorem nd_GM_holds_48 : decode nc_GM_holds 48 = .ok (.goto 4, 3) := by decide +kernel
theorem nd_GM_holds_51 : decode nc_GM_holds 51 = .ok (.iconst 0, 1) := by decide +kernel
theorem nd_GM_holds_52 : decode nc_GM_holds 52 = .ok (.istore 5, 2) := by decide +kernel
theorem nd_GM_holds_54 : decode nc_GM_holds 54 = .ok (.aload_n 0, 1) := by decide +kernel
theorem nd_GM_holds_55 : decode nc_GM_holds 55 = .ok (.getfield 56, 3) := by decide +kernel
theorem nd_GM_holds_58 : decode nc_GM_holds 58 = .ok (.iload_n 1, 1) := by decide +kernel
theorem nd_GM_holds_59 : decode nc_GM_holds 59 = .ok (.iaload, 1) := by decide +kernel
theorem nd_GM_holds_60 : decode nc_GM_holds 60 = .ok (.iconst 1, 1) := by decide +kernel
theorem nd_GM_holds_61 : decode nc_GM_holds 61 = .ok (.iand, 1) := by decide +kernel
theorem nd_GM_holds_62 : decode nc_GM_holds 62 = .ok (.ifCond .eq 7, 3) := by decide +kernel
theorem nd_GM_holds_65 : decode nc_GM_holds 65 = .ok (.iconst 1, 1) := by decide +kernel
theorem nd_GM_holds_66 : decode nc_GM_holds 66 = .ok (.goto 4, 3) := by decide +kernel
theorem nd_GM_holds_69 : decode nc_GM_holds 69 = .ok (.iconst 0, 1) := by decide +kernel
theorem nd_GM_holds_70 : decode nc_GM_holds 70 = .ok (.istore 6, 2) := by decide +kernel
theorem nd_GM_holds_72 : decode nc_GM_holds 72 = .ok (.iload_n 2, 1) := by decide +kernel
theorem nd_GM_holds_73 : decode nc_GM_holds 73 = .ok (.bipush 14, 2) := by decide +kernel
theorem nd_GM_holds_75 : decode nc_GM_holds 75 = .ok (.iand, 1) := by decide +kernel
theorem nd_GM_holds_76 : decode nc_GM_holds 76 = .ok (.istore 7, 2) := by decide +kernel
theorem nd_GM_holds_78 : decode nc_GM_holds 78 = .ok (.iload 7, 2) := by decide +kernel
theorem nd_GM_holds_80 : decode nc_GM_holds 80 = .ok (.ifCond .ne 8, 3) := by decide +kernel
theorem nd_GM_holds_83 : decode nc_GM_holds 83 = .ok (.iload 4, 2) := by decide +kernel
theorem nd_GM_holds_85 : decode nc_GM_holds 85 = .ok (.goto 98, 3) := by decide +kernel
theorem nd_GM_holds_88 : decode nc_GM_holds 88 = .ok (.iload 7, 2) := by decide +kernel
theorem nd_GM_holds_90 : decode nc_GM_holds 90 = .ok (.iconst 2, 1) := by decide +kernel
theorem nd_GM_holds_91 : decode nc_GM_holds 91 = .ok (.if_icmp .ne 8, 3) := by decide +kernel
theorem nd_GM_holds_94 : decode nc_GM_holds 94 = .ok (.iload 5, 2) := by decide +kernel
theorem nd_GM_holds_96 : decode nc_GM_holds 96 = .ok (.goto 87, 3) := by decide +kernel
theorem nd_GM_holds_99 : decode nc_GM_holds 99 = .ok (.iload 7, 2) := by decide +kernel
theorem nd_GM_holds_101 : decode nc_GM_holds 101 = .ok (.iconst 4, 1) := by decide +kernel
theorem nd_GM_holds_102 : decode nc_GM_holds 102 = .ok (.if_icmp .ne 7, 3) := by decide +kernel
theorem nd_GM_holds_105 : decode nc_GM_holds 105 = .ok (.iload_n 3, 1) := by decide +kernel
theorem nd_GM_holds_106 : decode nc_GM_holds 106 = .ok (.goto 77, 3) := by decide +kernel
theorem nd_GM_holds_109 : decode nc_GM_holds 109 = .ok (.iload 7, 2) := by decide +kernel
theorem nd_GM_holds_111 : decode nc_GM_holds 111 = .ok (.bipush 6, 2) := by decide +kernel
theorem nd_GM_holds_113 : decode nc_GM_holds 113 = .ok (.if_icmp .ne 8, 3) := by decide +kernel
theorem nd_GM_holds_116 : decode nc_GM_holds 116 = .ok (.iload 6, 2) := by decide +kernel
theorem nd_GM_holds_118 : decode nc_GM_holds 118 = .ok (.goto 65, 3) := by decide +kernel
theorem nd_GM_holds_121 : decode nc_GM_holds 121 = .ok (.iload 7, 2) := by decide +kernel
theorem nd_GM_holds_123 : decode nc_GM_holds 123 = .ok (.bipush 8, 2) := by decide +kernel
theorem nd_GM_holds_125 : decode nc_GM_holds 125 = .ok (.if_icmp .ne 21, 3) := by decide +kernel
theorem nd_GM_holds_128 : decode nc_GM_holds 128 = .ok (.iload 5, 2) := by decide +kernel
theorem nd_GM_holds_130 : decode nc_GM_holds 130 = .ok (.ifCond .eq 12, 3) := by decide +kernel
theorem nd_GM_holds_133 : decode nc_GM_holds 133 = .ok (.iload 4, 2) := by decide +kernel
theorem nd_GM_holds_135 : decode nc_GM_holds 135 = .ok (.ifCond .ne 7, 3) := by decide +kernel
theorem nd_GM_holds_138 : decode nc_GM_holds 138 = .ok (.iconst 1, 1) := by decide +kernel
theorem nd_GM_holds_139 : decode nc_GM_holds 139 = .ok (.goto 44, 3) := by decide +kernel
theorem nd_GM_holds_142 : decode nc_GM_holds 142 = .ok (.iconst 0, 1) := by decide +kernel
theorem nd_GM_holds_143 : decode nc_GM_holds 143 = .ok (.goto 40, 3) := by decide +kernel
theorem nd_GM_holds_146 : decode nc_GM_holds 146 = .ok (.iload 7, 2) := by decide +kernel
theorem nd_GM_holds_148 : decode nc_GM_holds 148 = .ok (.bipush 10, 2) := by decide +kernel
theorem nd_GM_holds_150 : decode nc_GM_holds 150 = .ok (.if_icmp .ne 17, 3) := by decide +kernel
theorem nd_GM_holds_153 : decode nc_GM_holds 153 = .ok (.iload_n 3, 1) := by decide +kernel
theorem nd_GM_holds_154 : decode nc_GM_holds 154 = .ok (.iload 6, 2) := by decide +kernel
theorem nd_GM_holds_156 : decode nc_GM_holds 156 = .ok (.if_icmp .ne 7, 3) := by decide +kernel
theorem nd_GM_holds_159 : decode nc_GM_holds 159 = .ok (.iconst 1, 1) := by decide +kernel
theorem nd_GM_holds_160 : decode nc_GM_holds 160 = .ok (.goto 23, 3) := by decide +kernel
theorem nd_GM_holds_163 : decode nc_GM_holds 163 = .ok (.iconst 0, 1) := by decide +kernel
theorem nd_GM_holds_164 : decode nc_GM_holds 164 = .ok (.goto 19, 3) := by decide +kernel
theorem nd_GM_holds_167 : decode nc_GM_holds 167 = .ok (.iload 4, 2) := by decide +kernel
theorem nd_GM_holds_169 : decode nc_GM_holds 169 = .ok (.ifCond .ne 13, 3) := by decide +kernel
theorem nd_GM_holds_172 : decode nc_GM_holds 172 = .ok (.iload_n 3, 1) := by decide +kernel
theorem nd_GM_holds_173 : decode nc_GM_holds 173 = .ok (.iload 6, 2) := by decide +kernel
theorem nd_GM_holds_175 : decode nc_GM_holds 175 = .ok (.if_icmp .ne 7, 3) := by decide +kernel
theorem nd_GM_holds_178 : decode nc_GM_holds 178 = .ok (.iconst 1, 1) := by decide +kernel
theorem nd_GM_holds_179 : decode nc_GM_holds 179 = .ok (.goto 4, 3) := by decide +kernel
theorem nd_GM_holds_182 : decode nc_GM_holds 182 = .ok (.iconst 0, 1) := by decide +kernel
theorem nd_GM_holds_183 : decode nc_GM_holds 183 = .ok (.istore 8, 2) := by decide +kernel
theorem nd_GM_holds_185 : decode nc_GM_holds 185 = .ok (.iload_n 2, 1) := by decide +kernel
theorem nd_GM_holds_186 : decode nc_GM_holds 186 = .ok (.iconst 1, 1) := by decide +kernel
theorem nd_GM_holds_187 : decode nc_GM_holds 187 = .ok (.iand, 1) := by decide +kernel
theorem nd_GM_holds_188 : decode nc_GM_holds 188 = .ok (.ifCond .ne 8, 3) := by decide +kernel
theorem nd_GM_holds_191 : decode nc_GM_holds 191 = .ok (.iload 8, 2) := by decide +kernel
theorem nd_GM_holds_193 : decode nc_GM_holds 193 = .ok (.goto 13, 3) := by decide +kernel
theorem nd_GM_holds_196 : decode nc_GM_holds 196 = .ok (.iload 8, 2) := by decide +kernel
theorem nd_GM_holds_198 : decode nc_GM_holds 198 = .ok (.ifCond .ne 7, 3) := by decide +kernel
theorem nd_GM_holds_201 : decode nc_GM_holds 201 = .ok (.iconst 1, 1) := by decide +kernel
theorem nd_GM_holds_202 : decode nc_GM_holds 202 = .ok (.goto 4, 3) := by decide +kernel
theorem nd_GM_holds_205 : decode nc_GM_holds 205 = .ok (.iconst 0, 1) := by decide +kernel
theorem nd_GM_holds_206 : decode nc_GM_holds 206 = .ok (.ireturn, 1) := by decide +kernel
theorem nd_GM_branch_0 : decode nc_GM_branch 0 = .ok (.iload_n 2, 1) := by decide +kernel
theorem nd_GM_branch_1 : decode nc_GM_branch 1 = .ok (.bipush 8, 2) := by decide +kernel
theorem nd_GM_branch_3 : decode nc_GM_branch 3 = .ok (.ishr, 1) := by decide +kernel
theorem nd_GM_branch_4 : decode nc_GM_branch 4 = .ok (.bipush 15, 2) := by decide +kernel
theorem nd_GM_branch_6 : decode nc_GM_branch 6 = .ok (.iand, 1) := by decide +kernel
theorem nd_GM_branch_7 : decode nc_GM_branch 7 = .ok (.istore_n 3, 1) := by decide +kernel
theorem nd_GM_branch_8 : decode nc_GM_branch 8 = .ok (.iload_n 2, 1) := by decide +kernel
theorem nd_GM_branch_9 : decode nc_GM_branch 9 = .ok (.sipush 255, 3) := by decide +kernel
theorem nd_GM_branch_12 : decode nc_GM_branch 12 = .ok (.iand, 1) := by decide +kernel
theorem nd_GM_branch_13 : decode nc_GM_branch 13 = .ok (.istore 4, 2) := by decide +kernel
theorem nd_GM_branch_15 : decode nc_GM_branch 15 = .ok (.iload_n 3, 1) := by decide +kernel
theorem nd_GM_branch_16 : decode nc_GM_branch 16 = .ok (.bipush 14, 2) := by decide +kernel
theorem nd_GM_branch_18 : decode nc_GM_branch 18 = .ok (.if_icmp .ne 11, 3) := by decide +kernel
theorem nd_GM_branch_21 : decode nc_GM_branch 21 = .ok (.aload_n 0, 1) := by decide +kernel
theorem nd_GM_branch_22 : decode nc_GM_branch 22 = .ok (.iconst 2, 1) := by decide +kernel
theorem nd_GM_branch_23 : decode nc_GM_branch 23 = .ok (.putfield 161, 3) := by decide +kernel
theorem nd_GM_branch_26 : decode nc_GM_branch 26 = .ok (.goto 81, 3) := by decide +kernel
theorem nd_GM_branch_29 : decode nc_GM_branch 29 = .ok (.iload_n 3, 1) := by decide +kernel
theorem nd_GM_branch_30 : decode nc_GM_branch 30 = .ok (.bipush 15, 2) := by decide +kernel
theorem nd_GM_branch_32 : decode nc_GM_branch 32 = .ok (.if_icmp .ne 33, 3) := by decide +kernel
theorem nd_GM_branch_35 : decode nc_GM_branch 35 = .ok (.aload_n 0, 1) := by decide +kernel
theorem nd_GM_branch_36 : decode nc_GM_branch 36 = .ok (.iload_n 1, 1) := by decide +kernel
theorem nd_GM_branch_37 : decode nc_GM_branch 37 = .ok (.aload_n 0, 1) := by decide +kernel
theorem nd_GM_branch_38 : decode nc_GM_branch 38 = .ok (.getfield 53, 3) := by decide +kernel
theorem nd_GM_branch_41 : decode nc_GM_branch 41 = .ok (.iload_n 1, 1) := by decide +kernel
theorem nd_GM_branch_42 : decode nc_GM_branch 42 = .ok (.iaload, 1) := by decide +kernel
theorem nd_GM_branch_43 : decode nc_GM_branch 43 = .ok (.iconst 2, 1) := by decide +kernel
theorem nd_GM_branch_44 : decode nc_GM_branch 44 = .ok (.iadd, 1) := by decide +kernel
theorem nd_GM_branch_45 : decode nc_GM_branch 45 = .ok (.invokevirtual 205, 3) := by decide +kernel
theorem nd_GM_branch_48 : decode nc_GM_branch 48 = .ok (.aload_n 0, 1) := by decide +kernel
theorem nd_GM_branch_49 : decode nc_GM_branch 49 = .ok (.getfield 161, 3) := by decide +kernel
theorem nd_GM_branch_52 : decode nc_GM_branch 52 = .ok (.ifCond .ne 55, 3) := by decide +kernel
theorem nd_GM_branch_55 : decode nc_GM_branch 55 = .ok (.aload_n 0, 1) := by decide +kernel
theorem nd_GM_branch_56 : decode nc_GM_branch 56 = .ok (.iload_n 1, 1) := by decide +kernel
theorem nd_GM_branch_57 : decode nc_GM_branch 57 = .ok (.iload 4, 2) := by decide +kernel
theorem nd_GM_branch_59 : decode nc_GM_branch 59 = .ok (.invokevirtual 208, 3) := by decide +kernel
theorem nd_GM_branch_62 : decode nc_GM_branch 62 = .ok (.goto 45, 3) := by decide +kernel
theorem nd_GM_branch_65 : decode nc_GM_branch 65 = .ok (.aload_n 0, 1) := by decide +kernel
theorem nd_GM_branch_66 : decode nc_GM_branch 66 = .ok (.iload_n 1, 1) := by decide +kernel
theorem nd_GM_branch_67 : decode nc_GM_branch 67 = .ok (.iload_n 3, 1) := by decide +kernel
theorem nd_GM_branch_68 : decode nc_GM_branch 68 = .ok (.invokevirtual 211, 3) := by decide +kernel
theorem nd_GM_branch_71 : decode nc_GM_branch 71 = .ok (.ifCond .eq 36, 3) := by decide +kernel
theorem nd_GM_branch_74 : decode nc_GM_branch 74 = .ok (.aload_n 0, 1) := by decide +kernel
theorem nd_GM_branch_75 : decode nc_GM_branch 75 = .ok (.aload_n 0, 1) := by decide +kernel
theorem nd_GM_branch_76 : decode nc_GM_branch 76 = .ok (.getfield 53, 3) := by decide +kernel
theorem nd_GM_branch_79 : decode nc_GM_branch 79 = .ok (.iload_n 1, 1) := by decide +kernel
theorem nd_GM_branch_80 : decode nc_GM_branch 80 = .ok (.iaload, 1) := by decide +kernel
theorem nd_GM_branch_81 : decode nc_GM_branch 81 = .ok (.iconst 4, 1) := by decide +kernel
theorem nd_GM_branch_82 : decode nc_GM_branch 82 = .ok (.iadd, 1) := by decide +kernel
theorem nd_GM_branch_83 : decode nc_GM_branch 83 = .ok (.iconst 2, 1) := by decide +kernel
theorem nd_GM_branch_84 : decode nc_GM_branch 84 = .ok (.iload 4, 2) := by decide +kernel
theorem nd_GM_branch_86 : decode nc_GM_branch 86 = .ok (.bipush 127, 2) := by decide +kernel
theorem nd_GM_branch_88 : decode nc_GM_branch 88 = .ok (.if_icmp .le 12, 3) := by decide +kernel
theorem nd_GM_branch_91 : decode nc_GM_branch 91 = .ok (.iload 4, 2) := by decide +kernel
theorem nd_GM_branch_93 : decode nc_GM_branch 93 = .ok (.sipush 256, 3) := by decide +kernel
theorem nd_GM_branch_96 : decode nc_GM_branch 96 = .ok (.isub, 1) := by decide +kernel
theorem nd_GM_branch_97 : decode nc_GM_branch 97 = .ok (.goto 5, 3) := by decide +kernel
theorem nd_GM_branch_100 : decode nc_GM_branch 100 = .ok (.iload 4, 2) := by decide +kernel
theorem nd_GM_branch_102 : decode nc_GM_branch 102 = .ok (.imul, 1) := by decide +kernel
theorem nd_GM_branch_103 : decode nc_GM_branch 103 = .ok (.iadd, 1) := by decide +kernel
theorem nd_GM_branch_104 : decode nc_GM_branch 104 = .ok (.putfield 199, 3) := by decide +kernel
theorem nd_GM_branch_107 : decode nc_GM_branch 107 = .ok (.return_, 1) := by decide +kernel
theorem nd_GM_stackWord_0 : decode nc_GM_stackWord 0 = .ok (.iload_n 2, 1) := by decide +kernel
theorem nd_GM_stackWord_1 : decode nc_GM_stackWord 1 = .ok (.bipush 11, 2) := by decide +kernel
theorem nd_GM_stackWord_3 : decode nc_GM_stackWord 3 = .ok (.ishr, 1) := by decide +kernel
theorem nd_GM_stackWord_4 : decode nc_GM_stackWord 4 = .ok (.istore_n 3, 1) := by decide +kernel
theorem nd_GM_stackWord_5 : decode nc_GM_stackWord 5 = .ok (.iload_n 2, 1) := by decide +kernel
theorem nd_GM_stackWord_6 : decode nc_GM_stackWord 6 = .ok (.bipush 8, 2) := by decide +kernel
theorem nd_GM_stackWord_8 : decode nc_GM_stackWord 8 = .ok (.ishr, 1) := by decide +kernel
theorem nd_GM_stackWord_9 : decode nc_GM_stackWord 9 = .ok (.bipush 7, 2) := by decide +kernel
theorem nd_GM_stackWord_11 : decode nc_GM_stackWord 11 = .ok (.iand, 1) := by decide +kernel
theorem nd_GM_stackWord_12 : decode nc_GM_stackWord 12 = .ok (.istore 4, 2) := by decide +kernel
theorem nd_GM_stackWord_14 : decode nc_GM_stackWord 14 = .ok (.iload_n 2, 1) := by decide +kernel
theorem nd_GM_stackWord_15 : decode nc_GM_stackWord 15 = .ok (.sipush 255, 3) := by decide +kernel
theorem nd_GM_stackWord_18 : decode nc_GM_stackWord 18 = .ok (.iand, 1) := by decide +kernel
theorem nd_GM_stackWord_19 : decode nc_GM_stackWord 19 = .ok (.istore 5, 2) := by decide +kernel
theorem nd_GM_stackWord_21 : decode nc_GM_stackWord 21 = .ok (.iload_n 3, 1) := by decide +kernel
theorem nd_GM_stackWord_22 : decode nc_GM_stackWord 22 = .ok (.bipush 9, 2) := by decide +kernel
theorem nd_GM_stackWord_24 : decode nc_GM_stackWord 24 = .ok (.if_icmp .ne 30, 3) := by decide +kernel
theorem nd_GM_stackWord_27 : decode nc_GM_stackWord 27 = .ok (.aload_n 0, 1) := by decide +kernel
theorem nd_GM_stackWord_28 : decode nc_GM_stackWord 28 = .ok (.iload_n 1, 1) := by decide +kernel
theorem nd_GM_stackWord_29 : decode nc_GM_stackWord 29 = .ok (.iload 4, 2) := by decide +kernel
theorem nd_GM_stackWord_31 : decode nc_GM_stackWord 31 = .ok (.aload_n 0, 1) := by decide +kernel
theorem nd_GM_stackWord_32 : decode nc_GM_stackWord 32 = .ok (.getfield 53, 3) := by decide +kernel
theorem nd_GM_stackWord_35 : decode nc_GM_stackWord 35 = .ok (.iload_n 1, 1) := by decide +kernel
theorem nd_GM_stackWord_36 : decode nc_GM_stackWord 36 = .ok (.iaload, 1) := by decide +kernel
theorem nd_GM_stackWord_37 : decode nc_GM_stackWord 37 = .ok (.iconst 4, 1) := by decide +kernel
theorem nd_GM_stackWord_38 : decode nc_GM_stackWord 38 = .ok (.iadd, 1) := by decide +kernel
theorem nd_GM_stackWord_39 : decode nc_GM_stackWord 39 = .ok (.bipush (-4), 2) := by decide +kernel
theorem nd_GM_stackWord_41 : decode nc_GM_stackWord 41 = .ok (.iand, 1) := by decide +kernel
theorem nd_GM_stackWord_42 : decode nc_GM_stackWord 42 = .ok (.iconst 4, 1) := by decide +kernel
theorem nd_GM_stackWord_43 : decode nc_GM_stackWord 43 = .ok (.iload 5, 2) := by decide +kernel
theorem nd_GM_stackWord_45 : decode nc_GM_stackWord 45 = .ok (.imul, 1) := by decide +kernel
theorem nd_GM_stackWord_46 : decode nc_GM_stackWord 46 = .ok (.iadd, 1) := by decide +kernel
theorem nd_GM_stackWord_47 : decode nc_GM_stackWord 47 = .ok (.iconst 0, 1) := by decide +kernel
theorem nd_GM_stackWord_48 : decode nc_GM_stackWord 48 = .ok (.invokevirtual 214, 3) := by decide +kernel
theorem nd_GM_stackWord_51 : decode nc_GM_stackWord 51 = .ok (.goto 174, 3) := by decide +kernel
theorem nd_GM_stackWord_54 : decode nc_GM_stackWord 54 = .ok (.iload_n 3, 1) := by decide +kernel
theorem nd_GM_stackWord_55 : decode nc_GM_stackWord 55 = .ok (.bipush 18, 2) := by decide +kernel
theorem nd_GM_stackWord_57 : decode nc_GM_stackWord 57 = .ok (.if_icmp .eq 9, 3) := by decide +kernel
theorem nd_GM_stackWord_60 : decode nc_GM_stackWord 60 = .ok (.iload_n 3, 1) := by decide +kernel
theorem nd_GM_stackWord_61 : decode nc_GM_stackWord 61 = .ok (.bipush 19, 2) := by decide +kernel
theorem nd_GM_stackWord_63 : decode nc_GM_stackWord 63 = .ok (.if_icmp .ne 35, 3) := by decide +kernel
theorem nd_GM_stackWord_66 : decode nc_GM_stackWord 66 = .ok (.aload_n 0, 1) := by decide +kernel
theorem nd_GM_stackWord_67 : decode nc_GM_stackWord 67 = .ok (.iload_n 1, 1) := by decide +kernel
theorem nd_GM_stackWord_68 : decode nc_GM_stackWord 68 = .ok (.iload 4, 2) := by decide +kernel
theorem nd_GM_stackWord_70 : decode nc_GM_stackWord 70 = .ok (.aload_n 0, 1) := by decide +kernel
theorem nd_GM_stackWord_71 : decode nc_GM_stackWord 71 = .ok (.getfield 47, 3) := by decide +kernel
theorem nd_GM_stackWord_74 : decode nc_GM_stackWord 74 = .ok (.iload_n 1, 1) := by decide +kernel
theorem nd_GM_stackWord_75 : decode nc_GM_stackWord 75 = .ok (.iaload, 1) := by decide +kernel
theorem nd_GM_stackWord_76 : decode nc_GM_stackWord 76 = .ok (.iconst 4, 1) := by decide +kernel
theorem nd_GM_stackWord_77 : decode nc_GM_stackWord 77 = .ok (.iload 5, 2) := by decide +kernel
theorem nd_GM_stackWord_79 : decode nc_GM_stackWord 79 = .ok (.imul, 1) := by decide +kernel
theorem nd_GM_stackWord_80 : decode nc_GM_stackWord 80 = .ok (.iadd, 1) := by decide +kernel
theorem nd_GM_stackWord_81 : decode nc_GM_stackWord 81 = .ok (.iload_n 3, 1) := by decide +kernel
theorem nd_GM_stackWord_82 : decode nc_GM_stackWord 82 = .ok (.bipush 18, 2) := by decide +kernel
theorem nd_GM_stackWord_84 : decode nc_GM_stackWord 84 = .ok (.if_icmp .ne 7, 3) := by decide +kernel
theorem nd_GM_stackWord_87 : decode nc_GM_stackWord 87 = .ok (.iconst 1, 1) := by decide +kernel
theorem nd_GM_stackWord_88 : decode nc_GM_stackWord 88 = .ok (.goto 4, 3) := by decide +kernel
theorem nd_GM_stackWord_91 : decode nc_GM_stackWord 91 = .ok (.iconst 0, 1) := by decide +kernel
theorem nd_GM_stackWord_92 : decode nc_GM_stackWord 92 = .ok (.invokevirtual 214, 3) := by decide +kernel
theorem nd_GM_stackWord_95 : decode nc_GM_stackWord 95 = .ok (.goto 130, 3) := by decide +kernel
theorem nd_GM_stackWord_98 : decode nc_GM_stackWord 98 = .ok (.iload_n 3, 1) := by decide +kernel
theorem nd_GM_stackWord_99 : decode nc_GM_stackWord 99 = .ok (.bipush 21, 2) := by decide +kernel
theorem nd_GM_stackWord_101 : decode nc_GM_stackWord 101 = .ok (.if_icmp .ne 29, 3) := by decide +kernel
theorem nd_GM_stackWord_104 : decode nc_GM_stackWord 104 = .ok (.aload_n 0, 1) := by decide +kernel
theorem nd_GM_stackWord_105 : decode nc_GM_stackWord 105 = .ok (.getfield 44, 3) := by decide +kernel
theorem nd_GM_stackWord_108 : decode nc_GM_stackWord 108 = .ok (.bipush 8, 2) := by decide +kernel
theorem nd_GM_stackWord_110 : decode nc_GM_stackWord 110 = .ok (.iload_n 1, 1) := by decide +kernel
theorem nd_GM_stackWord_111 : decode nc_GM_stackWord 111 = .ok (.imul, 1) := by decide +kernel
theorem nd_GM_stackWord_112 : decode nc_GM_stackWord 112 = .ok (.iload 4, 2) := by decide +kernel
theorem nd_GM_stackWord_114 : decode nc_GM_stackWord 114 = .ok (.iadd, 1) := by decide +kernel
theorem nd_GM_stackWord_115 : decode nc_GM_stackWord 115 = .ok (.aload_n 0, 1) := by decide +kernel
theorem nd_GM_stackWord_116 : decode nc_GM_stackWord 116 = .ok (.getfield 47, 3) := by decide +kernel
theorem nd_GM_stackWord_119 : decode nc_GM_stackWord 119 = .ok (.iload_n 1, 1) := by decide +kernel
theorem nd_GM_stackWord_120 : decode nc_GM_stackWord 120 = .ok (.iaload, 1) := by decide +kernel
theorem nd_GM_stackWord_121 : decode nc_GM_stackWord 121 = .ok (.iconst 4, 1) := by decide +kernel
theorem nd_GM_stackWord_122 : decode nc_GM_stackWord 122 = .ok (.iload 5, 2) := by decide +kernel
theorem nd_GM_stackWord_124 : decode nc_GM_stackWord 124 = .ok (.imul, 1) := by decide +kernel
theorem nd_GM_stackWord_125 : decode nc_GM_stackWord 125 = .ok (.iadd, 1) := by decide +kernel
theorem nd_GM_stackWord_126 : decode nc_GM_stackWord 126 = .ok (.iastore, 1) := by decide +kernel
theorem nd_GM_stackWord_127 : decode nc_GM_stackWord 127 = .ok (.goto 98, 3) := by decide +kernel
theorem nd_GM_stackWord_130 : decode nc_GM_stackWord 130 = .ok (.iload_n 2, 1) := by decide +kernel
theorem nd_GM_stackWord_131 : decode nc_GM_stackWord 131 = .ok (.bipush 8, 2) := by decide +kernel
theorem nd_GM_stackWord_133 : decode nc_GM_stackWord 133 = .ok (.ishr, 1) := by decide +kernel
theorem nd_GM_stackWord_134 : decode nc_GM_stackWord 134 = .ok (.sipush 176, 3) := by decide +kernel
theorem nd_GM_stackWord_137 : decode nc_GM_stackWord 137 = .ok (.if_icmp .ne 39, 3) := by decide +kernel
theorem nd_GM_stackWord_140 : decode nc_GM_stackWord 140 = .ok (.aload_n 0, 1) := by decide +kernel
theorem nd_GM_stackWord_141 : decode nc_GM_stackWord 141 = .ok (.getfield 47, 3) := by decide +kernel
theorem nd_GM_stackWord_144 : decode nc_GM_stackWord 144 = .ok (.iload_n 1, 1) := by decide +kernel
theorem nd_GM_stackWord_145 : decode nc_GM_stackWord 145 = .ok (.dup2, 1) := by decide +kernel
theorem nd_GM_stackWord_146 : decode nc_GM_stackWord 146 = .ok (.iaload, 1) := by decide +kernel
theorem nd_GM_stackWord_147 : decode nc_GM_stackWord 147 = .ok (.iload_n 2, 1) := by decide +kernel
theorem nd_GM_stackWord_148 : decode nc_GM_stackWord 148 = .ok (.sipush 128, 3) := by decide +kernel
theorem nd_GM_stackWord_151 : decode nc_GM_stackWord 151 = .ok (.iand, 1) := by decide +kernel
theorem nd_GM_stackWord_152 : decode nc_GM_stackWord 152 = .ok (.ifCond .eq 13, 3) := by decide +kernel
theorem nd_GM_stackWord_155 : decode nc_GM_stackWord 155 = .ok (.bipush (-4), 2) := by decide +kernel
theorem nd_GM_stackWord_157 : decode nc_GM_stackWord 157 = .ok (.iload_n 2, 1) := by decide +kernel
theorem nd_GM_stackWord_158 : decode nc_GM_stackWord 158 = .ok (.bipush 127, 2) := by decide +kernel
theorem nd_GM_stackWord_160 : decode nc_GM_stackWord 160 = .ok (.iand, 1) := by decide +kernel
theorem nd_GM_stackWord_161 : decode nc_GM_stackWord 161 = .ok (.imul, 1) := by decide +kernel
theorem nd_GM_stackWord_162 : decode nc_GM_stackWord 162 = .ok (.goto 9, 3) := by decide +kernel
theorem nd_GM_stackWord_165 : decode nc_GM_stackWord 165 = .ok (.iconst 4, 1) := by decide +kernel
theorem nd_GM_stackWord_166 : decode nc_GM_stackWord 166 = .ok (.iload_n 2, 1) := by decide +kernel
theorem nd_GM_stackWord_167 : decode nc_GM_stackWord 167 = .ok (.bipush 127, 2) := by decide +kernel
theorem nd_GM_stackWord_169 : decode nc_GM_stackWord 169 = .ok (.iand, 1) := by decide +kernel
theorem nd_GM_stackWord_170 : decode nc_GM_stackWord 170 = .ok (.imul, 1) := by decide +kernel
theorem nd_GM_stackWord_171 : decode nc_GM_stackWord 171 = .ok (.iadd, 1) := by decide +kernel
theorem nd_GM_stackWord_172 : decode nc_GM_stackWord 172 = .ok (.iastore, 1) := by decide +kernel
theorem nd_GM_stackWord_173 : decode nc_GM_stackWord 173 = .ok (.goto 52, 3) := by decide +kernel
theorem nd_GM_stackWord_176 : decode nc_GM_stackWord 176 = .ok (.iload_n 2, 1) := by decide +kernel
theorem nd_GM_stackWord_177 : decode nc_GM_stackWord 177 = .ok (.bipush 9, 2) := by decide +kernel
theorem nd_GM_stackWord_179 : decode nc_GM_stackWord 179 = .ok (.ishr, 1) := by decide +kernel
theorem nd_GM_stackWord_180 : decode nc_GM_stackWord 180 = .ok (.bipush 90, 2) := by decide +kernel
theorem nd_GM_stackWord_182 : decode nc_GM_stackWord 182 = .ok (.if_icmp .ne 16, 3) := by decide +kernel
theorem nd_GM_stackWord_185 : decode nc_GM_stackWord 185 = .ok (.aload_n 0, 1) := by decide +kernel
theorem nd_GM_stackWord_186 : decode nc_GM_stackWord 186 = .ok (.iload_n 1, 1) := by decide +kernel
theorem nd_GM_stackWord_187 : decode nc_GM_stackWord 187 = .ok (.iload_n 2, 1) := by decide +kernel
theorem nd_GM_stackWord_188 : decode nc_GM_stackWord 188 = .ok (.sipush 511, 3) := by decide +kernel
theorem nd_GM_stackWord_191 : decode nc_GM_stackWord 191 = .ok (.iand, 1) := by decide +kernel
theorem nd_GM_stackWord_192 : decode nc_GM_stackWord 192 = .ok (.invokevirtual 218, 3) := by decide +kernel
theorem nd_GM_stackWord_195 : decode nc_GM_stackWord 195 = .ok (.goto 30, 3) := by decide +kernel
theorem nd_GM_stackWord_198 : decode nc_GM_stackWord 198 = .ok (.iload_n 2, 1) := by decide +kernel
theorem nd_GM_stackWord_199 : decode nc_GM_stackWord 199 = .ok (.bipush 9, 2) := by decide +kernel
theorem nd_GM_stackWord_201 : decode nc_GM_stackWord 201 = .ok (.ishr, 1) := by decide +kernel
theorem nd_GM_stackWord_202 : decode nc_GM_stackWord 202 = .ok (.bipush 94, 2) := by decide +kernel
theorem nd_GM_stackWord_204 : decode nc_GM_stackWord 204 = .ok (.if_icmp .ne 16, 3) := by decide +kernel
theorem nd_GM_stackWord_207 : decode nc_GM_stackWord 207 = .ok (.aload_n 0, 1) := by decide +kernel
theorem nd_GM_stackWord_208 : decode nc_GM_stackWord 208 = .ok (.iload_n 1, 1) := by decide +kernel
theorem nd_GM_stackWord_209 : decode nc_GM_stackWord 209 = .ok (.iload_n 2, 1) := by decide +kernel
theorem nd_GM_stackWord_210 : decode nc_GM_stackWord 210 = .ok (.sipush 511, 3) := by decide +kernel
theorem nd_GM_stackWord_213 : decode nc_GM_stackWord 213 = .ok (.iand, 1) := by decide +kernel
theorem nd_GM_stackWord_214 : decode nc_GM_stackWord 214 = .ok (.invokevirtual 221, 3) := by decide +kernel
theorem nd_GM_stackWord_217 : decode nc_GM_stackWord 217 = .ok (.goto 8, 3) := by decide +kernel
theorem nd_GM_stackWord_220 : decode nc_GM_stackWord 220 = .ok (.aload_n 0, 1) := by decide +kernel
theorem nd_GM_stackWord_221 : decode nc_GM_stackWord 221 = .ok (.iconst 2, 1) := by decide +kernel
theorem nd_GM_stackWord_222 : decode nc_GM_stackWord 222 = .ok (.putfield 161, 3) := by decide +kernel
theorem nd_GM_stackWord_225 : decode nc_GM_stackWord 225 = .ok (.return_, 1) := by decide +kernel
theorem nd_GM_instruction_0 : decode nc_GM_instruction 0 = .ok (.aload_n 0, 1) := by decide +kernel
theorem nd_GM_instruction_1 : decode nc_GM_instruction 1 = .ok (.getfield 53, 3) := by decide +kernel
theorem nd_GM_instruction_4 : decode nc_GM_instruction 4 = .ok (.iload_n 1, 1) := by decide +kernel
theorem nd_GM_instruction_5 : decode nc_GM_instruction 5 = .ok (.iaload, 1) := by decide +kernel
theorem nd_GM_instruction_6 : decode nc_GM_instruction 6 = .ok (.iconst 1, 1) := by decide +kernel
theorem nd_GM_instruction_7 : decode nc_GM_instruction 7 = .ok (.iand, 1) := by decide +kernel
theorem nd_GM_instruction_8 : decode nc_GM_instruction 8 = .ok (.ifCond .ne 17, 3) := by decide +kernel
theorem nd_GM_instruction_11 : decode nc_GM_instruction 11 = .ok (.aload_n 0, 1) := by decide +kernel
theorem nd_GM_instruction_12 : decode nc_GM_instruction 12 = .ok (.iload_n 1, 1) := by decide +kernel
theorem nd_GM_instruction_13 : decode nc_GM_instruction 13 = .ok (.aload_n 0, 1) := by decide +kernel
theorem nd_GM_instruction_14 : decode nc_GM_instruction 14 = .ok (.getfield 53, 3) := by decide +kernel
theorem nd_GM_instruction_17 : decode nc_GM_instruction 17 = .ok (.iload_n 1, 1) := by decide +kernel
theorem nd_GM_instruction_18 : decode nc_GM_instruction 18 = .ok (.iaload, 1) := by decide +kernel
theorem nd_GM_instruction_19 : decode nc_GM_instruction 19 = .ok (.invokevirtual 158, 3) := by decide +kernel
theorem nd_GM_instruction_22 : decode nc_GM_instruction 22 = .ok (.ifCond .ne 9, 3) := by decide +kernel
theorem nd_GM_instruction_25 : decode nc_GM_instruction 25 = .ok (.aload_n 0, 1) := by decide +kernel
theorem nd_GM_instruction_26 : decode nc_GM_instruction 26 = .ok (.iconst 1, 1) := by decide +kernel
theorem nd_GM_instruction_27 : decode nc_GM_instruction 27 = .ok (.putfield 161, 3) := by decide +kernel
theorem nd_GM_instruction_30 : decode nc_GM_instruction 30 = .ok (.return_, 1) := by decide +kernel
theorem nd_GM_instruction_31 : decode nc_GM_instruction 31 = .ok (.aload_n 0, 1) := by decide +kernel
theorem nd_GM_instruction_32 : decode nc_GM_instruction 32 = .ok (.getfield 7, 3) := by decide +kernel
theorem nd_GM_instruction_35 : decode nc_GM_instruction 35 = .ok (.aload_n 0, 1) := by decide +kernel
theorem nd_GM_instruction_36 : decode nc_GM_instruction 36 = .ok (.getfield 53, 3) := by decide +kernel
theorem nd_GM_instruction_39 : decode nc_GM_instruction 39 = .ok (.iload_n 1, 1) := by decide +kernel
theorem nd_GM_instruction_40 : decode nc_GM_instruction 40 = .ok (.iaload, 1) := by decide +kernel
theorem nd_GM_instruction_41 : decode nc_GM_instruction 41 = .ok (.iconst 2, 1) := by decide +kernel
theorem nd_GM_instruction_42 : decode nc_GM_instruction 42 = .ok (.idiv, 1) := by decide +kernel
theorem nd_GM_instruction_43 : decode nc_GM_instruction 43 = .ok (.iaload, 1) := by decide +kernel
theorem nd_GM_instruction_44 : decode nc_GM_instruction 44 = .ok (.istore_n 2, 1) := by decide +kernel
theorem nd_GM_instruction_45 : decode nc_GM_instruction 45 = .ok (.iload_n 2, 1) := by decide +kernel
theorem nd_GM_instruction_46 : decode nc_GM_instruction 46 = .ok (.bipush 11, 2) := by decide +kernel
theorem nd_GM_instruction_48 : decode nc_GM_instruction 48 = .ok (.ishr, 1) := by decide +kernel
theorem nd_GM_instruction_49 : decode nc_GM_instruction 49 = .ok (.istore_n 3, 1) := by decide +kernel
theorem nd_GM_instruction_50 : decode nc_GM_instruction 50 = .ok (.iload_n 2, 1) := by decide +kernel
theorem nd_GM_instruction_51 : decode nc_GM_instruction 51 = .ok (.bipush 6, 2) := by decide +kernel
theorem nd_GM_instruction_53 : decode nc_GM_instruction 53 = .ok (.ishr, 1) := by decide +kernel
theorem nd_GM_instruction_54 : decode nc_GM_instruction 54 = .ok (.bipush 31, 2) := by decide +kernel
theorem nd_GM_instruction_56 : decode nc_GM_instruction 56 = .ok (.iand, 1) := by decide +kernel
theorem nd_GM_instruction_57 : decode nc_GM_instruction 57 = .ok (.istore 4, 2) := by decide +kernel
theorem nd_GM_instruction_59 : decode nc_GM_instruction 59 = .ok (.aload_n 0, 1) := by decide +kernel
theorem nd_GM_instruction_60 : decode nc_GM_instruction 60 = .ok (.getfield 44, 3) := by decide +kernel
theorem nd_GM_instruction_63 : decode nc_GM_instruction 63 = .ok (.bipush 8, 2) := by decide +kernel
theorem nd_GM_instruction_65 : decode nc_GM_instruction 65 = .ok (.iload_n 1, 1) := by decide +kernel
theorem nd_GM_instruction_66 : decode nc_GM_instruction 66 = .ok (.imul, 1) := by decide +kernel
theorem nd_GM_instruction_67 : decode nc_GM_instruction 67 = .ok (.iload_n 2, 1) := by decide +kernel
theorem nd_GM_instruction_68 : decode nc_GM_instruction 68 = .ok (.iconst 3, 1) := by decide +kernel
theorem nd_GM_instruction_69 : decode nc_GM_instruction 69 = .ok (.ishr, 1) := by decide +kernel
theorem nd_GM_instruction_70 : decode nc_GM_instruction 70 = .ok (.bipush 7, 2) := by decide +kernel
theorem nd_GM_instruction_72 : decode nc_GM_instruction 72 = .ok (.iand, 1) := by decide +kernel
theorem nd_GM_instruction_73 : decode nc_GM_instruction 73 = .ok (.iadd, 1) := by decide +kernel
theorem nd_GM_instruction_74 : decode nc_GM_instruction 74 = .ok (.iaload, 1) := by decide +kernel
theorem nd_GM_instruction_75 : decode nc_GM_instruction 75 = .ok (.istore 5, 2) := by decide +kernel
theorem nd_GM_instruction_77 : decode nc_GM_instruction 77 = .ok (.aload_n 0, 1) := by decide +kernel
theorem nd_GM_instruction_78 : decode nc_GM_instruction 78 = .ok (.aload_n 0, 1) := by decide +kernel
theorem nd_GM_instruction_79 : decode nc_GM_instruction 79 = .ok (.getfield 53, 3) := by decide +kernel
theorem nd_GM_instruction_82 : decode nc_GM_instruction 82 = .ok (.iload_n 1, 1) := by decide +kernel
theorem nd_GM_instruction_83 : decode nc_GM_instruction 83 = .ok (.iaload, 1) := by decide +kernel
theorem nd_GM_instruction_84 : decode nc_GM_instruction 84 = .ok (.iconst 2, 1) := by decide +kernel
theorem nd_GM_instruction_85 : decode nc_GM_instruction 85 = .ok (.iadd, 1) := by decide +kernel
theorem nd_GM_instruction_86 : decode nc_GM_instruction 86 = .ok (.putfield 199, 3) := by decide +kernel
theorem nd_GM_instruction_89 : decode nc_GM_instruction 89 = .ok (.iload_n 3, 1) := by decide +kernel
theorem nd_GM_instruction_90 : decode nc_GM_instruction 90 = .ok (.iconst 3, 1) := by decide +kernel
theorem nd_GM_instruction_91 : decode nc_GM_instruction 91 = .ok (.if_icmp .ge 44, 3) := by decide +kernel
theorem nd_GM_instruction_94 : decode nc_GM_instruction 94 = .ok (.aload_n 0, 1) := by decide +kernel
theorem nd_GM_instruction_95 : decode nc_GM_instruction 95 = .ok (.getfield 44, 3) := by decide +kernel
theorem nd_GM_instruction_98 : decode nc_GM_instruction 98 = .ok (.bipush 8, 2) := by decide +kernel
theorem nd_GM_instruction_100 : decode nc_GM_instruction 100 = .ok (.iload_n 1, 1) := by decide +kernel
theorem nd_GM_instruction_101 : decode nc_GM_instruction 101 = .ok (.imul, 1) := by decide +kernel
theorem nd_GM_instruction_102 : decode nc_GM_instruction 102 = .ok (.iload_n 2, 1) := by decide +kernel
theorem nd_GM_instruction_103 : decode nc_GM_instruction 103 = .ok (.bipush 7, 2) := by decide +kernel
theorem nd_GM_instruction_105 : decode nc_GM_instruction 105 = .ok (.iand, 1) := by decide +kernel
theorem nd_GM_instruction_106 : decode nc_GM_instruction 106 = .ok (.iadd, 1) := by decide +kernel
theorem nd_GM_instruction_107 : decode nc_GM_instruction 107 = .ok (.aload_n 0, 1) := by decide +kernel
theorem nd_GM_instruction_108 : decode nc_GM_instruction 108 = .ok (.iload_n 1, 1) := by decide +kernel
theorem nd_GM_instruction_109 : decode nc_GM_instruction 109 = .ok (.iload 5, 2) := by decide +kernel
theorem nd_GM_instruction_111 : decode nc_GM_instruction 111 = .ok (.iload_n 3, 1) := by decide +kernel
theorem nd_GM_instruction_112 : decode nc_GM_instruction 112 = .ok (.ifCond .le 13, 3) := by decide +kernel
theorem nd_GM_instruction_115 : decode nc_GM_instruction 115 = .ok (.iload 4, 2) := by decide +kernel
theorem nd_GM_instruction_117 : decode nc_GM_instruction 117 = .ok (.ifCond .ne 8, 3) := by decide +kernel
theorem nd_GM_instruction_120 : decode nc_GM_instruction 120 = .ok (.bipush 32, 2) := by decide +kernel
theorem nd_GM_instruction_122 : decode nc_GM_instruction 122 = .ok (.goto 5, 3) := by decide +kernel
theorem nd_GM_instruction_125 : decode nc_GM_instruction 125 = .ok (.iload 4, 2) := by decide +kernel
theorem nd_GM_instruction_127 : decode nc_GM_instruction 127 = .ok (.iload_n 3, 1) := by decide +kernel
theorem nd_GM_instruction_128 : decode nc_GM_instruction 128 = .ok (.invokevirtual 188, 3) := by decide +kernel
theorem nd_GM_instruction_131 : decode nc_GM_instruction 131 = .ok (.iastore, 1) := by decide +kernel
theorem nd_GM_instruction_132 : decode nc_GM_instruction 132 = .ok (.goto 190, 3) := by decide +kernel
theorem nd_GM_instruction_135 : decode nc_GM_instruction 135 = .ok (.iload_n 3, 1) := by decide +kernel
theorem nd_GM_instruction_136 : decode nc_GM_instruction 136 = .ok (.iconst 3, 1) := by decide +kernel
theorem nd_GM_instruction_137 : decode nc_GM_instruction 137 = .ok (.if_icmp .ne 12, 3) := by decide +kernel
theorem nd_GM_instruction_140 : decode nc_GM_instruction 140 = .ok (.aload_n 0, 1) := by decide +kernel
theorem nd_GM_instruction_141 : decode nc_GM_instruction 141 = .ok (.iload_n 1, 1) := by decide +kernel
theorem nd_GM_instruction_142 : decode nc_GM_instruction 142 = .ok (.iload_n 2, 1) := by decide +kernel
theorem nd_GM_instruction_143 : decode nc_GM_instruction 143 = .ok (.invokevirtual 224, 3) := by decide +kernel
theorem nd_GM_instruction_146 : decode nc_GM_instruction 146 = .ok (.goto 176, 3) := by decide +kernel
theorem nd_GM_instruction_149 : decode nc_GM_instruction 149 = .ok (.iload_n 3, 1) := by decide +kernel
theorem nd_GM_instruction_150 : decode nc_GM_instruction 150 = .ok (.bipush 8, 2) := by decide +kernel
theorem nd_GM_instruction_152 : decode nc_GM_instruction 152 = .ok (.if_icmp .ge 12, 3) := by decide +kernel
theorem nd_GM_instruction_155 : decode nc_GM_instruction 155 = .ok (.aload_n 0, 1) := by decide +kernel
theorem nd_GM_instruction_156 : decode nc_GM_instruction 156 = .ok (.iload_n 1, 1) := by decide +kernel
theorem nd_GM_instruction_157 : decode nc_GM_instruction 157 = .ok (.iload_n 2, 1) := by decide +kernel
theorem nd_GM_instruction_158 : decode nc_GM_instruction 158 = .ok (.invokevirtual 227, 3) := by decide +kernel
theorem nd_GM_instruction_161 : decode nc_GM_instruction 161 = .ok (.goto 161, 3) := by decide +kernel
theorem nd_GM_instruction_164 : decode nc_GM_instruction 164 = .ok (.iload_n 3, 1) := by decide +kernel
theorem nd_GM_instruction_165 : decode nc_GM_instruction 165 = .ok (.bipush 8, 2) := by decide +kernel
theorem nd_GM_instruction_167 : decode nc_GM_instruction 167 = .ok (.if_icmp .ne 21, 3) := by decide +kernel
theorem nd_GM_instruction_170 : decode nc_GM_instruction 170 = .ok (.iload_n 2, 1) := by decide +kernel
theorem nd_GM_instruction_171 : decode nc_GM_instruction 171 = .ok (.bipush 10, 2) := by decide +kernel
theorem nd_GM_instruction_173 : decode nc_GM_instruction 173 = .ok (.ishr, 1) := by decide +kernel
theorem nd_GM_instruction_174 : decode nc_GM_instruction 174 = .ok (.bipush 16, 2) := by decide +kernel
theorem nd_GM_instruction_176 : decode nc_GM_instruction 176 = .ok (.if_icmp .ne 12, 3) := by decide +kernel
theorem nd_GM_instruction_179 : decode nc_GM_instruction 179 = .ok (.aload_n 0, 1) := by decide +kernel
theorem nd_GM_instruction_180 : decode nc_GM_instruction 180 = .ok (.iload_n 1, 1) := by decide +kernel
theorem nd_GM_instruction_181 : decode nc_GM_instruction 181 = .ok (.iload_n 2, 1) := by decide +kernel
theorem nd_GM_instruction_182 : decode nc_GM_instruction 182 = .ok (.invokevirtual 230, 3) := by decide +kernel
theorem nd_GM_instruction_185 : decode nc_GM_instruction 185 = .ok (.goto 137, 3) := by decide +kernel
theorem nd_GM_instruction_188 : decode nc_GM_instruction 188 = .ok (.iload_n 3, 1) := by decide +kernel
theorem nd_GM_instruction_189 : decode nc_GM_instruction 189 = .ok (.bipush 8, 2) := by decide +kernel
theorem nd_GM_instruction_191 : decode nc_GM_instruction 191 = .ok (.if_icmp .ne 12, 3) := by decide +kernel
theorem nd_GM_instruction_194 : decode nc_GM_instruction 194 = .ok (.aload_n 0, 1) := by decide +kernel
theorem nd_GM_instruction_195 : decode nc_GM_instruction 195 = .ok (.iload_n 1, 1) := by decide +kernel
theorem nd_GM_instruction_196 : decode nc_GM_instruction 196 = .ok (.iload_n 2, 1) := by decide +kernel
theorem nd_GM_instruction_197 : decode nc_GM_instruction 197 = .ok (.invokevirtual 233, 3) := by decide +kernel
theorem nd_GM_instruction_200 : decode nc_GM_instruction 200 = .ok (.goto 122, 3) := by decide +kernel
theorem nd_GM_instruction_203 : decode nc_GM_instruction 203 = .ok (.iload_n 3, 1) := by decide +kernel
theorem nd_GM_instruction_204 : decode nc_GM_instruction 204 = .ok (.bipush 12, 2) := by decide +kernel
theorem nd_GM_instruction_206 : decode nc_GM_instruction 206 = .ok (.if_icmp .eq 9, 3) := by decide +kernel
theorem nd_GM_instruction_209 : decode nc_GM_instruction 209 = .ok (.iload_n 3, 1) := by decide +kernel
theorem nd_GM_instruction_210 : decode nc_GM_instruction 210 = .ok (.bipush 13, 2) := by decide +kernel
theorem nd_GM_instruction_212 : decode nc_GM_instruction 212 = .ok (.if_icmp .ne 33, 3) := by decide +kernel
theorem nd_GM_instruction_215 : decode nc_GM_instruction 215 = .ok (.aload_n 0, 1) := by decide +kernel
theorem nd_GM_instruction_216 : decode nc_GM_instruction 216 = .ok (.iload_n 1, 1) := by decide +kernel
theorem nd_GM_instruction_217 : decode nc_GM_instruction 217 = .ok (.iload_n 2, 1) := by decide +kernel
theorem nd_GM_instruction_218 : decode nc_GM_instruction 218 = .ok (.bipush 7, 2) := by decide +kernel
theorem nd_GM_instruction_220 : decode nc_GM_instruction 220 = .ok (.iand, 1) := by decide +kernel
theorem nd_GM_instruction_221 : decode nc_GM_instruction 221 = .ok (.iload 5, 2) := by decide +kernel
theorem nd_GM_instruction_223 : decode nc_GM_instruction 223 = .ok (.iconst 4, 1) := by decide +kernel
theorem nd_GM_instruction_224 : decode nc_GM_instruction 224 = .ok (.iload 4, 2) := by decide +kernel
theorem nd_GM_instruction_226 : decode nc_GM_instruction 226 = .ok (.imul, 1) := by decide +kernel
theorem nd_GM_instruction_227 : decode nc_GM_instruction 227 = .ok (.iadd, 1) := by decide +kernel
theorem nd_GM_instruction_228 : decode nc_GM_instruction 228 = .ok (.iload_n 3, 1) := by decide +kernel
theorem nd_GM_instruction_229 : decode nc_GM_instruction 229 = .ok (.bipush 12, 2) := by decide +kernel
theorem nd_GM_instruction_231 : decode nc_GM_instruction 231 = .ok (.if_icmp .ne 7, 3) := by decide +kernel
theorem nd_GM_instruction_234 : decode nc_GM_instruction 234 = .ok (.iconst 1, 1) := by decide +kernel
theorem nd_GM_instruction_235 : decode nc_GM_instruction 235 = .ok (.goto 4, 3) := by decide +kernel
theorem nd_GM_instruction_238 : decode nc_GM_instruction 238 = .ok (.iconst 0, 1) := by decide +kernel
theorem nd_GM_instruction_239 : decode nc_GM_instruction 239 = .ok (.invokevirtual 214, 3) := by decide +kernel
theorem nd_GM_instruction_242 : decode nc_GM_instruction 242 = .ok (.goto 80, 3) := by decide +kernel
theorem nd_GM_instruction_245 : decode nc_GM_instruction 245 = .ok (.iload_n 3, 1) := by decide +kernel
theorem nd_GM_instruction_246 : decode nc_GM_instruction 246 = .ok (.bipush 26, 2) := by decide +kernel
theorem nd_GM_instruction_248 : decode nc_GM_instruction 248 = .ok (.if_icmp .eq 9, 3) := by decide +kernel
theorem nd_GM_instruction_251 : decode nc_GM_instruction 251 = .ok (.iload_n 3, 1) := by decide +kernel
theorem nd_GM_instruction_252 : decode nc_GM_instruction 252 = .ok (.bipush 27, 2) := by decide +kernel
theorem nd_GM_instruction_254 : decode nc_GM_instruction 254 = .ok (.if_icmp .ne 12, 3) := by decide +kernel
theorem nd_GM_instruction_257 : decode nc_GM_instruction 257 = .ok (.aload_n 0, 1) := by decide +kernel
theorem nd_GM_instruction_258 : decode nc_GM_instruction 258 = .ok (.iload_n 1, 1) := by decide +kernel
theorem nd_GM_instruction_259 : decode nc_GM_instruction 259 = .ok (.iload_n 2, 1) := by decide +kernel
theorem nd_GM_instruction_260 : decode nc_GM_instruction 260 = .ok (.invokevirtual 236, 3) := by decide +kernel
theorem nd_GM_instruction_263 : decode nc_GM_instruction 263 = .ok (.goto 59, 3) := by decide +kernel
theorem nd_GM_instruction_266 : decode nc_GM_instruction 266 = .ok (.iload_n 3, 1) := by decide +kernel
theorem nd_GM_instruction_267 : decode nc_GM_instruction 267 = .ok (.bipush 28, 2) := by decide +kernel
theorem nd_GM_instruction_269 : decode nc_GM_instruction 269 = .ok (.if_icmp .ne 47, 3) := by decide +kernel
theorem nd_GM_instruction_272 : decode nc_GM_instruction 272 = .ok (.iload_n 2, 1) := by decide +kernel
theorem nd_GM_instruction_273 : decode nc_GM_instruction 273 = .ok (.sipush 2047, 3) := by decide +kernel
theorem nd_GM_instruction_276 : decode nc_GM_instruction 276 = .ok (.iand, 1) := by decide +kernel
theorem nd_GM_instruction_277 : decode nc_GM_instruction 277 = .ok (.istore 6, 2) := by decide +kernel
theorem nd_GM_instruction_279 : decode nc_GM_instruction 279 = .ok (.aload_n 0, 1) := by decide +kernel
theorem nd_GM_instruction_280 : decode nc_GM_instruction 280 = .ok (.aload_n 0, 1) := by decide +kernel
theorem nd_GM_instruction_281 : decode nc_GM_instruction 281 = .ok (.getfield 53, 3) := by decide +kernel
theorem nd_GM_instruction_284 : decode nc_GM_instruction 284 = .ok (.iload_n 1, 1) := by decide +kernel
theorem nd_GM_instruction_285 : decode nc_GM_instruction 285 = .ok (.iaload, 1) := by decide +kernel
theorem nd_GM_instruction_286 : decode nc_GM_instruction 286 = .ok (.iconst 4, 1) := by decide +kernel
theorem nd_GM_instruction_287 : decode nc_GM_instruction 287 = .ok (.iadd, 1) := by decide +kernel
theorem nd_GM_instruction_288 : decode nc_GM_instruction 288 = .ok (.iconst 2, 1) := by decide +kernel
theorem nd_GM_instruction_289 : decode nc_GM_instruction 289 = .ok (.iload 6, 2) := by decide +kernel
theorem nd_GM_instruction_291 : decode nc_GM_instruction 291 = .ok (.sipush 1023, 3) := by decide +kernel
theorem nd_GM_instruction_294 : decode nc_GM_instruction 294 = .ok (.if_icmp .le 12, 3) := by decide +kernel
theorem nd_GM_instruction_297 : decode nc_GM_instruction 297 = .ok (.iload 6, 2) := by decide +kernel
theorem nd_GM_instruction_299 : decode nc_GM_instruction 299 = .ok (.sipush 2048, 3) := by decide +kernel
theorem nd_GM_instruction_302 : decode nc_GM_instruction 302 = .ok (.isub, 1) := by decide +kernel
theorem nd_GM_instruction_303 : decode nc_GM_instruction 303 = .ok (.goto 5, 3) := by decide +kernel
theorem nd_GM_instruction_306 : decode nc_GM_instruction 306 = .ok (.iload 6, 2) := by decide +kernel
theorem nd_GM_instruction_308 : decode nc_GM_instruction 308 = .ok (.imul, 1) := by decide +kernel
theorem nd_GM_instruction_309 : decode nc_GM_instruction 309 = .ok (.iadd, 1) := by decide +kernel
theorem nd_GM_instruction_310 : decode nc_GM_instruction 310 = .ok (.putfield 199, 3) := by decide +kernel
theorem nd_GM_instruction_313 : decode nc_GM_instruction 313 = .ok (.goto 9, 3) := by decide +kernel
theorem nd_GM_instruction_316 : decode nc_GM_instruction 316 = .ok (.aload_n 0, 1) := by decide +kernel
theorem nd_GM_instruction_317 : decode nc_GM_instruction 317 = .ok (.iload_n 1, 1) := by decide +kernel
theorem nd_GM_instruction_318 : decode nc_GM_instruction 318 = .ok (.iload_n 2, 1) := by decide +kernel
theorem nd_GM_instruction_319 : decode nc_GM_instruction 319 = .ok (.invokevirtual 239, 3) := by decide +kernel
theorem nd_GM_instruction_322 : decode nc_GM_instruction 322 = .ok (.aload_n 0, 1) := by decide +kernel
theorem nd_GM_instruction_323 : decode nc_GM_instruction 323 = .ok (.getfield 53, 3) := by decide +kernel
theorem nd_GM_instruction_326 : decode nc_GM_instruction 326 = .ok (.iload_n 1, 1) := by decide +kernel
theorem nd_GM_instruction_327 : decode nc_GM_instruction 327 = .ok (.aload_n 0, 1) := by decide +kernel
theorem nd_GM_instruction_328 : decode nc_GM_instruction 328 = .ok (.getfield 161, 3) := by decide +kernel
theorem nd_GM_instruction_331 : decode nc_GM_instruction 331 = .ok (.ifCond .le 12, 3) := by decide +kernel
theorem nd_GM_instruction_334 : decode nc_GM_instruction 334 = .ok (.aload_n 0, 1) := by decide +kernel
theorem nd_GM_instruction_335 : decode nc_GM_instruction 335 = .ok (.getfield 53, 3) := by decide +kernel
theorem nd_GM_instruction_338 : decode nc_GM_instruction 338 = .ok (.iload_n 1, 1) := by decide +kernel
theorem nd_GM_instruction_339 : decode nc_GM_instruction 339 = .ok (.iaload, 1) := by decide +kernel
theorem nd_GM_instruction_340 : decode nc_GM_instruction 340 = .ok (.goto 7, 3) := by decide +kernel
theorem nd_GM_instruction_343 : decode nc_GM_instruction 343 = .ok (.aload_n 0, 1) := by decide +kernel
theorem nd_GM_instruction_344 : decode nc_GM_instruction 344 = .ok (.getfield 199, 3) := by decide +kernel
theorem nd_GM_instruction_347 : decode nc_GM_instruction 347 = .ok (.iastore, 1) := by decide +kernel
theorem nd_GM_instruction_348 : decode nc_GM_instruction 348 = .ok (.return_, 1) := by decide +kernel
theorem nd_GM_grantAddress_0 : decode nc_GM_grantAddress 0 = .ok (.sipush 4096, 3) := by decide +kernel
theorem nd_GM_grantAddress_3 : decode nc_GM_grantAddress 3 = .ok (.iconst 4, 1) := by decide +kernel
theorem nd_GM_grantAddress_4 : decode nc_GM_grantAddress 4 = .ok (.aload_n 0, 1) := by decide +kernel
theorem nd_GM_grantAddress_5 : decode nc_GM_grantAddress 5 = .ok (.getfield 26, 3) := by decide +kernel
theorem nd_GM_grantAddress_8 : decode nc_GM_grantAddress 8 = .ok (.iload_n 1, 1) := by decide +kernel
theorem nd_GM_grantAddress_9 : decode nc_GM_grantAddress 9 = .ok (.iaload, 1) := by decide +kernel
theorem nd_GM_grantAddress_10 : decode nc_GM_grantAddress 10 = .ok (.aload_n 0, 1) := by decide +kernel
theorem nd_GM_grantAddress_11 : decode nc_GM_grantAddress 11 = .ok (.getfield 29, 3) := by decide +kernel
theorem nd_GM_grantAddress_14 : decode nc_GM_grantAddress 14 = .ok (.iload_n 1, 1) := by decide +kernel
theorem nd_GM_grantAddress_15 : decode nc_GM_grantAddress 15 = .ok (.iaload, 1) := by decide +kernel
theorem nd_GM_grantAddress_16 : decode nc_GM_grantAddress 16 = .ok (.iadd, 1) := by decide +kernel
theorem nd_GM_grantAddress_17 : decode nc_GM_grantAddress 17 = .ok (.iconst 2, 1) := by decide +kernel
theorem nd_GM_grantAddress_18 : decode nc_GM_grantAddress 18 = .ok (.aload_n 0, 1) := by decide +kernel
theorem nd_GM_grantAddress_19 : decode nc_GM_grantAddress 19 = .ok (.getfield 72, 3) := by decide +kernel
theorem nd_GM_grantAddress_22 : decode nc_GM_grantAddress 22 = .ok (.iconst 3, 1) := by decide +kernel
theorem nd_GM_grantAddress_23 : decode nc_GM_grantAddress 23 = .ok (.iload_n 1, 1) := by decide +kernel
theorem nd_GM_grantAddress_24 : decode nc_GM_grantAddress 24 = .ok (.imul, 1) := by decide +kernel
theorem nd_GM_grantAddress_25 : decode nc_GM_grantAddress 25 = .ok (.iload_n 2, 1) := by decide +kernel
theorem nd_GM_grantAddress_26 : decode nc_GM_grantAddress 26 = .ok (.iadd, 1) := by decide +kernel
theorem nd_GM_grantAddress_27 : decode nc_GM_grantAddress 27 = .ok (.iaload, 1) := by decide +kernel
theorem nd_GM_grantAddress_28 : decode nc_GM_grantAddress 28 = .ok (.imul, 1) := by decide +kernel
theorem nd_GM_grantAddress_29 : decode nc_GM_grantAddress 29 = .ok (.isub, 1) := by decide +kernel
theorem nd_GM_grantAddress_30 : decode nc_GM_grantAddress 30 = .ok (.imul, 1) := by decide +kernel
theorem nd_GM_grantAddress_31 : decode nc_GM_grantAddress 31 = .ok (.iadd, 1) := by decide +kernel
theorem nd_GM_grantAddress_32 : decode nc_GM_grantAddress 32 = .ok (.ireturn, 1) := by decide +kernel
theorem nd_GM_note_0 : decode nc_GM_note 0 = .ok (.aload_n 0, 1) := by decide +kernel
theorem nd_GM_note_1 : decode nc_GM_note 1 = .ok (.aload_n 0, 1) := by decide +kernel
theorem nd_GM_note_2 : decode nc_GM_note 2 = .ok (.iload_n 1, 1) := by decide +kernel
theorem nd_GM_note_3 : decode nc_GM_note 3 = .ok (.iload_n 2, 1) := by decide +kernel
theorem nd_GM_note_4 : decode nc_GM_note 4 = .ok (.invokevirtual 242, 3) := by decide +kernel
theorem nd_GM_note_7 : decode nc_GM_note 7 = .ok (.iconst 4, 1) := by decide +kernel
theorem nd_GM_note_8 : decode nc_GM_note 8 = .ok (.iload_n 3, 1) := by decide +kernel
theorem nd_GM_note_9 : decode nc_GM_note 9 = .ok (.imul, 1) := by decide +kernel
theorem nd_GM_note_10 : decode nc_GM_note 10 = .ok (.iadd, 1) := by decide +kernel
theorem nd_GM_note_11 : decode nc_GM_note 11 = .ok (.invokevirtual 172, 3) := by decide +kernel
theorem nd_GM_note_14 : decode nc_GM_note 14 = .ok (.ireturn, 1) := by decide +kernel
theorem nd_GM_write_0 : decode nc_GM_write 0 = .ok (.aload_n 0, 1) := by decide +kernel
theorem nd_GM_write_1 : decode nc_GM_write 1 = .ok (.aload_n 0, 1) := by decide +kernel
theorem nd_GM_write_2 : decode nc_GM_write 2 = .ok (.iload_n 1, 1) := by decide +kernel
theorem nd_GM_write_3 : decode nc_GM_write 3 = .ok (.iload_n 2, 1) := by decide +kernel
theorem nd_GM_write_4 : decode nc_GM_write 4 = .ok (.invokevirtual 242, 3) := by decide +kernel
theorem nd_GM_write_7 : decode nc_GM_write 7 = .ok (.iconst 4, 1) := by decide +kernel
theorem nd_GM_write_8 : decode nc_GM_write 8 = .ok (.iload_n 3, 1) := by decide +kernel
theorem nd_GM_write_9 : decode nc_GM_write 9 = .ok (.imul, 1) := by decide +kernel
theorem nd_GM_write_10 : decode nc_GM_write 10 = .ok (.iadd, 1) := by decide +kernel
theorem nd_GM_write_11 : decode nc_GM_write 11 = .ok (.iload 4, 2) := by decide +kernel
theorem nd_GM_write_13 : decode nc_GM_write 13 = .ok (.invokevirtual 167, 3) := by decide +kernel
theorem nd_GM_write_16 : decode nc_GM_write 16 = .ok (.return_, 1) := by decide +kernel
theorem nd_GM_ensure_0 : decode nc_GM_ensure 0 = .ok (.aload_n 0, 1) := by decide +kernel
theorem nd_GM_ensure_1 : decode nc_GM_ensure 1 = .ok (.getfield 72, 3) := by decide +kernel
theorem nd_GM_ensure_4 : decode nc_GM_ensure 4 = .ok (.iconst 3, 1) := by decide +kernel
theorem nd_GM_ensure_5 : decode nc_GM_ensure 5 = .ok (.iload_n 1, 1) := by decide +kernel
theorem nd_GM_ensure_6 : decode nc_GM_ensure 6 = .ok (.imul, 1) := by decide +kernel
theorem nd_GM_ensure_7 : decode nc_GM_ensure 7 = .ok (.iload_n 2, 1) := by decide +kernel
theorem nd_GM_ensure_8 : decode nc_GM_ensure 8 = .ok (.iadd, 1) := by decide +kernel
theorem nd_GM_ensure_9 : decode nc_GM_ensure 9 = .ok (.iaload, 1) := by decide +kernel
theorem nd_GM_ensure_10 : decode nc_GM_ensure 10 = .ok (.ifCond .le 5, 3) := by decide +kernel
theorem nd_GM_ensure_13 : decode nc_GM_ensure 13 = .ok (.iconst 1, 1) := by decide +kernel
theorem nd_GM_ensure_14 : decode nc_GM_ensure 14 = .ok (.ireturn, 1) := by decide +kernel
theorem nd_GM_ensure_15 : decode nc_GM_ensure 15 = .ok (.aload_n 0, 1) := by decide +kernel
theorem nd_GM_ensure_16 : decode nc_GM_ensure 16 = .ok (.iload_n 1, 1) := by decide +kernel
theorem nd_GM_ensure_17 : decode nc_GM_ensure 17 = .ok (.invokevirtual 142, 3) := by decide +kernel
theorem nd_GM_ensure_20 : decode nc_GM_ensure 20 = .ok (.iconst 2, 1) := by decide +kernel
theorem nd_GM_ensure_21 : decode nc_GM_ensure 21 = .ok (.iadd, 1) := by decide +kernel
theorem nd_GM_ensure_22 : decode nc_GM_ensure 22 = .ok (.istore_n 3, 1) := by decide +kernel
theorem nd_GM_ensure_23 : decode nc_GM_ensure 23 = .ok (.aload_n 0, 1) := by decide +kernel
theorem nd_GM_ensure_24 : decode nc_GM_ensure 24 = .ok (.iload_n 1, 1) := by decide +kernel
theorem nd_GM_ensure_25 : decode nc_GM_ensure 25 = .ok (.iload_n 3, 1) := by decide +kernel
theorem nd_GM_ensure_26 : decode nc_GM_ensure 26 = .ok (.invokevirtual 146, 3) := by decide +kernel
theorem nd_GM_ensure_29 : decode nc_GM_ensure 29 = .ok (.istore 4, 2) := by decide +kernel
theorem nd_GM_ensure_31 : decode nc_GM_ensure 31 = .ok (.iload 4, 2) := by decide +kernel
theorem nd_GM_ensure_33 : decode nc_GM_ensure 33 = .ok (.aload_n 0, 1) := by decide +kernel
theorem nd_GM_ensure_34 : decode nc_GM_ensure 34 = .ok (.getfield 32, 3) := by decide +kernel
theorem nd_GM_ensure_37 : decode nc_GM_ensure 37 = .ok (.iload_n 1, 1) := by decide +kernel
theorem nd_GM_ensure_38 : decode nc_GM_ensure 38 = .ok (.iaload, 1) := by decide +kernel
theorem nd_GM_ensure_39 : decode nc_GM_ensure 39 = .ok (.if_icmp .lt 7, 3) := by decide +kernel
theorem nd_GM_ensure_42 : decode nc_GM_ensure 42 = .ok (.iconst 1, 1) := by decide +kernel
theorem nd_GM_ensure_43 : decode nc_GM_ensure 43 = .ok (.goto 4, 3) := by decide +kernel
theorem nd_GM_ensure_46 : decode nc_GM_ensure 46 = .ok (.iconst 0, 1) := by decide +kernel
theorem nd_GM_ensure_47 : decode nc_GM_ensure 47 = .ok (.istore 5, 2) := by decide +kernel
theorem nd_GM_ensure_49 : decode nc_GM_ensure 49 = .ok (.iconst 0, 1) := by decide +kernel
theorem nd_GM_ensure_50 : decode nc_GM_ensure 50 = .ok (.istore 6, 2) := by decide +kernel
theorem nd_GM_ensure_52 : decode nc_GM_ensure 52 = .ok (.iload 6, 2) := by decide +kernel
theorem nd_GM_ensure_54 : decode nc_GM_ensure 54 = .ok (.iconst 3, 1) := by decide +kernel
theorem nd_GM_ensure_55 : decode nc_GM_ensure 55 = .ok (.if_icmp .ge 72, 3) := by decide +kernel
theorem nd_GM_ensure_58 : decode nc_GM_ensure 58 = .ok (.iconst 0, 1) := by decide +kernel
theorem nd_GM_ensure_59 : decode nc_GM_ensure 59 = .ok (.istore 7, 2) := by decide +kernel
theorem nd_GM_ensure_61 : decode nc_GM_ensure 61 = .ok (.iload 7, 2) := by decide +kernel
theorem nd_GM_ensure_63 : decode nc_GM_ensure 63 = .ok (.aload_n 0, 1) := by decide +kernel
theorem nd_GM_ensure_64 : decode nc_GM_ensure 64 = .ok (.getfield 84, 3) := by decide +kernel
theorem nd_GM_ensure_67 : decode nc_GM_ensure 67 = .ok (.iconst 3, 1) := by decide +kernel
theorem nd_GM_ensure_68 : decode nc_GM_ensure 68 = .ok (.iload_n 1, 1) := by decide +kernel
theorem nd_GM_ensure_69 : decode nc_GM_ensure 69 = .ok (.imul, 1) := by decide +kernel
theorem nd_GM_ensure_70 : decode nc_GM_ensure 70 = .ok (.iload 6, 2) := by decide +kernel
theorem nd_GM_ensure_72 : decode nc_GM_ensure 72 = .ok (.iadd, 1) := by decide +kernel
theorem nd_GM_ensure_73 : decode nc_GM_ensure 73 = .ok (.iaload, 1) := by decide +kernel
theorem nd_GM_ensure_74 : decode nc_GM_ensure 74 = .ok (.if_icmp .ge 47, 3) := by decide +kernel
theorem nd_GM_ensure_77 : decode nc_GM_ensure 77 = .ok (.iload 5, 2) := by decide +kernel
theorem nd_GM_ensure_79 : decode nc_GM_ensure 79 = .ok (.ifCond .eq 33, 3) := by decide +kernel
theorem nd_GM_ensure_82 : decode nc_GM_ensure 82 = .ok (.aload_n 0, 1) := by decide +kernel
theorem nd_GM_ensure_83 : decode nc_GM_ensure 83 = .ok (.iload_n 1, 1) := by decide +kernel
theorem nd_GM_ensure_84 : decode nc_GM_ensure 84 = .ok (.aload_n 0, 1) := by decide +kernel
theorem nd_GM_ensure_85 : decode nc_GM_ensure 85 = .ok (.getfield 81, 3) := by decide +kernel
theorem nd_GM_ensure_88 : decode nc_GM_ensure 88 = .ok (.iconst 3, 1) := by decide +kernel
theorem nd_GM_ensure_89 : decode nc_GM_ensure 89 = .ok (.iload_n 1, 1) := by decide +kernel
theorem nd_GM_ensure_90 : decode nc_GM_ensure 90 = .ok (.imul, 1) := by decide +kernel
theorem nd_GM_ensure_91 : decode nc_GM_ensure 91 = .ok (.iload 6, 2) := by decide +kernel
theorem nd_GM_ensure_93 : decode nc_GM_ensure 93 = .ok (.iadd, 1) := by decide +kernel
theorem nd_GM_ensure_94 : decode nc_GM_ensure 94 = .ok (.iaload, 1) := by decide +kernel
theorem nd_GM_ensure_95 : decode nc_GM_ensure 95 = .ok (.iconst 4, 1) := by decide +kernel
theorem nd_GM_ensure_96 : decode nc_GM_ensure 96 = .ok (.iload 7, 2) := by decide +kernel
theorem nd_GM_ensure_98 : decode nc_GM_ensure 98 = .ok (.imul, 1) := by decide +kernel
theorem nd_GM_ensure_99 : decode nc_GM_ensure 99 = .ok (.iadd, 1) := by decide +kernel
theorem nd_GM_ensure_100 : decode nc_GM_ensure 100 = .ok (.iload 4, 2) := by decide +kernel
theorem nd_GM_ensure_102 : decode nc_GM_ensure 102 = .ok (.invokevirtual 150, 3) := by decide +kernel
theorem nd_GM_ensure_105 : decode nc_GM_ensure 105 = .ok (.ifCond .eq 7, 3) := by decide +kernel
theorem nd_GM_ensure_108 : decode nc_GM_ensure 108 = .ok (.iconst 1, 1) := by decide +kernel
theorem nd_GM_ensure_109 : decode nc_GM_ensure 109 = .ok (.goto 4, 3) := by decide +kernel
theorem nd_GM_ensure_112 : decode nc_GM_ensure 112 = .ok (.iconst 0, 1) := by decide +kernel
theorem nd_GM_ensure_113 : decode nc_GM_ensure 113 = .ok (.istore 5, 2) := by decide +kernel
theorem nd_GM_ensure_115 : decode nc_GM_ensure 115 = .ok (.iinc 7 1, 3) := by decide +kernel
theorem nd_GM_ensure_118 : decode nc_GM_ensure 118 = .ok (.goto (-57), 3) := by decide +kernel
theorem nd_GM_ensure_121 : decode nc_GM_ensure 121 = .ok (.iinc 6 1, 3) := by decide +kernel
theorem nd_GM_ensure_124 : decode nc_GM_ensure 124 = .ok (.goto (-72), 3) := by decide +kernel
theorem nd_GM_ensure_127 : decode nc_GM_ensure 127 = .ok (.iload 5, 2) := by decide +kernel
theorem nd_GM_ensure_129 : decode nc_GM_ensure 129 = .ok (.ifCond .eq 32, 3) := by decide +kernel
theorem nd_GM_ensure_132 : decode nc_GM_ensure 132 = .ok (.aload_n 0, 1) := by decide +kernel
theorem nd_GM_ensure_133 : decode nc_GM_ensure 133 = .ok (.getfield 72, 3) := by decide +kernel
theorem nd_GM_ensure_136 : decode nc_GM_ensure 136 = .ok (.iconst 3, 1) := by decide +kernel
theorem nd_GM_ensure_137 : decode nc_GM_ensure 137 = .ok (.iload_n 1, 1) := by decide +kernel
theorem nd_GM_ensure_138 : decode nc_GM_ensure 138 = .ok (.imul, 1) := by decide +kernel
theorem nd_GM_ensure_139 : decode nc_GM_ensure 139 = .ok (.iload_n 2, 1) := by decide +kernel
theorem nd_GM_ensure_140 : decode nc_GM_ensure 140 = .ok (.iadd, 1) := by decide +kernel
theorem nd_GM_ensure_141 : decode nc_GM_ensure 141 = .ok (.iload_n 3, 1) := by decide +kernel
theorem nd_GM_ensure_142 : decode nc_GM_ensure 142 = .ok (.iconst 2, 1) := by decide +kernel
theorem nd_GM_ensure_143 : decode nc_GM_ensure 143 = .ok (.idiv, 1) := by decide +kernel
theorem nd_GM_ensure_144 : decode nc_GM_ensure 144 = .ok (.iastore, 1) := by decide +kernel
theorem nd_GM_ensure_145 : decode nc_GM_ensure 145 = .ok (.aload_n 0, 1) := by decide +kernel
theorem nd_GM_ensure_146 : decode nc_GM_ensure 146 = .ok (.iload_n 1, 1) := by decide +kernel
theorem nd_GM_ensure_147 : decode nc_GM_ensure 147 = .ok (.iload_n 2, 1) := by decide +kernel
theorem nd_GM_ensure_148 : decode nc_GM_ensure 148 = .ok (.iconst 0, 1) := by decide +kernel
theorem nd_GM_ensure_149 : decode nc_GM_ensure 149 = .ok (.iconst 0, 1) := by decide +kernel
theorem nd_GM_ensure_150 : decode nc_GM_ensure 150 = .ok (.invokevirtual 245, 3) := by decide +kernel
theorem nd_GM_ensure_153 : decode nc_GM_ensure 153 = .ok (.aload_n 0, 1) := by decide +kernel
theorem nd_GM_ensure_154 : decode nc_GM_ensure 154 = .ok (.iload_n 1, 1) := by decide +kernel
theorem nd_GM_ensure_155 : decode nc_GM_ensure 155 = .ok (.iload_n 2, 1) := by decide +kernel
theorem nd_GM_ensure_156 : decode nc_GM_ensure 156 = .ok (.iconst 1, 1) := by decide +kernel
theorem nd_GM_ensure_157 : decode nc_GM_ensure 157 = .ok (.iconst 0, 1) := by decide +kernel
theorem nd_GM_ensure_158 : decode nc_GM_ensure 158 = .ok (.invokevirtual 245, 3) := by decide +kernel
theorem nd_GM_ensure_161 : decode nc_GM_ensure 161 = .ok (.iload 5, 2) := by decide +kernel
theorem nd_GM_ensure_163 : decode nc_GM_ensure 163 = .ok (.ireturn, 1) := by decide +kernel
theorem nd_GM_kernel_0 : decode nc_GM_kernel 0 = .ok (.aload_n 0, 1) := by decide +kernel
theorem nd_GM_kernel_1 : decode nc_GM_kernel 1 = .ok (.getfield 47, 3) := by decide +kernel
theorem nd_GM_kernel_4 : decode nc_GM_kernel 4 = .ok (.iload_n 1, 1) := by decide +kernel
theorem nd_GM_kernel_5 : decode nc_GM_kernel 5 = .ok (.iaload, 1) := by decide +kernel
theorem nd_GM_kernel_6 : decode nc_GM_kernel 6 = .ok (.istore_n 3, 1) := by decide +kernel
theorem nd_GM_kernel_7 : decode nc_GM_kernel 7 = .ok (.aload_n 0, 1) := by decide +kernel
theorem nd_GM_kernel_8 : decode nc_GM_kernel 8 = .ok (.iload_n 3, 1) := by decide +kernel
theorem nd_GM_kernel_9 : decode nc_GM_kernel 9 = .ok (.invokevirtual 172, 3) := by decide +kernel
theorem nd_GM_kernel_12 : decode nc_GM_kernel 12 = .ok (.istore 4, 2) := by decide +kernel
theorem nd_GM_kernel_14 : decode nc_GM_kernel 14 = .ok (.aload_n 0, 1) := by decide +kernel
theorem nd_GM_kernel_15 : decode nc_GM_kernel 15 = .ok (.iload_n 3, 1) := by decide +kernel
theorem nd_GM_kernel_16 : decode nc_GM_kernel 16 = .ok (.iconst 4, 1) := by decide +kernel
theorem nd_GM_kernel_17 : decode nc_GM_kernel 17 = .ok (.iadd, 1) := by decide +kernel
theorem nd_GM_kernel_18 : decode nc_GM_kernel 18 = .ok (.invokevirtual 172, 3) := by decide +kernel
theorem nd_GM_kernel_21 : decode nc_GM_kernel 21 = .ok (.istore 5, 2) := by decide +kernel
theorem nd_GM_kernel_23 : decode nc_GM_kernel 23 = .ok (.aload_n 0, 1) := by decide +kernel
theorem nd_GM_kernel_24 : decode nc_GM_kernel 24 = .ok (.iload_n 3, 1) := by decide +kernel
theorem nd_GM_kernel_25 : decode nc_GM_kernel 25 = .ok (.bipush 8, 2) := by decide +kernel
theorem nd_GM_kernel_27 : decode nc_GM_kernel 27 = .ok (.iadd, 1) := by decide +kernel
theorem nd_GM_kernel_28 : decode nc_GM_kernel 28 = .ok (.invokevirtual 172, 3) := by decide +kernel
theorem nd_GM_kernel_31 : decode nc_GM_kernel 31 = .ok (.istore 6, 2) := by decide +kernel
theorem nd_GM_kernel_33 : decode nc_GM_kernel 33 = .ok (.iload_n 2, 1) := by decide +kernel
theorem nd_GM_kernel_34 : decode nc_GM_kernel 34 = .ok (.ifCond .ne 105, 3) := by decide +kernel
theorem nd_GM_kernel_37 : decode nc_GM_kernel 37 = .ok (.aload_n 0, 1) := by decide +kernel
theorem nd_GM_kernel_38 : decode nc_GM_kernel 38 = .ok (.iload_n 1, 1) := by decide +kernel
theorem nd_GM_kernel_39 : decode nc_GM_kernel 39 = .ok (.invokevirtual 249, 3) := by decide +kernel
theorem nd_GM_kernel_42 : decode nc_GM_kernel 42 = .ok (.istore 7, 2) := by decide +kernel
theorem nd_GM_kernel_44 : decode nc_GM_kernel 44 = .ok (.iload 7, 2) := by decide +kernel
theorem nd_GM_kernel_46 : decode nc_GM_kernel 46 = .ok (.ifCond .ge 13, 3) := by decide +kernel
theorem nd_GM_kernel_49 : decode nc_GM_kernel 49 = .ok (.aload_n 0, 1) := by decide +kernel
theorem nd_GM_kernel_50 : decode nc_GM_kernel 50 = .ok (.getfield 41, 3) := by decide +kernel
theorem nd_GM_kernel_53 : decode nc_GM_kernel 53 = .ok (.iload_n 1, 1) := by decide +kernel
theorem nd_GM_kernel_54 : decode nc_GM_kernel 54 = .ok (.iconst 1, 1) := by decide +kernel
theorem nd_GM_kernel_55 : decode nc_GM_kernel 55 = .ok (.iastore, 1) := by decide +kernel
theorem nd_GM_kernel_56 : decode nc_GM_kernel 56 = .ok (.goto 82, 3) := by decide +kernel
theorem nd_GM_kernel_59 : decode nc_GM_kernel 59 = .ok (.aload_n 0, 1) := by decide +kernel
theorem nd_GM_kernel_60 : decode nc_GM_kernel 60 = .ok (.getfield 90, 3) := by decide +kernel
theorem nd_GM_kernel_63 : decode nc_GM_kernel 63 = .ok (.iload 7, 2) := by decide +kernel
theorem nd_GM_kernel_65 : decode nc_GM_kernel 65 = .ok (.iaload, 1) := by decide +kernel
theorem nd_GM_kernel_66 : decode nc_GM_kernel 66 = .ok (.istore 8, 2) := by decide +kernel
theorem nd_GM_kernel_68 : decode nc_GM_kernel 68 = .ok (.aload_n 0, 1) := by decide +kernel
theorem nd_GM_kernel_69 : decode nc_GM_kernel 69 = .ok (.getfield 93, 3) := by decide +kernel
theorem nd_GM_kernel_72 : decode nc_GM_kernel 72 = .ok (.iload 7, 2) := by decide +kernel
theorem nd_GM_kernel_74 : decode nc_GM_kernel 74 = .ok (.iaload, 1) := by decide +kernel
theorem nd_GM_kernel_75 : decode nc_GM_kernel 75 = .ok (.istore 9, 2) := by decide +kernel
theorem nd_GM_kernel_77 : decode nc_GM_kernel 77 = .ok (.aload_n 0, 1) := by decide +kernel
theorem nd_GM_kernel_78 : decode nc_GM_kernel 78 = .ok (.getfield 96, 3) := by decide +kernel
theorem nd_GM_kernel_81 : decode nc_GM_kernel 81 = .ok (.iload 7, 2) := by decide +kernel
theorem nd_GM_kernel_83 : decode nc_GM_kernel 83 = .ok (.iaload, 1) := by decide +kernel
theorem nd_GM_kernel_84 : decode nc_GM_kernel 84 = .ok (.istore 10, 2) := by decide +kernel
theorem nd_GM_kernel_86 : decode nc_GM_kernel 86 = .ok (.iload 7, 2) := by decide +kernel
theorem nd_GM_kernel_88 : decode nc_GM_kernel 88 = .ok (.iconst 1, 1) := by decide +kernel
theorem nd_GM_kernel_89 : decode nc_GM_kernel 89 = .ok (.iadd, 1) := by decide +kernel
theorem nd_GM_kernel_90 : decode nc_GM_kernel 90 = .ok (.istore 11, 2) := by decide +kernel
theorem nd_GM_kernel_92 : decode nc_GM_kernel 92 = .ok (.iload 11, 2) := by decide +kernel
theorem nd_GM_kernel_94 : decode nc_GM_kernel 94 = .ok (.aload_n 0, 1) := by decide +kernel
theorem nd_GM_kernel_95 : decode nc_GM_kernel 95 = .ok (.getfield 121, 3) := by decide +kernel
theorem nd_GM_kernel_98 : decode nc_GM_kernel 98 = .ok (.if_icmp .ge 19, 3) := by decide +kernel
theorem nd_GM_kernel_101 : decode nc_GM_kernel 101 = .ok (.aload_n 0, 1) := by decide +kernel
theorem nd_GM_kernel_102 : decode nc_GM_kernel 102 = .ok (.iload 11, 2) := by decide +kernel
theorem nd_GM_kernel_104 : decode nc_GM_kernel 104 = .ok (.iload 11, 2) := by decide +kernel
theorem nd_GM_kernel_106 : decode nc_GM_kernel 106 = .ok (.iconst 1, 1) := by decide +kernel
theorem nd_GM_kernel_107 : decode nc_GM_kernel 107 = .ok (.isub, 1) := by decide +kernel
theorem nd_GM_kernel_108 : decode nc_GM_kernel 108 = .ok (.invokevirtual 139, 3) := by decide +kernel
theorem nd_GM_kernel_111 : decode nc_GM_kernel 111 = .ok (.iinc 11 1, 3) := by decide +kernel
theorem nd_GM_kernel_114 : decode nc_GM_kernel 114 = .ok (.goto (-22), 3) := by decide +kernel
theorem nd_GM_kernel_117 : decode nc_GM_kernel 117 = .ok (.aload_n 0, 1) := by decide +kernel
theorem nd_GM_kernel_118 : decode nc_GM_kernel 118 = .ok (.dup, 1) := by decide +kernel
theorem nd_GM_kernel_119 : decode nc_GM_kernel 119 = .ok (.getfield 121, 3) := by decide +kernel
theorem nd_GM_kernel_122 : decode nc_GM_kernel 122 = .ok (.iconst 1, 1) := by decide +kernel
theorem nd_GM_kernel_123 : decode nc_GM_kernel 123 = .ok (.isub, 1) := by decide +kernel
theorem nd_GM_kernel_124 : decode nc_GM_kernel 124 = .ok (.putfield 121, 3) := by decide +kernel
theorem nd_GM_kernel_127 : decode nc_GM_kernel 127 = .ok (.aload_n 0, 1) := by decide +kernel
theorem nd_GM_kernel_128 : decode nc_GM_kernel 128 = .ok (.iload_n 1, 1) := by decide +kernel
theorem nd_GM_kernel_129 : decode nc_GM_kernel 129 = .ok (.iload 8, 2) := by decide +kernel
theorem nd_GM_kernel_131 : decode nc_GM_kernel 131 = .ok (.iload 9, 2) := by decide +kernel
theorem nd_GM_kernel_133 : decode nc_GM_kernel 133 = .ok (.iload 10, 2) := by decide +kernel
theorem nd_GM_kernel_135 : decode nc_GM_kernel 135 = .ok (.invokevirtual 252, 3) := by decide +kernel
theorem nd_GM_kernel_138 : decode nc_GM_kernel 138 = .ok (.return_, 1) := by decide +kernel
theorem nd_GM_kernel_139 : decode nc_GM_kernel 139 = .ok (.iconst (-1), 1) := by decide +kernel
theorem nd_GM_kernel_140 : decode nc_GM_kernel 140 = .ok (.istore 7, 2) := by decide +kernel
theorem nd_GM_kernel_142 : decode nc_GM_kernel 142 = .ok (.iload_n 2, 1) := by decide +kernel
theorem nd_GM_kernel_143 : decode nc_GM_kernel 143 = .ok (.iconst 3, 1) := by decide +kernel
theorem nd_GM_kernel_144 : decode nc_GM_kernel 144 = .ok (.if_icmp .gt 85, 3) := by decide +kernel
theorem nd_GM_kernel_147 : decode nc_GM_kernel 147 = .ok (.iload 4, 2) := by decide +kernel
theorem nd_GM_kernel_149 : decode nc_GM_kernel 149 = .ok (.ifCond .lt 9, 3) := by decide +kernel
theorem nd_GM_kernel_152 : decode nc_GM_kernel 152 = .ok (.iload 4, 2) := by decide +kernel
theorem nd_GM_kernel_154 : decode nc_GM_kernel 154 = .ok (.iconst 2, 1) := by decide +kernel
theorem nd_GM_kernel_155 : decode nc_GM_kernel 155 = .ok (.if_icmp .le 8, 3) := by decide +kernel
theorem nd_GM_kernel_158 : decode nc_GM_kernel 158 = .ok (.bipush (-2), 2) := by decide +kernel
theorem nd_GM_kernel_160 : decode nc_GM_kernel 160 = .ok (.goto 67, 3) := by decide +kernel
theorem nd_GM_kernel_163 : decode nc_GM_kernel 163 = .ok (.aload_n 0, 1) := by decide +kernel
theorem nd_GM_kernel_164 : decode nc_GM_kernel 164 = .ok (.iload_n 1, 1) := by decide +kernel
theorem nd_GM_kernel_165 : decode nc_GM_kernel 165 = .ok (.iload 4, 2) := by decide +kernel
theorem nd_GM_kernel_167 : decode nc_GM_kernel 167 = .ok (.invokevirtual 255, 3) := by decide +kernel
theorem nd_GM_kernel_170 : decode nc_GM_kernel 170 = .ok (.ifCond .ne 8, 3) := by decide +kernel
theorem nd_GM_kernel_173 : decode nc_GM_kernel 173 = .ok (.bipush (-4), 2) := by decide +kernel
theorem nd_GM_kernel_175 : decode nc_GM_kernel 175 = .ok (.goto 52, 3) := by decide +kernel
theorem nd_GM_kernel_178 : decode nc_GM_kernel 178 = .ok (.iload_n 2, 1) := by decide +kernel
theorem nd_GM_kernel_179 : decode nc_GM_kernel 179 = .ok (.iconst 1, 1) := by decide +kernel
theorem nd_GM_kernel_180 : decode nc_GM_kernel 180 = .ok (.if_icmp .ne 17, 3) := by decide +kernel
