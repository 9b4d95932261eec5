theorem nd_GM_kernel_183 : decode nc_GM_kernel 183 = .ok (.aload_n 0, 1) := by decide +kernel
theorem nd_GM_kernel_184 : decode nc_GM_kernel 184 = .ok (.iload_n 1, 1) := by decide +kernel
theorem nd_GM_kernel_185 : decode nc_GM_kernel 185 = .ok (.iload 4, 2) := by decide +kernel
theorem nd_GM_kernel_187 : decode nc_GM_kernel 187 = .ok (.iload 5, 2) := by decide +kernel
theorem nd_GM_kernel_189 : decode nc_GM_kernel 189 = .ok (.iload 6, 2) := by decide +kernel
theorem nd_GM_kernel_191 : decode nc_GM_kernel 191 = .ok (.invokevirtual 258, 3) := by decide +kernel
theorem nd_GM_kernel_194 : decode nc_GM_kernel 194 = .ok (.goto 33, 3) := by decide +kernel
theorem nd_GM_kernel_197 : decode nc_GM_kernel 197 = .ok (.iload_n 2, 1) := by decide +kernel
theorem nd_GM_kernel_198 : decode nc_GM_kernel 198 = .ok (.iconst 2, 1) := by decide +kernel
theorem nd_GM_kernel_199 : decode nc_GM_kernel 199 = .ok (.if_icmp .ne 17, 3) := by decide +kernel
theorem nd_GM_kernel_202 : decode nc_GM_kernel 202 = .ok (.aload_n 0, 1) := by decide +kernel
theorem nd_GM_kernel_203 : decode nc_GM_kernel 203 = .ok (.iload_n 1, 1) := by decide +kernel
theorem nd_GM_kernel_204 : decode nc_GM_kernel 204 = .ok (.iload 4, 2) := by decide +kernel
theorem nd_GM_kernel_206 : decode nc_GM_kernel 206 = .ok (.iload 5, 2) := by decide +kernel
theorem nd_GM_kernel_208 : decode nc_GM_kernel 208 = .ok (.iload 6, 2) := by decide +kernel
theorem nd_GM_kernel_210 : decode nc_GM_kernel 210 = .ok (.invokevirtual 261, 3) := by decide +kernel
theorem nd_GM_kernel_213 : decode nc_GM_kernel 213 = .ok (.goto 14, 3) := by decide +kernel
theorem nd_GM_kernel_216 : decode nc_GM_kernel 216 = .ok (.aload_n 0, 1) := by decide +kernel
theorem nd_GM_kernel_217 : decode nc_GM_kernel 217 = .ok (.iload_n 1, 1) := by decide +kernel
theorem nd_GM_kernel_218 : decode nc_GM_kernel 218 = .ok (.iload 4, 2) := by decide +kernel
theorem nd_GM_kernel_220 : decode nc_GM_kernel 220 = .ok (.iload 5, 2) := by decide +kernel
theorem nd_GM_kernel_222 : decode nc_GM_kernel 222 = .ok (.iload 6, 2) := by decide +kernel
theorem nd_GM_kernel_224 : decode nc_GM_kernel 224 = .ok (.invokevirtual 264, 3) := by decide +kernel
theorem nd_GM_kernel_227 : decode nc_GM_kernel 227 = .ok (.istore 7, 2) := by decide +kernel
theorem nd_GM_kernel_229 : decode nc_GM_kernel 229 = .ok (.aload_n 0, 1) := by decide +kernel
theorem nd_GM_kernel_230 : decode nc_GM_kernel 230 = .ok (.iload_n 3, 1) := by decide +kernel
theorem nd_GM_kernel_231 : decode nc_GM_kernel 231 = .ok (.iload 7, 2) := by decide +kernel
theorem nd_GM_kernel_233 : decode nc_GM_kernel 233 = .ok (.invokevirtual 167, 3) := by decide +kernel
theorem nd_GM_kernel_236 : decode nc_GM_kernel 236 = .ok (.return_, 1) := by decide +kernel
theorem nd_GM_oldest_0 : decode nc_GM_oldest 0 = .ok (.iconst 0, 1) := by decide +kernel
theorem nd_GM_oldest_1 : decode nc_GM_oldest 1 = .ok (.istore_n 2, 1) := by decide +kernel
theorem nd_GM_oldest_2 : decode nc_GM_oldest 2 = .ok (.iload_n 2, 1) := by decide +kernel
theorem nd_GM_oldest_3 : decode nc_GM_oldest 3 = .ok (.aload_n 0, 1) := by decide +kernel
theorem nd_GM_oldest_4 : decode nc_GM_oldest 4 = .ok (.getfield 121, 3) := by decide +kernel
theorem nd_GM_oldest_7 : decode nc_GM_oldest 7 = .ok (.if_icmp .ge 21, 3) := by decide +kernel
theorem nd_GM_oldest_10 : decode nc_GM_oldest 10 = .ok (.aload_n 0, 1) := by decide +kernel
theorem nd_GM_oldest_11 : decode nc_GM_oldest 11 = .ok (.getfield 87, 3) := by decide +kernel
theorem nd_GM_oldest_14 : decode nc_GM_oldest 14 = .ok (.iload_n 2, 1) := by decide +kernel
theorem nd_GM_oldest_15 : decode nc_GM_oldest 15 = .ok (.iaload, 1) := by decide +kernel
theorem nd_GM_oldest_16 : decode nc_GM_oldest 16 = .ok (.iload_n 1, 1) := by decide +kernel
theorem nd_GM_oldest_17 : decode nc_GM_oldest 17 = .ok (.if_icmp .ne 5, 3) := by decide +kernel
theorem nd_GM_oldest_20 : decode nc_GM_oldest 20 = .ok (.iload_n 2, 1) := by decide +kernel
theorem nd_GM_oldest_21 : decode nc_GM_oldest 21 = .ok (.ireturn, 1) := by decide +kernel
theorem nd_GM_oldest_22 : decode nc_GM_oldest 22 = .ok (.iinc 2 1, 3) := by decide +kernel
theorem nd_GM_oldest_25 : decode nc_GM_oldest 25 = .ok (.goto (-23), 3) := by decide +kernel
theorem nd_GM_oldest_28 : decode nc_GM_oldest 28 = .ok (.iconst (-1), 1) := by decide +kernel
theorem nd_GM_oldest_29 : decode nc_GM_oldest 29 = .ok (.ireturn, 1) := by decide +kernel
theorem nd_GM_subscribe_0 : decode nc_GM_subscribe 0 = .ok (.aload_n 0, 1) := by decide +kernel
theorem nd_GM_subscribe_1 : decode nc_GM_subscribe 1 = .ok (.getfield 75, 3) := by decide +kernel
theorem nd_GM_subscribe_4 : decode nc_GM_subscribe 4 = .ok (.iconst 3, 1) := by decide +kernel
theorem nd_GM_subscribe_5 : decode nc_GM_subscribe 5 = .ok (.iload_n 1, 1) := by decide +kernel
theorem nd_GM_subscribe_6 : decode nc_GM_subscribe 6 = .ok (.imul, 1) := by decide +kernel
theorem nd_GM_subscribe_7 : decode nc_GM_subscribe 7 = .ok (.iload_n 2, 1) := by decide +kernel
theorem nd_GM_subscribe_8 : decode nc_GM_subscribe 8 = .ok (.iadd, 1) := by decide +kernel
theorem nd_GM_subscribe_9 : decode nc_GM_subscribe 9 = .ok (.iload_n 3, 1) := by decide +kernel
theorem nd_GM_subscribe_10 : decode nc_GM_subscribe 10 = .ok (.iastore, 1) := by decide +kernel
theorem nd_GM_subscribe_11 : decode nc_GM_subscribe 11 = .ok (.aload_n 0, 1) := by decide +kernel
theorem nd_GM_subscribe_12 : decode nc_GM_subscribe 12 = .ok (.getfield 78, 3) := by decide +kernel
theorem nd_GM_subscribe_15 : decode nc_GM_subscribe 15 = .ok (.iconst 3, 1) := by decide +kernel
theorem nd_GM_subscribe_16 : decode nc_GM_subscribe 16 = .ok (.iload_n 1, 1) := by decide +kernel
theorem nd_GM_subscribe_17 : decode nc_GM_subscribe 17 = .ok (.imul, 1) := by decide +kernel
theorem nd_GM_subscribe_18 : decode nc_GM_subscribe 18 = .ok (.iload_n 2, 1) := by decide +kernel
theorem nd_GM_subscribe_19 : decode nc_GM_subscribe 19 = .ok (.iadd, 1) := by decide +kernel
theorem nd_GM_subscribe_20 : decode nc_GM_subscribe 20 = .ok (.iload 4, 2) := by decide +kernel
theorem nd_GM_subscribe_22 : decode nc_GM_subscribe 22 = .ok (.iastore, 1) := by decide +kernel
theorem nd_GM_subscribe_23 : decode nc_GM_subscribe 23 = .ok (.aload_n 0, 1) := by decide +kernel
theorem nd_GM_subscribe_24 : decode nc_GM_subscribe 24 = .ok (.iload_n 1, 1) := by decide +kernel
theorem nd_GM_subscribe_25 : decode nc_GM_subscribe 25 = .ok (.iload_n 2, 1) := by decide +kernel
theorem nd_GM_subscribe_26 : decode nc_GM_subscribe 26 = .ok (.invokevirtual 135, 3) := by decide +kernel
theorem nd_GM_subscribe_29 : decode nc_GM_subscribe 29 = .ok (.iconst 0, 1) := by decide +kernel
theorem nd_GM_subscribe_30 : decode nc_GM_subscribe 30 = .ok (.ireturn, 1) := by decide +kernel
theorem nd_GM_allow_0 : decode nc_GM_allow 0 = .ok (.iload 4, 2) := by decide +kernel
theorem nd_GM_allow_2 : decode nc_GM_allow 2 = .ok (.ifCond .eq 24, 3) := by decide +kernel
theorem nd_GM_allow_5 : decode nc_GM_allow 5 = .ok (.iload 4, 2) := by decide +kernel
theorem nd_GM_allow_7 : decode nc_GM_allow 7 = .ok (.ifCond .lt 16, 3) := by decide +kernel
theorem nd_GM_allow_10 : decode nc_GM_allow 10 = .ok (.iload 4, 2) := by decide +kernel
theorem nd_GM_allow_12 : decode nc_GM_allow 12 = .ok (.bipush 64, 2) := by decide +kernel
theorem nd_GM_allow_14 : decode nc_GM_allow 14 = .ok (.if_icmp .gt 9, 3) := by decide +kernel
theorem nd_GM_allow_17 : decode nc_GM_allow 17 = .ok (.iload_n 3, 1) := by decide +kernel
theorem nd_GM_allow_18 : decode nc_GM_allow 18 = .ok (.iconst 3, 1) := by decide +kernel
theorem nd_GM_allow_19 : decode nc_GM_allow 19 = .ok (.iand, 1) := by decide +kernel
theorem nd_GM_allow_20 : decode nc_GM_allow 20 = .ok (.ifCond .eq 6, 3) := by decide +kernel
theorem nd_GM_allow_23 : decode nc_GM_allow 23 = .ok (.bipush (-3), 2) := by decide +kernel
theorem nd_GM_allow_25 : decode nc_GM_allow 25 = .ok (.ireturn, 1) := by decide +kernel
theorem nd_GM_allow_26 : decode nc_GM_allow 26 = .ok (.iconst 0, 1) := by decide +kernel
theorem nd_GM_allow_27 : decode nc_GM_allow 27 = .ok (.istore 5, 2) := by decide +kernel
theorem nd_GM_allow_29 : decode nc_GM_allow 29 = .ok (.iload 5, 2) := by decide +kernel
theorem nd_GM_allow_31 : decode nc_GM_allow 31 = .ok (.iload 4, 2) := by decide +kernel
theorem nd_GM_allow_33 : decode nc_GM_allow 33 = .ok (.if_icmp .ge 26, 3) := by decide +kernel
theorem nd_GM_allow_36 : decode nc_GM_allow 36 = .ok (.aload_n 0, 1) := by decide +kernel
theorem nd_GM_allow_37 : decode nc_GM_allow 37 = .ok (.iload_n 1, 1) := by decide +kernel
theorem nd_GM_allow_38 : decode nc_GM_allow 38 = .ok (.iload_n 3, 1) := by decide +kernel
theorem nd_GM_allow_39 : decode nc_GM_allow 39 = .ok (.iconst 4, 1) := by decide +kernel
theorem nd_GM_allow_40 : decode nc_GM_allow 40 = .ok (.iload 5, 2) := by decide +kernel
theorem nd_GM_allow_42 : decode nc_GM_allow 42 = .ok (.imul, 1) := by decide +kernel
theorem nd_GM_allow_43 : decode nc_GM_allow 43 = .ok (.iadd, 1) := by decide +kernel
theorem nd_GM_allow_44 : decode nc_GM_allow 44 = .ok (.invokevirtual 154, 3) := by decide +kernel
theorem nd_GM_allow_47 : decode nc_GM_allow 47 = .ok (.ifCond .ne 6, 3) := by decide +kernel
theorem nd_GM_allow_50 : decode nc_GM_allow 50 = .ok (.bipush (-3), 2) := by decide +kernel
theorem nd_GM_allow_52 : decode nc_GM_allow 52 = .ok (.ireturn, 1) := by decide +kernel
theorem nd_GM_allow_53 : decode nc_GM_allow 53 = .ok (.iinc 5 1, 3) := by decide +kernel
theorem nd_GM_allow_56 : decode nc_GM_allow 56 = .ok (.goto (-27), 3) := by decide +kernel
theorem nd_GM_allow_59 : decode nc_GM_allow 59 = .ok (.aload_n 0, 1) := by decide +kernel
theorem nd_GM_allow_60 : decode nc_GM_allow 60 = .ok (.getfield 81, 3) := by decide +kernel
theorem nd_GM_allow_63 : decode nc_GM_allow 63 = .ok (.iconst 3, 1) := by decide +kernel
theorem nd_GM_allow_64 : decode nc_GM_allow 64 = .ok (.iload_n 1, 1) := by decide +kernel
theorem nd_GM_allow_65 : decode nc_GM_allow 65 = .ok (.imul, 1) := by decide +kernel
theorem nd_GM_allow_66 : decode nc_GM_allow 66 = .ok (.iload_n 2, 1) := by decide +kernel
theorem nd_GM_allow_67 : decode nc_GM_allow 67 = .ok (.iadd, 1) := by decide +kernel
theorem nd_GM_allow_68 : decode nc_GM_allow 68 = .ok (.iload_n 3, 1) := by decide +kernel
theorem nd_GM_allow_69 : decode nc_GM_allow 69 = .ok (.iastore, 1) := by decide +kernel
theorem nd_GM_allow_70 : decode nc_GM_allow 70 = .ok (.aload_n 0, 1) := by decide +kernel
theorem nd_GM_allow_71 : decode nc_GM_allow 71 = .ok (.getfield 84, 3) := by decide +kernel
theorem nd_GM_allow_74 : decode nc_GM_allow 74 = .ok (.iconst 3, 1) := by decide +kernel
theorem nd_GM_allow_75 : decode nc_GM_allow 75 = .ok (.iload_n 1, 1) := by decide +kernel
theorem nd_GM_allow_76 : decode nc_GM_allow 76 = .ok (.imul, 1) := by decide +kernel
theorem nd_GM_allow_77 : decode nc_GM_allow 77 = .ok (.iload_n 2, 1) := by decide +kernel
theorem nd_GM_allow_78 : decode nc_GM_allow 78 = .ok (.iadd, 1) := by decide +kernel
theorem nd_GM_allow_79 : decode nc_GM_allow 79 = .ok (.iload 4, 2) := by decide +kernel
theorem nd_GM_allow_81 : decode nc_GM_allow 81 = .ok (.iastore, 1) := by decide +kernel
theorem nd_GM_allow_82 : decode nc_GM_allow 82 = .ok (.iconst 0, 1) := by decide +kernel
theorem nd_GM_allow_83 : decode nc_GM_allow 83 = .ok (.ireturn, 1) := by decide +kernel
theorem nd_GM_command_0 : decode nc_GM_command 0 = .ok (.iload_n 3, 1) := by decide +kernel
theorem nd_GM_command_1 : decode nc_GM_command 1 = .ok (.ifCond .ne 5, 3) := by decide +kernel
theorem nd_GM_command_4 : decode nc_GM_command 4 = .ok (.iconst 0, 1) := by decide +kernel
theorem nd_GM_command_5 : decode nc_GM_command 5 = .ok (.ireturn, 1) := by decide +kernel
theorem nd_GM_command_6 : decode nc_GM_command 6 = .ok (.iload_n 2, 1) := by decide +kernel
theorem nd_GM_command_7 : decode nc_GM_command 7 = .ok (.ifCond .ne 28, 3) := by decide +kernel
theorem nd_GM_command_10 : decode nc_GM_command 10 = .ok (.iload_n 3, 1) := by decide +kernel
theorem nd_GM_command_11 : decode nc_GM_command 11 = .ok (.iconst 2, 1) := by decide +kernel
theorem nd_GM_command_12 : decode nc_GM_command 12 = .ok (.if_icmp .ne 23, 3) := by decide +kernel
theorem nd_GM_command_15 : decode nc_GM_command 15 = .ok (.aload_n 0, 1) := by decide +kernel
theorem nd_GM_command_16 : decode nc_GM_command 16 = .ok (.iload_n 1, 1) := by decide +kernel
theorem nd_GM_command_17 : decode nc_GM_command 17 = .ok (.iconst 0, 1) := by decide +kernel
theorem nd_GM_command_18 : decode nc_GM_command 18 = .ok (.iconst 0, 1) := by decide +kernel
theorem nd_GM_command_19 : decode nc_GM_command 19 = .ok (.invokevirtual 267, 3) := by decide +kernel
theorem nd_GM_command_22 : decode nc_GM_command 22 = .ok (.istore 5, 2) := by decide +kernel
theorem nd_GM_command_24 : decode nc_GM_command 24 = .ok (.aload_n 0, 1) := by decide +kernel
theorem nd_GM_command_25 : decode nc_GM_command 25 = .ok (.iload_n 1, 1) := by decide +kernel
theorem nd_GM_command_26 : decode nc_GM_command 26 = .ok (.iconst 0, 1) := by decide +kernel
theorem nd_GM_command_27 : decode nc_GM_command 27 = .ok (.iconst 0, 1) := by decide +kernel
theorem nd_GM_command_28 : decode nc_GM_command 28 = .ok (.iconst 0, 1) := by decide +kernel
theorem nd_GM_command_29 : decode nc_GM_command 29 = .ok (.invokevirtual 245, 3) := by decide +kernel
theorem nd_GM_command_32 : decode nc_GM_command 32 = .ok (.iload 5, 2) := by decide +kernel
theorem nd_GM_command_34 : decode nc_GM_command 34 = .ok (.ireturn, 1) := by decide +kernel
theorem nd_GM_command_35 : decode nc_GM_command 35 = .ok (.iload_n 2, 1) := by decide +kernel
theorem nd_GM_command_36 : decode nc_GM_command 36 = .ok (.ifCond .ne 13, 3) := by decide +kernel
theorem nd_GM_command_39 : decode nc_GM_command 39 = .ok (.iload_n 3, 1) := by decide +kernel
theorem nd_GM_command_40 : decode nc_GM_command 40 = .ok (.iconst 3, 1) := by decide +kernel
theorem nd_GM_command_41 : decode nc_GM_command 41 = .ok (.if_icmp .ne 8, 3) := by decide +kernel
theorem nd_GM_command_44 : decode nc_GM_command 44 = .ok (.aload_n 0, 1) := by decide +kernel
theorem nd_GM_command_45 : decode nc_GM_command 45 = .ok (.getfield 115, 3) := by decide +kernel
theorem nd_GM_command_48 : decode nc_GM_command 48 = .ok (.ireturn, 1) := by decide +kernel
theorem nd_GM_command_49 : decode nc_GM_command 49 = .ok (.iload_n 2, 1) := by decide +kernel
theorem nd_GM_command_50 : decode nc_GM_command 50 = .ok (.ifCond .ne 49, 3) := by decide +kernel
theorem nd_GM_command_53 : decode nc_GM_command 53 = .ok (.iload_n 3, 1) := by decide +kernel
theorem nd_GM_command_54 : decode nc_GM_command 54 = .ok (.iconst 1, 1) := by decide +kernel
theorem nd_GM_command_55 : decode nc_GM_command 55 = .ok (.if_icmp .ne 44, 3) := by decide +kernel
theorem nd_GM_command_58 : decode nc_GM_command 58 = .ok (.iload 4, 2) := by decide +kernel
theorem nd_GM_command_60 : decode nc_GM_command 60 = .ok (.iconst 1, 1) := by decide +kernel
theorem nd_GM_command_61 : decode nc_GM_command 61 = .ok (.if_icmp .lt 11, 3) := by decide +kernel
theorem nd_GM_command_64 : decode nc_GM_command 64 = .ok (.iload 4, 2) := by decide +kernel
theorem nd_GM_command_66 : decode nc_GM_command 66 = .ok (.sipush 1000, 3) := by decide +kernel
theorem nd_GM_command_69 : decode nc_GM_command 69 = .ok (.if_icmp .le 6, 3) := by decide +kernel
theorem nd_GM_command_72 : decode nc_GM_command 72 = .ok (.bipush (-3), 2) := by decide +kernel
theorem nd_GM_command_74 : decode nc_GM_command 74 = .ok (.ireturn, 1) := by decide +kernel
theorem nd_GM_command_75 : decode nc_GM_command 75 = .ok (.aload_n 0, 1) := by decide +kernel
theorem nd_GM_command_76 : decode nc_GM_command 76 = .ok (.iload_n 1, 1) := by decide +kernel
theorem nd_GM_command_77 : decode nc_GM_command 77 = .ok (.iconst 0, 1) := by decide +kernel
theorem nd_GM_command_78 : decode nc_GM_command 78 = .ok (.iconst 0, 1) := by decide +kernel
theorem nd_GM_command_79 : decode nc_GM_command 79 = .ok (.iconst 1, 1) := by decide +kernel
theorem nd_GM_command_80 : decode nc_GM_command 80 = .ok (.invokevirtual 245, 3) := by decide +kernel
theorem nd_GM_command_83 : decode nc_GM_command 83 = .ok (.aload_n 0, 1) := by decide +kernel
theorem nd_GM_command_84 : decode nc_GM_command 84 = .ok (.iload_n 1, 1) := by decide +kernel
theorem nd_GM_command_85 : decode nc_GM_command 85 = .ok (.iconst 0, 1) := by decide +kernel
theorem nd_GM_command_86 : decode nc_GM_command 86 = .ok (.iconst 1, 1) := by decide +kernel
theorem nd_GM_command_87 : decode nc_GM_command 87 = .ok (.aload_n 0, 1) := by decide +kernel
theorem nd_GM_command_88 : decode nc_GM_command 88 = .ok (.getfield 115, 3) := by decide +kernel
theorem nd_GM_command_91 : decode nc_GM_command 91 = .ok (.iload 4, 2) := by decide +kernel
theorem nd_GM_command_93 : decode nc_GM_command 93 = .ok (.iadd, 1) := by decide +kernel
theorem nd_GM_command_94 : decode nc_GM_command 94 = .ok (.invokevirtual 245, 3) := by decide +kernel
theorem nd_GM_command_97 : decode nc_GM_command 97 = .ok (.iconst 0, 1) := by decide +kernel
theorem nd_GM_command_98 : decode nc_GM_command 98 = .ok (.ireturn, 1) := by decide +kernel
theorem nd_GM_command_99 : decode nc_GM_command 99 = .ok (.iload_n 2, 1) := by decide +kernel
theorem nd_GM_command_100 : decode nc_GM_command 100 = .ok (.iconst 1, 1) := by decide +kernel
theorem nd_GM_command_101 : decode nc_GM_command 101 = .ok (.if_icmp .ne 26, 3) := by decide +kernel
theorem nd_GM_command_104 : decode nc_GM_command 104 = .ok (.iload_n 3, 1) := by decide +kernel
theorem nd_GM_command_105 : decode nc_GM_command 105 = .ok (.iconst 1, 1) := by decide +kernel
theorem nd_GM_command_106 : decode nc_GM_command 106 = .ok (.if_icmp .ne 21, 3) := by decide +kernel
theorem nd_GM_command_109 : decode nc_GM_command 109 = .ok (.iload 4, 2) := by decide +kernel
theorem nd_GM_command_111 : decode nc_GM_command 111 = .ok (.ifCond .ge 8, 3) := by decide +kernel
theorem nd_GM_command_114 : decode nc_GM_command 114 = .ok (.bipush (-3), 2) := by decide +kernel
theorem nd_GM_command_116 : decode nc_GM_command 116 = .ok (.goto 10, 3) := by decide +kernel
theorem nd_GM_command_119 : decode nc_GM_command 119 = .ok (.aload_n 0, 1) := by decide +kernel
theorem nd_GM_command_120 : decode nc_GM_command 120 = .ok (.iload_n 1, 1) := by decide +kernel
theorem nd_GM_command_121 : decode nc_GM_command 121 = .ok (.iload 4, 2) := by decide +kernel
theorem nd_GM_command_123 : decode nc_GM_command 123 = .ok (.invokevirtual 271, 3) := by decide +kernel
theorem nd_GM_command_126 : decode nc_GM_command 126 = .ok (.ireturn, 1) := by decide +kernel
theorem nd_GM_command_127 : decode nc_GM_command 127 = .ok (.iload_n 2, 1) := by decide +kernel
theorem nd_GM_command_128 : decode nc_GM_command 128 = .ok (.ifCond .le 110, 3) := by decide +kernel
theorem nd_GM_command_131 : decode nc_GM_command 131 = .ok (.iload_n 3, 1) := by decide +kernel
theorem nd_GM_command_132 : decode nc_GM_command 132 = .ok (.iload_n 2, 1) := by decide +kernel
theorem nd_GM_command_133 : decode nc_GM_command 133 = .ok (.iconst 2, 1) := by decide +kernel
theorem nd_GM_command_134 : decode nc_GM_command 134 = .ok (.irem, 1) := by decide +kernel
theorem nd_GM_command_135 : decode nc_GM_command 135 = .ok (.iconst 1, 1) := by decide +kernel
theorem nd_GM_command_136 : decode nc_GM_command 136 = .ok (.iadd, 1) := by decide +kernel
theorem nd_GM_command_137 : decode nc_GM_command 137 = .ok (.if_icmp .ne 101, 3) := by decide +kernel
theorem nd_GM_command_140 : decode nc_GM_command 140 = .ok (.aload_n 0, 1) := by decide +kernel
theorem nd_GM_command_141 : decode nc_GM_command 141 = .ok (.iload_n 1, 1) := by decide +kernel
theorem nd_GM_command_142 : decode nc_GM_command 142 = .ok (.iload_n 2, 1) := by decide +kernel
theorem nd_GM_command_143 : decode nc_GM_command 143 = .ok (.iconst 0, 1) := by decide +kernel
theorem nd_GM_command_144 : decode nc_GM_command 144 = .ok (.invokevirtual 267, 3) := by decide +kernel
theorem nd_GM_command_147 : decode nc_GM_command 147 = .ok (.iconst 1, 1) := by decide +kernel
theorem nd_GM_command_148 : decode nc_GM_command 148 = .ok (.if_icmp .ne 6, 3) := by decide +kernel
theorem nd_GM_command_151 : decode nc_GM_command 151 = .ok (.bipush (-5), 2) := by decide +kernel
theorem nd_GM_command_153 : decode nc_GM_command 153 = .ok (.ireturn, 1) := by decide +kernel
theorem nd_GM_command_154 : decode nc_GM_command 154 = .ok (.iload_n 2, 1) := by decide +kernel
theorem nd_GM_command_155 : decode nc_GM_command 155 = .ok (.iconst 1, 1) := by decide +kernel
theorem nd_GM_command_156 : decode nc_GM_command 156 = .ok (.if_icmp .ne 72, 3) := by decide +kernel
theorem nd_GM_command_159 : decode nc_GM_command 159 = .ok (.aload_n 0, 1) := by decide +kernel
theorem nd_GM_command_160 : decode nc_GM_command 160 = .ok (.getfield 109, 3) := by decide +kernel
theorem nd_GM_command_163 : decode nc_GM_command 163 = .ok (.ifCond .le 65, 3) := by decide +kernel
theorem nd_GM_command_166 : decode nc_GM_command 166 = .ok (.aload_n 0, 1) := by decide +kernel
theorem nd_GM_command_167 : decode nc_GM_command 167 = .ok (.getfield 99, 3) := by decide +kernel
theorem nd_GM_command_170 : decode nc_GM_command 170 = .ok (.iconst 0, 1) := by decide +kernel
theorem nd_GM_command_171 : decode nc_GM_command 171 = .ok (.iaload, 1) := by decide +kernel
theorem nd_GM_command_172 : decode nc_GM_command 172 = .ok (.istore 5, 2) := by decide +kernel
theorem nd_GM_command_174 : decode nc_GM_command 174 = .ok (.aload_n 0, 1) := by decide +kernel
theorem nd_GM_command_175 : decode nc_GM_command 175 = .ok (.dup, 1) := by decide +kernel
theorem nd_GM_command_176 : decode nc_GM_command 176 = .ok (.getfield 109, 3) := by decide +kernel
theorem nd_GM_command_179 : decode nc_GM_command 179 = .ok (.iconst 1, 1) := by decide +kernel
theorem nd_GM_command_180 : decode nc_GM_command 180 = .ok (.isub, 1) := by decide +kernel
theorem nd_GM_command_181 : decode nc_GM_command 181 = .ok (.putfield 109, 3) := by decide +kernel
theorem nd_GM_command_184 : decode nc_GM_command 184 = .ok (.iconst 0, 1) := by decide +kernel
theorem nd_GM_command_185 : decode nc_GM_command 185 = .ok (.istore 6, 2) := by decide +kernel
theorem nd_GM_command_187 : decode nc_GM_command 187 = .ok (.iload 6, 2) := by decide +kernel
theorem nd_GM_command_189 : decode nc_GM_command 189 = .ok (.aload_n 0, 1) := by decide +kernel
theorem nd_GM_command_190 : decode nc_GM_command 190 = .ok (.getfield 109, 3) := by decide +kernel
theorem nd_GM_command_193 : decode nc_GM_command 193 = .ok (.if_icmp .ge 25, 3) := by decide +kernel
theorem nd_GM_command_196 : decode nc_GM_command 196 = .ok (.aload_n 0, 1) := by decide +kernel
theorem nd_GM_command_197 : decode nc_GM_command 197 = .ok (.getfield 99, 3) := by decide +kernel
theorem nd_GM_command_200 : decode nc_GM_command 200 = .ok (.iload 6, 2) := by decide +kernel
theorem nd_GM_command_202 : decode nc_GM_command 202 = .ok (.aload_n 0, 1) := by decide +kernel
theorem nd_GM_command_203 : decode nc_GM_command 203 = .ok (.getfield 99, 3) := by decide +kernel
theorem nd_GM_command_206 : decode nc_GM_command 206 = .ok (.iload 6, 2) := by decide +kernel
theorem nd_GM_command_208 : decode nc_GM_command 208 = .ok (.iconst 1, 1) := by decide +kernel
theorem nd_GM_command_209 : decode nc_GM_command 209 = .ok (.iadd, 1) := by decide +kernel
theorem nd_GM_command_210 : decode nc_GM_command 210 = .ok (.iaload, 1) := by decide +kernel
theorem nd_GM_command_211 : decode nc_GM_command 211 = .ok (.iastore, 1) := by decide +kernel
theorem nd_GM_command_212 : decode nc_GM_command 212 = .ok (.iinc 6 1, 3) := by decide +kernel
theorem nd_GM_command_215 : decode nc_GM_command 215 = .ok (.goto (-28), 3) := by decide +kernel
theorem nd_GM_command_218 : decode nc_GM_command 218 = .ok (.aload_n 0, 1) := by decide +kernel
theorem nd_GM_command_219 : decode nc_GM_command 219 = .ok (.iload_n 1, 1) := by decide +kernel
theorem nd_GM_command_220 : decode nc_GM_command 220 = .ok (.iload 5, 2) := by decide +kernel
theorem nd_GM_command_222 : decode nc_GM_command 222 = .ok (.invokevirtual 274, 3) := by decide +kernel
theorem nd_GM_command_225 : decode nc_GM_command 225 = .ok (.goto 11, 3) := by decide +kernel
theorem nd_GM_command_228 : decode nc_GM_command 228 = .ok (.aload_n 0, 1) := by decide +kernel
theorem nd_GM_command_229 : decode nc_GM_command 229 = .ok (.iload_n 1, 1) := by decide +kernel
theorem nd_GM_command_230 : decode nc_GM_command 230 = .ok (.iload_n 2, 1) := by decide +kernel
theorem nd_GM_command_231 : decode nc_GM_command 231 = .ok (.iconst 0, 1) := by decide +kernel
theorem nd_GM_command_232 : decode nc_GM_command 232 = .ok (.iconst 1, 1) := by decide +kernel
theorem nd_GM_command_233 : decode nc_GM_command 233 = .ok (.invokevirtual 245, 3) := by decide +kernel
theorem nd_GM_command_236 : decode nc_GM_command 236 = .ok (.iconst 0, 1) := by decide +kernel
theorem nd_GM_command_237 : decode nc_GM_command 237 = .ok (.ireturn, 1) := by decide +kernel
theorem nd_GM_command_238 : decode nc_GM_command 238 = .ok (.iconst (-1), 1) := by decide +kernel
theorem nd_GM_command_239 : decode nc_GM_command 239 = .ok (.ireturn, 1) := by decide +kernel
theorem nd_GM_print_0 : decode nc_GM_print 0 = .ok (.iload_n 2, 1) := by decide +kernel
theorem nd_GM_print_1 : decode nc_GM_print 1 = .ok (.aload_n 0, 1) := by decide +kernel
theorem nd_GM_print_2 : decode nc_GM_print 2 = .ok (.getfield 84, 3) := by decide +kernel
theorem nd_GM_print_5 : decode nc_GM_print 5 = .ok (.iconst 3, 1) := by decide +kernel
theorem nd_GM_print_6 : decode nc_GM_print 6 = .ok (.iload_n 1, 1) := by decide +kernel
theorem nd_GM_print_7 : decode nc_GM_print 7 = .ok (.imul, 1) := by decide +kernel
theorem nd_GM_print_8 : decode nc_GM_print 8 = .ok (.iconst 1, 1) := by decide +kernel
theorem nd_GM_print_9 : decode nc_GM_print 9 = .ok (.iadd, 1) := by decide +kernel
theorem nd_GM_print_10 : decode nc_GM_print 10 = .ok (.iaload, 1) := by decide +kernel
theorem nd_GM_print_11 : decode nc_GM_print 11 = .ok (.if_icmp .ge 7, 3) := by decide +kernel
theorem nd_GM_print_14 : decode nc_GM_print 14 = .ok (.iload_n 2, 1) := by decide +kernel
theorem nd_GM_print_15 : decode nc_GM_print 15 = .ok (.goto 13, 3) := by decide +kernel
theorem nd_GM_print_18 : decode nc_GM_print 18 = .ok (.aload_n 0, 1) := by decide +kernel
theorem nd_GM_print_19 : decode nc_GM_print 19 = .ok (.getfield 84, 3) := by decide +kernel
theorem nd_GM_print_22 : decode nc_GM_print 22 = .ok (.iconst 3, 1) := by decide +kernel
theorem nd_GM_print_23 : decode nc_GM_print 23 = .ok (.iload_n 1, 1) := by decide +kernel
theorem nd_GM_print_24 : decode nc_GM_print 24 = .ok (.imul, 1) := by decide +kernel
theorem nd_GM_print_25 : decode nc_GM_print 25 = .ok (.iconst 1, 1) := by decide +kernel
theorem nd_GM_print_26 : decode nc_GM_print 26 = .ok (.iadd, 1) := by decide +kernel
theorem nd_GM_print_27 : decode nc_GM_print 27 = .ok (.iaload, 1) := by decide +kernel
theorem nd_GM_print_28 : decode nc_GM_print 28 = .ok (.istore_n 3, 1) := by decide +kernel
theorem nd_GM_print_29 : decode nc_GM_print 29 = .ok (.iconst 0, 1) := by decide +kernel
theorem nd_GM_print_30 : decode nc_GM_print 30 = .ok (.istore 4, 2) := by decide +kernel
theorem nd_GM_print_32 : decode nc_GM_print 32 = .ok (.iload 4, 2) := by decide +kernel
theorem nd_GM_print_34 : decode nc_GM_print 34 = .ok (.iload_n 3, 1) := by decide +kernel
theorem nd_GM_print_35 : decode nc_GM_print 35 = .ok (.if_icmp .ge 50, 3) := by decide +kernel
theorem nd_GM_print_38 : decode nc_GM_print 38 = .ok (.aload_n 0, 1) := by decide +kernel
theorem nd_GM_print_39 : decode nc_GM_print 39 = .ok (.getfield 102, 3) := by decide +kernel
theorem nd_GM_print_42 : decode nc_GM_print 42 = .ok (.aload_n 0, 1) := by decide +kernel
theorem nd_GM_print_43 : decode nc_GM_print 43 = .ok (.getfield 112, 3) := by decide +kernel
theorem nd_GM_print_46 : decode nc_GM_print 46 = .ok (.bipush 15, 2) := by decide +kernel
theorem nd_GM_print_48 : decode nc_GM_print 48 = .ok (.iand, 1) := by decide +kernel
theorem nd_GM_print_49 : decode nc_GM_print 49 = .ok (.aload_n 0, 1) := by decide +kernel
theorem nd_GM_print_50 : decode nc_GM_print 50 = .ok (.aload_n 0, 1) := by decide +kernel
theorem nd_GM_print_51 : decode nc_GM_print 51 = .ok (.getfield 81, 3) := by decide +kernel
theorem nd_GM_print_54 : decode nc_GM_print 54 = .ok (.iconst 3, 1) := by decide +kernel
theorem nd_GM_print_55 : decode nc_GM_print 55 = .ok (.iload_n 1, 1) := by decide +kernel
theorem nd_GM_print_56 : decode nc_GM_print 56 = .ok (.imul, 1) := by decide +kernel
theorem nd_GM_print_57 : decode nc_GM_print 57 = .ok (.iconst 1, 1) := by decide +kernel
theorem nd_GM_print_58 : decode nc_GM_print 58 = .ok (.iadd, 1) := by decide +kernel
theorem nd_GM_print_59 : decode nc_GM_print 59 = .ok (.iaload, 1) := by decide +kernel
theorem nd_GM_print_60 : decode nc_GM_print 60 = .ok (.iconst 4, 1) := by decide +kernel
theorem nd_GM_print_61 : decode nc_GM_print 61 = .ok (.iload 4, 2) := by decide +kernel
theorem nd_GM_print_63 : decode nc_GM_print 63 = .ok (.imul, 1) := by decide +kernel
theorem nd_GM_print_64 : decode nc_GM_print 64 = .ok (.iadd, 1) := by decide +kernel
theorem nd_GM_print_65 : decode nc_GM_print 65 = .ok (.invokevirtual 172, 3) := by decide +kernel
theorem nd_GM_print_68 : decode nc_GM_print 68 = .ok (.iastore, 1) := by decide +kernel
theorem nd_GM_print_69 : decode nc_GM_print 69 = .ok (.aload_n 0, 1) := by decide +kernel
theorem nd_GM_print_70 : decode nc_GM_print 70 = .ok (.dup, 1) := by decide +kernel
theorem nd_GM_print_71 : decode nc_GM_print 71 = .ok (.getfield 112, 3) := by decide +kernel
theorem nd_GM_print_74 : decode nc_GM_print 74 = .ok (.iconst 1, 1) := by decide +kernel
theorem nd_GM_print_75 : decode nc_GM_print 75 = .ok (.iadd, 1) := by decide +kernel
theorem nd_GM_print_76 : decode nc_GM_print 76 = .ok (.putfield 112, 3) := by decide +kernel
theorem nd_GM_print_79 : decode nc_GM_print 79 = .ok (.iinc 4 1, 3) := by decide +kernel
theorem nd_GM_print_82 : decode nc_GM_print 82 = .ok (.goto (-50), 3) := by decide +kernel
theorem nd_GM_print_85 : decode nc_GM_print 85 = .ok (.aload_n 0, 1) := by decide +kernel
theorem nd_GM_print_86 : decode nc_GM_print 86 = .ok (.iload_n 1, 1) := by decide +kernel
theorem nd_GM_print_87 : decode nc_GM_print 87 = .ok (.iconst 1, 1) := by decide +kernel
theorem nd_GM_print_88 : decode nc_GM_print 88 = .ok (.iconst 1, 1) := by decide +kernel
theorem nd_GM_print_89 : decode nc_GM_print 89 = .ok (.invokevirtual 267, 3) := by decide +kernel
theorem nd_GM_print_92 : decode nc_GM_print 92 = .ok (.iload_n 3, 1) := by decide +kernel
theorem nd_GM_print_93 : decode nc_GM_print 93 = .ok (.iadd, 1) := by decide +kernel
theorem nd_GM_print_94 : decode nc_GM_print 94 = .ok (.istore 4, 2) := by decide +kernel
theorem nd_GM_print_96 : decode nc_GM_print 96 = .ok (.aload_n 0, 1) := by decide +kernel
theorem nd_GM_print_97 : decode nc_GM_print 97 = .ok (.iload_n 1, 1) := by decide +kernel
theorem nd_GM_print_98 : decode nc_GM_print 98 = .ok (.iconst 1, 1) := by decide +kernel
theorem nd_GM_print_99 : decode nc_GM_print 99 = .ok (.iconst 1, 1) := by decide +kernel
theorem nd_GM_print_100 : decode nc_GM_print 100 = .ok (.iload 4, 2) := by decide +kernel
theorem nd_GM_print_102 : decode nc_GM_print 102 = .ok (.invokevirtual 245, 3) := by decide +kernel
theorem nd_GM_print_105 : decode nc_GM_print 105 = .ok (.aload_n 0, 1) := by decide +kernel
theorem nd_GM_print_106 : decode nc_GM_print 106 = .ok (.iload_n 1, 1) := by decide +kernel
theorem nd_GM_print_107 : decode nc_GM_print 107 = .ok (.iconst 1, 1) := by decide +kernel
theorem nd_GM_print_108 : decode nc_GM_print 108 = .ok (.iload_n 3, 1) := by decide +kernel
theorem nd_GM_print_109 : decode nc_GM_print 109 = .ok (.iconst 0, 1) := by decide +kernel
theorem nd_GM_print_110 : decode nc_GM_print 110 = .ok (.invokevirtual 277, 3) := by decide +kernel
theorem nd_GM_print_113 : decode nc_GM_print 113 = .ok (.iconst 0, 1) := by decide +kernel
theorem nd_GM_print_114 : decode nc_GM_print 114 = .ok (.ireturn, 1) := by decide +kernel
theorem nd_GM_receive_0 : decode nc_GM_receive 0 = .ok (.aload_n 0, 1) := by decide +kernel
theorem nd_GM_receive_1 : decode nc_GM_receive 1 = .ok (.getfield 84, 3) := by decide +kernel
theorem nd_GM_receive_4 : decode nc_GM_receive 4 = .ok (.iconst 3, 1) := by decide +kernel
theorem nd_GM_receive_5 : decode nc_GM_receive 5 = .ok (.iload_n 1, 1) := by decide +kernel
theorem nd_GM_receive_6 : decode nc_GM_receive 6 = .ok (.imul, 1) := by decide +kernel
theorem nd_GM_receive_7 : decode nc_GM_receive 7 = .ok (.iconst 1, 1) := by decide +kernel
theorem nd_GM_receive_8 : decode nc_GM_receive 8 = .ok (.iadd, 1) := by decide +kernel
theorem nd_GM_receive_9 : decode nc_GM_receive 9 = .ok (.iaload, 1) := by decide +kernel
theorem nd_GM_receive_10 : decode nc_GM_receive 10 = .ok (.ifCond .le 18, 3) := by decide +kernel
theorem nd_GM_receive_13 : decode nc_GM_receive 13 = .ok (.aload_n 0, 1) := by decide +kernel
theorem nd_GM_receive_14 : decode nc_GM_receive 14 = .ok (.aload_n 0, 1) := by decide +kernel
theorem nd_GM_receive_15 : decode nc_GM_receive 15 = .ok (.getfield 81, 3) := by decide +kernel
theorem nd_GM_receive_18 : decode nc_GM_receive 18 = .ok (.iconst 3, 1) := by decide +kernel
theorem nd_GM_receive_19 : decode nc_GM_receive 19 = .ok (.iload_n 1, 1) := by decide +kernel
theorem nd_GM_receive_20 : decode nc_GM_receive 20 = .ok (.imul, 1) := by decide +kernel
theorem nd_GM_receive_21 : decode nc_GM_receive 21 = .ok (.iconst 1, 1) := by decide +kernel
theorem nd_GM_receive_22 : decode nc_GM_receive 22 = .ok (.iadd, 1) := by decide +kernel
theorem nd_GM_receive_23 : decode nc_GM_receive 23 = .ok (.iaload, 1) := by decide +kernel
theorem nd_GM_receive_24 : decode nc_GM_receive 24 = .ok (.iload_n 2, 1) := by decide +kernel
theorem nd_GM_receive_25 : decode nc_GM_receive 25 = .ok (.invokevirtual 167, 3) := by decide +kernel
theorem nd_GM_receive_28 : decode nc_GM_receive 28 = .ok (.aload_n 0, 1) := by decide +kernel
theorem nd_GM_receive_29 : decode nc_GM_receive 29 = .ok (.iload_n 1, 1) := by decide +kernel
theorem nd_GM_receive_30 : decode nc_GM_receive 30 = .ok (.iconst 1, 1) := by decide +kernel
theorem nd_GM_receive_31 : decode nc_GM_receive 31 = .ok (.iconst 0, 1) := by decide +kernel
theorem nd_GM_receive_32 : decode nc_GM_receive 32 = .ok (.iconst 0, 1) := by decide +kernel
theorem nd_GM_receive_33 : decode nc_GM_receive 33 = .ok (.invokevirtual 245, 3) := by decide +kernel
theorem nd_GM_receive_36 : decode nc_GM_receive 36 = .ok (.aload_n 0, 1) := by decide +kernel
theorem nd_GM_receive_37 : decode nc_GM_receive 37 = .ok (.iload_n 1, 1) := by decide +kernel
theorem nd_GM_receive_38 : decode nc_GM_receive 38 = .ok (.iconst 1, 1) := by decide +kernel
theorem nd_GM_receive_39 : decode nc_GM_receive 39 = .ok (.iload_n 2, 1) := by decide +kernel
theorem nd_GM_receive_40 : decode nc_GM_receive 40 = .ok (.iconst 1, 1) := by decide +kernel
theorem nd_GM_receive_41 : decode nc_GM_receive 41 = .ok (.invokevirtual 277, 3) := by decide +kernel
theorem nd_GM_receive_44 : decode nc_GM_receive 44 = .ok (.return_, 1) := by decide +kernel
theorem nd_GM_waiting_0 : decode nc_GM_waiting 0 = .ok (.iconst 0, 1) := by decide +kernel
theorem nd_GM_waiting_1 : decode nc_GM_waiting 1 = .ok (.istore_n 2, 1) := by decide +kernel
theorem nd_GM_waiting_2 : decode nc_GM_waiting 2 = .ok (.iconst 0, 1) := by decide +kernel
theorem nd_GM_waiting_3 : decode nc_GM_waiting 3 = .ok (.istore_n 3, 1) := by decide +kernel
theorem nd_GM_waiting_4 : decode nc_GM_waiting 4 = .ok (.iload_n 3, 1) := by decide +kernel
theorem nd_GM_waiting_5 : decode nc_GM_waiting 5 = .ok (.aload_n 0, 1) := by decide +kernel
theorem nd_GM_waiting_6 : decode nc_GM_waiting 6 = .ok (.getfield 121, 3) := by decide +kernel
theorem nd_GM_waiting_9 : decode nc_GM_waiting 9 = .ok (.if_icmp .ge 27, 3) := by decide +kernel
theorem nd_GM_waiting_12 : decode nc_GM_waiting 12 = .ok (.iload_n 2, 1) := by decide +kernel
theorem nd_GM_waiting_13 : decode nc_GM_waiting 13 = .ok (.aload_n 0, 1) := by decide +kernel
theorem nd_GM_waiting_14 : decode nc_GM_waiting 14 = .ok (.getfield 87, 3) := by decide +kernel
theorem nd_GM_waiting_17 : decode nc_GM_waiting 17 = .ok (.iload_n 3, 1) := by decide +kernel
theorem nd_GM_waiting_18 : decode nc_GM_waiting 18 = .ok (.iaload, 1) := by decide +kernel
theorem nd_GM_waiting_19 : decode nc_GM_waiting 19 = .ok (.iload_n 1, 1) := by decide +kernel
theorem nd_GM_waiting_20 : decode nc_GM_waiting 20 = .ok (.if_icmp .ne 7, 3) := by decide +kernel
theorem nd_GM_waiting_23 : decode nc_GM_waiting 23 = .ok (.iconst 1, 1) := by decide +kernel
theorem nd_GM_waiting_24 : decode nc_GM_waiting 24 = .ok (.goto 4, 3) := by decide +kernel
theorem nd_GM_waiting_27 : decode nc_GM_waiting 27 = .ok (.iconst 0, 1) := by decide +kernel
theorem nd_GM_waiting_28 : decode nc_GM_waiting 28 = .ok (.iadd, 1) := by decide +kernel
theorem nd_GM_waiting_29 : decode nc_GM_waiting 29 = .ok (.istore_n 2, 1) := by decide +kernel
theorem nd_GM_waiting_30 : decode nc_GM_waiting 30 = .ok (.iinc 3 1, 3) := by decide +kernel
theorem nd_GM_waiting_33 : decode nc_GM_waiting 33 = .ok (.goto (-29), 3) := by decide +kernel
theorem nd_GM_waiting_36 : decode nc_GM_waiting 36 = .ok (.iload_n 2, 1) := by decide +kernel
theorem nd_GM_waiting_37 : decode nc_GM_waiting 37 = .ok (.ireturn, 1) := by decide +kernel
theorem nd_GM_upcall_0 : decode nc_GM_upcall 0 = .ok (.aload_n 0, 1) := by decide +kernel
theorem nd_GM_upcall_1 : decode nc_GM_upcall 1 = .ok (.getfield 75, 3) := by decide +kernel
theorem nd_GM_upcall_4 : decode nc_GM_upcall 4 = .ok (.iconst 3, 1) := by decide +kernel
theorem nd_GM_upcall_5 : decode nc_GM_upcall 5 = .ok (.iload_n 1, 1) := by decide +kernel
theorem nd_GM_upcall_6 : decode nc_GM_upcall 6 = .ok (.imul, 1) := by decide +kernel
theorem nd_GM_upcall_7 : decode nc_GM_upcall 7 = .ok (.iload_n 2, 1) := by decide +kernel
theorem nd_GM_upcall_8 : decode nc_GM_upcall 8 = .ok (.iadd, 1) := by decide +kernel
theorem nd_GM_upcall_9 : decode nc_GM_upcall 9 = .ok (.iaload, 1) := by decide +kernel
theorem nd_GM_upcall_10 : decode nc_GM_upcall 10 = .ok (.ifCond .ne 4, 3) := by decide +kernel
theorem nd_GM_upcall_13 : decode nc_GM_upcall 13 = .ok (.return_, 1) := by decide +kernel
theorem nd_GM_upcall_14 : decode nc_GM_upcall 14 = .ok (.aload_n 0, 1) := by decide +kernel
theorem nd_GM_upcall_15 : decode nc_GM_upcall 15 = .ok (.getfield 41, 3) := by decide +kernel
theorem nd_GM_upcall_18 : decode nc_GM_upcall 18 = .ok (.iload_n 1, 1) := by decide +kernel
theorem nd_GM_upcall_19 : decode nc_GM_upcall 19 = .ok (.iaload, 1) := by decide +kernel
theorem nd_GM_upcall_20 : decode nc_GM_upcall 20 = .ok (.iconst 1, 1) := by decide +kernel
theorem nd_GM_upcall_21 : decode nc_GM_upcall 21 = .ok (.if_icmp .ne 15, 3) := by decide +kernel
theorem nd_GM_upcall_24 : decode nc_GM_upcall 24 = .ok (.aload_n 0, 1) := by decide +kernel
theorem nd_GM_upcall_25 : decode nc_GM_upcall 25 = .ok (.iload_n 1, 1) := by decide +kernel
theorem nd_GM_upcall_26 : decode nc_GM_upcall 26 = .ok (.iload_n 2, 1) := by decide +kernel
theorem nd_GM_upcall_27 : decode nc_GM_upcall 27 = .ok (.iload_n 3, 1) := by decide +kernel
theorem nd_GM_upcall_28 : decode nc_GM_upcall 28 = .ok (.iload 4, 2) := by decide +kernel
theorem nd_GM_upcall_30 : decode nc_GM_upcall 30 = .ok (.invokevirtual 252, 3) := by decide +kernel
theorem nd_GM_upcall_33 : decode nc_GM_upcall 33 = .ok (.goto 63, 3) := by decide +kernel
theorem nd_GM_upcall_36 : decode nc_GM_upcall 36 = .ok (.aload_n 0, 1) := by decide +kernel
theorem nd_GM_upcall_37 : decode nc_GM_upcall 37 = .ok (.iload_n 1, 1) := by decide +kernel
theorem nd_GM_upcall_38 : decode nc_GM_upcall 38 = .ok (.invokevirtual 280, 3) := by decide +kernel
theorem nd_GM_upcall_41 : decode nc_GM_upcall 41 = .ok (.iconst 4, 1) := by decide +kernel
theorem nd_GM_upcall_42 : decode nc_GM_upcall 42 = .ok (.if_icmp .ge 54, 3) := by decide +kernel
theorem nd_GM_upcall_45 : decode nc_GM_upcall 45 = .ok (.aload_n 0, 1) := by decide +kernel
theorem nd_GM_upcall_46 : decode nc_GM_upcall 46 = .ok (.getfield 87, 3) := by decide +kernel
theorem nd_GM_upcall_49 : decode nc_GM_upcall 49 = .ok (.aload_n 0, 1) := by decide +kernel
theorem nd_GM_upcall_50 : decode nc_GM_upcall 50 = .ok (.getfield 121, 3) := by decide +kernel
theorem nd_GM_upcall_53 : decode nc_GM_upcall 53 = .ok (.iload_n 1, 1) := by decide +kernel
theorem nd_GM_upcall_54 : decode nc_GM_upcall 54 = .ok (.iastore, 1) := by decide +kernel
theorem nd_GM_upcall_55 : decode nc_GM_upcall 55 = .ok (.aload_n 0, 1) := by decide +kernel
theorem nd_GM_upcall_56 : decode nc_GM_upcall 56 = .ok (.getfield 90, 3) := by decide +kernel
theorem nd_GM_upcall_59 : decode nc_GM_upcall 59 = .ok (.aload_n 0, 1) := by decide +kernel
theorem nd_GM_upcall_60 : decode nc_GM_upcall 60 = .ok (.getfield 121, 3) := by decide +kernel
theorem nd_GM_upcall_63 : decode nc_GM_upcall 63 = .ok (.iload_n 2, 1) := by decide +kernel
theorem nd_GM_upcall_64 : decode nc_GM_upcall 64 = .ok (.iastore, 1) := by decide +kernel
theorem nd_GM_upcall_65 : decode nc_GM_upcall 65 = .ok (.aload_n 0, 1) := by decide +kernel
theorem nd_GM_upcall_66 : decode nc_GM_upcall 66 = .ok (.getfield 93, 3) := by decide +kernel
theorem nd_GM_upcall_69 : decode nc_GM_upcall 69 = .ok (.aload_n 0, 1) := by decide +kernel
theorem nd_GM_upcall_70 : decode nc_GM_upcall 70 = .ok (.getfield 121, 3) := by decide +kernel
theorem nd_GM_upcall_73 : decode nc_GM_upcall 73 = .ok (.iload_n 3, 1) := by decide +kernel
theorem nd_GM_upcall_74 : decode nc_GM_upcall 74 = .ok (.iastore, 1) := by decide +kernel
theorem nd_GM_upcall_75 : decode nc_GM_upcall 75 = .ok (.aload_n 0, 1) := by decide +kernel
theorem nd_GM_upcall_76 : decode nc_GM_upcall 76 = .ok (.getfield 96, 3) := by decide +kernel
theorem nd_GM_upcall_79 : decode nc_GM_upcall 79 = .ok (.aload_n 0, 1) := by decide +kernel
theorem nd_GM_upcall_80 : decode nc_GM_upcall 80 = .ok (.getfield 121, 3) := by decide +kernel
theorem nd_GM_upcall_83 : decode nc_GM_upcall 83 = .ok (.iload 4, 2) := by decide +kernel
theorem nd_GM_upcall_85 : decode nc_GM_upcall 85 = .ok (.iastore, 1) := by decide +kernel
theorem nd_GM_upcall_86 : decode nc_GM_upcall 86 = .ok (.aload_n 0, 1) := by decide +kernel
theorem nd_GM_upcall_87 : decode nc_GM_upcall 87 = .ok (.dup, 1) := by decide +kernel
theorem nd_GM_upcall_88 : decode nc_GM_upcall 88 = .ok (.getfield 121, 3) := by decide +kernel
theorem nd_GM_upcall_91 : decode nc_GM_upcall 91 = .ok (.iconst 1, 1) := by decide +kernel
theorem nd_GM_upcall_92 : decode nc_GM_upcall 92 = .ok (.iadd, 1) := by decide +kernel
theorem nd_GM_upcall_93 : decode nc_GM_upcall 93 = .ok (.putfield 121, 3) := by decide +kernel
theorem nd_GM_upcall_96 : decode nc_GM_upcall 96 = .ok (.return_, 1) := by decide +kernel
theorem nd_GM_deliver_0 : decode nc_GM_deliver 0 = .ok (.aload_n 0, 1) := by decide +kernel
theorem nd_GM_deliver_1 : decode nc_GM_deliver 1 = .ok (.getfield 47, 3) := by decide +kernel
theorem nd_GM_deliver_4 : decode nc_GM_deliver 4 = .ok (.iload_n 1, 1) := by decide +kernel
theorem nd_GM_deliver_5 : decode nc_GM_deliver 5 = .ok (.iaload, 1) := by decide +kernel
theorem nd_GM_deliver_6 : decode nc_GM_deliver 6 = .ok (.istore 5, 2) := by decide +kernel
theorem nd_GM_deliver_8 : decode nc_GM_deliver 8 = .ok (.aload_n 0, 1) := by decide +kernel
theorem nd_GM_deliver_9 : decode nc_GM_deliver 9 = .ok (.iload 5, 2) := by decide +kernel
theorem nd_GM_deliver_11 : decode nc_GM_deliver 11 = .ok (.iload_n 3, 1) := by decide +kernel
theorem nd_GM_deliver_12 : decode nc_GM_deliver 12 = .ok (.invokevirtual 167, 3) := by decide +kernel
theorem nd_GM_deliver_15 : decode nc_GM_deliver 15 = .ok (.aload_n 0, 1) := by decide +kernel
theorem nd_GM_deliver_16 : decode nc_GM_deliver 16 = .ok (.iload 5, 2) := by decide +kernel
theorem nd_GM_deliver_18 : decode nc_GM_deliver 18 = .ok (.iconst 4, 1) := by decide +kernel
theorem nd_GM_deliver_19 : decode nc_GM_deliver 19 = .ok (.iadd, 1) := by decide +kernel
theorem nd_GM_deliver_20 : decode nc_GM_deliver 20 = .ok (.iload 4, 2) := by decide +kernel
theorem nd_GM_deliver_22 : decode nc_GM_deliver 22 = .ok (.invokevirtual 167, 3) := by decide +kernel
theorem nd_GM_deliver_25 : decode nc_GM_deliver 25 = .ok (.aload_n 0, 1) := by decide +kernel
theorem nd_GM_deliver_26 : decode nc_GM_deliver 26 = .ok (.iload 5, 2) := by decide +kernel
theorem nd_GM_deliver_28 : decode nc_GM_deliver 28 = .ok (.bipush 8, 2) := by decide +kernel
theorem nd_GM_deliver_30 : decode nc_GM_deliver 30 = .ok (.iadd, 1) := by decide +kernel
theorem nd_GM_deliver_31 : decode nc_GM_deliver 31 = .ok (.iload_n 2, 1) := by decide +kernel
theorem nd_GM_deliver_32 : decode nc_GM_deliver 32 = .ok (.invokevirtual 167, 3) := by decide +kernel
theorem nd_GM_deliver_35 : decode nc_GM_deliver 35 = .ok (.aload_n 0, 1) := by decide +kernel
theorem nd_GM_deliver_36 : decode nc_GM_deliver 36 = .ok (.iload 5, 2) := by decide +kernel
theorem nd_GM_deliver_38 : decode nc_GM_deliver 38 = .ok (.bipush 12, 2) := by decide +kernel
theorem nd_GM_deliver_40 : decode nc_GM_deliver 40 = .ok (.iadd, 1) := by decide +kernel
theorem nd_GM_deliver_41 : decode nc_GM_deliver 41 = .ok (.aload_n 0, 1) := by decide +kernel
theorem nd_GM_deliver_42 : decode nc_GM_deliver 42 = .ok (.getfield 78, 3) := by decide +kernel
theorem nd_GM_deliver_45 : decode nc_GM_deliver 45 = .ok (.iconst 3, 1) := by decide +kernel
theorem nd_GM_deliver_46 : decode nc_GM_deliver 46 = .ok (.iload_n 1, 1) := by decide +kernel
theorem nd_GM_deliver_47 : decode nc_GM_deliver 47 = .ok (.imul, 1) := by decide +kernel
theorem nd_GM_deliver_48 : decode nc_GM_deliver 48 = .ok (.iload_n 2, 1) := by decide +kernel
theorem nd_GM_deliver_49 : decode nc_GM_deliver 49 = .ok (.iadd, 1) := by decide +kernel
theorem nd_GM_deliver_50 : decode nc_GM_deliver 50 = .ok (.iaload, 1) := by decide +kernel
theorem nd_GM_deliver_51 : decode nc_GM_deliver 51 = .ok (.invokevirtual 167, 3) := by decide +kernel
theorem nd_GM_deliver_54 : decode nc_GM_deliver 54 = .ok (.aload_n 0, 1) := by decide +kernel
theorem nd_GM_deliver_55 : decode nc_GM_deliver 55 = .ok (.iload 5, 2) := by decide +kernel
theorem nd_GM_deliver_57 : decode nc_GM_deliver 57 = .ok (.bipush 24, 2) := by decide +kernel
theorem nd_GM_deliver_59 : decode nc_GM_deliver 59 = .ok (.iadd, 1) := by decide +kernel
theorem nd_GM_deliver_60 : decode nc_GM_deliver 60 = .ok (.invokevirtual 172, 3) := by decide +kernel
theorem nd_GM_deliver_63 : decode nc_GM_deliver 63 = .ok (.istore 6, 2) := by decide +kernel
theorem nd_GM_deliver_65 : decode nc_GM_deliver 65 = .ok (.aload_n 0, 1) := by decide +kernel
theorem nd_GM_deliver_66 : decode nc_GM_deliver 66 = .ok (.iload 5, 2) := by decide +kernel
theorem nd_GM_deliver_68 : decode nc_GM_deliver 68 = .ok (.bipush 20, 2) := by decide +kernel
theorem nd_GM_deliver_70 : decode nc_GM_deliver 70 = .ok (.iadd, 1) := by decide +kernel
theorem nd_GM_deliver_71 : decode nc_GM_deliver 71 = .ok (.iload 6, 2) := by decide +kernel
theorem nd_GM_deliver_73 : decode nc_GM_deliver 73 = .ok (.iconst 1, 1) := by decide +kernel
theorem nd_GM_deliver_74 : decode nc_GM_deliver 74 = .ok (.iadd, 1) := by decide +kernel
theorem nd_GM_deliver_75 : decode nc_GM_deliver 75 = .ok (.invokevirtual 167, 3) := by decide +kernel
theorem nd_GM_deliver_78 : decode nc_GM_deliver 78 = .ok (.aload_n 0, 1) := by decide +kernel
theorem nd_GM_deliver_79 : decode nc_GM_deliver 79 = .ok (.iload 5, 2) := by decide +kernel
theorem nd_GM_deliver_81 : decode nc_GM_deliver 81 = .ok (.bipush 24, 2) := by decide +kernel
theorem nd_GM_deliver_83 : decode nc_GM_deliver 83 = .ok (.iadd, 1) := by decide +kernel
theorem nd_GM_deliver_84 : decode nc_GM_deliver 84 = .ok (.aload_n 0, 1) := by decide +kernel
theorem nd_GM_deliver_85 : decode nc_GM_deliver 85 = .ok (.getfield 75, 3) := by decide +kernel
theorem nd_GM_deliver_88 : decode nc_GM_deliver 88 = .ok (.iconst 3, 1) := by decide +kernel
theorem nd_GM_deliver_89 : decode nc_GM_deliver 89 = .ok (.iload_n 1, 1) := by decide +kernel
theorem nd_GM_deliver_90 : decode nc_GM_deliver 90 = .ok (.imul, 1) := by decide +kernel
theorem nd_GM_deliver_91 : decode nc_GM_deliver 91 = .ok (.iload_n 2, 1) := by decide +kernel
theorem nd_GM_deliver_92 : decode nc_GM_deliver 92 = .ok (.iadd, 1) := by decide +kernel
theorem nd_GM_deliver_93 : decode nc_GM_deliver 93 = .ok (.iaload, 1) := by decide +kernel
theorem nd_GM_deliver_94 : decode nc_GM_deliver 94 = .ok (.bipush (-2), 2) := by decide +kernel
theorem nd_GM_deliver_96 : decode nc_GM_deliver 96 = .ok (.iand, 1) := by decide +kernel
theorem nd_GM_deliver_97 : decode nc_GM_deliver 97 = .ok (.invokevirtual 167, 3) := by decide +kernel
theorem nd_GM_deliver_100 : decode nc_GM_deliver 100 = .ok (.aload_n 0, 1) := by decide +kernel
theorem nd_GM_deliver_101 : decode nc_GM_deliver 101 = .ok (.getfield 41, 3) := by decide +kernel
theorem nd_GM_deliver_104 : decode nc_GM_deliver 104 = .ok (.iload_n 1, 1) := by decide +kernel
theorem nd_GM_deliver_105 : decode nc_GM_deliver 105 = .ok (.iconst 0, 1) := by decide +kernel
theorem nd_GM_deliver_106 : decode nc_GM_deliver 106 = .ok (.iastore, 1) := by decide +kernel
theorem nd_GM_deliver_107 : decode nc_GM_deliver 107 = .ok (.return_, 1) := by decide +kernel
theorem nd_GM_faulted_0 : decode nc_GM_faulted 0 = .ok (.aload_n 0, 1) := by decide +kernel
theorem nd_GM_faulted_1 : decode nc_GM_faulted 1 = .ok (.iconst 0, 1) := by decide +kernel
theorem nd_GM_faulted_2 : decode nc_GM_faulted 2 = .ok (.putfield 118, 3) := by decide +kernel
theorem nd_GM_faulted_5 : decode nc_GM_faulted 5 = .ok (.aload_n 0, 1) := by decide +kernel
theorem nd_GM_faulted_6 : decode nc_GM_faulted 6 = .ok (.getfield 63, 3) := by decide +kernel
theorem nd_GM_faulted_9 : decode nc_GM_faulted 9 = .ok (.iload_n 1, 1) := by decide +kernel
theorem nd_GM_faulted_10 : decode nc_GM_faulted 10 = .ok (.aload_n 0, 1) := by decide +kernel
theorem nd_GM_faulted_11 : decode nc_GM_faulted 11 = .ok (.getfield 161, 3) := by decide +kernel
theorem nd_GM_faulted_14 : decode nc_GM_faulted 14 = .ok (.iastore, 1) := by decide +kernel
theorem nd_GM_faulted_15 : decode nc_GM_faulted 15 = .ok (.aload_n 0, 1) := by decide +kernel
theorem nd_GM_faulted_16 : decode nc_GM_faulted 16 = .ok (.getfield 66, 3) := by decide +kernel
theorem nd_GM_faulted_19 : decode nc_GM_faulted 19 = .ok (.iload_n 1, 1) := by decide +kernel
theorem nd_GM_faulted_20 : decode nc_GM_faulted 20 = .ok (.dup2, 1) := by decide +kernel
theorem nd_GM_faulted_21 : decode nc_GM_faulted 21 = .ok (.iaload, 1) := by decide +kernel
theorem nd_GM_faulted_22 : decode nc_GM_faulted 22 = .ok (.iconst 1, 1) := by decide +kernel
theorem nd_GM_faulted_23 : decode nc_GM_faulted 23 = .ok (.iadd, 1) := by decide +kernel
theorem nd_GM_faulted_24 : decode nc_GM_faulted 24 = .ok (.iastore, 1) := by decide +kernel
theorem nd_GM_faulted_25 : decode nc_GM_faulted 25 = .ok (.aload_n 0, 1) := by decide +kernel
theorem nd_GM_faulted_26 : decode nc_GM_faulted 26 = .ok (.getfield 69, 3) := by decide +kernel
theorem nd_GM_faulted_29 : decode nc_GM_faulted 29 = .ok (.iload_n 1, 1) := by decide +kernel
theorem nd_GM_faulted_30 : decode nc_GM_faulted 30 = .ok (.iaload, 1) := by decide +kernel
theorem nd_GM_faulted_31 : decode nc_GM_faulted 31 = .ok (.aload_n 0, 1) := by decide +kernel
theorem nd_GM_faulted_32 : decode nc_GM_faulted 32 = .ok (.getfield 38, 3) := by decide +kernel
theorem nd_GM_faulted_35 : decode nc_GM_faulted 35 = .ok (.iload_n 1, 1) := by decide +kernel
theorem nd_GM_faulted_36 : decode nc_GM_faulted 36 = .ok (.iaload, 1) := by decide +kernel
theorem nd_GM_faulted_37 : decode nc_GM_faulted 37 = .ok (.if_icmp .ge 21, 3) := by decide +kernel
theorem nd_GM_faulted_40 : decode nc_GM_faulted 40 = .ok (.aload_n 0, 1) := by decide +kernel
theorem nd_GM_faulted_41 : decode nc_GM_faulted 41 = .ok (.getfield 69, 3) := by decide +kernel
theorem nd_GM_faulted_44 : decode nc_GM_faulted 44 = .ok (.iload_n 1, 1) := by decide +kernel
theorem nd_GM_faulted_45 : decode nc_GM_faulted 45 = .ok (.dup2, 1) := by decide +kernel
theorem nd_GM_faulted_46 : decode nc_GM_faulted 46 = .ok (.iaload, 1) := by decide +kernel
theorem nd_GM_faulted_47 : decode nc_GM_faulted 47 = .ok (.iconst 1, 1) := by decide +kernel
theorem nd_GM_faulted_48 : decode nc_GM_faulted 48 = .ok (.iadd, 1) := by decide +kernel
theorem nd_GM_faulted_49 : decode nc_GM_faulted 49 = .ok (.iastore, 1) := by decide +kernel
theorem nd_GM_faulted_50 : decode nc_GM_faulted 50 = .ok (.aload_n 0, 1) := by decide +kernel
theorem nd_GM_faulted_51 : decode nc_GM_faulted 51 = .ok (.iload_n 1, 1) := by decide +kernel
theorem nd_GM_faulted_52 : decode nc_GM_faulted 52 = .ok (.invokevirtual 128, 3) := by decide +kernel
theorem nd_GM_faulted_55 : decode nc_GM_faulted 55 = .ok (.goto 8, 3) := by decide +kernel
theorem nd_GM_faulted_58 : decode nc_GM_faulted 58 = .ok (.aload_n 0, 1) := by decide +kernel
theorem nd_GM_faulted_59 : decode nc_GM_faulted 59 = .ok (.iload_n 1, 1) := by decide +kernel
theorem nd_GM_faulted_60 : decode nc_GM_faulted 60 = .ok (.invokevirtual 283, 3) := by decide +kernel
theorem nd_GM_faulted_63 : decode nc_GM_faulted 63 = .ok (.return_, 1) := by decide +kernel
theorem nd_GM_alarms_0 : decode nc_GM_alarms 0 = .ok (.iconst 0, 1) := by decide +kernel
theorem nd_GM_alarms_1 : decode nc_GM_alarms 1 = .ok (.istore_n 1, 1) := by decide +kernel
theorem nd_GM_alarms_2 : decode nc_GM_alarms 2 = .ok (.iload_n 1, 1) := by decide +kernel
theorem nd_GM_alarms_3 : decode nc_GM_alarms 3 = .ok (.aload_n 0, 1) := by decide +kernel
theorem nd_GM_alarms_4 : decode nc_GM_alarms 4 = .ok (.getfield 105, 3) := by decide +kernel
theorem nd_GM_alarms_7 : decode nc_GM_alarms 7 = .ok (.if_icmp .ge 72, 3) := by decide +kernel
theorem nd_GM_alarms_10 : decode nc_GM_alarms 10 = .ok (.aload_n 0, 1) := by decide +kernel
theorem nd_GM_alarms_11 : decode nc_GM_alarms 11 = .ok (.getfield 72, 3) := by decide +kernel
theorem nd_GM_alarms_14 : decode nc_GM_alarms 14 = .ok (.iconst 3, 1) := by decide +kernel
theorem nd_GM_alarms_15 : decode nc_GM_alarms 15 = .ok (.iload_n 1, 1) := by decide +kernel
theorem nd_GM_alarms_16 : decode nc_GM_alarms 16 = .ok (.imul, 1) := by decide +kernel
theorem nd_GM_alarms_17 : decode nc_GM_alarms 17 = .ok (.iaload, 1) := by decide +kernel
theorem nd_GM_alarms_18 : decode nc_GM_alarms 18 = .ok (.ifCond .le 55, 3) := by decide +kernel
theorem nd_GM_alarms_21 : decode nc_GM_alarms 21 = .ok (.aload_n 0, 1) := by decide +kernel
theorem nd_GM_alarms_22 : decode nc_GM_alarms 22 = .ok (.iload_n 1, 1) := by decide +kernel
theorem nd_GM_alarms_23 : decode nc_GM_alarms 23 = .ok (.iconst 0, 1) := by decide +kernel
theorem nd_GM_alarms_24 : decode nc_GM_alarms 24 = .ok (.iconst 0, 1) := by decide +kernel
theorem nd_GM_alarms_25 : decode nc_GM_alarms 25 = .ok (.invokevirtual 267, 3) := by decide +kernel
theorem nd_GM_alarms_28 : decode nc_GM_alarms 28 = .ok (.iconst 1, 1) := by decide +kernel
theorem nd_GM_alarms_29 : decode nc_GM_alarms 29 = .ok (.if_icmp .ne 44, 3) := by decide +kernel
theorem nd_GM_alarms_32 : decode nc_GM_alarms 32 = .ok (.aload_n 0, 1) := by decide +kernel
theorem nd_GM_alarms_33 : decode nc_GM_alarms 33 = .ok (.iload_n 1, 1) := by decide +kernel
theorem nd_GM_alarms_34 : decode nc_GM_alarms 34 = .ok (.iconst 0, 1) := by decide +kernel
theorem nd_GM_alarms_35 : decode nc_GM_alarms 35 = .ok (.iconst 1, 1) := by decide +kernel
theorem nd_GM_alarms_36 : decode nc_GM_alarms 36 = .ok (.invokevirtual 267, 3) := by decide +kernel
theorem nd_GM_alarms_39 : decode nc_GM_alarms 39 = .ok (.aload_n 0, 1) := by decide +kernel
theorem nd_GM_alarms_40 : decode nc_GM_alarms 40 = .ok (.getfield 115, 3) := by decide +kernel
theorem nd_GM_alarms_43 : decode nc_GM_alarms 43 = .ok (.if_icmp .gt 30, 3) := by decide +kernel
theorem nd_GM_alarms_46 : decode nc_GM_alarms 46 = .ok (.aload_n 0, 1) := by decide +kernel
theorem nd_GM_alarms_47 : decode nc_GM_alarms 47 = .ok (.iload_n 1, 1) := by decide +kernel
theorem nd_GM_alarms_48 : decode nc_GM_alarms 48 = .ok (.iconst 0, 1) := by decide +kernel
theorem nd_GM_alarms_49 : decode nc_GM_alarms 49 = .ok (.iconst 1, 1) := by decide +kernel
theorem nd_GM_alarms_50 : decode nc_GM_alarms 50 = .ok (.invokevirtual 267, 3) := by decide +kernel
theorem nd_GM_alarms_53 : decode nc_GM_alarms 53 = .ok (.istore_n 2, 1) := by decide +kernel
theorem nd_GM_alarms_54 : decode nc_GM_alarms 54 = .ok (.aload_n 0, 1) := by decide +kernel
theorem nd_GM_alarms_55 : decode nc_GM_alarms 55 = .ok (.iload_n 1, 1) := by decide +kernel
theorem nd_GM_alarms_56 : decode nc_GM_alarms 56 = .ok (.iconst 0, 1) := by decide +kernel
theorem nd_GM_alarms_57 : decode nc_GM_alarms 57 = .ok (.iconst 0, 1) := by decide +kernel
theorem nd_GM_alarms_58 : decode nc_GM_alarms 58 = .ok (.iconst 0, 1) := by decide +kernel
theorem nd_GM_alarms_59 : decode nc_GM_alarms 59 = .ok (.invokevirtual 245, 3) := by decide +kernel
theorem nd_GM_alarms_62 : decode nc_GM_alarms 62 = .ok (.aload_n 0, 1) := by decide +kernel
theorem nd_GM_alarms_63 : decode nc_GM_alarms 63 = .ok (.iload_n 1, 1) := by decide +kernel
theorem nd_GM_alarms_64 : decode nc_GM_alarms 64 = .ok (.iconst 0, 1) := by decide +kernel
theorem nd_GM_alarms_65 : decode nc_GM_alarms 65 = .ok (.aload_n 0, 1) := by decide +kernel
theorem nd_GM_alarms_66 : decode nc_GM_alarms 66 = .ok (.getfield 115, 3) := by decide +kernel
theorem nd_GM_alarms_69 : decode nc_GM_alarms 69 = .ok (.iload_n 2, 1) := by decide +kernel
theorem nd_GM_alarms_70 : decode nc_GM_alarms 70 = .ok (.invokevirtual 277, 3) := by decide +kernel
theorem nd_GM_alarms_73 : decode nc_GM_alarms 73 = .ok (.iinc 1 1, 3) := by decide +kernel
theorem nd_GM_alarms_76 : decode nc_GM_alarms 76 = .ok (.goto (-74), 3) := by decide +kernel
theorem nd_GM_alarms_79 : decode nc_GM_alarms 79 = .ok (.return_, 1) := by decide +kernel
theorem nd_GM_choose_0 : decode nc_GM_choose 0 = .ok (.aload_n 0, 1) := by decide +kernel
theorem nd_GM_choose_1 : decode nc_GM_choose 1 = .ok (.getfield 16, 3) := by decide +kernel
theorem nd_GM_choose_4 : decode nc_GM_choose 4 = .ok (.ifCond .lt 24, 3) := by decide +kernel
theorem nd_GM_choose_7 : decode nc_GM_choose 7 = .ok (.aload_n 0, 1) := by decide +kernel
theorem nd_GM_choose_8 : decode nc_GM_choose 8 = .ok (.getfield 41, 3) := by decide +kernel
theorem nd_GM_choose_11 : decode nc_GM_choose 11 = .ok (.aload_n 0, 1) := by decide +kernel
theorem nd_GM_choose_12 : decode nc_GM_choose 12 = .ok (.getfield 16, 3) := by decide +kernel
theorem nd_GM_choose_15 : decode nc_GM_choose 15 = .ok (.iaload, 1) := by decide +kernel
theorem nd_GM_choose_16 : decode nc_GM_choose 16 = .ok (.ifCond .ne 12, 3) := by decide +kernel
theorem nd_GM_choose_19 : decode nc_GM_choose 19 = .ok (.aload_n 0, 1) := by decide +kernel
theorem nd_GM_choose_20 : decode nc_GM_choose 20 = .ok (.getfield 118, 3) := by decide +kernel
theorem nd_GM_choose_23 : decode nc_GM_choose 23 = .ok (.ifCond .le 5, 3) := by decide +kernel
theorem nd_GM_choose_26 : decode nc_GM_choose 26 = .ok (.iconst 1, 1) := by decide +kernel
theorem nd_GM_choose_27 : decode nc_GM_choose 27 = .ok (.ireturn, 1) := by decide +kernel
theorem nd_GM_choose_28 : decode nc_GM_choose 28 = .ok (.iconst 1, 1) := by decide +kernel
theorem nd_GM_choose_29 : decode nc_GM_choose 29 = .ok (.istore_n 1, 1) := by decide +kernel
theorem nd_GM_choose_30 : decode nc_GM_choose 30 = .ok (.iload_n 1, 1) := by decide +kernel
theorem nd_GM_choose_31 : decode nc_GM_choose 31 = .ok (.aload_n 0, 1) := by decide +kernel
theorem nd_GM_choose_32 : decode nc_GM_choose 32 = .ok (.getfield 105, 3) := by decide +kernel
theorem nd_GM_choose_35 : decode nc_GM_choose 35 = .ok (.if_icmp .gt 56, 3) := by decide +kernel
theorem nd_GM_choose_38 : decode nc_GM_choose 38 = .ok (.aload_n 0, 1) := by decide +kernel
theorem nd_GM_choose_39 : decode nc_GM_choose 39 = .ok (.getfield 16, 3) := by decide +kernel
theorem nd_GM_choose_42 : decode nc_GM_choose 42 = .ok (.ifCond .ge 9, 3) := by decide +kernel
theorem nd_GM_choose_45 : decode nc_GM_choose 45 = .ok (.iload_n 1, 1) := by decide +kernel
theorem nd_GM_choose_46 : decode nc_GM_choose 46 = .ok (.iconst 1, 1) := by decide +kernel
theorem nd_GM_choose_47 : decode nc_GM_choose 47 = .ok (.isub, 1) := by decide +kernel
theorem nd_GM_choose_48 : decode nc_GM_choose 48 = .ok (.goto 14, 3) := by decide +kernel
theorem nd_GM_choose_51 : decode nc_GM_choose 51 = .ok (.aload_n 0, 1) := by decide +kernel
theorem nd_GM_choose_52 : decode nc_GM_choose 52 = .ok (.getfield 16, 3) := by decide +kernel
theorem nd_GM_choose_55 : decode nc_GM_choose 55 = .ok (.iload_n 1, 1) := by decide +kernel
theorem nd_GM_choose_56 : decode nc_GM_choose 56 = .ok (.iadd, 1) := by decide +kernel
theorem nd_GM_choose_57 : decode nc_GM_choose 57 = .ok (.aload_n 0, 1) := by decide +kernel
theorem nd_GM_choose_58 : decode nc_GM_choose 58 = .ok (.getfield 105, 3) := by decide +kernel
theorem nd_GM_choose_61 : decode nc_GM_choose 61 = .ok (.irem, 1) := by decide +kernel
theorem nd_GM_choose_62 : decode nc_GM_choose 62 = .ok (.istore_n 2, 1) := by decide +kernel
theorem nd_GM_choose_63 : decode nc_GM_choose 63 = .ok (.aload_n 0, 1) := by decide +kernel
theorem nd_GM_choose_64 : decode nc_GM_choose 64 = .ok (.getfield 41, 3) := by decide +kernel
theorem nd_GM_choose_67 : decode nc_GM_choose 67 = .ok (.iload_n 2, 1) := by decide +kernel
theorem nd_GM_choose_68 : decode nc_GM_choose 68 = .ok (.iaload, 1) := by decide +kernel
theorem nd_GM_choose_69 : decode nc_GM_choose 69 = .ok (.ifCond .ne 16, 3) := by decide +kernel
theorem nd_GM_choose_72 : decode nc_GM_choose 72 = .ok (.aload_n 0, 1) := by decide +kernel
theorem nd_GM_choose_73 : decode nc_GM_choose 73 = .ok (.iload_n 2, 1) := by decide +kernel
theorem nd_GM_choose_74 : decode nc_GM_choose 74 = .ok (.putfield 16, 3) := by decide +kernel
theorem nd_GM_choose_77 : decode nc_GM_choose 77 = .ok (.aload_n 0, 1) := by decide +kernel
theorem nd_GM_choose_78 : decode nc_GM_choose 78 = .ok (.bipush 10, 2) := by decide +kernel
theorem nd_GM_choose_80 : decode nc_GM_choose 80 = .ok (.putfield 118, 3) := by decide +kernel
theorem nd_GM_choose_83 : decode nc_GM_choose 83 = .ok (.iconst 1, 1) := by decide +kernel
theorem nd_GM_choose_84 : decode nc_GM_choose 84 = .ok (.ireturn, 1) := by decide +kernel
theorem nd_GM_choose_85 : decode nc_GM_choose 85 = .ok (.iinc 1 1, 3) := by decide +kernel
theorem nd_GM_choose_88 : decode nc_GM_choose 88 = .ok (.goto (-58), 3) := by decide +kernel
theorem nd_GM_choose_91 : decode nc_GM_choose 91 = .ok (.iconst 0, 1) := by decide +kernel
theorem nd_GM_choose_92 : decode nc_GM_choose 92 = .ok (.ireturn, 1) := by decide +kernel
theorem nd_GM_step_0 : decode nc_GM_step 0 = .ok (.aload_n 0, 1) := by decide +kernel
theorem nd_GM_step_1 : decode nc_GM_step 1 = .ok (.iconst 0, 1) := by decide +kernel
theorem nd_GM_step_2 : decode nc_GM_step 2 = .ok (.putfield 161, 3) := by decide +kernel
theorem nd_GM_step_5 : decode nc_GM_step 5 = .ok (.aload_n 0, 1) := by decide +kernel
theorem nd_GM_step_6 : decode nc_GM_step 6 = .ok (.getfield 59, 3) := by decide +kernel
theorem nd_GM_step_9 : decode nc_GM_step 9 = .ok (.iload_n 1, 1) := by decide +kernel
theorem nd_GM_step_10 : decode nc_GM_step 10 = .ok (.baload, 1) := by decide +kernel
theorem nd_GM_step_11 : decode nc_GM_step 11 = .ok (.ifCond .eq 8, 3) := by decide +kernel
theorem nd_GM_step_14 : decode nc_GM_step 14 = .ok (.aload_n 0, 1) := by decide +kernel
theorem nd_GM_step_15 : decode nc_GM_step 15 = .ok (.iload_n 1, 1) := by decide +kernel
theorem nd_GM_step_16 : decode nc_GM_step 16 = .ok (.invokevirtual 286, 3) := by decide +kernel
theorem nd_GM_step_19 : decode nc_GM_step 19 = .ok (.aload_n 0, 1) := by decide +kernel
theorem nd_GM_step_20 : decode nc_GM_step 20 = .ok (.getfield 161, 3) := by decide +kernel
theorem nd_GM_step_23 : decode nc_GM_step 23 = .ok (.ifCond .ne 8, 3) := by decide +kernel
theorem nd_GM_step_26 : decode nc_GM_step 26 = .ok (.aload_n 0, 1) := by decide +kernel
theorem nd_GM_step_27 : decode nc_GM_step 27 = .ok (.iload_n 1, 1) := by decide +kernel
theorem nd_GM_step_28 : decode nc_GM_step 28 = .ok (.invokevirtual 289, 3) := by decide +kernel
theorem nd_GM_step_31 : decode nc_GM_step 31 = .ok (.aload_n 0, 1) := by decide +kernel
theorem nd_GM_step_32 : decode nc_GM_step 32 = .ok (.getfield 161, 3) := by decide +kernel
theorem nd_GM_step_35 : decode nc_GM_step 35 = .ok (.ifCond .ne 40, 3) := by decide +kernel
theorem nd_GM_step_38 : decode nc_GM_step 38 = .ok (.aload_n 0, 1) := by decide +kernel
theorem nd_GM_step_39 : decode nc_GM_step 39 = .ok (.dup, 1) := by decide +kernel
theorem nd_GM_step_40 : decode nc_GM_step 40 = .ok (.getfield 118, 3) := by decide +kernel
theorem nd_GM_step_43 : decode nc_GM_step 43 = .ok (.iconst 1, 1) := by decide +kernel
theorem nd_GM_step_44 : decode nc_GM_step 44 = .ok (.isub, 1) := by decide +kernel
theorem nd_GM_step_45 : decode nc_GM_step 45 = .ok (.putfield 118, 3) := by decide +kernel
theorem nd_GM_step_48 : decode nc_GM_step 48 = .ok (.aload_n 0, 1) := by decide +kernel
theorem nd_GM_step_49 : decode nc_GM_step 49 = .ok (.getfield 118, 3) := by decide +kernel
theorem nd_GM_step_52 : decode nc_GM_step 52 = .ok (.ifCond .ne 23, 3) := by decide +kernel
theorem nd_GM_step_55 : decode nc_GM_step 55 = .ok (.aload_n 0, 1) := by decide +kernel
theorem nd_GM_step_56 : decode nc_GM_step 56 = .ok (.getfield 59, 3) := by decide +kernel
theorem nd_GM_step_59 : decode nc_GM_step 59 = .ok (.iload_n 1, 1) := by decide +kernel
theorem nd_GM_step_60 : decode nc_GM_step 60 = .ok (.baload, 1) := by decide +kernel
theorem nd_GM_step_61 : decode nc_GM_step 61 = .ok (.ifCond .ne 14, 3) := by decide +kernel
theorem nd_GM_step_64 : decode nc_GM_step 64 = .ok (.aload_n 0, 1) := by decide +kernel
theorem nd_GM_step_65 : decode nc_GM_step 65 = .ok (.iload_n 1, 1) := by decide +kernel
theorem nd_GM_step_66 : decode nc_GM_step 66 = .ok (.aload_n 0, 1) := by decide +kernel
theorem nd_GM_step_67 : decode nc_GM_step 67 = .ok (.getfield 53, 3) := by decide +kernel
theorem nd_GM_step_70 : decode nc_GM_step 70 = .ok (.iload_n 1, 1) := by decide +kernel
theorem nd_GM_step_71 : decode nc_GM_step 71 = .ok (.iaload, 1) := by decide +kernel
theorem nd_GM_step_72 : decode nc_GM_step 72 = .ok (.invokevirtual 205, 3) := by decide +kernel
theorem nd_GM_step_75 : decode nc_GM_step 75 = .ok (.aload_n 0, 1) := by decide +kernel
theorem nd_GM_step_76 : decode nc_GM_step 76 = .ok (.getfield 161, 3) := by decide +kernel
theorem nd_GM_step_79 : decode nc_GM_step 79 = .ok (.ifCond .le 8, 3) := by decide +kernel
theorem nd_GM_step_82 : decode nc_GM_step 82 = .ok (.aload_n 0, 1) := by decide +kernel
theorem nd_GM_step_83 : decode nc_GM_step 83 = .ok (.iload_n 1, 1) := by decide +kernel
theorem nd_GM_step_84 : decode nc_GM_step 84 = .ok (.invokevirtual 292, 3) := by decide +kernel
theorem nd_GM_step_87 : decode nc_GM_step 87 = .ok (.return_, 1) := by decide +kernel
theorem nd_GM_run_0 : decode nc_GM_run 0 = .ok (.iload_n 1, 1) := by decide +kernel
theorem nd_GM_run_1 : decode nc_GM_run 1 = .ok (.ifCond .lt 10, 3) := by decide +kernel
theorem nd_GM_run_4 : decode nc_GM_run 4 = .ok (.iload_n 1, 1) := by decide +kernel
theorem nd_GM_run_5 : decode nc_GM_run 5 = .ok (.sipush 400, 3) := by decide +kernel
theorem nd_GM_run_8 : decode nc_GM_run 8 = .ok (.if_icmp .le 5, 3) := by decide +kernel
theorem nd_GM_run_11 : decode nc_GM_run 11 = .ok (.iconst (-1), 1) := by decide +kernel
theorem nd_GM_run_12 : decode nc_GM_run 12 = .ok (.ireturn, 1) := by decide +kernel
theorem nd_GM_run_13 : decode nc_GM_run 13 = .ok (.iconst 0, 1) := by decide +kernel
theorem nd_GM_run_14 : decode nc_GM_run 14 = .ok (.istore_n 2, 1) := by decide +kernel
theorem nd_GM_run_15 : decode nc_GM_run 15 = .ok (.iconst 0, 1) := by decide +kernel
theorem nd_GM_run_16 : decode nc_GM_run 16 = .ok (.istore_n 3, 1) := by decide +kernel
theorem nd_GM_run_17 : decode nc_GM_run 17 = .ok (.iload_n 3, 1) := by decide +kernel
theorem nd_GM_run_18 : decode nc_GM_run 18 = .ok (.iload_n 1, 1) := by decide +kernel
theorem nd_GM_run_19 : decode nc_GM_run 19 = .ok (.if_icmp .ge 41, 3) := by decide +kernel
theorem nd_GM_run_22 : decode nc_GM_run 22 = .ok (.aload_n 0, 1) := by decide +kernel
theorem nd_GM_run_23 : decode nc_GM_run 23 = .ok (.dup, 1) := by decide +kernel
theorem nd_GM_run_24 : decode nc_GM_run 24 = .ok (.getfield 115, 3) := by decide +kernel
theorem nd_GM_run_27 : decode nc_GM_run 27 = .ok (.iconst 1, 1) := by decide +kernel
theorem nd_GM_run_28 : decode nc_GM_run 28 = .ok (.iadd, 1) := by decide +kernel
theorem nd_GM_run_29 : decode nc_GM_run 29 = .ok (.putfield 115, 3) := by decide +kernel
theorem nd_GM_run_32 : decode nc_GM_run 32 = .ok (.aload_n 0, 1) := by decide +kernel
theorem nd_GM_run_33 : decode nc_GM_run 33 = .ok (.invokevirtual 295, 3) := by decide +kernel
theorem nd_GM_run_36 : decode nc_GM_run 36 = .ok (.aload_n 0, 1) := by decide +kernel
theorem nd_GM_run_37 : decode nc_GM_run 37 = .ok (.invokevirtual 298, 3) := by decide +kernel
theorem nd_GM_run_40 : decode nc_GM_run 40 = .ok (.ifCond .eq 14, 3) := by decide +kernel
theorem nd_GM_run_43 : decode nc_GM_run 43 = .ok (.iinc 2 1, 3) := by decide +kernel
theorem nd_GM_run_46 : decode nc_GM_run 46 = .ok (.aload_n 0, 1) := by decide +kernel
theorem nd_GM_run_47 : decode nc_GM_run 47 = .ok (.aload_n 0, 1) := by decide +kernel
theorem nd_GM_run_48 : decode nc_GM_run 48 = .ok (.getfield 16, 3) := by decide +kernel
theorem nd_GM_run_51 : decode nc_GM_run 51 = .ok (.invokevirtual 302, 3) := by decide +kernel
theorem nd_GM_run_54 : decode nc_GM_run 54 = .ok (.iinc 3 1, 3) := by decide +kernel
theorem nd_GM_run_57 : decode nc_GM_run 57 = .ok (.goto (-40), 3) := by decide +kernel
theorem nd_GM_run_60 : decode nc_GM_run 60 = .ok (.iload_n 2, 1) := by decide +kernel
theorem nd_GM_run_61 : decode nc_GM_run 61 = .ok (.ireturn, 1) := by decide +kernel
theorem nd_GM_type_0 : decode nc_GM_type 0 = .ok (.iconst 0, 1) := by decide +kernel
theorem nd_GM_type_1 : decode nc_GM_type 1 = .ok (.istore_n 2, 1) := by decide +kernel
theorem nd_GM_type_2 : decode nc_GM_type 2 = .ok (.iload_n 2, 1) := by decide +kernel
theorem nd_GM_type_3 : decode nc_GM_type 3 = .ok (.aload_n 0, 1) := by decide +kernel
theorem nd_GM_type_4 : decode nc_GM_type 4 = .ok (.getfield 105, 3) := by decide +kernel
theorem nd_GM_type_7 : decode nc_GM_type 7 = .ok (.if_icmp .ge 41, 3) := by decide +kernel
theorem nd_GM_type_10 : decode nc_GM_type 10 = .ok (.aload_n 0, 1) := by decide +kernel
theorem nd_GM_type_11 : decode nc_GM_type 11 = .ok (.getfield 72, 3) := by decide +kernel
theorem nd_GM_type_14 : decode nc_GM_type 14 = .ok (.iconst 3, 1) := by decide +kernel
theorem nd_GM_type_15 : decode nc_GM_type 15 = .ok (.iload_n 2, 1) := by decide +kernel
theorem nd_GM_type_16 : decode nc_GM_type 16 = .ok (.imul, 1) := by decide +kernel
theorem nd_GM_type_17 : decode nc_GM_type 17 = .ok (.iconst 1, 1) := by decide +kernel
theorem nd_GM_type_18 : decode nc_GM_type 18 = .ok (.iadd, 1) := by decide +kernel
theorem nd_GM_type_19 : decode nc_GM_type 19 = .ok (.iaload, 1) := by decide +kernel
theorem nd_GM_type_20 : decode nc_GM_type 20 = .ok (.ifCond .le 22, 3) := by decide +kernel
theorem nd_GM_type_23 : decode nc_GM_type 23 = .ok (.aload_n 0, 1) := by decide +kernel
theorem nd_GM_type_24 : decode nc_GM_type 24 = .ok (.iload_n 2, 1) := by decide +kernel
theorem nd_GM_type_25 : decode nc_GM_type 25 = .ok (.iconst 1, 1) := by decide +kernel
theorem nd_GM_type_26 : decode nc_GM_type 26 = .ok (.iconst 0, 1) := by decide +kernel
theorem nd_GM_type_27 : decode nc_GM_type 27 = .ok (.invokevirtual 267, 3) := by decide +kernel
theorem nd_GM_type_30 : decode nc_GM_type 30 = .ok (.iconst 1, 1) := by decide +kernel
theorem nd_GM_type_31 : decode nc_GM_type 31 = .ok (.if_icmp .ne 11, 3) := by decide +kernel
theorem nd_GM_type_34 : decode nc_GM_type 34 = .ok (.aload_n 0, 1) := by decide +kernel
theorem nd_GM_type_35 : decode nc_GM_type 35 = .ok (.iload_n 2, 1) := by decide +kernel
theorem nd_GM_type_36 : decode nc_GM_type 36 = .ok (.iload_n 1, 1) := by decide +kernel
theorem nd_GM_type_37 : decode nc_GM_type 37 = .ok (.invokevirtual 274, 3) := by decide +kernel
theorem nd_GM_type_40 : decode nc_GM_type 40 = .ok (.iconst 1, 1) := by decide +kernel
theorem nd_GM_type_41 : decode nc_GM_type 41 = .ok (.ireturn, 1) := by decide +kernel
theorem nd_GM_type_42 : decode nc_GM_type 42 = .ok (.iinc 2 1, 3) := by decide +kernel
theorem nd_GM_type_45 : decode nc_GM_type 45 = .ok (.goto (-43), 3) := by decide +kernel
theorem nd_GM_type_48 : decode nc_GM_type 48 = .ok (.aload_n 0, 1) := by decide +kernel
theorem nd_GM_type_49 : decode nc_GM_type 49 = .ok (.getfield 109, 3) := by decide +kernel
theorem nd_GM_type_52 : decode nc_GM_type 52 = .ok (.bipush 8, 2) := by decide +kernel
theorem nd_GM_type_54 : decode nc_GM_type 54 = .ok (.if_icmp .ne 5, 3) := by decide +kernel
theorem nd_GM_type_57 : decode nc_GM_type 57 = .ok (.iconst 0, 1) := by decide +kernel
theorem nd_GM_type_58 : decode nc_GM_type 58 = .ok (.ireturn, 1) := by decide +kernel
theorem nd_GM_type_59 : decode nc_GM_type 59 = .ok (.aload_n 0, 1) := by decide +kernel
theorem nd_GM_type_60 : decode nc_GM_type 60 = .ok (.getfield 99, 3) := by decide +kernel
theorem nd_GM_type_63 : decode nc_GM_type 63 = .ok (.aload_n 0, 1) := by decide +kernel
theorem nd_GM_type_64 : decode nc_GM_type 64 = .ok (.getfield 109, 3) := by decide +kernel
theorem nd_GM_type_67 : decode nc_GM_type 67 = .ok (.iload_n 1, 1) := by decide +kernel
theorem nd_GM_type_68 : decode nc_GM_type 68 = .ok (.iastore, 1) := by decide +kernel
theorem nd_GM_type_69 : decode nc_GM_type 69 = .ok (.aload_n 0, 1) := by decide +kernel
theorem nd_GM_type_70 : decode nc_GM_type 70 = .ok (.dup, 1) := by decide +kernel
theorem nd_GM_type_71 : decode nc_GM_type 71 = .ok (.getfield 109, 3) := by decide +kernel
theorem nd_GM_type_74 : decode nc_GM_type 74 = .ok (.iconst 1, 1) := by decide +kernel
theorem nd_GM_type_75 : decode nc_GM_type 75 = .ok (.iadd, 1) := by decide +kernel
theorem nd_GM_type_76 : decode nc_GM_type 76 = .ok (.putfield 109, 3) := by decide +kernel
theorem nd_GM_type_79 : decode nc_GM_type 79 = .ok (.iconst 1, 1) := by decide +kernel
theorem nd_GM_type_80 : decode nc_GM_type 80 = .ok (.ireturn, 1) := by decide +kernel
theorem nd_GM_sample_0 : decode nc_GM_sample 0 = .ok (.iconst 0, 1) := by decide +kernel
theorem nd_GM_sample_1 : decode nc_GM_sample 1 = .ok (.istore_n 2, 1) := by decide +kernel
theorem nd_GM_sample_2 : decode nc_GM_sample 2 = .ok (.iconst 0, 1) := by decide +kernel
theorem nd_GM_sample_3 : decode nc_GM_sample 3 = .ok (.istore_n 3, 1) := by decide +kernel
theorem nd_GM_sample_4 : decode nc_GM_sample 4 = .ok (.iload_n 3, 1) := by decide +kernel
theorem nd_GM_sample_5 : decode nc_GM_sample 5 = .ok (.aload_n 0, 1) := by decide +kernel
theorem nd_GM_sample_6 : decode nc_GM_sample 6 = .ok (.getfield 105, 3) := by decide +kernel
theorem nd_GM_sample_9 : decode nc_GM_sample 9 = .ok (.if_icmp .ge 73, 3) := by decide +kernel
theorem nd_GM_sample_12 : decode nc_GM_sample 12 = .ok (.aload_n 0, 1) := by decide +kernel
theorem nd_GM_sample_13 : decode nc_GM_sample 13 = .ok (.getfield 72, 3) := by decide +kernel
theorem nd_GM_sample_16 : decode nc_GM_sample 16 = .ok (.iconst 3, 1) := by decide +kernel
theorem nd_GM_sample_17 : decode nc_GM_sample 17 = .ok (.iload_n 3, 1) := by decide +kernel
theorem nd_GM_sample_18 : decode nc_GM_sample 18 = .ok (.imul, 1) := by decide +kernel
theorem nd_GM_sample_19 : decode nc_GM_sample 19 = .ok (.iconst 2, 1) := by decide +kernel
theorem nd_GM_sample_20 : decode nc_GM_sample 20 = .ok (.iadd, 1) := by decide +kernel
theorem nd_GM_sample_21 : decode nc_GM_sample 21 = .ok (.iaload, 1) := by decide +kernel
theorem nd_GM_sample_22 : decode nc_GM_sample 22 = .ok (.ifCond .le 54, 3) := by decide +kernel
theorem nd_GM_sample_25 : decode nc_GM_sample 25 = .ok (.aload_n 0, 1) := by decide +kernel
theorem nd_GM_sample_26 : decode nc_GM_sample 26 = .ok (.iload_n 3, 1) := by decide +kernel
theorem nd_GM_sample_27 : decode nc_GM_sample 27 = .ok (.iconst 2, 1) := by decide +kernel
theorem nd_GM_sample_28 : decode nc_GM_sample 28 = .ok (.iconst 0, 1) := by decide +kernel
theorem nd_GM_sample_29 : decode nc_GM_sample 29 = .ok (.invokevirtual 267, 3) := by decide +kernel
theorem nd_GM_sample_32 : decode nc_GM_sample 32 = .ok (.iconst 1, 1) := by decide +kernel
theorem nd_GM_sample_33 : decode nc_GM_sample 33 = .ok (.if_icmp .ne 43, 3) := by decide +kernel
theorem nd_GM_sample_36 : decode nc_GM_sample 36 = .ok (.aload_n 0, 1) := by decide +kernel
theorem nd_GM_sample_37 : decode nc_GM_sample 37 = .ok (.iload_n 3, 1) := by decide +kernel
theorem nd_GM_sample_38 : decode nc_GM_sample 38 = .ok (.iconst 2, 1) := by decide +kernel
theorem nd_GM_sample_39 : decode nc_GM_sample 39 = .ok (.iconst 1, 1) := by decide +kernel
theorem nd_GM_sample_40 : decode nc_GM_sample 40 = .ok (.invokevirtual 267, 3) := by decide +kernel
theorem nd_GM_sample_43 : decode nc_GM_sample 43 = .ok (.iconst 1, 1) := by decide +kernel
theorem nd_GM_sample_44 : decode nc_GM_sample 44 = .ok (.iadd, 1) := by decide +kernel
theorem nd_GM_sample_45 : decode nc_GM_sample 45 = .ok (.istore 4, 2) := by decide +kernel
theorem nd_GM_sample_47 : decode nc_GM_sample 47 = .ok (.aload_n 0, 1) := by decide +kernel
theorem nd_GM_sample_48 : decode nc_GM_sample 48 = .ok (.iload_n 3, 1) := by decide +kernel
theorem nd_GM_sample_49 : decode nc_GM_sample 49 = .ok (.iconst 2, 1) := by decide +kernel
theorem nd_GM_sample_50 : decode nc_GM_sample 50 = .ok (.iconst 0, 1) := by decide +kernel
theorem nd_GM_sample_51 : decode nc_GM_sample 51 = .ok (.iconst 0, 1) := by decide +kernel
theorem nd_GM_sample_52 : decode nc_GM_sample 52 = .ok (.invokevirtual 245, 3) := by decide +kernel
theorem nd_GM_sample_55 : decode nc_GM_sample 55 = .ok (.aload_n 0, 1) := by decide +kernel
theorem nd_GM_sample_56 : decode nc_GM_sample 56 = .ok (.iload_n 3, 1) := by decide +kernel
theorem nd_GM_sample_57 : decode nc_GM_sample 57 = .ok (.iconst 2, 1) := by decide +kernel
theorem nd_GM_sample_58 : decode nc_GM_sample 58 = .ok (.iconst 1, 1) := by decide +kernel
theorem nd_GM_sample_59 : decode nc_GM_sample 59 = .ok (.iload 4, 2) := by decide +kernel
theorem nd_GM_sample_61 : decode nc_GM_sample 61 = .ok (.invokevirtual 245, 3) := by decide +kernel
theorem nd_GM_sample_64 : decode nc_GM_sample 64 = .ok (.aload_n 0, 1) := by decide +kernel
theorem nd_GM_sample_65 : decode nc_GM_sample 65 = .ok (.iload_n 3, 1) := by decide +kernel
theorem nd_GM_sample_66 : decode nc_GM_sample 66 = .ok (.iconst 2, 1) := by decide +kernel
theorem nd_GM_sample_67 : decode nc_GM_sample 67 = .ok (.iload_n 1, 1) := by decide +kernel
theorem nd_GM_sample_68 : decode nc_GM_sample 68 = .ok (.iload 4, 2) := by decide +kernel
theorem nd_GM_sample_70 : decode nc_GM_sample 70 = .ok (.invokevirtual 277, 3) := by decide +kernel
theorem nd_GM_sample_73 : decode nc_GM_sample 73 = .ok (.iinc 2 1, 3) := by decide +kernel
theorem nd_GM_sample_76 : decode nc_GM_sample 76 = .ok (.iinc 3 1, 3) := by decide +kernel
theorem nd_GM_sample_79 : decode nc_GM_sample 79 = .ok (.goto (-75), 3) := by decide +kernel
theorem nd_GM_sample_82 : decode nc_GM_sample 82 = .ok (.iload_n 2, 1) := by decide +kernel
theorem nd_GM_sample_83 : decode nc_GM_sample 83 = .ok (.ireturn, 1) := by decide +kernel
theorem nd_GM_outputs_0 : decode nc_GM_outputs 0 = .ok (.aload_n 0, 1) := by decide +kernel
theorem nd_GM_outputs_1 : decode nc_GM_outputs 1 = .ok (.getfield 112, 3) := by decide +kernel
theorem nd_GM_outputs_4 : decode nc_GM_outputs 4 = .ok (.ireturn, 1) := by decide +kernel
theorem nd_GM_output_0 : decode nc_GM_output 0 = .ok (.iload_n 1, 1) := by decide +kernel
theorem nd_GM_output_1 : decode nc_GM_output 1 = .ok (.ifCond .lt 17, 3) := by decide +kernel
theorem nd_GM_output_4 : decode nc_GM_output 4 = .ok (.iload_n 1, 1) := by decide +kernel
theorem nd_GM_output_5 : decode nc_GM_output 5 = .ok (.bipush 15, 2) := by decide +kernel
theorem nd_GM_output_7 : decode nc_GM_output 7 = .ok (.if_icmp .gt 11, 3) := by decide +kernel
theorem nd_GM_output_10 : decode nc_GM_output 10 = .ok (.iload_n 1, 1) := by decide +kernel
theorem nd_GM_output_11 : decode nc_GM_output 11 = .ok (.aload_n 0, 1) := by decide +kernel
theorem nd_GM_output_12 : decode nc_GM_output 12 = .ok (.getfield 112, 3) := by decide +kernel
theorem nd_GM_output_15 : decode nc_GM_output 15 = .ok (.if_icmp .lt 7, 3) := by decide +kernel
theorem nd_GM_output_18 : decode nc_GM_output 18 = .ok (.iconst 0, 1) := by decide +kernel
theorem nd_GM_output_19 : decode nc_GM_output 19 = .ok (.goto 19, 3) := by decide +kernel
theorem nd_GM_output_22 : decode nc_GM_output 22 = .ok (.aload_n 0, 1) := by decide +kernel
theorem nd_GM_output_23 : decode nc_GM_output 23 = .ok (.getfield 102, 3) := by decide +kernel
theorem nd_GM_output_26 : decode nc_GM_output 26 = .ok (.aload_n 0, 1) := by decide +kernel
theorem nd_GM_output_27 : decode nc_GM_output 27 = .ok (.getfield 112, 3) := by decide +kernel
theorem nd_GM_output_30 : decode nc_GM_output 30 = .ok (.iconst 1, 1) := by decide +kernel
theorem nd_GM_output_31 : decode nc_GM_output 31 = .ok (.isub, 1) := by decide +kernel
theorem nd_GM_output_32 : decode nc_GM_output 32 = .ok (.iload_n 1, 1) := by decide +kernel
theorem nd_GM_output_33 : decode nc_GM_output 33 = .ok (.isub, 1) := by decide +kernel
theorem nd_GM_output_34 : decode nc_GM_output 34 = .ok (.bipush 15, 2) := by decide +kernel
theorem nd_GM_output_36 : decode nc_GM_output 36 = .ok (.iand, 1) := by decide +kernel
theorem nd_GM_output_37 : decode nc_GM_output 37 = .ok (.iaload, 1) := by decide +kernel
theorem nd_GM_output_38 : decode nc_GM_output 38 = .ok (.ireturn, 1) := by decide +kernel
theorem nd_GM_now_0 : decode nc_GM_now 0 = .ok (.aload_n 0, 1) := by decide +kernel
theorem nd_GM_now_1 : decode nc_GM_now 1 = .ok (.getfield 115, 3) := by decide +kernel
theorem nd_GM_now_4 : decode nc_GM_now 4 = .ok (.ireturn, 1) := by decide +kernel
theorem nd_GM_turn_0 : decode nc_GM_turn 0 = .ok (.aload_n 0, 1) := by decide +kernel
theorem nd_GM_turn_1 : decode nc_GM_turn 1 = .ok (.getfield 16, 3) := by decide +kernel
theorem nd_GM_turn_4 : decode nc_GM_turn 4 = .ok (.ireturn, 1) := by decide +kernel
theorem nd_GM_state_0 : decode nc_GM_state 0 = .ok (.aload_n 0, 1) := by decide +kernel
theorem nd_GM_state_1 : decode nc_GM_state 1 = .ok (.iload_n 1, 1) := by decide +kernel
theorem nd_GM_state_2 : decode nc_GM_state 2 = .ok (.invokevirtual 305, 3) := by decide +kernel
theorem nd_GM_state_5 : decode nc_GM_state 5 = .ok (.ifCond .eq 12, 3) := by decide +kernel
theorem nd_GM_state_8 : decode nc_GM_state 8 = .ok (.aload_n 0, 1) := by decide +kernel
theorem nd_GM_state_9 : decode nc_GM_state 9 = .ok (.getfield 41, 3) := by decide +kernel
theorem nd_GM_state_12 : decode nc_GM_state 12 = .ok (.iload_n 1, 1) := by decide +kernel
theorem nd_GM_state_13 : decode nc_GM_state 13 = .ok (.iaload, 1) := by decide +kernel
theorem nd_GM_state_14 : decode nc_GM_state 14 = .ok (.goto 4, 3) := by decide +kernel
theorem nd_GM_state_17 : decode nc_GM_state 17 = .ok (.iconst (-1), 1) := by decide +kernel
theorem nd_GM_state_18 : decode nc_GM_state 18 = .ok (.ireturn, 1) := by decide +kernel
theorem nd_GM_register_0 : decode nc_GM_register 0 = .ok (.aload_n 0, 1) := by decide +kernel
theorem nd_GM_register_1 : decode nc_GM_register 1 = .ok (.iload_n 1, 1) := by decide +kernel
theorem nd_GM_register_2 : decode nc_GM_register 2 = .ok (.invokevirtual 305, 3) := by decide +kernel
theorem nd_GM_register_5 : decode nc_GM_register 5 = .ok (.ifCond .eq 13, 3) := by decide +kernel
theorem nd_GM_register_8 : decode nc_GM_register 8 = .ok (.iload_n 2, 1) := by decide +kernel
theorem nd_GM_register_9 : decode nc_GM_register 9 = .ok (.ifCond .lt 9, 3) := by decide +kernel
theorem nd_GM_register_12 : decode nc_GM_register 12 = .ok (.iload_n 2, 1) := by decide +kernel
theorem nd_GM_register_13 : decode nc_GM_register 13 = .ok (.bipush 11, 2) := by decide +kernel
theorem nd_GM_register_15 : decode nc_GM_register 15 = .ok (.if_icmp .le 5, 3) := by decide +kernel
theorem nd_GM_register_18 : decode nc_GM_register 18 = .ok (.iconst 0, 1) := by decide +kernel
theorem nd_GM_register_19 : decode nc_GM_register 19 = .ok (.ireturn, 1) := by decide +kernel
theorem nd_GM_register_20 : decode nc_GM_register 20 = .ok (.aload_n 0, 1) := by decide +kernel
theorem nd_GM_register_21 : decode nc_GM_register 21 = .ok (.getfield 47, 3) := by decide +kernel
theorem nd_GM_register_24 : decode nc_GM_register 24 = .ok (.iload_n 1, 1) := by decide +kernel
theorem nd_GM_register_25 : decode nc_GM_register 25 = .ok (.iaload, 1) := by decide +kernel
theorem nd_GM_register_26 : decode nc_GM_register 26 = .ok (.istore_n 3, 1) := by decide +kernel
theorem nd_GM_register_27 : decode nc_GM_register 27 = .ok (.aload_n 0, 1) := by decide +kernel
theorem nd_GM_register_28 : decode nc_GM_register 28 = .ok (.getfield 59, 3) := by decide +kernel
theorem nd_GM_register_31 : decode nc_GM_register 31 = .ok (.iload_n 1, 1) := by decide +kernel
theorem nd_GM_register_32 : decode nc_GM_register 32 = .ok (.baload, 1) := by decide +kernel
theorem nd_GM_register_33 : decode nc_GM_register 33 = .ok (.ifCond .eq 74, 3) := by decide +kernel
theorem nd_GM_register_36 : decode nc_GM_register 36 = .ok (.iload_n 2, 1) := by decide +kernel
theorem nd_GM_register_37 : decode nc_GM_register 37 = .ok (.iconst 4, 1) := by decide +kernel
theorem nd_GM_register_38 : decode nc_GM_register 38 = .ok (.if_icmp .lt 9, 3) := by decide +kernel
theorem nd_GM_register_41 : decode nc_GM_register 41 = .ok (.iload_n 2, 1) := by decide +kernel
theorem nd_GM_register_42 : decode nc_GM_register 42 = .ok (.bipush 8, 2) := by decide +kernel
theorem nd_GM_register_44 : decode nc_GM_register 44 = .ok (.if_icmp .le 63, 3) := by decide +kernel
theorem nd_GM_register_47 : decode nc_GM_register 47 = .ok (.aload_n 0, 1) := by decide +kernel
theorem nd_GM_register_48 : decode nc_GM_register 48 = .ok (.iload_n 3, 1) := by decide +kernel
theorem nd_GM_register_49 : decode nc_GM_register 49 = .ok (.iload_n 2, 1) := by decide +kernel
theorem nd_GM_register_50 : decode nc_GM_register 50 = .ok (.iconst 4, 1) := by decide +kernel
theorem nd_GM_register_51 : decode nc_GM_register 51 = .ok (.if_icmp .ge 9, 3) := by decide +kernel
theorem nd_GM_register_54 : decode nc_GM_register 54 = .ok (.iconst 4, 1) := by decide +kernel
theorem nd_GM_register_55 : decode nc_GM_register 55 = .ok (.iload_n 2, 1) := by decide +kernel
theorem nd_GM_register_56 : decode nc_GM_register 56 = .ok (.imul, 1) := by decide +kernel
theorem nd_GM_register_57 : decode nc_GM_register 57 = .ok (.goto 27, 3) := by decide +kernel
theorem nd_GM_register_60 : decode nc_GM_register 60 = .ok (.iload_n 2, 1) := by decide +kernel
theorem nd_GM_register_61 : decode nc_GM_register 61 = .ok (.bipush 9, 2) := by decide +kernel
theorem nd_GM_register_63 : decode nc_GM_register 63 = .ok (.if_icmp .ne 8, 3) := by decide +kernel
theorem nd_GM_register_66 : decode nc_GM_register 66 = .ok (.bipush 20, 2) := by decide +kernel
theorem nd_GM_register_68 : decode nc_GM_register 68 = .ok (.goto 16, 3) := by decide +kernel
theorem nd_GM_register_71 : decode nc_GM_register 71 = .ok (.iload_n 2, 1) := by decide +kernel
theorem nd_GM_register_72 : decode nc_GM_register 72 = .ok (.bipush 10, 2) := by decide +kernel
theorem nd_GM_register_74 : decode nc_GM_register 74 = .ok (.if_icmp .ne 8, 3) := by decide +kernel
theorem nd_GM_register_77 : decode nc_GM_register 77 = .ok (.bipush 24, 2) := by decide +kernel
theorem nd_GM_register_79 : decode nc_GM_register 79 = .ok (.goto 5, 3) := by decide +kernel
theorem nd_GM_register_82 : decode nc_GM_register 82 = .ok (.bipush 28, 2) := by decide +kernel
theorem nd_GM_register_84 : decode nc_GM_register 84 = .ok (.iadd, 1) := by decide +kernel
theorem nd_GM_register_85 : decode nc_GM_register 85 = .ok (.invokevirtual 172, 3) := by decide +kernel
theorem nd_GM_register_88 : decode nc_GM_register 88 = .ok (.istore 4, 2) := by decide +kernel
theorem nd_GM_register_90 : decode nc_GM_register 90 = .ok (.iload_n 2, 1) := by decide +kernel
theorem nd_GM_register_91 : decode nc_GM_register 91 = .ok (.bipush 11, 2) := by decide +kernel
theorem nd_GM_register_93 : decode nc_GM_register 93 = .ok (.if_icmp .ne 11, 3) := by decide +kernel
theorem nd_GM_register_96 : decode nc_GM_register 96 = .ok (.iload 4, 2) := by decide +kernel
theorem nd_GM_register_98 : decode nc_GM_register 98 = .ok (.bipush 28, 2) := by decide +kernel
theorem nd_GM_register_100 : decode nc_GM_register 100 = .ok (.iushr, 1) := by decide +kernel
theorem nd_GM_register_101 : decode nc_GM_register 101 = .ok (.goto 5, 3) := by decide +kernel
theorem nd_GM_register_104 : decode nc_GM_register 104 = .ok (.iload 4, 2) := by decide +kernel
theorem nd_GM_register_106 : decode nc_GM_register 106 = .ok (.ireturn, 1) := by decide +kernel
theorem nd_GM_register_107 : decode nc_GM_register 107 = .ok (.iload_n 2, 1) := by decide +kernel
theorem nd_GM_register_108 : decode nc_GM_register 108 = .ok (.bipush 8, 2) := by decide +kernel
theorem nd_GM_register_110 : decode nc_GM_register 110 = .ok (.if_icmp .ge 17, 3) := by decide +kernel
theorem nd_GM_register_113 : decode nc_GM_register 113 = .ok (.aload_n 0, 1) := by decide +kernel
theorem nd_GM_register_114 : decode nc_GM_register 114 = .ok (.getfield 44, 3) := by decide +kernel
theorem nd_GM_register_117 : decode nc_GM_register 117 = .ok (.bipush 8, 2) := by decide +kernel
theorem nd_GM_register_119 : decode nc_GM_register 119 = .ok (.iload_n 1, 1) := by decide +kernel
theorem nd_GM_register_120 : decode nc_GM_register 120 = .ok (.imul, 1) := by decide +kernel
theorem nd_GM_register_121 : decode nc_GM_register 121 = .ok (.iload_n 2, 1) := by decide +kernel
theorem nd_GM_register_122 : decode nc_GM_register 122 = .ok (.iadd, 1) := by decide +kernel
theorem nd_GM_register_123 : decode nc_GM_register 123 = .ok (.iaload, 1) := by decide +kernel
theorem nd_GM_register_124 : decode nc_GM_register 124 = .ok (.goto 49, 3) := by decide +kernel
theorem nd_GM_register_127 : decode nc_GM_register 127 = .ok (.iload_n 2, 1) := by decide +kernel
theorem nd_GM_register_128 : decode nc_GM_register 128 = .ok (.bipush 8, 2) := by decide +kernel
theorem nd_GM_register_130 : decode nc_GM_register 130 = .ok (.if_icmp .ne 7, 3) := by decide +kernel
theorem nd_GM_register_133 : decode nc_GM_register 133 = .ok (.iload_n 3, 1) := by decide +kernel
theorem nd_GM_register_134 : decode nc_GM_register 134 = .ok (.goto 39, 3) := by decide +kernel
theorem nd_GM_register_137 : decode nc_GM_register 137 = .ok (.iload_n 2, 1) := by decide +kernel
theorem nd_GM_register_138 : decode nc_GM_register 138 = .ok (.bipush 9, 2) := by decide +kernel
theorem nd_GM_register_140 : decode nc_GM_register 140 = .ok (.if_icmp .ne 12, 3) := by decide +kernel
theorem nd_GM_register_143 : decode nc_GM_register 143 = .ok (.aload_n 0, 1) := by decide +kernel
theorem nd_GM_register_144 : decode nc_GM_register 144 = .ok (.getfield 50, 3) := by decide +kernel
theorem nd_GM_register_147 : decode nc_GM_register 147 = .ok (.iload_n 1, 1) := by decide +kernel
theorem nd_GM_register_148 : decode nc_GM_register 148 = .ok (.iaload, 1) := by decide +kernel
theorem nd_GM_register_149 : decode nc_GM_register 149 = .ok (.goto 24, 3) := by decide +kernel
theorem nd_GM_register_152 : decode nc_GM_register 152 = .ok (.iload_n 2, 1) := by decide +kernel
theorem nd_GM_register_153 : decode nc_GM_register 153 = .ok (.bipush 10, 2) := by decide +kernel
theorem nd_GM_register_155 : decode nc_GM_register 155 = .ok (.if_icmp .ne 12, 3) := by decide +kernel
theorem nd_GM_register_158 : decode nc_GM_register 158 = .ok (.aload_n 0, 1) := by decide +kernel
theorem nd_GM_register_159 : decode nc_GM_register 159 = .ok (.getfield 53, 3) := by decide +kernel
theorem nd_GM_register_162 : decode nc_GM_register 162 = .ok (.iload_n 1, 1) := by decide +kernel
theorem nd_GM_register_163 : decode nc_GM_register 163 = .ok (.iaload, 1) := by decide +kernel
theorem nd_GM_register_164 : decode nc_GM_register 164 = .ok (.goto 9, 3) := by decide +kernel
theorem nd_GM_register_167 : decode nc_GM_register 167 = .ok (.aload_n 0, 1) := by decide +kernel
theorem nd_GM_register_168 : decode nc_GM_register 168 = .ok (.getfield 56, 3) := by decide +kernel
theorem nd_GM_register_171 : decode nc_GM_register 171 = .ok (.iload_n 1, 1) := by decide +kernel
theorem nd_GM_register_172 : decode nc_GM_register 172 = .ok (.iaload, 1) := by decide +kernel
theorem nd_GM_register_173 : decode nc_GM_register 173 = .ok (.ireturn, 1) := by decide +kernel
theorem nd_GM_word_0 : decode nc_GM_word 0 = .ok (.iload_n 1, 1) := by decide +kernel
