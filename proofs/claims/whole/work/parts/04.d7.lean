theorem nd_GM_word_1 : decode nc_GM_word 1 = .ok (.ifCond .lt 9, 3) := by decide +kernel
theorem nd_GM_word_4 : decode nc_GM_word 4 = .ok (.iload_n 1, 1) := by decide +kernel
theorem nd_GM_word_5 : decode nc_GM_word 5 = .ok (.bipush 127, 2) := by decide +kernel
theorem nd_GM_word_7 : decode nc_GM_word 7 = .ok (.if_icmp .le 7, 3) := by decide +kernel
theorem nd_GM_word_10 : decode nc_GM_word 10 = .ok (.iconst 0, 1) := by decide +kernel
theorem nd_GM_word_11 : decode nc_GM_word 11 = .ok (.goto 9, 3) := by decide +kernel
theorem nd_GM_word_14 : decode nc_GM_word 14 = .ok (.aload_n 0, 1) := by decide +kernel
theorem nd_GM_word_15 : decode nc_GM_word 15 = .ok (.getfield 13, 3) := by decide +kernel
theorem nd_GM_word_18 : decode nc_GM_word 18 = .ok (.iload_n 1, 1) := by decide +kernel
theorem nd_GM_word_19 : decode nc_GM_word 19 = .ok (.iaload, 1) := by decide +kernel
theorem nd_GM_word_20 : decode nc_GM_word 20 = .ok (.ireturn, 1) := by decide +kernel
theorem nd_GM_block_0 : decode nc_GM_block 0 = .ok (.aload_n 0, 1) := by decide +kernel
theorem nd_GM_block_1 : decode nc_GM_block 1 = .ok (.iload_n 1, 1) := by decide +kernel
theorem nd_GM_block_2 : decode nc_GM_block 2 = .ok (.invokevirtual 305, 3) := by decide +kernel
theorem nd_GM_block_5 : decode nc_GM_block 5 = .ok (.ifCond .eq 18, 3) := by decide +kernel
theorem nd_GM_block_8 : decode nc_GM_block 8 = .ok (.sipush 4096, 3) := by decide +kernel
theorem nd_GM_block_11 : decode nc_GM_block 11 = .ok (.iconst 4, 1) := by decide +kernel
theorem nd_GM_block_12 : decode nc_GM_block 12 = .ok (.aload_n 0, 1) := by decide +kernel
theorem nd_GM_block_13 : decode nc_GM_block 13 = .ok (.getfield 26, 3) := by decide +kernel
theorem nd_GM_block_16 : decode nc_GM_block 16 = .ok (.iload_n 1, 1) := by decide +kernel
theorem nd_GM_block_17 : decode nc_GM_block 17 = .ok (.iaload, 1) := by decide +kernel
theorem nd_GM_block_18 : decode nc_GM_block 18 = .ok (.imul, 1) := by decide +kernel
theorem nd_GM_block_19 : decode nc_GM_block 19 = .ok (.iadd, 1) := by decide +kernel
theorem nd_GM_block_20 : decode nc_GM_block 20 = .ok (.goto 4, 3) := by decide +kernel
theorem nd_GM_block_23 : decode nc_GM_block 23 = .ok (.iconst (-1), 1) := by decide +kernel
theorem nd_GM_block_24 : decode nc_GM_block 24 = .ok (.ireturn, 1) := by decide +kernel
theorem nd_GM_open_0 : decode nc_GM_open 0 = .ok (.aload_n 0, 1) := by decide +kernel
theorem nd_GM_open_1 : decode nc_GM_open 1 = .ok (.iload_n 1, 1) := by decide +kernel
theorem nd_GM_open_2 : decode nc_GM_open 2 = .ok (.invokevirtual 305, 3) := by decide +kernel
theorem nd_GM_open_5 : decode nc_GM_open 5 = .ok (.ifCond .eq 16, 3) := by decide +kernel
theorem nd_GM_open_8 : decode nc_GM_open 8 = .ok (.aload_n 0, 1) := by decide +kernel
theorem nd_GM_open_9 : decode nc_GM_open 9 = .ok (.iload_n 1, 1) := by decide +kernel
theorem nd_GM_open_10 : decode nc_GM_open 10 = .ok (.aload_n 0, 1) := by decide +kernel
theorem nd_GM_open_11 : decode nc_GM_open 11 = .ok (.iload_n 1, 1) := by decide +kernel
theorem nd_GM_open_12 : decode nc_GM_open 12 = .ok (.invokevirtual 142, 3) := by decide +kernel
theorem nd_GM_open_15 : decode nc_GM_open 15 = .ok (.invokevirtual 146, 3) := by decide +kernel
theorem nd_GM_open_18 : decode nc_GM_open 18 = .ok (.goto 4, 3) := by decide +kernel
theorem nd_GM_open_21 : decode nc_GM_open 21 = .ok (.iconst (-1), 1) := by decide +kernel
theorem nd_GM_open_22 : decode nc_GM_open 22 = .ok (.ireturn, 1) := by decide +kernel
theorem nd_GM_grant_0 : decode nc_GM_grant 0 = .ok (.aload_n 0, 1) := by decide +kernel
theorem nd_GM_grant_1 : decode nc_GM_grant 1 = .ok (.iload_n 1, 1) := by decide +kernel
theorem nd_GM_grant_2 : decode nc_GM_grant 2 = .ok (.invokevirtual 305, 3) := by decide +kernel
theorem nd_GM_grant_5 : decode nc_GM_grant 5 = .ok (.ifCond .eq 34, 3) := by decide +kernel
theorem nd_GM_grant_8 : decode nc_GM_grant 8 = .ok (.iload_n 2, 1) := by decide +kernel
theorem nd_GM_grant_9 : decode nc_GM_grant 9 = .ok (.ifCond .lt 30, 3) := by decide +kernel
theorem nd_GM_grant_12 : decode nc_GM_grant 12 = .ok (.iload_n 2, 1) := by decide +kernel
theorem nd_GM_grant_13 : decode nc_GM_grant 13 = .ok (.iconst 2, 1) := by decide +kernel
theorem nd_GM_grant_14 : decode nc_GM_grant 14 = .ok (.if_icmp .gt 25, 3) := by decide +kernel
theorem nd_GM_grant_17 : decode nc_GM_grant 17 = .ok (.aload_n 0, 1) := by decide +kernel
theorem nd_GM_grant_18 : decode nc_GM_grant 18 = .ok (.getfield 72, 3) := by decide +kernel
theorem nd_GM_grant_21 : decode nc_GM_grant 21 = .ok (.iconst 3, 1) := by decide +kernel
theorem nd_GM_grant_22 : decode nc_GM_grant 22 = .ok (.iload_n 1, 1) := by decide +kernel
theorem nd_GM_grant_23 : decode nc_GM_grant 23 = .ok (.imul, 1) := by decide +kernel
theorem nd_GM_grant_24 : decode nc_GM_grant 24 = .ok (.iload_n 2, 1) := by decide +kernel
theorem nd_GM_grant_25 : decode nc_GM_grant 25 = .ok (.iadd, 1) := by decide +kernel
theorem nd_GM_grant_26 : decode nc_GM_grant 26 = .ok (.iaload, 1) := by decide +kernel
theorem nd_GM_grant_27 : decode nc_GM_grant 27 = .ok (.ifCond .le 12, 3) := by decide +kernel
theorem nd_GM_grant_30 : decode nc_GM_grant 30 = .ok (.aload_n 0, 1) := by decide +kernel
theorem nd_GM_grant_31 : decode nc_GM_grant 31 = .ok (.iload_n 1, 1) := by decide +kernel
theorem nd_GM_grant_32 : decode nc_GM_grant 32 = .ok (.iload_n 2, 1) := by decide +kernel
theorem nd_GM_grant_33 : decode nc_GM_grant 33 = .ok (.invokevirtual 242, 3) := by decide +kernel
theorem nd_GM_grant_36 : decode nc_GM_grant 36 = .ok (.goto 4, 3) := by decide +kernel
theorem nd_GM_grant_39 : decode nc_GM_grant 39 = .ok (.iconst (-1), 1) := by decide +kernel
theorem nd_GM_grant_40 : decode nc_GM_grant 40 = .ok (.ireturn, 1) := by decide +kernel
theorem nd_GM_queued_0 : decode nc_GM_queued 0 = .ok (.aload_n 0, 1) := by decide +kernel
theorem nd_GM_queued_1 : decode nc_GM_queued 1 = .ok (.iload_n 1, 1) := by decide +kernel
theorem nd_GM_queued_2 : decode nc_GM_queued 2 = .ok (.invokevirtual 305, 3) := by decide +kernel
theorem nd_GM_queued_5 : decode nc_GM_queued 5 = .ok (.ifCond .eq 11, 3) := by decide +kernel
theorem nd_GM_queued_8 : decode nc_GM_queued 8 = .ok (.aload_n 0, 1) := by decide +kernel
theorem nd_GM_queued_9 : decode nc_GM_queued 9 = .ok (.iload_n 1, 1) := by decide +kernel
theorem nd_GM_queued_10 : decode nc_GM_queued 10 = .ok (.invokevirtual 280, 3) := by decide +kernel
theorem nd_GM_queued_13 : decode nc_GM_queued 13 = .ok (.goto 4, 3) := by decide +kernel
theorem nd_GM_queued_16 : decode nc_GM_queued 16 = .ok (.iconst (-1), 1) := by decide +kernel
theorem nd_GM_queued_17 : decode nc_GM_queued 17 = .ok (.ireturn, 1) := by decide +kernel
theorem nd_GM_fault_0 : decode nc_GM_fault 0 = .ok (.aload_n 0, 1) := by decide +kernel
theorem nd_GM_fault_1 : decode nc_GM_fault 1 = .ok (.iload_n 1, 1) := by decide +kernel
theorem nd_GM_fault_2 : decode nc_GM_fault 2 = .ok (.invokevirtual 305, 3) := by decide +kernel
theorem nd_GM_fault_5 : decode nc_GM_fault 5 = .ok (.ifCond .eq 12, 3) := by decide +kernel
theorem nd_GM_fault_8 : decode nc_GM_fault 8 = .ok (.aload_n 0, 1) := by decide +kernel
theorem nd_GM_fault_9 : decode nc_GM_fault 9 = .ok (.getfield 63, 3) := by decide +kernel
theorem nd_GM_fault_12 : decode nc_GM_fault 12 = .ok (.iload_n 1, 1) := by decide +kernel
theorem nd_GM_fault_13 : decode nc_GM_fault 13 = .ok (.iaload, 1) := by decide +kernel
theorem nd_GM_fault_14 : decode nc_GM_fault 14 = .ok (.goto 4, 3) := by decide +kernel
theorem nd_GM_fault_17 : decode nc_GM_fault 17 = .ok (.iconst (-1), 1) := by decide +kernel
theorem nd_GM_fault_18 : decode nc_GM_fault 18 = .ok (.ireturn, 1) := by decide +kernel
theorem nd_GM_faults_0 : decode nc_GM_faults 0 = .ok (.aload_n 0, 1) := by decide +kernel
theorem nd_GM_faults_1 : decode nc_GM_faults 1 = .ok (.iload_n 1, 1) := by decide +kernel
theorem nd_GM_faults_2 : decode nc_GM_faults 2 = .ok (.invokevirtual 305, 3) := by decide +kernel
theorem nd_GM_faults_5 : decode nc_GM_faults 5 = .ok (.ifCond .eq 12, 3) := by decide +kernel
theorem nd_GM_faults_8 : decode nc_GM_faults 8 = .ok (.aload_n 0, 1) := by decide +kernel
theorem nd_GM_faults_9 : decode nc_GM_faults 9 = .ok (.getfield 66, 3) := by decide +kernel
theorem nd_GM_faults_12 : decode nc_GM_faults 12 = .ok (.iload_n 1, 1) := by decide +kernel
theorem nd_GM_faults_13 : decode nc_GM_faults 13 = .ok (.iaload, 1) := by decide +kernel
theorem nd_GM_faults_14 : decode nc_GM_faults 14 = .ok (.goto 4, 3) := by decide +kernel
theorem nd_GM_faults_17 : decode nc_GM_faults 17 = .ok (.iconst (-1), 1) := by decide +kernel
theorem nd_GM_faults_18 : decode nc_GM_faults 18 = .ok (.ireturn, 1) := by decide +kernel
theorem nd_GM_restart_0 : decode nc_GM_restart 0 = .ok (.aload_n 0, 1) := by decide +kernel
theorem nd_GM_restart_1 : decode nc_GM_restart 1 = .ok (.iload_n 1, 1) := by decide +kernel
theorem nd_GM_restart_2 : decode nc_GM_restart 2 = .ok (.invokevirtual 305, 3) := by decide +kernel
theorem nd_GM_restart_5 : decode nc_GM_restart 5 = .ok (.ifCond .ne 5, 3) := by decide +kernel
theorem nd_GM_restart_8 : decode nc_GM_restart 8 = .ok (.iconst 0, 1) := by decide +kernel
theorem nd_GM_restart_9 : decode nc_GM_restart 9 = .ok (.ireturn, 1) := by decide +kernel
theorem nd_GM_restart_10 : decode nc_GM_restart 10 = .ok (.aload_n 0, 1) := by decide +kernel
theorem nd_GM_restart_11 : decode nc_GM_restart 11 = .ok (.iload_n 1, 1) := by decide +kernel
theorem nd_GM_restart_12 : decode nc_GM_restart 12 = .ok (.invokevirtual 128, 3) := by decide +kernel
theorem nd_GM_restart_15 : decode nc_GM_restart 15 = .ok (.iconst 1, 1) := by decide +kernel
theorem nd_GM_restart_16 : decode nc_GM_restart 16 = .ok (.ireturn, 1) := by decide +kernel
theorem nd_GM_stop_0 : decode nc_GM_stop 0 = .ok (.aload_n 0, 1) := by decide +kernel
theorem nd_GM_stop_1 : decode nc_GM_stop 1 = .ok (.iload_n 1, 1) := by decide +kernel
theorem nd_GM_stop_2 : decode nc_GM_stop 2 = .ok (.invokevirtual 305, 3) := by decide +kernel
theorem nd_GM_stop_5 : decode nc_GM_stop 5 = .ok (.ifCond .eq 13, 3) := by decide +kernel
theorem nd_GM_stop_8 : decode nc_GM_stop 8 = .ok (.aload_n 0, 1) := by decide +kernel
theorem nd_GM_stop_9 : decode nc_GM_stop 9 = .ok (.getfield 41, 3) := by decide +kernel
theorem nd_GM_stop_12 : decode nc_GM_stop 12 = .ok (.iload_n 1, 1) := by decide +kernel
theorem nd_GM_stop_13 : decode nc_GM_stop 13 = .ok (.iaload, 1) := by decide +kernel
theorem nd_GM_stop_14 : decode nc_GM_stop 14 = .ok (.iconst 2, 1) := by decide +kernel
theorem nd_GM_stop_15 : decode nc_GM_stop 15 = .ok (.if_icmp .ne 5, 3) := by decide +kernel
theorem nd_GM_stop_18 : decode nc_GM_stop 18 = .ok (.iconst 0, 1) := by decide +kernel
theorem nd_GM_stop_19 : decode nc_GM_stop 19 = .ok (.ireturn, 1) := by decide +kernel
theorem nd_GM_stop_20 : decode nc_GM_stop 20 = .ok (.aload_n 0, 1) := by decide +kernel
theorem nd_GM_stop_21 : decode nc_GM_stop 21 = .ok (.iload_n 1, 1) := by decide +kernel
theorem nd_GM_stop_22 : decode nc_GM_stop 22 = .ok (.invokevirtual 283, 3) := by decide +kernel
theorem nd_GM_stop_25 : decode nc_GM_stop 25 = .ok (.iconst 1, 1) := by decide +kernel
theorem nd_GM_stop_26 : decode nc_GM_stop 26 = .ok (.ireturn, 1) := by decide +kernel
theorem nd_GL_law_0 : decode code 0 = .ok (.new 7, 3) := by decide +kernel
theorem nd_GL_law_3 : decode code 3 = .ok (.dup, 1) := by decide +kernel
theorem nd_GL_law_4 : decode code 4 = .ok (.invokespecial 9, 3) := by decide +kernel
theorem nd_GL_law_7 : decode code 7 = .ok (.astore_n 1, 1) := by decide +kernel
theorem nd_GL_law_8 : decode code 8 = .ok (.new 10, 3) := by decide +kernel
theorem nd_GL_law_11 : decode code 11 = .ok (.dup, 1) := by decide +kernel
theorem nd_GL_law_12 : decode code 12 = .ok (.invokespecial 12, 3) := by decide +kernel
theorem nd_GL_law_15 : decode code 15 = .ok (.astore_n 2, 1) := by decide +kernel
theorem nd_GL_law_16 : decode code 16 = .ok (.iconst 0, 1) := by decide +kernel
theorem nd_GL_law_17 : decode code 17 = .ok (.istore_n 3, 1) := by decide +kernel
theorem nd_GL_law_18 : decode code 18 = .ok (.iload_n 3, 1) := by decide +kernel
theorem nd_GL_law_19 : decode code 19 = .ok (.aload_n 0, 1) := by decide +kernel
theorem nd_GL_law_20 : decode code 20 = .ok (.arraylength, 1) := by decide +kernel
theorem nd_GL_law_21 : decode code 21 = .ok (.iconst 3, 1) := by decide +kernel
theorem nd_GL_law_22 : decode code 22 = .ok (.isub, 1) := by decide +kernel
theorem nd_GL_law_23 : decode code 23 = .ok (.if_icmp .gt 561, 3) := by decide +kernel
theorem nd_GL_law_26 : decode code 26 = .ok (.aload_n 0, 1) := by decide +kernel
theorem nd_GL_law_27 : decode code 27 = .ok (.iload_n 3, 1) := by decide +kernel
theorem nd_GL_law_28 : decode code 28 = .ok (.iaload, 1) := by decide +kernel
theorem nd_GL_law_29 : decode code 29 = .ok (.bipush 31, 2) := by decide +kernel
theorem nd_GL_law_31 : decode code 31 = .ok (.iand, 1) := by decide +kernel
theorem nd_GL_law_32 : decode code 32 = .ok (.tableswitch 546 0 19 #[96, 129, 142, 165, 188, 211, 224, 247, 260, 273, 296, 329, 352, 375, 398, 431, 454, 477, 500, 523], 96) := by decide +kernel
theorem nd_GL_law_128 : decode code 128 = .ok (.aload_n 1, 1) := by decide +kernel
theorem nd_GL_law_129 : decode code 129 = .ok (.aload_n 0, 1) := by decide +kernel
theorem nd_GL_law_130 : decode code 130 = .ok (.iload_n 3, 1) := by decide +kernel
theorem nd_GL_law_131 : decode code 131 = .ok (.iconst 1, 1) := by decide +kernel
theorem nd_GL_law_132 : decode code 132 = .ok (.iadd, 1) := by decide +kernel
theorem nd_GL_law_133 : decode code 133 = .ok (.iaload, 1) := by decide +kernel
theorem nd_GL_law_134 : decode code 134 = .ok (.aload_n 0, 1) := by decide +kernel
theorem nd_GL_law_135 : decode code 135 = .ok (.iload_n 3, 1) := by decide +kernel
theorem nd_GL_law_136 : decode code 136 = .ok (.iconst 2, 1) := by decide +kernel
theorem nd_GL_law_137 : decode code 137 = .ok (.iadd, 1) := by decide +kernel
theorem nd_GL_law_138 : decode code 138 = .ok (.iaload, 1) := by decide +kernel
theorem nd_GL_law_139 : decode code 139 = .ok (.invokevirtual 13, 3) := by decide +kernel
theorem nd_GL_law_142 : decode code 142 = .ok (.aload_n 2, 1) := by decide +kernel
theorem nd_GL_law_143 : decode code 143 = .ok (.aload_n 0, 1) := by decide +kernel
theorem nd_GL_law_144 : decode code 144 = .ok (.iload_n 3, 1) := by decide +kernel
theorem nd_GL_law_145 : decode code 145 = .ok (.iconst 1, 1) := by decide +kernel
theorem nd_GL_law_146 : decode code 146 = .ok (.iadd, 1) := by decide +kernel
theorem nd_GL_law_147 : decode code 147 = .ok (.iaload, 1) := by decide +kernel
theorem nd_GL_law_148 : decode code 148 = .ok (.aload_n 0, 1) := by decide +kernel
theorem nd_GL_law_149 : decode code 149 = .ok (.iload_n 3, 1) := by decide +kernel
theorem nd_GL_law_150 : decode code 150 = .ok (.iconst 2, 1) := by decide +kernel
theorem nd_GL_law_151 : decode code 151 = .ok (.iadd, 1) := by decide +kernel
theorem nd_GL_law_152 : decode code 152 = .ok (.iaload, 1) := by decide +kernel
theorem nd_GL_law_153 : decode code 153 = .ok (.invokevirtual 17, 3) := by decide +kernel
theorem nd_GL_law_156 : decode code 156 = .ok (.if_icmp .eq 422, 3) := by decide +kernel
theorem nd_GL_law_159 : decode code 159 = .ok (.iconst 0, 1) := by decide +kernel
theorem nd_GL_law_160 : decode code 160 = .ok (.ireturn, 1) := by decide +kernel
theorem nd_GL_law_161 : decode code 161 = .ok (.aload_n 1, 1) := by decide +kernel
theorem nd_GL_law_162 : decode code 162 = .ok (.invokevirtual 18, 3) := by decide +kernel
theorem nd_GL_law_165 : decode code 165 = .ok (.aload_n 2, 1) := by decide +kernel
theorem nd_GL_law_166 : decode code 166 = .ok (.invokevirtual 22, 3) := by decide +kernel
theorem nd_GL_law_169 : decode code 169 = .ok (.if_icmp .eq 409, 3) := by decide +kernel
theorem nd_GL_law_172 : decode code 172 = .ok (.iconst 0, 1) := by decide +kernel
theorem nd_GL_law_173 : decode code 173 = .ok (.ireturn, 1) := by decide +kernel
theorem nd_GL_law_174 : decode code 174 = .ok (.aload_n 1, 1) := by decide +kernel
theorem nd_GL_law_175 : decode code 175 = .ok (.aload_n 0, 1) := by decide +kernel
theorem nd_GL_law_176 : decode code 176 = .ok (.iload_n 3, 1) := by decide +kernel
theorem nd_GL_law_177 : decode code 177 = .ok (.iconst 1, 1) := by decide +kernel
theorem nd_GL_law_178 : decode code 178 = .ok (.iadd, 1) := by decide +kernel
theorem nd_GL_law_179 : decode code 179 = .ok (.iaload, 1) := by decide +kernel
theorem nd_GL_law_180 : decode code 180 = .ok (.invokevirtual 23, 3) := by decide +kernel
theorem nd_GL_law_183 : decode code 183 = .ok (.aload_n 2, 1) := by decide +kernel
theorem nd_GL_law_184 : decode code 184 = .ok (.aload_n 0, 1) := by decide +kernel
theorem nd_GL_law_185 : decode code 185 = .ok (.iload_n 3, 1) := by decide +kernel
theorem nd_GL_law_186 : decode code 186 = .ok (.iconst 1, 1) := by decide +kernel
theorem nd_GL_law_187 : decode code 187 = .ok (.iadd, 1) := by decide +kernel
theorem nd_GL_law_188 : decode code 188 = .ok (.iaload, 1) := by decide +kernel
theorem nd_GL_law_189 : decode code 189 = .ok (.invokevirtual 27, 3) := by decide +kernel
theorem nd_GL_law_192 : decode code 192 = .ok (.if_icmp .eq 386, 3) := by decide +kernel
theorem nd_GL_law_195 : decode code 195 = .ok (.iconst 0, 1) := by decide +kernel
theorem nd_GL_law_196 : decode code 196 = .ok (.ireturn, 1) := by decide +kernel
theorem nd_GL_law_197 : decode code 197 = .ok (.aload_n 1, 1) := by decide +kernel
theorem nd_GL_law_198 : decode code 198 = .ok (.aload_n 0, 1) := by decide +kernel
theorem nd_GL_law_199 : decode code 199 = .ok (.iload_n 3, 1) := by decide +kernel
theorem nd_GL_law_200 : decode code 200 = .ok (.iconst 1, 1) := by decide +kernel
theorem nd_GL_law_201 : decode code 201 = .ok (.iadd, 1) := by decide +kernel
theorem nd_GL_law_202 : decode code 202 = .ok (.iaload, 1) := by decide +kernel
theorem nd_GL_law_203 : decode code 203 = .ok (.invokevirtual 28, 3) := by decide +kernel
theorem nd_GL_law_206 : decode code 206 = .ok (.aload_n 2, 1) := by decide +kernel
theorem nd_GL_law_207 : decode code 207 = .ok (.aload_n 0, 1) := by decide +kernel
theorem nd_GL_law_208 : decode code 208 = .ok (.iload_n 3, 1) := by decide +kernel
theorem nd_GL_law_209 : decode code 209 = .ok (.iconst 1, 1) := by decide +kernel
theorem nd_GL_law_210 : decode code 210 = .ok (.iadd, 1) := by decide +kernel
theorem nd_GL_law_211 : decode code 211 = .ok (.iaload, 1) := by decide +kernel
theorem nd_GL_law_212 : decode code 212 = .ok (.invokevirtual 32, 3) := by decide +kernel
theorem nd_GL_law_215 : decode code 215 = .ok (.if_icmp .eq 363, 3) := by decide +kernel
theorem nd_GL_law_218 : decode code 218 = .ok (.iconst 0, 1) := by decide +kernel
theorem nd_GL_law_219 : decode code 219 = .ok (.ireturn, 1) := by decide +kernel
theorem nd_GL_law_220 : decode code 220 = .ok (.aload_n 1, 1) := by decide +kernel
theorem nd_GL_law_221 : decode code 221 = .ok (.aload_n 0, 1) := by decide +kernel
theorem nd_GL_law_222 : decode code 222 = .ok (.iload_n 3, 1) := by decide +kernel
theorem nd_GL_law_223 : decode code 223 = .ok (.iconst 1, 1) := by decide +kernel
theorem nd_GL_law_224 : decode code 224 = .ok (.iadd, 1) := by decide +kernel
theorem nd_GL_law_225 : decode code 225 = .ok (.iaload, 1) := by decide +kernel
theorem nd_GL_law_226 : decode code 226 = .ok (.invokevirtual 33, 3) := by decide +kernel
theorem nd_GL_law_229 : decode code 229 = .ok (.aload_n 2, 1) := by decide +kernel
theorem nd_GL_law_230 : decode code 230 = .ok (.aload_n 0, 1) := by decide +kernel
theorem nd_GL_law_231 : decode code 231 = .ok (.iload_n 3, 1) := by decide +kernel
theorem nd_GL_law_232 : decode code 232 = .ok (.iconst 1, 1) := by decide +kernel
theorem nd_GL_law_233 : decode code 233 = .ok (.iadd, 1) := by decide +kernel
theorem nd_GL_law_234 : decode code 234 = .ok (.iaload, 1) := by decide +kernel
theorem nd_GL_law_235 : decode code 235 = .ok (.invokevirtual 36, 3) := by decide +kernel
theorem nd_GL_law_238 : decode code 238 = .ok (.if_icmp .eq 340, 3) := by decide +kernel
theorem nd_GL_law_241 : decode code 241 = .ok (.iconst 0, 1) := by decide +kernel
theorem nd_GL_law_242 : decode code 242 = .ok (.ireturn, 1) := by decide +kernel
theorem nd_GL_law_243 : decode code 243 = .ok (.aload_n 1, 1) := by decide +kernel
theorem nd_GL_law_244 : decode code 244 = .ok (.invokevirtual 37, 3) := by decide +kernel
theorem nd_GL_law_247 : decode code 247 = .ok (.aload_n 2, 1) := by decide +kernel
theorem nd_GL_law_248 : decode code 248 = .ok (.invokevirtual 40, 3) := by decide +kernel
theorem nd_GL_law_251 : decode code 251 = .ok (.if_icmp .eq 327, 3) := by decide +kernel
theorem nd_GL_law_254 : decode code 254 = .ok (.iconst 0, 1) := by decide +kernel
theorem nd_GL_law_255 : decode code 255 = .ok (.ireturn, 1) := by decide +kernel
theorem nd_GL_law_256 : decode code 256 = .ok (.aload_n 1, 1) := by decide +kernel
theorem nd_GL_law_257 : decode code 257 = .ok (.aload_n 0, 1) := by decide +kernel
theorem nd_GL_law_258 : decode code 258 = .ok (.iload_n 3, 1) := by decide +kernel
theorem nd_GL_law_259 : decode code 259 = .ok (.iconst 1, 1) := by decide +kernel
theorem nd_GL_law_260 : decode code 260 = .ok (.iadd, 1) := by decide +kernel
theorem nd_GL_law_261 : decode code 261 = .ok (.iaload, 1) := by decide +kernel
theorem nd_GL_law_262 : decode code 262 = .ok (.invokevirtual 41, 3) := by decide +kernel
theorem nd_GL_law_265 : decode code 265 = .ok (.aload_n 2, 1) := by decide +kernel
theorem nd_GL_law_266 : decode code 266 = .ok (.aload_n 0, 1) := by decide +kernel
theorem nd_GL_law_267 : decode code 267 = .ok (.iload_n 3, 1) := by decide +kernel
theorem nd_GL_law_268 : decode code 268 = .ok (.iconst 1, 1) := by decide +kernel
theorem nd_GL_law_269 : decode code 269 = .ok (.iadd, 1) := by decide +kernel
theorem nd_GL_law_270 : decode code 270 = .ok (.iaload, 1) := by decide +kernel
theorem nd_GL_law_271 : decode code 271 = .ok (.invokevirtual 44, 3) := by decide +kernel
theorem nd_GL_law_274 : decode code 274 = .ok (.if_icmp .eq 304, 3) := by decide +kernel
theorem nd_GL_law_277 : decode code 277 = .ok (.iconst 0, 1) := by decide +kernel
theorem nd_GL_law_278 : decode code 278 = .ok (.ireturn, 1) := by decide +kernel
theorem nd_GL_law_279 : decode code 279 = .ok (.aload_n 1, 1) := by decide +kernel
theorem nd_GL_law_280 : decode code 280 = .ok (.invokevirtual 45, 3) := by decide +kernel
theorem nd_GL_law_283 : decode code 283 = .ok (.aload_n 2, 1) := by decide +kernel
theorem nd_GL_law_284 : decode code 284 = .ok (.invokevirtual 48, 3) := by decide +kernel
theorem nd_GL_law_287 : decode code 287 = .ok (.if_icmp .eq 291, 3) := by decide +kernel
theorem nd_GL_law_290 : decode code 290 = .ok (.iconst 0, 1) := by decide +kernel
theorem nd_GL_law_291 : decode code 291 = .ok (.ireturn, 1) := by decide +kernel
theorem nd_GL_law_292 : decode code 292 = .ok (.aload_n 1, 1) := by decide +kernel
theorem nd_GL_law_293 : decode code 293 = .ok (.invokevirtual 49, 3) := by decide +kernel
theorem nd_GL_law_296 : decode code 296 = .ok (.aload_n 2, 1) := by decide +kernel
theorem nd_GL_law_297 : decode code 297 = .ok (.invokevirtual 52, 3) := by decide +kernel
theorem nd_GL_law_300 : decode code 300 = .ok (.if_icmp .eq 278, 3) := by decide +kernel
theorem nd_GL_law_303 : decode code 303 = .ok (.iconst 0, 1) := by decide +kernel
theorem nd_GL_law_304 : decode code 304 = .ok (.ireturn, 1) := by decide +kernel
theorem nd_GL_law_305 : decode code 305 = .ok (.aload_n 1, 1) := by decide +kernel
theorem nd_GL_law_306 : decode code 306 = .ok (.aload_n 0, 1) := by decide +kernel
theorem nd_GL_law_307 : decode code 307 = .ok (.iload_n 3, 1) := by decide +kernel
theorem nd_GL_law_308 : decode code 308 = .ok (.iconst 1, 1) := by decide +kernel
theorem nd_GL_law_309 : decode code 309 = .ok (.iadd, 1) := by decide +kernel
theorem nd_GL_law_310 : decode code 310 = .ok (.iaload, 1) := by decide +kernel
theorem nd_GL_law_311 : decode code 311 = .ok (.invokevirtual 53, 3) := by decide +kernel
theorem nd_GL_law_314 : decode code 314 = .ok (.aload_n 2, 1) := by decide +kernel
theorem nd_GL_law_315 : decode code 315 = .ok (.aload_n 0, 1) := by decide +kernel
theorem nd_GL_law_316 : decode code 316 = .ok (.iload_n 3, 1) := by decide +kernel
theorem nd_GL_law_317 : decode code 317 = .ok (.iconst 1, 1) := by decide +kernel
theorem nd_GL_law_318 : decode code 318 = .ok (.iadd, 1) := by decide +kernel
theorem nd_GL_law_319 : decode code 319 = .ok (.iaload, 1) := by decide +kernel
theorem nd_GL_law_320 : decode code 320 = .ok (.invokevirtual 56, 3) := by decide +kernel
theorem nd_GL_law_323 : decode code 323 = .ok (.if_icmp .eq 255, 3) := by decide +kernel
theorem nd_GL_law_326 : decode code 326 = .ok (.iconst 0, 1) := by decide +kernel
theorem nd_GL_law_327 : decode code 327 = .ok (.ireturn, 1) := by decide +kernel
theorem nd_GL_law_328 : decode code 328 = .ok (.aload_n 1, 1) := by decide +kernel
theorem nd_GL_law_329 : decode code 329 = .ok (.aload_n 0, 1) := by decide +kernel
theorem nd_GL_law_330 : decode code 330 = .ok (.iload_n 3, 1) := by decide +kernel
theorem nd_GL_law_331 : decode code 331 = .ok (.iconst 1, 1) := by decide +kernel
theorem nd_GL_law_332 : decode code 332 = .ok (.iadd, 1) := by decide +kernel
theorem nd_GL_law_333 : decode code 333 = .ok (.iaload, 1) := by decide +kernel
theorem nd_GL_law_334 : decode code 334 = .ok (.aload_n 0, 1) := by decide +kernel
theorem nd_GL_law_335 : decode code 335 = .ok (.iload_n 3, 1) := by decide +kernel
theorem nd_GL_law_336 : decode code 336 = .ok (.iconst 2, 1) := by decide +kernel
theorem nd_GL_law_337 : decode code 337 = .ok (.iadd, 1) := by decide +kernel
theorem nd_GL_law_338 : decode code 338 = .ok (.iaload, 1) := by decide +kernel
theorem nd_GL_law_339 : decode code 339 = .ok (.invokevirtual 57, 3) := by decide +kernel
theorem nd_GL_law_342 : decode code 342 = .ok (.aload_n 2, 1) := by decide +kernel
theorem nd_GL_law_343 : decode code 343 = .ok (.aload_n 0, 1) := by decide +kernel
theorem nd_GL_law_344 : decode code 344 = .ok (.iload_n 3, 1) := by decide +kernel
theorem nd_GL_law_345 : decode code 345 = .ok (.iconst 1, 1) := by decide +kernel
theorem nd_GL_law_346 : decode code 346 = .ok (.iadd, 1) := by decide +kernel
theorem nd_GL_law_347 : decode code 347 = .ok (.iaload, 1) := by decide +kernel
theorem nd_GL_law_348 : decode code 348 = .ok (.aload_n 0, 1) := by decide +kernel
theorem nd_GL_law_349 : decode code 349 = .ok (.iload_n 3, 1) := by decide +kernel
theorem nd_GL_law_350 : decode code 350 = .ok (.iconst 2, 1) := by decide +kernel
theorem nd_GL_law_351 : decode code 351 = .ok (.iadd, 1) := by decide +kernel
theorem nd_GL_law_352 : decode code 352 = .ok (.iaload, 1) := by decide +kernel
theorem nd_GL_law_353 : decode code 353 = .ok (.invokevirtual 60, 3) := by decide +kernel
theorem nd_GL_law_356 : decode code 356 = .ok (.if_icmp .eq 222, 3) := by decide +kernel
theorem nd_GL_law_359 : decode code 359 = .ok (.iconst 0, 1) := by decide +kernel
theorem nd_GL_law_360 : decode code 360 = .ok (.ireturn, 1) := by decide +kernel
theorem nd_GL_law_361 : decode code 361 = .ok (.aload_n 1, 1) := by decide +kernel
theorem nd_GL_law_362 : decode code 362 = .ok (.aload_n 0, 1) := by decide +kernel
theorem nd_GL_law_363 : decode code 363 = .ok (.iload_n 3, 1) := by decide +kernel
theorem nd_GL_law_364 : decode code 364 = .ok (.iconst 1, 1) := by decide +kernel
theorem nd_GL_law_365 : decode code 365 = .ok (.iadd, 1) := by decide +kernel
theorem nd_GL_law_366 : decode code 366 = .ok (.iaload, 1) := by decide +kernel
theorem nd_GL_law_367 : decode code 367 = .ok (.invokevirtual 61, 3) := by decide +kernel
theorem nd_GL_law_370 : decode code 370 = .ok (.aload_n 2, 1) := by decide +kernel
theorem nd_GL_law_371 : decode code 371 = .ok (.aload_n 0, 1) := by decide +kernel
theorem nd_GL_law_372 : decode code 372 = .ok (.iload_n 3, 1) := by decide +kernel
theorem nd_GL_law_373 : decode code 373 = .ok (.iconst 1, 1) := by decide +kernel
theorem nd_GL_law_374 : decode code 374 = .ok (.iadd, 1) := by decide +kernel
theorem nd_GL_law_375 : decode code 375 = .ok (.iaload, 1) := by decide +kernel
theorem nd_GL_law_376 : decode code 376 = .ok (.invokevirtual 64, 3) := by decide +kernel
theorem nd_GL_law_379 : decode code 379 = .ok (.if_icmp .eq 199, 3) := by decide +kernel
theorem nd_GL_law_382 : decode code 382 = .ok (.iconst 0, 1) := by decide +kernel
theorem nd_GL_law_383 : decode code 383 = .ok (.ireturn, 1) := by decide +kernel
theorem nd_GL_law_384 : decode code 384 = .ok (.aload_n 1, 1) := by decide +kernel
theorem nd_GL_law_385 : decode code 385 = .ok (.aload_n 0, 1) := by decide +kernel
theorem nd_GL_law_386 : decode code 386 = .ok (.iload_n 3, 1) := by decide +kernel
theorem nd_GL_law_387 : decode code 387 = .ok (.iconst 1, 1) := by decide +kernel
theorem nd_GL_law_388 : decode code 388 = .ok (.iadd, 1) := by decide +kernel
theorem nd_GL_law_389 : decode code 389 = .ok (.iaload, 1) := by decide +kernel
theorem nd_GL_law_390 : decode code 390 = .ok (.invokevirtual 65, 3) := by decide +kernel
theorem nd_GL_law_393 : decode code 393 = .ok (.aload_n 2, 1) := by decide +kernel
theorem nd_GL_law_394 : decode code 394 = .ok (.aload_n 0, 1) := by decide +kernel
theorem nd_GL_law_395 : decode code 395 = .ok (.iload_n 3, 1) := by decide +kernel
theorem nd_GL_law_396 : decode code 396 = .ok (.iconst 1, 1) := by decide +kernel
theorem nd_GL_law_397 : decode code 397 = .ok (.iadd, 1) := by decide +kernel
theorem nd_GL_law_398 : decode code 398 = .ok (.iaload, 1) := by decide +kernel
theorem nd_GL_law_399 : decode code 399 = .ok (.invokevirtual 68, 3) := by decide +kernel
theorem nd_GL_law_402 : decode code 402 = .ok (.if_icmp .eq 176, 3) := by decide +kernel
theorem nd_GL_law_405 : decode code 405 = .ok (.iconst 0, 1) := by decide +kernel
theorem nd_GL_law_406 : decode code 406 = .ok (.ireturn, 1) := by decide +kernel
theorem nd_GL_law_407 : decode code 407 = .ok (.aload_n 1, 1) := by decide +kernel
theorem nd_GL_law_408 : decode code 408 = .ok (.aload_n 0, 1) := by decide +kernel
theorem nd_GL_law_409 : decode code 409 = .ok (.iload_n 3, 1) := by decide +kernel
theorem nd_GL_law_410 : decode code 410 = .ok (.iconst 1, 1) := by decide +kernel
theorem nd_GL_law_411 : decode code 411 = .ok (.iadd, 1) := by decide +kernel
theorem nd_GL_law_412 : decode code 412 = .ok (.iaload, 1) := by decide +kernel
theorem nd_GL_law_413 : decode code 413 = .ok (.invokevirtual 69, 3) := by decide +kernel
theorem nd_GL_law_416 : decode code 416 = .ok (.aload_n 2, 1) := by decide +kernel
theorem nd_GL_law_417 : decode code 417 = .ok (.aload_n 0, 1) := by decide +kernel
theorem nd_GL_law_418 : decode code 418 = .ok (.iload_n 3, 1) := by decide +kernel
theorem nd_GL_law_419 : decode code 419 = .ok (.iconst 1, 1) := by decide +kernel
theorem nd_GL_law_420 : decode code 420 = .ok (.iadd, 1) := by decide +kernel
theorem nd_GL_law_421 : decode code 421 = .ok (.iaload, 1) := by decide +kernel
theorem nd_GL_law_422 : decode code 422 = .ok (.invokevirtual 72, 3) := by decide +kernel
theorem nd_GL_law_425 : decode code 425 = .ok (.if_icmp .eq 153, 3) := by decide +kernel
theorem nd_GL_law_428 : decode code 428 = .ok (.iconst 0, 1) := by decide +kernel
theorem nd_GL_law_429 : decode code 429 = .ok (.ireturn, 1) := by decide +kernel
theorem nd_GL_law_430 : decode code 430 = .ok (.aload_n 1, 1) := by decide +kernel
theorem nd_GL_law_431 : decode code 431 = .ok (.aload_n 0, 1) := by decide +kernel
theorem nd_GL_law_432 : decode code 432 = .ok (.iload_n 3, 1) := by decide +kernel
theorem nd_GL_law_433 : decode code 433 = .ok (.iconst 1, 1) := by decide +kernel
theorem nd_GL_law_434 : decode code 434 = .ok (.iadd, 1) := by decide +kernel
theorem nd_GL_law_435 : decode code 435 = .ok (.iaload, 1) := by decide +kernel
theorem nd_GL_law_436 : decode code 436 = .ok (.aload_n 0, 1) := by decide +kernel
theorem nd_GL_law_437 : decode code 437 = .ok (.iload_n 3, 1) := by decide +kernel
theorem nd_GL_law_438 : decode code 438 = .ok (.iconst 2, 1) := by decide +kernel
theorem nd_GL_law_439 : decode code 439 = .ok (.iadd, 1) := by decide +kernel
theorem nd_GL_law_440 : decode code 440 = .ok (.iaload, 1) := by decide +kernel
theorem nd_GL_law_441 : decode code 441 = .ok (.invokevirtual 73, 3) := by decide +kernel
theorem nd_GL_law_444 : decode code 444 = .ok (.aload_n 2, 1) := by decide +kernel
theorem nd_GL_law_445 : decode code 445 = .ok (.aload_n 0, 1) := by decide +kernel
theorem nd_GL_law_446 : decode code 446 = .ok (.iload_n 3, 1) := by decide +kernel
theorem nd_GL_law_447 : decode code 447 = .ok (.iconst 1, 1) := by decide +kernel
theorem nd_GL_law_448 : decode code 448 = .ok (.iadd, 1) := by decide +kernel
theorem nd_GL_law_449 : decode code 449 = .ok (.iaload, 1) := by decide +kernel
theorem nd_GL_law_450 : decode code 450 = .ok (.aload_n 0, 1) := by decide +kernel
theorem nd_GL_law_451 : decode code 451 = .ok (.iload_n 3, 1) := by decide +kernel
theorem nd_GL_law_452 : decode code 452 = .ok (.iconst 2, 1) := by decide +kernel
theorem nd_GL_law_453 : decode code 453 = .ok (.iadd, 1) := by decide +kernel
theorem nd_GL_law_454 : decode code 454 = .ok (.iaload, 1) := by decide +kernel
theorem nd_GL_law_455 : decode code 455 = .ok (.invokevirtual 76, 3) := by decide +kernel
theorem nd_GL_law_458 : decode code 458 = .ok (.if_icmp .eq 120, 3) := by decide +kernel
theorem nd_GL_law_461 : decode code 461 = .ok (.iconst 0, 1) := by decide +kernel
theorem nd_GL_law_462 : decode code 462 = .ok (.ireturn, 1) := by decide +kernel
theorem nd_GL_law_463 : decode code 463 = .ok (.aload_n 1, 1) := by decide +kernel
theorem nd_GL_law_464 : decode code 464 = .ok (.aload_n 0, 1) := by decide +kernel
theorem nd_GL_law_465 : decode code 465 = .ok (.iload_n 3, 1) := by decide +kernel
theorem nd_GL_law_466 : decode code 466 = .ok (.iconst 1, 1) := by decide +kernel
theorem nd_GL_law_467 : decode code 467 = .ok (.iadd, 1) := by decide +kernel
theorem nd_GL_law_468 : decode code 468 = .ok (.iaload, 1) := by decide +kernel
theorem nd_GL_law_469 : decode code 469 = .ok (.invokevirtual 77, 3) := by decide +kernel
theorem nd_GL_law_472 : decode code 472 = .ok (.aload_n 2, 1) := by decide +kernel
theorem nd_GL_law_473 : decode code 473 = .ok (.aload_n 0, 1) := by decide +kernel
theorem nd_GL_law_474 : decode code 474 = .ok (.iload_n 3, 1) := by decide +kernel
theorem nd_GL_law_475 : decode code 475 = .ok (.iconst 1, 1) := by decide +kernel
theorem nd_GL_law_476 : decode code 476 = .ok (.iadd, 1) := by decide +kernel
theorem nd_GL_law_477 : decode code 477 = .ok (.iaload, 1) := by decide +kernel
theorem nd_GL_law_478 : decode code 478 = .ok (.invokevirtual 80, 3) := by decide +kernel
theorem nd_GL_law_481 : decode code 481 = .ok (.if_icmp .eq 97, 3) := by decide +kernel
theorem nd_GL_law_484 : decode code 484 = .ok (.iconst 0, 1) := by decide +kernel
theorem nd_GL_law_485 : decode code 485 = .ok (.ireturn, 1) := by decide +kernel
theorem nd_GL_law_486 : decode code 486 = .ok (.aload_n 1, 1) := by decide +kernel
theorem nd_GL_law_487 : decode code 487 = .ok (.aload_n 0, 1) := by decide +kernel
theorem nd_GL_law_488 : decode code 488 = .ok (.iload_n 3, 1) := by decide +kernel
theorem nd_GL_law_489 : decode code 489 = .ok (.iconst 1, 1) := by decide +kernel
theorem nd_GL_law_490 : decode code 490 = .ok (.iadd, 1) := by decide +kernel
theorem nd_GL_law_491 : decode code 491 = .ok (.iaload, 1) := by decide +kernel
theorem nd_GL_law_492 : decode code 492 = .ok (.invokevirtual 81, 3) := by decide +kernel
theorem nd_GL_law_495 : decode code 495 = .ok (.aload_n 2, 1) := by decide +kernel
theorem nd_GL_law_496 : decode code 496 = .ok (.aload_n 0, 1) := by decide +kernel
theorem nd_GL_law_497 : decode code 497 = .ok (.iload_n 3, 1) := by decide +kernel
theorem nd_GL_law_498 : decode code 498 = .ok (.iconst 1, 1) := by decide +kernel
theorem nd_GL_law_499 : decode code 499 = .ok (.iadd, 1) := by decide +kernel
theorem nd_GL_law_500 : decode code 500 = .ok (.iaload, 1) := by decide +kernel
theorem nd_GL_law_501 : decode code 501 = .ok (.invokevirtual 84, 3) := by decide +kernel
theorem nd_GL_law_504 : decode code 504 = .ok (.if_icmp .eq 74, 3) := by decide +kernel
theorem nd_GL_law_507 : decode code 507 = .ok (.iconst 0, 1) := by decide +kernel
theorem nd_GL_law_508 : decode code 508 = .ok (.ireturn, 1) := by decide +kernel
theorem nd_GL_law_509 : decode code 509 = .ok (.aload_n 1, 1) := by decide +kernel
theorem nd_GL_law_510 : decode code 510 = .ok (.aload_n 0, 1) := by decide +kernel
theorem nd_GL_law_511 : decode code 511 = .ok (.iload_n 3, 1) := by decide +kernel
theorem nd_GL_law_512 : decode code 512 = .ok (.iconst 1, 1) := by decide +kernel
theorem nd_GL_law_513 : decode code 513 = .ok (.iadd, 1) := by decide +kernel
theorem nd_GL_law_514 : decode code 514 = .ok (.iaload, 1) := by decide +kernel
theorem nd_GL_law_515 : decode code 515 = .ok (.invokevirtual 85, 3) := by decide +kernel
theorem nd_GL_law_518 : decode code 518 = .ok (.aload_n 2, 1) := by decide +kernel
theorem nd_GL_law_519 : decode code 519 = .ok (.aload_n 0, 1) := by decide +kernel
theorem nd_GL_law_520 : decode code 520 = .ok (.iload_n 3, 1) := by decide +kernel
theorem nd_GL_law_521 : decode code 521 = .ok (.iconst 1, 1) := by decide +kernel
theorem nd_GL_law_522 : decode code 522 = .ok (.iadd, 1) := by decide +kernel
theorem nd_GL_law_523 : decode code 523 = .ok (.iaload, 1) := by decide +kernel
theorem nd_GL_law_524 : decode code 524 = .ok (.invokevirtual 88, 3) := by decide +kernel
theorem nd_GL_law_527 : decode code 527 = .ok (.if_icmp .eq 51, 3) := by decide +kernel
theorem nd_GL_law_530 : decode code 530 = .ok (.iconst 0, 1) := by decide +kernel
theorem nd_GL_law_531 : decode code 531 = .ok (.ireturn, 1) := by decide +kernel
theorem nd_GL_law_532 : decode code 532 = .ok (.aload_n 1, 1) := by decide +kernel
theorem nd_GL_law_533 : decode code 533 = .ok (.aload_n 0, 1) := by decide +kernel
theorem nd_GL_law_534 : decode code 534 = .ok (.iload_n 3, 1) := by decide +kernel
theorem nd_GL_law_535 : decode code 535 = .ok (.iconst 1, 1) := by decide +kernel
theorem nd_GL_law_536 : decode code 536 = .ok (.iadd, 1) := by decide +kernel
theorem nd_GL_law_537 : decode code 537 = .ok (.iaload, 1) := by decide +kernel
theorem nd_GL_law_538 : decode code 538 = .ok (.invokevirtual 89, 3) := by decide +kernel
theorem nd_GL_law_541 : decode code 541 = .ok (.aload_n 2, 1) := by decide +kernel
theorem nd_GL_law_542 : decode code 542 = .ok (.aload_n 0, 1) := by decide +kernel
theorem nd_GL_law_543 : decode code 543 = .ok (.iload_n 3, 1) := by decide +kernel
theorem nd_GL_law_544 : decode code 544 = .ok (.iconst 1, 1) := by decide +kernel
theorem nd_GL_law_545 : decode code 545 = .ok (.iadd, 1) := by decide +kernel
theorem nd_GL_law_546 : decode code 546 = .ok (.iaload, 1) := by decide +kernel
theorem nd_GL_law_547 : decode code 547 = .ok (.invokevirtual 92, 3) := by decide +kernel
theorem nd_GL_law_550 : decode code 550 = .ok (.if_icmp .eq 28, 3) := by decide +kernel
theorem nd_GL_law_553 : decode code 553 = .ok (.iconst 0, 1) := by decide +kernel
theorem nd_GL_law_554 : decode code 554 = .ok (.ireturn, 1) := by decide +kernel
theorem nd_GL_law_555 : decode code 555 = .ok (.aload_n 1, 1) := by decide +kernel
theorem nd_GL_law_556 : decode code 556 = .ok (.aload_n 0, 1) := by decide +kernel
theorem nd_GL_law_557 : decode code 557 = .ok (.iload_n 3, 1) := by decide +kernel
theorem nd_GL_law_558 : decode code 558 = .ok (.iconst 1, 1) := by decide +kernel
theorem nd_GL_law_559 : decode code 559 = .ok (.iadd, 1) := by decide +kernel
theorem nd_GL_law_560 : decode code 560 = .ok (.iaload, 1) := by decide +kernel
theorem nd_GL_law_561 : decode code 561 = .ok (.invokevirtual 93, 3) := by decide +kernel
theorem nd_GL_law_564 : decode code 564 = .ok (.aload_n 2, 1) := by decide +kernel
theorem nd_GL_law_565 : decode code 565 = .ok (.aload_n 0, 1) := by decide +kernel
theorem nd_GL_law_566 : decode code 566 = .ok (.iload_n 3, 1) := by decide +kernel
theorem nd_GL_law_567 : decode code 567 = .ok (.iconst 1, 1) := by decide +kernel
theorem nd_GL_law_568 : decode code 568 = .ok (.iadd, 1) := by decide +kernel
theorem nd_GL_law_569 : decode code 569 = .ok (.iaload, 1) := by decide +kernel
theorem nd_GL_law_570 : decode code 570 = .ok (.invokevirtual 96, 3) := by decide +kernel
theorem nd_GL_law_573 : decode code 573 = .ok (.if_icmp .eq 5, 3) := by decide +kernel
theorem nd_GL_law_576 : decode code 576 = .ok (.iconst 0, 1) := by decide +kernel
theorem nd_GL_law_577 : decode code 577 = .ok (.ireturn, 1) := by decide +kernel
theorem nd_GL_law_578 : decode code 578 = .ok (.iinc 3 3, 3) := by decide +kernel
theorem nd_GL_law_581 : decode code 581 = .ok (.goto (-563), 3) := by decide +kernel
theorem nd_GL_law_584 : decode code 584 = .ok (.iconst 1, 1) := by decide +kernel
theorem nd_GL_law_585 : decode code 585 = .ok (.ireturn, 1) := by decide +kernel
theorem nd_JI_bitCount_0 : decode nc_JI_bitCount 0 = .ok (.iload_n 0, 1) := by decide +kernel
theorem nd_JI_bitCount_1 : decode nc_JI_bitCount 1 = .ok (.iload_n 0, 1) := by decide +kernel
theorem nd_JI_bitCount_2 : decode nc_JI_bitCount 2 = .ok (.iconst 1, 1) := by decide +kernel
theorem nd_JI_bitCount_3 : decode nc_JI_bitCount 3 = .ok (.iushr, 1) := by decide +kernel
theorem nd_JI_bitCount_4 : decode nc_JI_bitCount 4 = .ok (.ldc_w 265, 3) := by decide +kernel
theorem nd_JI_bitCount_7 : decode nc_JI_bitCount 7 = .ok (.iand, 1) := by decide +kernel
theorem nd_JI_bitCount_8 : decode nc_JI_bitCount 8 = .ok (.isub, 1) := by decide +kernel
theorem nd_JI_bitCount_9 : decode nc_JI_bitCount 9 = .ok (.istore_n 0, 1) := by decide +kernel
theorem nd_JI_bitCount_10 : decode nc_JI_bitCount 10 = .ok (.iload_n 0, 1) := by decide +kernel
theorem nd_JI_bitCount_11 : decode nc_JI_bitCount 11 = .ok (.ldc_w 266, 3) := by decide +kernel
theorem nd_JI_bitCount_14 : decode nc_JI_bitCount 14 = .ok (.iand, 1) := by decide +kernel
theorem nd_JI_bitCount_15 : decode nc_JI_bitCount 15 = .ok (.iload_n 0, 1) := by decide +kernel
theorem nd_JI_bitCount_16 : decode nc_JI_bitCount 16 = .ok (.iconst 2, 1) := by decide +kernel
theorem nd_JI_bitCount_17 : decode nc_JI_bitCount 17 = .ok (.iushr, 1) := by decide +kernel
theorem nd_JI_bitCount_18 : decode nc_JI_bitCount 18 = .ok (.ldc_w 266, 3) := by decide +kernel
theorem nd_JI_bitCount_21 : decode nc_JI_bitCount 21 = .ok (.iand, 1) := by decide +kernel
theorem nd_JI_bitCount_22 : decode nc_JI_bitCount 22 = .ok (.iadd, 1) := by decide +kernel
theorem nd_JI_bitCount_23 : decode nc_JI_bitCount 23 = .ok (.istore_n 0, 1) := by decide +kernel
theorem nd_JI_bitCount_24 : decode nc_JI_bitCount 24 = .ok (.iload_n 0, 1) := by decide +kernel
theorem nd_JI_bitCount_25 : decode nc_JI_bitCount 25 = .ok (.iload_n 0, 1) := by decide +kernel
theorem nd_JI_bitCount_26 : decode nc_JI_bitCount 26 = .ok (.iconst 4, 1) := by decide +kernel
theorem nd_JI_bitCount_27 : decode nc_JI_bitCount 27 = .ok (.iushr, 1) := by decide +kernel
theorem nd_JI_bitCount_28 : decode nc_JI_bitCount 28 = .ok (.iadd, 1) := by decide +kernel
theorem nd_JI_bitCount_29 : decode nc_JI_bitCount 29 = .ok (.ldc_w 267, 3) := by decide +kernel
theorem nd_JI_bitCount_32 : decode nc_JI_bitCount 32 = .ok (.iand, 1) := by decide +kernel
theorem nd_JI_bitCount_33 : decode nc_JI_bitCount 33 = .ok (.istore_n 0, 1) := by decide +kernel
theorem nd_JI_bitCount_34 : decode nc_JI_bitCount 34 = .ok (.iload_n 0, 1) := by decide +kernel
theorem nd_JI_bitCount_35 : decode nc_JI_bitCount 35 = .ok (.iload_n 0, 1) := by decide +kernel
theorem nd_JI_bitCount_36 : decode nc_JI_bitCount 36 = .ok (.bipush 8, 2) := by decide +kernel
theorem nd_JI_bitCount_38 : decode nc_JI_bitCount 38 = .ok (.iushr, 1) := by decide +kernel
theorem nd_JI_bitCount_39 : decode nc_JI_bitCount 39 = .ok (.iadd, 1) := by decide +kernel
theorem nd_JI_bitCount_40 : decode nc_JI_bitCount 40 = .ok (.istore_n 0, 1) := by decide +kernel
theorem nd_JI_bitCount_41 : decode nc_JI_bitCount 41 = .ok (.iload_n 0, 1) := by decide +kernel
theorem nd_JI_bitCount_42 : decode nc_JI_bitCount 42 = .ok (.iload_n 0, 1) := by decide +kernel
theorem nd_JI_bitCount_43 : decode nc_JI_bitCount 43 = .ok (.bipush 16, 2) := by decide +kernel
theorem nd_JI_bitCount_45 : decode nc_JI_bitCount 45 = .ok (.iushr, 1) := by decide +kernel
theorem nd_JI_bitCount_46 : decode nc_JI_bitCount 46 = .ok (.iadd, 1) := by decide +kernel
theorem nd_JI_bitCount_47 : decode nc_JI_bitCount 47 = .ok (.istore_n 0, 1) := by decide +kernel
theorem nd_JI_bitCount_48 : decode nc_JI_bitCount 48 = .ok (.iload_n 0, 1) := by decide +kernel
theorem nd_JI_bitCount_49 : decode nc_JI_bitCount 49 = .ok (.bipush 63, 2) := by decide +kernel
theorem nd_JI_bitCount_51 : decode nc_JI_bitCount 51 = .ok (.iand, 1) := by decide +kernel
theorem nd_JI_bitCount_52 : decode nc_JI_bitCount 52 = .ok (.ireturn, 1) := by decide +kernel
