set_option maxHeartbeats 4000000 in
set_option maxRecDepth 100000 in
theorem c_GM_calculate {l : Launch} {V : zG} (hJ : zJ0 (sM l V)) {s0 : zS} {a1 : Int32} {a2 : Int32}  {s1 : zS} (h : k_GM_calculate s0 a1 a2 = some s1) : zM (sM l V) md_GM_calculate [zR 0 0, zI a1, zI a2] s0 (s1, none) := by
  refine zMet [some (zR 0 0), some (zI a1), some (zI a2), none, none, none, none, none, none] hJ (by decide) rfl (Nat.le_of_ble_eq_true rfl) rfl ?_
  intro X hO
  have J_112 : ∀ (s0 : zS) (t0 : Int32) (t1 : Int32) (t2 : Int32) (t3 : Int32) (t5 : Int32), k_GM_calculate_112 a1 a2 s0 t0 t1 t2 t3 t5 = some s1 → ZW (sM l V) md_GM_calculate (s1, none) X 112 [none, none, none, none, none, none, none, none, none] [zI t0, zI t1, zI t2, zI t3, zR 0 0, zI t5, zR 11 0] s0 := by
    intro s0 t0 t1 t2 t3 t5 h
    unfold k_GM_calculate_112 at h
    obtain ⟨⟨s9, r10⟩, h_112, h⟩ := bn_use h
    refine zl_callVi (pc := 112) hO [zI t3, zI t2, zI t1, zI t0] [zI t5, zR 11 0] (c_GM_shifted hJ h_112) nd_GM_calculate_112 kv_GM_188 rfl (Nat.le_of_ble_eq_true rfl) rfl rfl rfl (Nat.le_of_ble_eq_true rfl) ?_
    obtain ⟨c_in115, h⟩ := ck_use h
    refine zl_iast (pc := 115) hO nd_GM_calculate_115 rfl rfl (Nat.le_of_ble_eq_true rfl) c_in115 ?_
    obtain ⟨s11, e_s11, h⟩ := lt_use h
    refine zl_sg e_s11 ?_
    refine zl_goto (pc := 116) hO 359 nd_GM_calculate_116 (by decide) ?_
    exact zl_vret (pc := 359) hO nd_GM_calculate_359 rfl (zr_v h)
  have J_82 : ∀ (s0 : zS) (l3 : Int32) (l4 : Int32) (l5 : Int32) (l7 : Int32), k_GM_calculate_82 a1 a2 s0 l3 l4 l5 l7 = some s1 → ZW (sM l V) md_GM_calculate (s1, none) X 82 [some (zR 0 0), some (zI a1), none, some (zI l3), some (zI l4), some (zI l5), none, some (zI l7), none] [] s0 := by
    intro s0 l3 l4 l5 l7 h
    unfold k_GM_calculate_82 at h
    refine zl_aload_n (pc := 82) hO 0 nd_GM_calculate_82 rfl rfl ?_
    refine zl_get0 (pc := 83) hO nd_GM_calculate_83 kf_GM_44 rfl (Nat.le_of_ble_eq_true rfl) rfl ?_
    refine zl_iload_n (pc := 86) hO 3 nd_GM_calculate_86 rfl rfl ?_
    refine zl_aload_n (pc := 87) hO 0 nd_GM_calculate_87 rfl rfl ?_
    refine zl_iload_n (pc := 88) hO 1 nd_GM_calculate_88 rfl rfl ?_
    refine zl_iload (pc := 89) hO nd_GM_calculate_89 rfl ?_
    refine zl_iload (pc := 91) hO nd_GM_calculate_91 rfl ?_
    refine zl_sipush (pc := 93) hO (v := 255) nd_GM_calculate_93 (by decide) ?_
    refine zl_iand (pc := 96) hO nd_GM_calculate_96 ?_
    refine zl_iload (pc := 97) hO nd_GM_calculate_97 rfl ?_
    refine zl_bipush (pc := 99) hO (v := 7) nd_GM_calculate_99 (by decide) ?_
    refine zl_icmp_ne (pc := 101) hO 108 nd_GM_calculate_101 (by decide) (fun hc => ?_) (fun hc => ?_)
    · have h := ite_f hc h
      refine zl_iload (pc := 108) hO nd_GM_calculate_108 rfl ?_
      refine zl_iconst (pc := 110) hO (v := 2) nd_GM_calculate_110 (by decide) ?_
      refine zl_isub (pc := 111) hO nd_GM_calculate_111 ?_
      exact zl_weak (J_112 _ _ _ _ _ _ h) trivial
    · have h := ite_t hc h
      refine zl_iconst (pc := 104) hO (v := 3) nd_GM_calculate_104 (by decide) ?_
      refine zl_goto (pc := 105) hO 112 nd_GM_calculate_105 (by decide) ?_
      exact zl_weak (J_112 _ _ _ _ _ _ h) trivial
  have J_156 : ∀ (s0 : zS) (l6 : Int32) (t0 : Int32) (t1 : Int32) (t2 : Int32) (t4 : Int32), k_GM_calculate_156 a1 a2 s0 l6 t0 t1 t2 t4 = some s1 → ZW (sM l V) md_GM_calculate (s1, none) X 156 [none, none, none, none, none, none, some (zI l6), none, none] [zI t0, zI t1, zI t2, zR 0 0, zI t4, zR 11 0] s0 := by
    intro s0 l6 t0 t1 t2 t4 h
    unfold k_GM_calculate_156 at h
    refine zl_iload (pc := 156) hO nd_GM_calculate_156 rfl ?_
    obtain ⟨⟨s12, r13⟩, h_158, h⟩ := bn_use h
    refine zl_callVi (pc := 158) hO [zI t2, zI t1, zI t0, zI l6] [zI t4, zR 11 0] (c_GM_sum hJ h_158) nd_GM_calculate_158 kv_GM_192 rfl (Nat.le_of_ble_eq_true rfl) rfl rfl rfl (Nat.le_of_ble_eq_true rfl) ?_
    obtain ⟨c_in161, h⟩ := ck_use h
    refine zl_iast (pc := 161) hO nd_GM_calculate_161 rfl rfl (Nat.le_of_ble_eq_true rfl) c_in161 ?_
    obtain ⟨s14, e_s14, h⟩ := lt_use h
    refine zl_sg e_s14 ?_
    refine zl_goto (pc := 162) hO 359 nd_GM_calculate_162 (by decide) ?_
    exact zl_vret (pc := 359) hO nd_GM_calculate_359 rfl (zr_v h)
  have J_132 : ∀ (s0 : zS) (l3 : Int32) (l4 : Int32) (l5 : Int32) (l6 : Int32) (l7 : Int32), k_GM_calculate_132 a1 a2 s0 l3 l4 l5 l6 l7 = some s1 → ZW (sM l V) md_GM_calculate (s1, none) X 132 [some (zR 0 0), some (zI a1), none, some (zI l3), some (zI l4), some (zI l5), some (zI l6), some (zI l7), none] [] s0 := by
    intro s0 l3 l4 l5 l6 l7 h
    unfold k_GM_calculate_132 at h
    refine zl_aload_n (pc := 132) hO 0 nd_GM_calculate_132 rfl rfl ?_
    refine zl_get0 (pc := 133) hO nd_GM_calculate_133 kf_GM_44 rfl (Nat.le_of_ble_eq_true rfl) rfl ?_
    refine zl_iload_n (pc := 136) hO 3 nd_GM_calculate_136 rfl rfl ?_
    refine zl_aload_n (pc := 137) hO 0 nd_GM_calculate_137 rfl rfl ?_
    refine zl_iload_n (pc := 138) hO 1 nd_GM_calculate_138 rfl rfl ?_
    refine zl_iload (pc := 139) hO nd_GM_calculate_139 rfl ?_
    refine zl_iload (pc := 141) hO nd_GM_calculate_141 rfl ?_
    refine zl_iconst (pc := 143) hO (v := 5) nd_GM_calculate_143 (by decide) ?_
    refine zl_icmp_ne (pc := 144) hO 152 nd_GM_calculate_144 (by decide) (fun hc => ?_) (fun hc => ?_)
    · have h := ite_f hc h
      refine zl_iload (pc := 152) hO nd_GM_calculate_152 rfl ?_
      refine zl_iconst (pc := 154) hO (v := (-1)) nd_GM_calculate_154 (by decide) ?_
      refine zl_ixor (pc := 155) hO nd_GM_calculate_155 ?_
      exact zl_weak (J_156 _ _ _ _ _ _ h) ⟨rfl, trivial⟩
    · have h := ite_t hc h
      refine zl_iload (pc := 147) hO nd_GM_calculate_147 rfl ?_
      refine zl_goto (pc := 149) hO 156 nd_GM_calculate_149 (by decide) ?_
      exact zl_weak (J_156 _ _ _ _ _ _ h) ⟨rfl, trivial⟩
  have J_238 : ∀ (s0 : zS) (t0 : Int32) (t1 : Int32) (t2 : Int32) (t3 : Int32), k_GM_calculate_238 a1 a2 s0 t0 t1 t2 t3 = some s1 → ZW (sM l V) md_GM_calculate (s1, none) X 238 [none, none, none, none, none, none, none, none, none] [zI t0, zI t1, zI t2, zI t3, zR 0 0] s0 := by
    intro s0 t0 t1 t2 t3 h
    unfold k_GM_calculate_238 at h
    obtain ⟨⟨s17, r18⟩, h_238, h⟩ := bn_use h
    refine zl_callVi (pc := 238) hO [zI t3, zI t2, zI t1, zI t0] [] (c_GM_sum hJ h_238) nd_GM_calculate_238 kv_GM_192 rfl (Nat.le_of_ble_eq_true rfl) rfl rfl rfl (Nat.le_of_ble_eq_true rfl) ?_
    refine zl_pop (pc := 241) hO nd_GM_calculate_241 rfl ?_
    refine zl_goto (pc := 242) hO 359 nd_GM_calculate_242 (by decide) ?_
    exact zl_vret (pc := 359) hO nd_GM_calculate_359 rfl (zr_v h)
  have J_226 : ∀ (s0 : zS) (l7 : Int32) (t0 : Int32) (t1 : Int32) (t2 : Int32), k_GM_calculate_226 a1 a2 s0 l7 t0 t1 t2 = some s1 → ZW (sM l V) md_GM_calculate (s1, none) X 226 [none, none, none, none, none, none, none, some (zI l7), none] [zI t0, zI t1, zI t2, zR 0 0] s0 := by
    intro s0 l7 t0 t1 t2 h
    unfold k_GM_calculate_226 at h
    refine zl_iload (pc := 226) hO nd_GM_calculate_226 rfl ?_
    refine zl_bipush (pc := 228) hO (v := 10) nd_GM_calculate_228 (by decide) ?_
    refine zl_icmp_ne (pc := 230) hO 237 nd_GM_calculate_230 (by decide) (fun hc => ?_) (fun hc => ?_)
    · have h := ite_f hc h
      refine zl_iconst (pc := 237) hO (v := 0) nd_GM_calculate_237 (by decide) ?_
      exact zl_weak (J_238 _ _ _ _ _ h) trivial
    · have h := ite_t hc h
      refine zl_iconst (pc := 233) hO (v := 1) nd_GM_calculate_233 (by decide) ?_
      refine zl_goto (pc := 234) hO 238 nd_GM_calculate_234 (by decide) ?_
      exact zl_weak (J_238 _ _ _ _ _ h) trivial
  have J_206 : ∀ (s0 : zS) (l4 : Int32) (l5 : Int32) (l7 : Int32), k_GM_calculate_206 a1 a2 s0 l4 l5 l7 = some s1 → ZW (sM l V) md_GM_calculate (s1, none) X 206 [some (zR 0 0), some (zI a1), none, none, some (zI l4), some (zI l5), none, some (zI l7), none] [] s0 := by
    intro s0 l4 l5 l7 h
    unfold k_GM_calculate_206 at h
    refine zl_aload_n (pc := 206) hO 0 nd_GM_calculate_206 rfl rfl ?_
    refine zl_iload_n (pc := 207) hO 1 nd_GM_calculate_207 rfl rfl ?_
    refine zl_iload (pc := 208) hO nd_GM_calculate_208 rfl ?_
    refine zl_iload (pc := 210) hO nd_GM_calculate_210 rfl ?_
    refine zl_bipush (pc := 212) hO (v := 10) nd_GM_calculate_212 (by decide) ?_
    refine zl_icmp_ne (pc := 214) hO 224 nd_GM_calculate_214 (by decide) (fun hc => ?_) (fun hc => ?_)
    · have h := ite_f hc h
      refine zl_iload (pc := 224) hO nd_GM_calculate_224 rfl ?_
      exact zl_weak (J_226 _ _ _ _ _ h) ⟨rfl, trivial⟩
    · have h := ite_t hc h
      refine zl_iload (pc := 217) hO nd_GM_calculate_217 rfl ?_
      refine zl_iconst (pc := 219) hO (v := (-1)) nd_GM_calculate_219 (by decide) ?_
      refine zl_ixor (pc := 220) hO nd_GM_calculate_220 ?_
      refine zl_goto (pc := 221) hO 226 nd_GM_calculate_221 (by decide) ?_
      exact zl_weak (J_226 _ _ _ _ _ h) ⟨rfl, trivial⟩
  have J_351 : ∀ (s0 : zS) (l8 : Int32) (t0 : Int32) (t1 : Int32), k_GM_calculate_351 a1 a2 s0 l8 t0 t1 = some s1 → ZW (sM l V) md_GM_calculate (s1, none) X 351 [some (zR 0 0), some (zI a1), none, none, none, none, none, none, some (zI l8)] [zI t0, zI t1, zR 11 0] s0 := by
    intro s0 l8 t0 t1 h
    unfold k_GM_calculate_351 at h
    obtain ⟨c_in351, h⟩ := ck_use h
    refine zl_iast (pc := 351) hO nd_GM_calculate_351 rfl rfl (Nat.le_of_ble_eq_true rfl) c_in351 ?_
    obtain ⟨s15, e_s15, h⟩ := lt_use h
    refine zl_sg e_s15 ?_
    refine zl_aload_n (pc := 352) hO 0 nd_GM_calculate_352 rfl rfl ?_
    refine zl_iload_n (pc := 353) hO 1 nd_GM_calculate_353 rfl rfl ?_
    refine zl_iload (pc := 354) hO nd_GM_calculate_354 rfl ?_
    obtain ⟨s16, h_356, h⟩ := bn_use h
    refine zl_callVv (pc := 356) hO [zI a1, zI l8] [] (c_GM_nz hJ h_356) nd_GM_calculate_356 kv_GM_182 rfl (Nat.le_of_ble_eq_true rfl) rfl rfl rfl (Nat.le_of_ble_eq_true rfl) ?_
    exact zl_vret (pc := 359) hO nd_GM_calculate_359 rfl (zr_v h)
  have J_330 : ∀ (s0 : zS) (l3 : Int32) (l4 : Int32) (l7 : Int32) (t0 : Int32), k_GM_calculate_330 a1 a2 s0 l3 l4 l7 t0 = some s1 → ZW (sM l V) md_GM_calculate (s1, none) X 330 [some (zR 0 0), some (zI a1), none, some (zI l3), some (zI l4), none, none, some (zI l7), none] [zI t0] s0 := by
    intro s0 l3 l4 l7 t0 h
    unfold k_GM_calculate_330 at h
    refine zl_istore (pc := 330) hO (L' := [some (zR 0 0), some (zI a1), none, some (zI l3), some (zI l4), none, none, some (zI l7), some (zI t0)]) nd_GM_calculate_330 (by decide) rfl ?_
    refine zl_aload_n (pc := 332) hO 0 nd_GM_calculate_332 rfl rfl ?_
    refine zl_get0 (pc := 333) hO nd_GM_calculate_333 kf_GM_44 rfl (Nat.le_of_ble_eq_true rfl) rfl ?_
    refine zl_iload_n (pc := 336) hO 3 nd_GM_calculate_336 rfl rfl ?_
    refine zl_iload (pc := 337) hO nd_GM_calculate_337 rfl ?_
    refine zl_bipush (pc := 339) hO (v := 8) nd_GM_calculate_339 (by decide) ?_
    refine zl_icmp_ne (pc := 341) hO 349 nd_GM_calculate_341 (by decide) (fun hc => ?_) (fun hc => ?_)
    · have h := ite_f hc h
      refine zl_iload (pc := 349) hO nd_GM_calculate_349 rfl ?_
      exact zl_weak (J_351 _ _ _ _ h) ⟨rfl, ⟨rfl, ⟨rfl, trivial⟩⟩⟩
    · have h := ite_t hc h
      refine zl_iload (pc := 344) hO nd_GM_calculate_344 rfl ?_
      refine zl_goto (pc := 346) hO 351 nd_GM_calculate_346 (by decide) ?_
      exact zl_weak (J_351 _ _ _ _ h) ⟨rfl, ⟨rfl, ⟨rfl, trivial⟩⟩⟩
  have J_257 : ∀ (s0 : zS) (l3 : Int32) (l4 : Int32) (l5 : Int32) (l7 : Int32), k_GM_calculate_257 a1 a2 s0 l3 l4 l5 l7 = some s1 → ZW (sM l V) md_GM_calculate (s1, none) X 257 [some (zR 0 0), some (zI a1), none, some (zI l3), some (zI l4), some (zI l5), none, some (zI l7), none] [] s0 := by
    intro s0 l3 l4 l5 l7 h
    unfold k_GM_calculate_257 at h
    refine zl_iload (pc := 257) hO nd_GM_calculate_257 rfl ?_
    refine zl_iload (pc := 259) hO nd_GM_calculate_259 rfl ?_
    refine zl_iand (pc := 261) hO nd_GM_calculate_261 ?_
    refine zl_goto (pc := 262) hO 330 nd_GM_calculate_262 (by decide) ?_
    exact zl_weak (J_330 _ _ _ _ _ h) ⟨rfl, ⟨rfl, ⟨rfl, ⟨rfl, ⟨rfl, trivial⟩⟩⟩⟩⟩
  unfold k_GM_calculate at h
  refine zl_bipush (pc := 0) hO (v := 8) nd_GM_calculate_0 (by decide) ?_
  refine zl_iload_n (pc := 2) hO 1 nd_GM_calculate_2 rfl rfl ?_
  refine zl_imul (pc := 3) hO nd_GM_calculate_3 ?_
  refine zl_iload_n (pc := 4) hO 2 nd_GM_calculate_4 rfl rfl ?_
  refine zl_bipush (pc := 5) hO (v := 7) nd_GM_calculate_5 (by decide) ?_
  refine zl_iand (pc := 7) hO nd_GM_calculate_7 ?_
  refine zl_iadd (pc := 8) hO nd_GM_calculate_8 ?_
  obtain ⟨x1, e_x1, h⟩ := lt_use h
  refine zl_top e_x1 ?_
  refine zl_istore_n (pc := 9) hO 3 (L' := [some (zR 0 0), some (zI a1), some (zI a2), some (zI x1), none, none, none, none, none]) nd_GM_calculate_9 rfl (by decide) rfl ?_
  refine zl_aload_n (pc := 10) hO 0 nd_GM_calculate_10 rfl rfl ?_
  refine zl_get0 (pc := 11) hO nd_GM_calculate_11 kf_GM_44 rfl (Nat.le_of_ble_eq_true rfl) rfl ?_
  refine zl_iload_n (pc := 14) hO 3 nd_GM_calculate_14 rfl rfl ?_
  obtain ⟨c_in15, h⟩ := ck_use h
  refine zl_iald (pc := 15) hO nd_GM_calculate_15 rfl rfl (Nat.le_of_ble_eq_true rfl) c_in15 ?_
  obtain ⟨x2, e_x2, h⟩ := lt_use h
  refine zl_top e_x2 ?_
  refine zl_istore (pc := 16) hO (L' := [some (zR 0 0), some (zI a1), some (zI a2), some (zI x1), some (zI x2), none, none, none, none]) nd_GM_calculate_16 (by decide) rfl ?_
  refine zl_aload_n (pc := 18) hO 0 nd_GM_calculate_18 rfl rfl ?_
  refine zl_get0 (pc := 19) hO nd_GM_calculate_19 kf_GM_44 rfl (Nat.le_of_ble_eq_true rfl) rfl ?_
  refine zl_bipush (pc := 22) hO (v := 8) nd_GM_calculate_22 (by decide) ?_
  refine zl_iload_n (pc := 24) hO 1 nd_GM_calculate_24 rfl rfl ?_
  refine zl_imul (pc := 25) hO nd_GM_calculate_25 ?_
  refine zl_iload_n (pc := 26) hO 2 nd_GM_calculate_26 rfl rfl ?_
  refine zl_iconst (pc := 27) hO (v := 3) nd_GM_calculate_27 (by decide) ?_
  refine zl_ishr (pc := 28) hO nd_GM_calculate_28 ?_
  refine zl_bipush (pc := 29) hO (v := 7) nd_GM_calculate_29 (by decide) ?_
  refine zl_iand (pc := 31) hO nd_GM_calculate_31 ?_
  refine zl_iadd (pc := 32) hO nd_GM_calculate_32 ?_
  obtain ⟨c_in33, h⟩ := ck_use h
  refine zl_iald (pc := 33) hO nd_GM_calculate_33 rfl rfl (Nat.le_of_ble_eq_true rfl) c_in33 ?_
  obtain ⟨x3, e_x3, h⟩ := lt_use h
  refine zl_top e_x3 ?_
  refine zl_istore (pc := 34) hO (L' := [some (zR 0 0), some (zI a1), some (zI a2), some (zI x1), some (zI x2), some (zI x3), none, none, none]) nd_GM_calculate_34 (by decide) rfl ?_
  refine zl_aload_n (pc := 36) hO 0 nd_GM_calculate_36 rfl rfl ?_
  refine zl_get0 (pc := 37) hO nd_GM_calculate_37 kf_GM_56 rfl (Nat.le_of_ble_eq_true rfl) rfl ?_
  refine zl_iload_n (pc := 40) hO 1 nd_GM_calculate_40 rfl rfl ?_
  obtain ⟨c_in41, h⟩ := ck_use h
  refine zl_iald (pc := 41) hO nd_GM_calculate_41 rfl rfl (Nat.le_of_ble_eq_true rfl) c_in41 ?_
  refine zl_iconst (pc := 42) hO (v := 1) nd_GM_calculate_42 (by decide) ?_
  refine zl_ishr (pc := 43) hO nd_GM_calculate_43 ?_
  refine zl_iconst (pc := 44) hO (v := 1) nd_GM_calculate_44 (by decide) ?_
  refine zl_iand (pc := 45) hO nd_GM_calculate_45 ?_
  obtain ⟨x4, e_x4, h⟩ := lt_use h
  refine zl_top e_x4 ?_
  refine zl_istore (pc := 46) hO (L' := [some (zR 0 0), some (zI a1), some (zI a2), some (zI x1), some (zI x2), some (zI x3), some (zI x4), none, none]) nd_GM_calculate_46 (by decide) rfl ?_
  refine zl_iload_n (pc := 48) hO 2 nd_GM_calculate_48 rfl rfl ?_
  refine zl_bipush (pc := 49) hO (v := 6) nd_GM_calculate_49 (by decide) ?_
  refine zl_ishr (pc := 51) hO nd_GM_calculate_51 ?_
  refine zl_bipush (pc := 52) hO (v := 15) nd_GM_calculate_52 (by decide) ?_
  refine zl_iand (pc := 54) hO nd_GM_calculate_54 ?_
  obtain ⟨x5, e_x5, h⟩ := lt_use h
  refine zl_top e_x5 ?_
  refine zl_istore (pc := 55) hO (L' := [some (zR 0 0), some (zI a1), some (zI a2), some (zI x1), some (zI x2), some (zI x3), some (zI x4), some (zI x5), none]) nd_GM_calculate_55 (by decide) rfl ?_
  refine zl_iload (pc := 57) hO nd_GM_calculate_57 rfl ?_
  refine zl_iconst (pc := 59) hO (v := 2) nd_GM_calculate_59 (by decide) ?_
  refine zl_icmp_eq (pc := 60) hO 82 nd_GM_calculate_60 (by decide) (fun hc => ?_) (fun hc => ?_)
  · have h := ite_t hc h
    exact zl_weak (J_82 _ _ _ _ _ h) ⟨rfl, ⟨rfl, ⟨rfl, ⟨rfl, ⟨rfl, ⟨rfl, trivial⟩⟩⟩⟩⟩⟩
  · have h := ite_f hc h
    refine zl_iload (pc := 63) hO nd_GM_calculate_63 rfl ?_
    refine zl_iconst (pc := 65) hO (v := 3) nd_GM_calculate_65 (by decide) ?_
    refine zl_icmp_eq (pc := 66) hO 82 nd_GM_calculate_66 (by decide) (fun hc => ?_) (fun hc => ?_)
    · have h := ite_t hc h
      exact zl_weak (J_82 _ _ _ _ _ h) ⟨rfl, ⟨rfl, ⟨rfl, ⟨rfl, ⟨rfl, ⟨rfl, trivial⟩⟩⟩⟩⟩⟩
    · have h := ite_f hc h
      refine zl_iload (pc := 69) hO nd_GM_calculate_69 rfl ?_
      refine zl_iconst (pc := 71) hO (v := 4) nd_GM_calculate_71 (by decide) ?_
      refine zl_icmp_eq (pc := 72) hO 82 nd_GM_calculate_72 (by decide) (fun hc => ?_) (fun hc => ?_)
      · have h := ite_t hc h
        exact zl_weak (J_82 _ _ _ _ _ h) ⟨rfl, ⟨rfl, ⟨rfl, ⟨rfl, ⟨rfl, ⟨rfl, trivial⟩⟩⟩⟩⟩⟩
      · have h := ite_f hc h
        refine zl_iload (pc := 75) hO nd_GM_calculate_75 rfl ?_
        refine zl_bipush (pc := 77) hO (v := 7) nd_GM_calculate_77 (by decide) ?_
        refine zl_icmp_ne (pc := 79) hO 119 nd_GM_calculate_79 (by decide) (fun hc => ?_) (fun hc => ?_)
        · have h := ite_f hc h
          refine zl_iload (pc := 119) hO nd_GM_calculate_119 rfl ?_
          refine zl_iconst (pc := 121) hO (v := 5) nd_GM_calculate_121 (by decide) ?_
          refine zl_icmp_eq (pc := 122) hO 132 nd_GM_calculate_122 (by decide) (fun hc => ?_) (fun hc => ?_)
          · have h := ite_t hc h
            exact zl_weak (J_132 _ _ _ _ _ _ h) ⟨rfl, ⟨rfl, ⟨rfl, ⟨rfl, ⟨rfl, ⟨rfl, ⟨rfl, trivial⟩⟩⟩⟩⟩⟩⟩
          · have h := ite_f hc h
            refine zl_iload (pc := 125) hO nd_GM_calculate_125 rfl ?_
            refine zl_bipush (pc := 127) hO (v := 6) nd_GM_calculate_127 (by decide) ?_
            refine zl_icmp_ne (pc := 129) hO 165 nd_GM_calculate_129 (by decide) (fun hc => ?_) (fun hc => ?_)
            · have h := ite_f hc h
              refine zl_iload (pc := 165) hO nd_GM_calculate_165 rfl ?_
              refine zl_bipush (pc := 167) hO (v := 9) nd_GM_calculate_167 (by decide) ?_
              refine zl_icmp_ne (pc := 169) hO 192 nd_GM_calculate_169 (by decide) (fun hc => ?_) (fun hc => ?_)
              · have h := ite_f hc h
                refine zl_iload (pc := 192) hO nd_GM_calculate_192 rfl ?_
                refine zl_bipush (pc := 194) hO (v := 10) nd_GM_calculate_194 (by decide) ?_
                refine zl_icmp_eq (pc := 196) hO 206 nd_GM_calculate_196 (by decide) (fun hc => ?_) (fun hc => ?_)
                · have h := ite_t hc h
                  exact zl_weak (J_206 _ _ _ _ h) ⟨rfl, ⟨rfl, ⟨rfl, ⟨rfl, ⟨rfl, trivial⟩⟩⟩⟩⟩
                · have h := ite_f hc h
                  refine zl_iload (pc := 199) hO nd_GM_calculate_199 rfl ?_
                  refine zl_bipush (pc := 201) hO (v := 11) nd_GM_calculate_201 (by decide) ?_
                  refine zl_icmp_ne (pc := 203) hO 245 nd_GM_calculate_203 (by decide) (fun hc => ?_) (fun hc => ?_)
                  · have h := ite_f hc h
                    refine zl_iload (pc := 245) hO nd_GM_calculate_245 rfl ?_
                    refine zl_if_eq (pc := 247) hO 257 nd_GM_calculate_247 (by decide) (fun hc => ?_) (fun hc => ?_)
                    · have h := ite_t hc h
                      exact zl_weak (J_257 _ _ _ _ _ h) ⟨rfl, ⟨rfl, ⟨rfl, ⟨rfl, ⟨rfl, ⟨rfl, trivial⟩⟩⟩⟩⟩⟩
                    · have h := ite_f hc h
                      refine zl_iload (pc := 250) hO nd_GM_calculate_250 rfl ?_
                      refine zl_bipush (pc := 252) hO (v := 8) nd_GM_calculate_252 (by decide) ?_
                      refine zl_icmp_ne (pc := 254) hO 265 nd_GM_calculate_254 (by decide) (fun hc => ?_) (fun hc => ?_)
                      · have h := ite_f hc h
                        refine zl_iload (pc := 265) hO nd_GM_calculate_265 rfl ?_
                        refine zl_iconst (pc := 267) hO (v := 1) nd_GM_calculate_267 (by decide) ?_
                        refine zl_icmp_ne (pc := 268) hO 279 nd_GM_calculate_268 (by decide) (fun hc => ?_) (fun hc => ?_)
                        · have h := ite_f hc h
                          refine zl_iload (pc := 279) hO nd_GM_calculate_279 rfl ?_
                          refine zl_bipush (pc := 281) hO (v := 12) nd_GM_calculate_281 (by decide) ?_
                          refine zl_icmp_ne (pc := 283) hO 294 nd_GM_calculate_283 (by decide) (fun hc => ?_) (fun hc => ?_)
                          · have h := ite_f hc h
                            refine zl_iload (pc := 294) hO nd_GM_calculate_294 rfl ?_
                            refine zl_bipush (pc := 296) hO (v := 13) nd_GM_calculate_296 (by decide) ?_
                            refine zl_icmp_ne (pc := 298) hO 309 nd_GM_calculate_298 (by decide) (fun hc => ?_) (fun hc => ?_)
                            · have h := ite_f hc h
                              refine zl_iload (pc := 309) hO nd_GM_calculate_309 rfl ?_
                              refine zl_bipush (pc := 311) hO (v := 14) nd_GM_calculate_311 (by decide) ?_
                              refine zl_icmp_ne (pc := 313) hO 326 nd_GM_calculate_313 (by decide) (fun hc => ?_) (fun hc => ?_)
                              · have h := ite_f hc h
                                refine zl_iload (pc := 326) hO nd_GM_calculate_326 rfl ?_
                                refine zl_iconst (pc := 328) hO (v := (-1)) nd_GM_calculate_328 (by decide) ?_
                                refine zl_ixor (pc := 329) hO nd_GM_calculate_329 ?_
                                exact zl_weak (J_330 _ _ _ _ _ h) ⟨rfl, ⟨rfl, ⟨rfl, ⟨rfl, ⟨rfl, trivial⟩⟩⟩⟩⟩
                              · have h := ite_t hc h
                                refine zl_iload (pc := 316) hO nd_GM_calculate_316 rfl ?_
                                refine zl_iload (pc := 318) hO nd_GM_calculate_318 rfl ?_
                                refine zl_iconst (pc := 320) hO (v := (-1)) nd_GM_calculate_320 (by decide) ?_
                                refine zl_ixor (pc := 321) hO nd_GM_calculate_321 ?_
                                refine zl_iand (pc := 322) hO nd_GM_calculate_322 ?_
                                refine zl_goto (pc := 323) hO 330 nd_GM_calculate_323 (by decide) ?_
                                exact zl_weak (J_330 _ _ _ _ _ h) ⟨rfl, ⟨rfl, ⟨rfl, ⟨rfl, ⟨rfl, trivial⟩⟩⟩⟩⟩
                            · have h := ite_t hc h
                              refine zl_iload (pc := 301) hO nd_GM_calculate_301 rfl ?_
                              refine zl_iload (pc := 303) hO nd_GM_calculate_303 rfl ?_
                              refine zl_imul (pc := 305) hO nd_GM_calculate_305 ?_
                              refine zl_goto (pc := 306) hO 330 nd_GM_calculate_306 (by decide) ?_
                              exact zl_weak (J_330 _ _ _ _ _ h) ⟨rfl, ⟨rfl, ⟨rfl, ⟨rfl, ⟨rfl, trivial⟩⟩⟩⟩⟩
                          · have h := ite_t hc h
                            refine zl_iload (pc := 286) hO nd_GM_calculate_286 rfl ?_
                            refine zl_iload (pc := 288) hO nd_GM_calculate_288 rfl ?_
                            refine zl_ior (pc := 290) hO nd_GM_calculate_290 ?_
                            refine zl_goto (pc := 291) hO 330 nd_GM_calculate_291 (by decide) ?_
                            exact zl_weak (J_330 _ _ _ _ _ h) ⟨rfl, ⟨rfl, ⟨rfl, ⟨rfl, ⟨rfl, trivial⟩⟩⟩⟩⟩
                        · have h := ite_t hc h
                          refine zl_iload (pc := 271) hO nd_GM_calculate_271 rfl ?_
                          refine zl_iload (pc := 273) hO nd_GM_calculate_273 rfl ?_
                          refine zl_ixor (pc := 275) hO nd_GM_calculate_275 ?_
                          refine zl_goto (pc := 276) hO 330 nd_GM_calculate_276 (by decide) ?_
                          exact zl_weak (J_330 _ _ _ _ _ h) ⟨rfl, ⟨rfl, ⟨rfl, ⟨rfl, ⟨rfl, trivial⟩⟩⟩⟩⟩
                      · have h := ite_t hc h
                        exact zl_weak (J_257 _ _ _ _ _ h) ⟨rfl, ⟨rfl, ⟨rfl, ⟨rfl, ⟨rfl, ⟨rfl, trivial⟩⟩⟩⟩⟩⟩
                  · have h := ite_t hc h
                    exact zl_weak (J_206 _ _ _ _ h) ⟨rfl, ⟨rfl, ⟨rfl, ⟨rfl, ⟨rfl, trivial⟩⟩⟩⟩⟩
              · have h := ite_t hc h
                refine zl_aload_n (pc := 172) hO 0 nd_GM_calculate_172 rfl rfl ?_
                refine zl_get0 (pc := 173) hO nd_GM_calculate_173 kf_GM_44 rfl (Nat.le_of_ble_eq_true rfl) rfl ?_
                refine zl_iload_n (pc := 176) hO 3 nd_GM_calculate_176 rfl rfl ?_
                refine zl_aload_n (pc := 177) hO 0 nd_GM_calculate_177 rfl rfl ?_
                refine zl_iload_n (pc := 178) hO 1 nd_GM_calculate_178 rfl rfl ?_
                refine zl_iconst (pc := 179) hO (v := 0) nd_GM_calculate_179 (by decide) ?_
                refine zl_iload (pc := 180) hO nd_GM_calculate_180 rfl ?_
                refine zl_iconst (pc := 182) hO (v := (-1)) nd_GM_calculate_182 (by decide) ?_
                refine zl_ixor (pc := 183) hO nd_GM_calculate_183 ?_
                refine zl_iconst (pc := 184) hO (v := 1) nd_GM_calculate_184 (by decide) ?_
                obtain ⟨⟨s6, r7⟩, h_185, h⟩ := bn_use h
                refine zl_callVi (pc := 185) hO [zI a1, zI 0, zI (x3 ^^^ (-1 : Int32)), zI 1] [zI x1, zR 11 0] (c_GM_sum hJ h_185) nd_GM_calculate_185 kv_GM_192 rfl (Nat.le_of_ble_eq_true rfl) rfl rfl rfl (Nat.le_of_ble_eq_true rfl) ?_
                obtain ⟨c_in188, h⟩ := ck_use h
                refine zl_iast (pc := 188) hO nd_GM_calculate_188 rfl rfl (Nat.le_of_ble_eq_true rfl) c_in188 ?_
                obtain ⟨s8, e_s8, h⟩ := lt_use h
                refine zl_sg e_s8 ?_
                refine zl_goto (pc := 189) hO 359 nd_GM_calculate_189 (by decide) ?_
                exact zl_vret (pc := 359) hO nd_GM_calculate_359 rfl (zr_v h)
            · have h := ite_t hc h
              exact zl_weak (J_132 _ _ _ _ _ _ h) ⟨rfl, ⟨rfl, ⟨rfl, ⟨rfl, ⟨rfl, ⟨rfl, ⟨rfl, trivial⟩⟩⟩⟩⟩⟩⟩
        · have h := ite_t hc h
          exact zl_weak (J_82 _ _ _ _ _ h) ⟨rfl, ⟨rfl, ⟨rfl, ⟨rfl, ⟨rfl, ⟨rfl, trivial⟩⟩⟩⟩⟩⟩
set_option maxHeartbeats 4000000 in
set_option maxRecDepth 100000 in
theorem c_GM_immediate {l : Launch} {V : zG} (hJ : zJ0 (sM l V)) {s0 : zS} {a1 : Int32} {a2 : Int32}  {s1 : zS} (h : k_GM_immediate s0 a1 a2 = some s1) : zM (sM l V) md_GM_immediate [zR 0 0, zI a1, zI a2] s0 (s1, none) := by
  refine zMet [some (zR 0 0), some (zI a1), some (zI a2), none, none, none, none] hJ (by decide) rfl (Nat.le_of_ble_eq_true rfl) rfl ?_
  intro X hO
  have J_113 : ∀ (s0 : zS) (t0 : Int32) (t1 : Int32), k_GM_immediate_113 a1 a2 s0 t0 t1 = some s1 → ZW (sM l V) md_GM_immediate (s1, none) X 113 [none, none, none, none, none, none, none] [zI t0, zI t1, zR 11 0] s0 := by
    intro s0 t0 t1 h
    unfold k_GM_immediate_113 at h
    obtain ⟨c_in113, h⟩ := ck_use h
    refine zl_iast (pc := 113) hO nd_GM_immediate_113 rfl rfl (Nat.le_of_ble_eq_true rfl) c_in113 ?_
    obtain ⟨s7, e_s7, h⟩ := lt_use h
    refine zl_sg e_s7 ?_
    exact zl_vret (pc := 114) hO nd_GM_immediate_114 rfl (zr_v h)
  have J_91 : ∀ (s0 : zS) (l3 : Int32) (l5 : Int32) (l6 : Int32), k_GM_immediate_91 a1 a2 s0 l3 l5 l6 = some s1 → ZW (sM l V) md_GM_immediate (s1, none) X 91 [some (zR 0 0), none, none, some (zI l3), none, some (zI l5), some (zI l6)] [] s0 := by
    intro s0 l3 l5 l6 h
    unfold k_GM_immediate_91 at h
    refine zl_aload_n (pc := 91) hO 0 nd_GM_immediate_91 rfl rfl ?_
    refine zl_get0 (pc := 92) hO nd_GM_immediate_92 kf_GM_44 rfl (Nat.le_of_ble_eq_true rfl) rfl ?_
    refine zl_iload_n (pc := 95) hO 3 nd_GM_immediate_95 rfl rfl ?_
    refine zl_iload (pc := 96) hO nd_GM_immediate_96 rfl ?_
    refine zl_iconst (pc := 98) hO (v := 5) nd_GM_immediate_98 (by decide) ?_
    refine zl_icmp_ne (pc := 99) hO 111 nd_GM_immediate_99 (by decide) (fun hc => ?_) (fun hc => ?_)
    · have h := ite_f hc h
      refine zl_iload (pc := 111) hO nd_GM_immediate_111 rfl ?_
      exact zl_weak (J_113 _ _ _ h) trivial
    · have h := ite_t hc h
      refine zl_aload_n (pc := 102) hO 0 nd_GM_immediate_102 rfl rfl ?_
      refine zl_get0 (pc := 103) hO nd_GM_immediate_103 kf_GM_44 rfl (Nat.le_of_ble_eq_true rfl) rfl ?_
      refine zl_iload_n (pc := 106) hO 3 nd_GM_immediate_106 rfl rfl ?_
      obtain ⟨c_in107, h⟩ := ck_use h
      refine zl_iald (pc := 107) hO nd_GM_immediate_107 rfl rfl (Nat.le_of_ble_eq_true rfl) c_in107 ?_
      refine zl_goto (pc := 108) hO 113 nd_GM_immediate_108 (by decide) ?_
      exact zl_weak (J_113 _ _ _ h) trivial
  have J_76 : ∀ (s0 : zS) (l3 : Int32) (l4 : Int32) (l5 : Int32) (t0 : Int32), k_GM_immediate_76 a1 a2 s0 l3 l4 l5 t0 = some s1 → ZW (sM l V) md_GM_immediate (s1, none) X 76 [some (zR 0 0), some (zI a1), none, some (zI l3), some (zI l4), some (zI l5), none] [zI t0] s0 := by
    intro s0 l3 l4 l5 t0 h
    unfold k_GM_immediate_76 at h
    refine zl_istore (pc := 76) hO (L' := [some (zR 0 0), some (zI a1), none, some (zI l3), some (zI l4), some (zI l5), some (zI t0)]) nd_GM_immediate_76 (by decide) rfl ?_
    refine zl_iload (pc := 78) hO nd_GM_immediate_78 rfl ?_
    refine zl_iconst (pc := 80) hO (v := 4) nd_GM_immediate_80 (by decide) ?_
    refine zl_icmp_ne (pc := 81) hO 91 nd_GM_immediate_81 (by decide) (fun hc => ?_) (fun hc => ?_)
    · have h := ite_f hc h
      exact zl_weak (J_91 _ _ _ _ h) ⟨rfl, ⟨rfl, ⟨rfl, ⟨rfl, trivial⟩⟩⟩⟩
    · have h := ite_t hc h
      refine zl_aload_n (pc := 84) hO 0 nd_GM_immediate_84 rfl rfl ?_
      refine zl_iload_n (pc := 85) hO 1 nd_GM_immediate_85 rfl rfl ?_
      refine zl_iload (pc := 86) hO nd_GM_immediate_86 rfl ?_
      obtain ⟨s4, h_88, h⟩ := bn_use h
      refine zl_callVv (pc := 88) hO [zI a1, zI l4] [] (c_GM_nz hJ h_88) nd_GM_immediate_88 kv_GM_182 rfl (Nat.le_of_ble_eq_true rfl) rfl rfl rfl (Nat.le_of_ble_eq_true rfl) ?_
      exact zl_weak (J_91 _ _ _ _ h) ⟨rfl, ⟨rfl, ⟨rfl, ⟨rfl, trivial⟩⟩⟩⟩
  have J_73 : ∀ (s0 : zS) (l3 : Int32) (l4 : Int32) (l5 : Int32) (t0 : Int32) (t1 : Int32) (t2 : Int32) (t3 : Int32), k_GM_immediate_73 a1 a2 s0 l3 l4 l5 t0 t1 t2 t3 = some s1 → ZW (sM l V) md_GM_immediate (s1, none) X 73 [some (zR 0 0), some (zI a1), none, some (zI l3), some (zI l4), some (zI l5), none] [zI t0, zI t1, zI t2, zI t3, zR 0 0] s0 := by
    intro s0 l3 l4 l5 t0 t1 t2 t3 h
    unfold k_GM_immediate_73 at h
    obtain ⟨⟨s5, r6⟩, h_73, h⟩ := bn_use h
    refine zl_callVi (pc := 73) hO [zI t3, zI t2, zI t1, zI t0] [] (c_GM_sum hJ h_73) nd_GM_immediate_73 kv_GM_192 rfl (Nat.le_of_ble_eq_true rfl) rfl rfl rfl (Nat.le_of_ble_eq_true rfl) ?_
    exact zl_weak (J_76 _ _ _ _ _ h) ⟨rfl, ⟨rfl, ⟨rfl, ⟨rfl, ⟨rfl, trivial⟩⟩⟩⟩⟩
  have J_61 : ∀ (s0 : zS) (l3 : Int32) (l4 : Int32) (l5 : Int32) (t0 : Int32) (t1 : Int32) (t2 : Int32), k_GM_immediate_61 a1 a2 s0 l3 l4 l5 t0 t1 t2 = some s1 → ZW (sM l V) md_GM_immediate (s1, none) X 61 [some (zR 0 0), some (zI a1), none, some (zI l3), some (zI l4), some (zI l5), none] [zI t0, zI t1, zI t2, zR 0 0] s0 := by
    intro s0 l3 l4 l5 t0 t1 t2 h
    unfold k_GM_immediate_61 at h
    refine zl_iload (pc := 61) hO nd_GM_immediate_61 rfl ?_
    refine zl_bipush (pc := 63) hO (v := 6) nd_GM_immediate_63 (by decide) ?_
    refine zl_icmp_ne (pc := 65) hO 72 nd_GM_immediate_65 (by decide) (fun hc => ?_) (fun hc => ?_)
    · have h := ite_f hc h
      refine zl_iconst (pc := 72) hO (v := 1) nd_GM_immediate_72 (by decide) ?_
      exact zl_weak (J_73 _ _ _ _ _ _ _ _ h) ⟨rfl, ⟨rfl, ⟨rfl, ⟨rfl, ⟨rfl, trivial⟩⟩⟩⟩⟩
    · have h := ite_t hc h
      refine zl_iconst (pc := 68) hO (v := 0) nd_GM_immediate_68 (by decide) ?_
      refine zl_goto (pc := 69) hO 73 nd_GM_immediate_69 (by decide) ?_
      exact zl_weak (J_73 _ _ _ _ _ _ _ _ h) ⟨rfl, ⟨rfl, ⟨rfl, ⟨rfl, ⟨rfl, trivial⟩⟩⟩⟩⟩
  unfold k_GM_immediate at h
  refine zl_bipush (pc := 0) hO (v := 8) nd_GM_immediate_0 (by decide) ?_
  refine zl_iload_n (pc := 2) hO 1 nd_GM_immediate_2 rfl rfl ?_
  refine zl_imul (pc := 3) hO nd_GM_immediate_3 ?_
  refine zl_iload_n (pc := 4) hO 2 nd_GM_immediate_4 rfl rfl ?_
  refine zl_bipush (pc := 5) hO (v := 8) nd_GM_immediate_5 (by decide) ?_
  refine zl_ishr (pc := 7) hO nd_GM_immediate_7 ?_
  refine zl_bipush (pc := 8) hO (v := 7) nd_GM_immediate_8 (by decide) ?_
  refine zl_iand (pc := 10) hO nd_GM_immediate_10 ?_
  refine zl_iadd (pc := 11) hO nd_GM_immediate_11 ?_
  obtain ⟨x1, e_x1, h⟩ := lt_use h
  refine zl_top e_x1 ?_
  refine zl_istore_n (pc := 12) hO 3 (L' := [some (zR 0 0), some (zI a1), some (zI a2), some (zI x1), none, none, none]) nd_GM_immediate_12 rfl (by decide) rfl ?_
  refine zl_iload_n (pc := 13) hO 2 nd_GM_immediate_13 rfl rfl ?_
  refine zl_sipush (pc := 14) hO (v := 255) nd_GM_immediate_14 (by decide) ?_
  refine zl_iand (pc := 17) hO nd_GM_immediate_17 ?_
  obtain ⟨x2, e_x2, h⟩ := lt_use h
  refine zl_top e_x2 ?_
  refine zl_istore (pc := 18) hO (L' := [some (zR 0 0), some (zI a1), some (zI a2), some (zI x1), some (zI x2), none, none]) nd_GM_immediate_18 (by decide) rfl ?_
  refine zl_iload_n (pc := 20) hO 2 nd_GM_immediate_20 rfl rfl ?_
  refine zl_bipush (pc := 21) hO (v := 11) nd_GM_immediate_21 (by decide) ?_
  refine zl_ishr (pc := 23) hO nd_GM_immediate_23 ?_
  obtain ⟨x3, e_x3, h⟩ := lt_use h
  refine zl_top e_x3 ?_
  refine zl_istore (pc := 24) hO (L' := [some (zR 0 0), some (zI a1), some (zI a2), some (zI x1), some (zI x2), some (zI x3), none]) nd_GM_immediate_24 (by decide) rfl ?_
  refine zl_iload (pc := 26) hO nd_GM_immediate_26 rfl ?_
  refine zl_iconst (pc := 28) hO (v := 4) nd_GM_immediate_28 (by decide) ?_
  refine zl_icmp_ne (pc := 29) hO 37 nd_GM_immediate_29 (by decide) (fun hc => ?_) (fun hc => ?_)
  · have h := ite_f hc h
    refine zl_aload_n (pc := 37) hO 0 nd_GM_immediate_37 rfl rfl ?_
    refine zl_iload_n (pc := 38) hO 1 nd_GM_immediate_38 rfl rfl ?_
    refine zl_aload_n (pc := 39) hO 0 nd_GM_immediate_39 rfl rfl ?_
    refine zl_get0 (pc := 40) hO nd_GM_immediate_40 kf_GM_44 rfl (Nat.le_of_ble_eq_true rfl) rfl ?_
    refine zl_iload_n (pc := 43) hO 3 nd_GM_immediate_43 rfl rfl ?_
    obtain ⟨c_in44, h⟩ := ck_use h
    refine zl_iald (pc := 44) hO nd_GM_immediate_44 rfl rfl (Nat.le_of_ble_eq_true rfl) c_in44 ?_
    refine zl_iload (pc := 45) hO nd_GM_immediate_45 rfl ?_
    refine zl_bipush (pc := 47) hO (v := 6) nd_GM_immediate_47 (by decide) ?_
    refine zl_icmp_ne (pc := 49) hO 57 nd_GM_immediate_49 (by decide) (fun hc => ?_) (fun hc => ?_)
    · have h := ite_f hc h
      refine zl_iload (pc := 57) hO nd_GM_immediate_57 rfl ?_
      refine zl_iconst (pc := 59) hO (v := (-1)) nd_GM_immediate_59 (by decide) ?_
      refine zl_ixor (pc := 60) hO nd_GM_immediate_60 ?_
      exact zl_weak (J_61 _ _ _ _ _ _ _ h) ⟨rfl, ⟨rfl, ⟨rfl, ⟨rfl, ⟨rfl, trivial⟩⟩⟩⟩⟩
    · have h := ite_t hc h
      refine zl_iload (pc := 52) hO nd_GM_immediate_52 rfl ?_
      refine zl_goto (pc := 54) hO 61 nd_GM_immediate_54 (by decide) ?_
      exact zl_weak (J_61 _ _ _ _ _ _ _ h) ⟨rfl, ⟨rfl, ⟨rfl, ⟨rfl, ⟨rfl, trivial⟩⟩⟩⟩⟩
  · have h := ite_t hc h
    refine zl_iload (pc := 32) hO nd_GM_immediate_32 rfl ?_
    refine zl_goto (pc := 34) hO 76 nd_GM_immediate_34 (by decide) ?_
    exact zl_weak (J_76 _ _ _ _ _ h) ⟨rfl, ⟨rfl, ⟨rfl, ⟨rfl, ⟨rfl, trivial⟩⟩⟩⟩⟩
set_option maxHeartbeats 4000000 in
set_option maxRecDepth 100000 in
theorem c_GM_addOrTake {l : Launch} {V : zG} (hJ : zJ0 (sM l V)) {s0 : zS} {a1 : Int32} {a2 : Int32}  {s1 : zS} (h : k_GM_addOrTake s0 a1 a2 = some s1) : zM (sM l V) md_GM_addOrTake [zR 0 0, zI a1, zI a2] s0 (s1, none) := by
  refine zMet [some (zR 0 0), some (zI a1), some (zI a2), none, none, none, none] hJ (by decide) rfl (Nat.le_of_ble_eq_true rfl) rfl ?_
  intro X hO
  have J_112 : ∀ (s0 : zS) (t0 : Int32) (t1 : Int32) (t2 : Int32) (t3 : Int32) (t5 : Int32), k_GM_addOrTake_112 a1 a2 s0 t0 t1 t2 t3 t5 = some s1 → ZW (sM l V) md_GM_addOrTake (s1, none) X 112 [none, none, none, none, none, none, none] [zI t0, zI t1, zI t2, zI t3, zR 0 0, zI t5, zR 11 0] s0 := by
    intro s0 t0 t1 t2 t3 t5 h
    unfold k_GM_addOrTake_112 at h
    obtain ⟨⟨s3, r4⟩, h_112, h⟩ := bn_use h
    refine zl_callVi (pc := 112) hO [zI t3, zI t2, zI t1, zI t0] [zI t5, zR 11 0] (c_GM_sum hJ h_112) nd_GM_addOrTake_112 kv_GM_192 rfl (Nat.le_of_ble_eq_true rfl) rfl rfl rfl (Nat.le_of_ble_eq_true rfl) ?_
    obtain ⟨c_in115, h⟩ := ck_use h
    refine zl_iast (pc := 115) hO nd_GM_addOrTake_115 rfl rfl (Nat.le_of_ble_eq_true rfl) c_in115 ?_
    obtain ⟨s5, e_s5, h⟩ := lt_use h
    refine zl_sg e_s5 ?_
    exact zl_vret (pc := 116) hO nd_GM_addOrTake_116 rfl (zr_v h)
  have J_102 : ∀ (s0 : zS) (l6 : Int32) (t0 : Int32) (t1 : Int32) (t2 : Int32) (t4 : Int32), k_GM_addOrTake_102 a1 a2 s0 l6 t0 t1 t2 t4 = some s1 → ZW (sM l V) md_GM_addOrTake (s1, none) X 102 [none, none, none, none, none, none, some (zI l6)] [zI t0, zI t1, zI t2, zR 0 0, zI t4, zR 11 0] s0 := by
    intro s0 l6 t0 t1 t2 t4 h
    unfold k_GM_addOrTake_102 at h
    refine zl_iload (pc := 102) hO nd_GM_addOrTake_102 rfl ?_
    refine zl_if_eq (pc := 104) hO 111 nd_GM_addOrTake_104 (by decide) (fun hc => ?_) (fun hc => ?_)
    · have h := ite_t hc h
      refine zl_iconst (pc := 111) hO (v := 0) nd_GM_addOrTake_111 (by decide) ?_
      exact zl_weak (J_112 _ _ _ _ _ _ h) trivial
    · have h := ite_f hc h
      refine zl_iconst (pc := 107) hO (v := 1) nd_GM_addOrTake_107 (by decide) ?_
      refine zl_goto (pc := 108) hO 112 nd_GM_addOrTake_108 (by decide) ?_
      exact zl_weak (J_112 _ _ _ _ _ _ h) trivial
  have J_70 : ∀ (s0 : zS) (l3 : Int32) (l5 : Int32) (t0 : Int32), k_GM_addOrTake_70 a1 a2 s0 l3 l5 t0 = some s1 → ZW (sM l V) md_GM_addOrTake (s1, none) X 70 [some (zR 0 0), some (zI a1), some (zI a2), some (zI l3), none, some (zI l5), none] [zI t0] s0 := by
    intro s0 l3 l5 t0 h
    unfold k_GM_addOrTake_70 at h
    refine zl_istore (pc := 70) hO (L' := [some (zR 0 0), some (zI a1), some (zI a2), some (zI l3), none, some (zI l5), some (zI t0)]) nd_GM_addOrTake_70 (by decide) rfl ?_
    refine zl_aload_n (pc := 72) hO 0 nd_GM_addOrTake_72 rfl rfl ?_
    refine zl_get0 (pc := 73) hO nd_GM_addOrTake_73 kf_GM_44 rfl (Nat.le_of_ble_eq_true rfl) rfl ?_
    refine zl_bipush (pc := 76) hO (v := 8) nd_GM_addOrTake_76 (by decide) ?_
    refine zl_iload_n (pc := 78) hO 1 nd_GM_addOrTake_78 rfl rfl ?_
    refine zl_imul (pc := 79) hO nd_GM_addOrTake_79 ?_
    refine zl_iload_n (pc := 80) hO 2 nd_GM_addOrTake_80 rfl rfl ?_
    refine zl_bipush (pc := 81) hO (v := 7) nd_GM_addOrTake_81 (by decide) ?_
    refine zl_iand (pc := 83) hO nd_GM_addOrTake_83 ?_
    refine zl_iadd (pc := 84) hO nd_GM_addOrTake_84 ?_
    refine zl_aload_n (pc := 85) hO 0 nd_GM_addOrTake_85 rfl rfl ?_
    refine zl_iload_n (pc := 86) hO 1 nd_GM_addOrTake_86 rfl rfl ?_
    refine zl_iload_n (pc := 87) hO 3 nd_GM_addOrTake_87 rfl rfl ?_
    refine zl_iload (pc := 88) hO nd_GM_addOrTake_88 rfl ?_
    refine zl_if_eq (pc := 90) hO 100 nd_GM_addOrTake_90 (by decide) (fun hc => ?_) (fun hc => ?_)
    · have h := ite_t hc h
      refine zl_iload (pc := 100) hO nd_GM_addOrTake_100 rfl ?_
      exact zl_weak (J_102 _ _ _ _ _ _ h) ⟨rfl, trivial⟩
    · have h := ite_f hc h
      refine zl_iload (pc := 93) hO nd_GM_addOrTake_93 rfl ?_
      refine zl_iconst (pc := 95) hO (v := (-1)) nd_GM_addOrTake_95 (by decide) ?_
      refine zl_ixor (pc := 96) hO nd_GM_addOrTake_96 ?_
      refine zl_goto (pc := 97) hO 102 nd_GM_addOrTake_97 (by decide) ?_
      exact zl_weak (J_102 _ _ _ _ _ _ h) ⟨rfl, trivial⟩
  have J_53 : ∀ (s0 : zS) (l3 : Int32) (t0 : Int32), k_GM_addOrTake_53 a1 a2 s0 l3 t0 = some s1 → ZW (sM l V) md_GM_addOrTake (s1, none) X 53 [some (zR 0 0), some (zI a1), some (zI a2), some (zI l3), none, none, none] [zI t0] s0 := by
    intro s0 l3 t0 h
    unfold k_GM_addOrTake_53 at h
    refine zl_istore (pc := 53) hO (L' := [some (zR 0 0), some (zI a1), some (zI a2), some (zI l3), none, some (zI t0), none]) nd_GM_addOrTake_53 (by decide) rfl ?_
    refine zl_iload_n (pc := 55) hO 2 nd_GM_addOrTake_55 rfl rfl ?_
    refine zl_bipush (pc := 56) hO (v := 9) nd_GM_addOrTake_56 (by decide) ?_
    refine zl_ishr (pc := 58) hO nd_GM_addOrTake_58 ?_
    refine zl_iconst (pc := 59) hO (v := 1) nd_GM_addOrTake_59 (by decide) ?_
    refine zl_iand (pc := 60) hO nd_GM_addOrTake_60 ?_
    refine zl_iconst (pc := 61) hO (v := 1) nd_GM_addOrTake_61 (by decide) ?_
    refine zl_icmp_ne (pc := 62) hO 69 nd_GM_addOrTake_62 (by decide) (fun hc => ?_) (fun hc => ?_)
    · have h := ite_f hc h
      refine zl_iconst (pc := 69) hO (v := 0) nd_GM_addOrTake_69 (by decide) ?_
      exact zl_weak (J_70 _ _ _ _ h) ⟨rfl, ⟨rfl, ⟨rfl, ⟨rfl, ⟨rfl, trivial⟩⟩⟩⟩⟩
    · have h := ite_t hc h
      refine zl_iconst (pc := 65) hO (v := 1) nd_GM_addOrTake_65 (by decide) ?_
      refine zl_goto (pc := 66) hO 70 nd_GM_addOrTake_66 (by decide) ?_
      exact zl_weak (J_70 _ _ _ _ h) ⟨rfl, ⟨rfl, ⟨rfl, ⟨rfl, ⟨rfl, trivial⟩⟩⟩⟩⟩
  unfold k_GM_addOrTake at h
  refine zl_aload_n (pc := 0) hO 0 nd_GM_addOrTake_0 rfl rfl ?_
  refine zl_get0 (pc := 1) hO nd_GM_addOrTake_1 kf_GM_44 rfl (Nat.le_of_ble_eq_true rfl) rfl ?_
  refine zl_bipush (pc := 4) hO (v := 8) nd_GM_addOrTake_4 (by decide) ?_
  refine zl_iload_n (pc := 6) hO 1 nd_GM_addOrTake_6 rfl rfl ?_
  refine zl_imul (pc := 7) hO nd_GM_addOrTake_7 ?_
  refine zl_iload_n (pc := 8) hO 2 nd_GM_addOrTake_8 rfl rfl ?_
  refine zl_iconst (pc := 9) hO (v := 3) nd_GM_addOrTake_9 (by decide) ?_
  refine zl_ishr (pc := 10) hO nd_GM_addOrTake_10 ?_
  refine zl_bipush (pc := 11) hO (v := 7) nd_GM_addOrTake_11 (by decide) ?_
  refine zl_iand (pc := 13) hO nd_GM_addOrTake_13 ?_
  refine zl_iadd (pc := 14) hO nd_GM_addOrTake_14 ?_
  obtain ⟨c_in15, h⟩ := ck_use h
  refine zl_iald (pc := 15) hO nd_GM_addOrTake_15 rfl rfl (Nat.le_of_ble_eq_true rfl) c_in15 ?_
  obtain ⟨x1, e_x1, h⟩ := lt_use h
  refine zl_top e_x1 ?_
  refine zl_istore_n (pc := 16) hO 3 (L' := [some (zR 0 0), some (zI a1), some (zI a2), some (zI x1), none, none, none]) nd_GM_addOrTake_16 rfl (by decide) rfl ?_
  refine zl_iload_n (pc := 17) hO 2 nd_GM_addOrTake_17 rfl rfl ?_
  refine zl_bipush (pc := 18) hO (v := 6) nd_GM_addOrTake_18 (by decide) ?_
  refine zl_ishr (pc := 20) hO nd_GM_addOrTake_20 ?_
  refine zl_bipush (pc := 21) hO (v := 7) nd_GM_addOrTake_21 (by decide) ?_
  refine zl_iand (pc := 23) hO nd_GM_addOrTake_23 ?_
  obtain ⟨x2, e_x2, h⟩ := lt_use h
  refine zl_top e_x2 ?_
  refine zl_istore (pc := 24) hO (L' := [some (zR 0 0), some (zI a1), some (zI a2), some (zI x1), some (zI x2), none, none]) nd_GM_addOrTake_24 (by decide) rfl ?_
  refine zl_iload_n (pc := 26) hO 2 nd_GM_addOrTake_26 rfl rfl ?_
  refine zl_bipush (pc := 27) hO (v := 10) nd_GM_addOrTake_27 (by decide) ?_
  refine zl_ishr (pc := 29) hO nd_GM_addOrTake_29 ?_
  refine zl_iconst (pc := 30) hO (v := 1) nd_GM_addOrTake_30 (by decide) ?_
  refine zl_iand (pc := 31) hO nd_GM_addOrTake_31 ?_
  refine zl_iconst (pc := 32) hO (v := 1) nd_GM_addOrTake_32 (by decide) ?_
  refine zl_icmp_ne (pc := 33) hO 41 nd_GM_addOrTake_33 (by decide) (fun hc => ?_) (fun hc => ?_)
  · have h := ite_f hc h
    refine zl_aload_n (pc := 41) hO 0 nd_GM_addOrTake_41 rfl rfl ?_
    refine zl_get0 (pc := 42) hO nd_GM_addOrTake_42 kf_GM_44 rfl (Nat.le_of_ble_eq_true rfl) rfl ?_
    refine zl_bipush (pc := 45) hO (v := 8) nd_GM_addOrTake_45 (by decide) ?_
    refine zl_iload_n (pc := 47) hO 1 nd_GM_addOrTake_47 rfl rfl ?_
    refine zl_imul (pc := 48) hO nd_GM_addOrTake_48 ?_
    refine zl_iload (pc := 49) hO nd_GM_addOrTake_49 rfl ?_
    refine zl_iadd (pc := 51) hO nd_GM_addOrTake_51 ?_
    obtain ⟨c_in52, h⟩ := ck_use h
    refine zl_iald (pc := 52) hO nd_GM_addOrTake_52 rfl rfl (Nat.le_of_ble_eq_true rfl) c_in52 ?_
    exact zl_weak (J_53 _ _ _ h) ⟨rfl, ⟨rfl, ⟨rfl, ⟨rfl, trivial⟩⟩⟩⟩
  · have h := ite_t hc h
    refine zl_iload (pc := 36) hO nd_GM_addOrTake_36 rfl ?_
    refine zl_goto (pc := 38) hO 53 nd_GM_addOrTake_38 (by decide) ?_
    exact zl_weak (J_53 _ _ _ h) ⟨rfl, ⟨rfl, ⟨rfl, ⟨rfl, trivial⟩⟩⟩⟩
set_option maxHeartbeats 4000000 in
set_option maxRecDepth 100000 in
theorem c_GM_access {l : Launch} {V : zG} (hJ : zJ0 (sM l V)) {s0 : zS} {a1 : Int32} {a2 : Int32} {a3 : Int32} {a4 : Int32}  {s1 : zS} (h : k_GM_access s0 a1 a2 a3 a4 = some s1) : zM (sM l V) md_GM_access [zR 0 0, zI a1, zI a2, zI a3, zI a4] s0 (s1, none) := by
  refine zMet [some (zR 0 0), some (zI a1), some (zI a2), some (zI a3), some (zI a4)] hJ (by decide) rfl (Nat.le_of_ble_eq_true rfl) rfl ?_
  intro X hO
  unfold k_GM_access at h
  refine zl_aload_n (pc := 0) hO 0 nd_GM_access_0 rfl rfl ?_
  refine zl_iload_n (pc := 1) hO 1 nd_GM_access_1 rfl rfl ?_
  refine zl_iload_n (pc := 2) hO 3 nd_GM_access_2 rfl rfl ?_
  refine zl_iload (pc := 3) hO nd_GM_access_3 rfl ?_
  obtain ⟨⟨s1, r2⟩, h_5, h⟩ := bn_use h
  refine zl_callVi (pc := 5) hO [zI a1, zI a3, zI a4] [] (c_GM_may hJ h_5) nd_GM_access_5 kv_GM_195 rfl (Nat.le_of_ble_eq_true rfl) rfl rfl rfl (Nat.le_of_ble_eq_true rfl) ?_
  refine zl_if_eq (pc := 8) hO 51 nd_GM_access_8 (by decide) (fun hc => ?_) (fun hc => ?_)
  · have h := ite_t hc h
    exact zl_vret (pc := 51) hO nd_GM_access_51 rfl (zr_v h)
  · have h := ite_f hc h
    refine zl_iload (pc := 11) hO nd_GM_access_11 rfl ?_
    refine zl_if_eq (pc := 13) hO 35 nd_GM_access_13 (by decide) (fun hc => ?_) (fun hc => ?_)
    · have h := ite_t hc h
      refine zl_aload_n (pc := 35) hO 0 nd_GM_access_35 rfl rfl ?_
      refine zl_get0 (pc := 36) hO nd_GM_access_36 kf_GM_44 rfl (Nat.le_of_ble_eq_true rfl) rfl ?_
      refine zl_bipush (pc := 39) hO (v := 8) nd_GM_access_39 (by decide) ?_
      refine zl_iload_n (pc := 41) hO 1 nd_GM_access_41 rfl rfl ?_
      refine zl_imul (pc := 42) hO nd_GM_access_42 ?_
      refine zl_iload_n (pc := 43) hO 2 nd_GM_access_43 rfl rfl ?_
      refine zl_iadd (pc := 44) hO nd_GM_access_44 ?_
      refine zl_aload_n (pc := 45) hO 0 nd_GM_access_45 rfl rfl ?_
      refine zl_iload_n (pc := 46) hO 3 nd_GM_access_46 rfl rfl ?_
      obtain ⟨⟨s3, r4⟩, h_47, h⟩ := bn_use h
      refine zl_callVi (pc := 47) hO [zI a3] [zI (((8 : Int32) * a1) + a2), zR 11 0] (c_GM_get hJ h_47) nd_GM_access_47 kv_GM_172 rfl (Nat.le_of_ble_eq_true rfl) rfl rfl rfl (Nat.le_of_ble_eq_true rfl) ?_
      obtain ⟨c_in50, h⟩ := ck_use h
      refine zl_iast (pc := 50) hO nd_GM_access_50 rfl rfl (Nat.le_of_ble_eq_true rfl) c_in50 ?_
      obtain ⟨s5, e_s5, h⟩ := lt_use h
      refine zl_sg e_s5 ?_
      exact zl_vret (pc := 51) hO nd_GM_access_51 rfl (zr_v h)
    · have h := ite_f hc h
      refine zl_aload_n (pc := 16) hO 0 nd_GM_access_16 rfl rfl ?_
      refine zl_iload_n (pc := 17) hO 3 nd_GM_access_17 rfl rfl ?_
      refine zl_aload_n (pc := 18) hO 0 nd_GM_access_18 rfl rfl ?_
      refine zl_get0 (pc := 19) hO nd_GM_access_19 kf_GM_44 rfl (Nat.le_of_ble_eq_true rfl) rfl ?_
      refine zl_bipush (pc := 22) hO (v := 8) nd_GM_access_22 (by decide) ?_
      refine zl_iload_n (pc := 24) hO 1 nd_GM_access_24 rfl rfl ?_
      refine zl_imul (pc := 25) hO nd_GM_access_25 ?_
      refine zl_iload_n (pc := 26) hO 2 nd_GM_access_26 rfl rfl ?_
      refine zl_iadd (pc := 27) hO nd_GM_access_27 ?_
      obtain ⟨c_in28, h⟩ := ck_use h
      refine zl_iald (pc := 28) hO nd_GM_access_28 rfl rfl (Nat.le_of_ble_eq_true rfl) c_in28 ?_
      obtain ⟨s6, h_29, h⟩ := bn_use h
      refine zl_callVv (pc := 29) hO [zI a3, zI (s1 11 0 (((8 : Int32) * a1) + a2).toNatClampNeg)] [] (c_GM_set hJ h_29) nd_GM_access_29 kv_GM_167 rfl (Nat.le_of_ble_eq_true rfl) rfl rfl rfl (Nat.le_of_ble_eq_true rfl) ?_
      refine zl_goto (pc := 32) hO 51 nd_GM_access_32 (by decide) ?_
      exact zl_vret (pc := 51) hO nd_GM_access_51 rfl (zr_v h)
set_option maxHeartbeats 4000000 in
set_option maxRecDepth 100000 in
theorem c_GM_leap {l : Launch} {V : zG} (hJ : zJ0 (sM l V)) {s0 : zS} {a1 : Int32} {a2 : Int32}  {s1 : zS} (h : k_GM_leap s0 a1 a2 = some s1) : zM (sM l V) md_GM_leap [zR 0 0, zI a1, zI a2] s0 (s1, none) := by
  refine zMet [some (zR 0 0), some (zI a1), some (zI a2), none, none, none] hJ (by decide) rfl (Nat.le_of_ble_eq_true rfl) rfl ?_
  intro X hO
  have J_48 : ∀ (s0 : zS), k_GM_leap_48 a1 a2 s0 = some s1 → ZW (sM l V) md_GM_leap (s1, none) X 48 [some (zR 0 0), none, none, none, none, none] [] s0 := by
    intro s0 h
    unfold k_GM_leap_48 at h
    refine zl_aload_n (pc := 48) hO 0 nd_GM_leap_48 rfl rfl ?_
    refine zl_iconst (pc := 49) hO (v := 2) nd_GM_leap_49 (by decide) ?_
    refine zl_puti (pc := 50) hO nd_GM_leap_50 kp_GM_161 rfl (Nat.le_of_ble_eq_true rfl) rfl ?_
    obtain ⟨s3, e_s3, h⟩ := lt_use h
    refine zl_sg e_s3 ?_
    exact zl_vret (pc := 53) hO nd_GM_leap_53 rfl (zr_v h)
  have J_133 : ∀ (s0 : zS) (t0 : Int32) (t1 : Int32), k_GM_leap_133 a1 a2 s0 t0 t1 = some s1 → ZW (sM l V) md_GM_leap (s1, none) X 133 [none, none, none, none, none, none] [zI t0, zI t1, zR 13 0] s0 := by
    intro s0 t0 t1 h
    unfold k_GM_leap_133 at h
    obtain ⟨c_in133, h⟩ := ck_use h
    refine zl_iast (pc := 133) hO nd_GM_leap_133 rfl rfl (Nat.le_of_ble_eq_true rfl) c_in133 ?_
    obtain ⟨s6, e_s6, h⟩ := lt_use h
    refine zl_sg e_s6 ?_
    exact zl_vret (pc := 134) hO nd_GM_leap_134 rfl (zr_v h)
  have J_80 : ∀ (s0 : zS) (l4 : Int32) (t0 : Int32), k_GM_leap_80 a1 a2 s0 l4 t0 = some s1 → ZW (sM l V) md_GM_leap (s1, none) X 80 [some (zR 0 0), some (zI a1), none, none, some (zI l4), none] [zI t0] s0 := by
    intro s0 l4 t0 h
    unfold k_GM_leap_80 at h
    refine zl_istore (pc := 80) hO (L' := [some (zR 0 0), some (zI a1), none, none, some (zI l4), some (zI t0)]) nd_GM_leap_80 (by decide) rfl ?_
    refine zl_iload (pc := 82) hO nd_GM_leap_82 rfl ?_
    refine zl_iconst (pc := 84) hO (v := 1) nd_GM_leap_84 (by decide) ?_
    refine zl_iand (pc := 85) hO nd_GM_leap_85 ?_
    refine zl_if_ne (pc := 86) hO 95 nd_GM_leap_86 (by decide) (fun hc => ?_) (fun hc => ?_)
    · have h := ite_f hc h
      refine zl_aload_n (pc := 95) hO 0 nd_GM_leap_95 rfl rfl ?_
      refine zl_iload (pc := 96) hO nd_GM_leap_96 rfl ?_
      refine zl_iconst (pc := 98) hO (v := 1) nd_GM_leap_98 (by decide) ?_
      refine zl_isub (pc := 99) hO nd_GM_leap_99 ?_
      refine zl_puti (pc := 100) hO nd_GM_leap_100 kp_GM_199 rfl (Nat.le_of_ble_eq_true rfl) rfl ?_
      obtain ⟨s4, e_s4, h⟩ := lt_use h
      refine zl_sg e_s4 ?_
      refine zl_aload_n (pc := 103) hO 0 nd_GM_leap_103 rfl rfl ?_
      refine zl_get0 (pc := 104) hO nd_GM_leap_104 kf_GM_50 rfl (Nat.le_of_ble_eq_true rfl) rfl ?_
      refine zl_iload_n (pc := 107) hO 1 nd_GM_leap_107 rfl rfl ?_
      refine zl_iload (pc := 108) hO nd_GM_leap_108 rfl ?_
      refine zl_sipush (pc := 110) hO (v := 143) nd_GM_leap_110 (by decide) ?_
      refine zl_icmp_ne (pc := 113) hO 127 nd_GM_leap_113 (by decide) (fun hc => ?_) (fun hc => ?_)
      · have h := ite_f hc h
        refine zl_aload_n (pc := 127) hO 0 nd_GM_leap_127 rfl rfl ?_
        refine zl_get0 (pc := 128) hO nd_GM_leap_128 kf_GM_50 rfl (Nat.le_of_ble_eq_true rfl) rfl ?_
        refine zl_iload_n (pc := 131) hO 1 nd_GM_leap_131 rfl rfl ?_
        obtain ⟨c_in132, h⟩ := ck_use h
        refine zl_iald (pc := 132) hO nd_GM_leap_132 rfl rfl (Nat.le_of_ble_eq_true rfl) c_in132 ?_
        exact zl_weak (J_133 _ _ _ h) trivial
      · have h := ite_t hc h
        refine zl_aload_n (pc := 116) hO 0 nd_GM_leap_116 rfl rfl ?_
        refine zl_get0 (pc := 117) hO nd_GM_leap_117 kf_GM_53 rfl (Nat.le_of_ble_eq_true rfl) rfl ?_
        refine zl_iload_n (pc := 120) hO 1 nd_GM_leap_120 rfl rfl ?_
        obtain ⟨c_in121, h⟩ := ck_use h
        refine zl_iald (pc := 121) hO nd_GM_leap_121 rfl rfl (Nat.le_of_ble_eq_true rfl) c_in121 ?_
        refine zl_iconst (pc := 122) hO (v := 3) nd_GM_leap_122 (by decide) ?_
        refine zl_iadd (pc := 123) hO nd_GM_leap_123 ?_
        refine zl_goto (pc := 124) hO 133 nd_GM_leap_124 (by decide) ?_
        exact zl_weak (J_133 _ _ _ h) trivial
    · have h := ite_t hc h
      refine zl_aload_n (pc := 89) hO 0 nd_GM_leap_89 rfl rfl ?_
      refine zl_iconst (pc := 90) hO (v := 5) nd_GM_leap_90 (by decide) ?_
      refine zl_puti (pc := 91) hO nd_GM_leap_91 kp_GM_161 rfl (Nat.le_of_ble_eq_true rfl) rfl ?_
      obtain ⟨s5, e_s5, h⟩ := lt_use h
      refine zl_sg e_s5 ?_
      exact zl_vret (pc := 94) hO nd_GM_leap_94 rfl (zr_v h)
  have J_54 : ∀ (s0 : zS) (l3 : Int32) (l4 : Int32), k_GM_leap_54 a1 a2 s0 l3 l4 = some s1 → ZW (sM l V) md_GM_leap (s1, none) X 54 [some (zR 0 0), some (zI a1), none, some (zI l3), some (zI l4), none] [] s0 := by
    intro s0 l3 l4 h
    unfold k_GM_leap_54 at h
    refine zl_iload_n (pc := 54) hO 3 nd_GM_leap_54 rfl rfl ?_
    refine zl_bipush (pc := 55) hO (v := 14) nd_GM_leap_55 (by decide) ?_
    refine zl_icmp_ne (pc := 57) hO 69 nd_GM_leap_57 (by decide) (fun hc => ?_) (fun hc => ?_)
    · have h := ite_f hc h
      refine zl_aload_n (pc := 69) hO 0 nd_GM_leap_69 rfl rfl ?_
      refine zl_get0 (pc := 70) hO nd_GM_leap_70 kf_GM_44 rfl (Nat.le_of_ble_eq_true rfl) rfl ?_
      refine zl_bipush (pc := 73) hO (v := 8) nd_GM_leap_73 (by decide) ?_
      refine zl_iload_n (pc := 75) hO 1 nd_GM_leap_75 rfl rfl ?_
      refine zl_imul (pc := 76) hO nd_GM_leap_76 ?_
      refine zl_iload_n (pc := 77) hO 3 nd_GM_leap_77 rfl rfl ?_
      refine zl_iadd (pc := 78) hO nd_GM_leap_78 ?_
      obtain ⟨c_in79, h⟩ := ck_use h
      refine zl_iald (pc := 79) hO nd_GM_leap_79 rfl rfl (Nat.le_of_ble_eq_true rfl) c_in79 ?_
      exact zl_weak (J_80 _ _ _ h) ⟨rfl, ⟨rfl, ⟨rfl, trivial⟩⟩⟩
    · have h := ite_t hc h
      refine zl_aload_n (pc := 60) hO 0 nd_GM_leap_60 rfl rfl ?_
      refine zl_get0 (pc := 61) hO nd_GM_leap_61 kf_GM_50 rfl (Nat.le_of_ble_eq_true rfl) rfl ?_
      refine zl_iload_n (pc := 64) hO 1 nd_GM_leap_64 rfl rfl ?_
      obtain ⟨c_in65, h⟩ := ck_use h
      refine zl_iald (pc := 65) hO nd_GM_leap_65 rfl rfl (Nat.le_of_ble_eq_true rfl) c_in65 ?_
      refine zl_goto (pc := 66) hO 80 nd_GM_leap_66 (by decide) ?_
      exact zl_weak (J_80 _ _ _ h) ⟨rfl, ⟨rfl, ⟨rfl, trivial⟩⟩⟩
  have J_29 : ∀ (s0 : zS) (l3 : Int32) (l4 : Int32), k_GM_leap_29 a1 a2 s0 l3 l4 = some s1 → ZW (sM l V) md_GM_leap (s1, none) X 29 [some (zR 0 0), some (zI a1), some (zI a2), some (zI l3), some (zI l4), none] [] s0 := by
    intro s0 l3 l4 h
    unfold k_GM_leap_29 at h
    refine zl_iload_n (pc := 29) hO 2 nd_GM_leap_29 rfl rfl ?_
    refine zl_bipush (pc := 30) hO (v := 7) nd_GM_leap_30 (by decide) ?_
    refine zl_iand (pc := 32) hO nd_GM_leap_32 ?_
    refine zl_if_ne (pc := 33) hO 48 nd_GM_leap_33 (by decide) (fun hc => ?_) (fun hc => ?_)
    · have h := ite_f hc h
      exact zl_weak (J_48 _ h) ⟨rfl, trivial⟩
    · have h := ite_t hc h
      refine zl_iload_n (pc := 36) hO 3 nd_GM_leap_36 rfl rfl ?_
      refine zl_bipush (pc := 37) hO (v := 7) nd_GM_leap_37 (by decide) ?_
      refine zl_icmp_le (pc := 39) hO 54 nd_GM_leap_39 (by decide) (fun hc => ?_) (fun hc => ?_)
      · have h := ite_t hc h
        exact zl_weak (J_54 _ _ _ h) ⟨rfl, ⟨rfl, ⟨rfl, ⟨rfl, trivial⟩⟩⟩⟩
      · have h := ite_f hc h
        refine zl_iload_n (pc := 42) hO 3 nd_GM_leap_42 rfl rfl ?_
        refine zl_bipush (pc := 43) hO (v := 14) nd_GM_leap_43 (by decide) ?_
        refine zl_icmp_eq (pc := 45) hO 54 nd_GM_leap_45 (by decide) (fun hc => ?_) (fun hc => ?_)
        · have h := ite_t hc h
          exact zl_weak (J_54 _ _ _ h) ⟨rfl, ⟨rfl, ⟨rfl, ⟨rfl, trivial⟩⟩⟩⟩
        · have h := ite_f hc h
          exact zl_weak (J_48 _ h) ⟨rfl, trivial⟩
  unfold k_GM_leap at h
  refine zl_iload_n (pc := 0) hO 2 nd_GM_leap_0 rfl rfl ?_
  refine zl_iconst (pc := 1) hO (v := 3) nd_GM_leap_1 (by decide) ?_
  refine zl_ishr (pc := 2) hO nd_GM_leap_2 ?_
  refine zl_bipush (pc := 3) hO (v := 15) nd_GM_leap_3 (by decide) ?_
  refine zl_iand (pc := 5) hO nd_GM_leap_5 ?_
  obtain ⟨x1, e_x1, h⟩ := lt_use h
  refine zl_top e_x1 ?_
  refine zl_istore_n (pc := 6) hO 3 (L' := [some (zR 0 0), some (zI a1), some (zI a2), some (zI x1), none, none]) nd_GM_leap_6 rfl (by decide) rfl ?_
  refine zl_iload_n (pc := 7) hO 2 nd_GM_leap_7 rfl rfl ?_
  refine zl_bipush (pc := 8) hO (v := 7) nd_GM_leap_8 (by decide) ?_
  refine zl_ishr (pc := 10) hO nd_GM_leap_10 ?_
  obtain ⟨x2, e_x2, h⟩ := lt_use h
  refine zl_top e_x2 ?_
  refine zl_istore (pc := 11) hO (L' := [some (zR 0 0), some (zI a1), some (zI a2), some (zI x1), some (zI x2), none]) nd_GM_leap_11 (by decide) rfl ?_
  refine zl_iload (pc := 13) hO nd_GM_leap_13 rfl ?_
  refine zl_sipush (pc := 15) hO (v := 142) nd_GM_leap_15 (by decide) ?_
  refine zl_icmp_eq (pc := 18) hO 29 nd_GM_leap_18 (by decide) (fun hc => ?_) (fun hc => ?_)
  · have h := ite_t hc h
    exact zl_weak (J_29 _ _ _ h) ⟨rfl, ⟨rfl, ⟨rfl, ⟨rfl, ⟨rfl, trivial⟩⟩⟩⟩⟩
  · have h := ite_f hc h
    refine zl_iload (pc := 21) hO nd_GM_leap_21 rfl ?_
    refine zl_sipush (pc := 23) hO (v := 143) nd_GM_leap_23 (by decide) ?_
    refine zl_icmp_ne (pc := 26) hO 48 nd_GM_leap_26 (by decide) (fun hc => ?_) (fun hc => ?_)
    · have h := ite_f hc h
      exact zl_weak (J_48 _ h) ⟨rfl, trivial⟩
    · have h := ite_t hc h
      exact zl_weak (J_29 _ _ _ h) ⟨rfl, ⟨rfl, ⟨rfl, ⟨rfl, ⟨rfl, trivial⟩⟩⟩⟩⟩
set_option maxHeartbeats 4000000 in
set_option maxRecDepth 100000 in
theorem c_GM_named {l : Launch} {V : zG} (hJ : zJ0 (sM l V)) {s0 : zS} {a1 : Int32}  {s1 : zS} {v1 : Int32} (h : k_GM_named s0 a1 = some (s1, v1)) : zM (sM l V) md_GM_named [zI a1] s0 (s1, some (zI v1)) := by
  refine zMet [some (zI a1), none, none] hJ (by decide) rfl (Nat.le_of_ble_eq_true rfl) rfl ?_
  intro X hO
  have J_4 : ∀ (n : Nat), ∀ (s0 : zS) (l1 : Int32) (l2 : Int32), k_GM_named_4 a1 n s0 l1 l2 = some (s1, v1) → ZW (sM l V) md_GM_named (s1, some (zI v1)) X 4 [some (zI a1), some (zI l1), some (zI l2)] [] s0 := by
    intro n
    induction n with
    | zero => intro s0 l1 l2 h; exact absurd h (by rw [k_GM_named_4]; exact fun w => nomatch w)
    | succ n ih =>
      intro s0 l1 l2 h
      rw [k_GM_named_4]  at h
      refine zl_iload_n (pc := 4) hO 2 nd_GM_named_4 rfl rfl ?_
      refine zl_bipush (pc := 5) hO (v := 9) nd_GM_named_5 (by decide) ?_
      refine zl_icmp_ge (pc := 7) hO 24 nd_GM_named_7 (by decide) (fun hc => ?_) (fun hc => ?_)
      · have h := ite_t hc h
        refine zl_iload_n (pc := 24) hO 1 nd_GM_named_24 rfl rfl ?_
        exact zl_iret (pc := 25) hO nd_GM_named_25 rfl (zr_i h)
      · have h := ite_f hc h
        refine zl_iload_n (pc := 10) hO 1 nd_GM_named_10 rfl rfl ?_
        refine zl_iload_n (pc := 11) hO 0 nd_GM_named_11 rfl rfl ?_
        refine zl_iload_n (pc := 12) hO 2 nd_GM_named_12 rfl rfl ?_
        refine zl_ishr (pc := 13) hO nd_GM_named_13 ?_
        refine zl_iconst (pc := 14) hO (v := 1) nd_GM_named_14 (by decide) ?_
        refine zl_iand (pc := 15) hO nd_GM_named_15 ?_
        refine zl_iadd (pc := 16) hO nd_GM_named_16 ?_
        obtain ⟨x1, e_x1, h⟩ := lt_use h
        refine zl_top e_x1 ?_
        refine zl_istore_n (pc := 17) hO 1 (L' := [some (zI a1), some (zI x1), some (zI l2)]) nd_GM_named_17 rfl (by decide) rfl ?_
        obtain ⟨x2, e_x2, h⟩ := lt_use h
        refine zl_iinc (pc := 18) hO (L' := [some (zI a1), some (zI x1), some (zI x2)]) nd_GM_named_18 rfl e_x2.symm (by decide) rfl ?_
        refine zl_goto (pc := 21) hO 4 nd_GM_named_21 (by decide) ?_
        exact zl_weak (ih _ _ _ h) ⟨rfl, ⟨rfl, ⟨rfl, trivial⟩⟩⟩
  unfold k_GM_named at h
  refine zl_iconst (pc := 0) hO (v := 0) nd_GM_named_0 (by decide) ?_
  refine zl_istore_n (pc := 1) hO 1 (L' := [some (zI a1), some (zI 0), none]) nd_GM_named_1 rfl (by decide) rfl ?_
  refine zl_iconst (pc := 2) hO (v := 0) nd_GM_named_2 (by decide) ?_
  refine zl_istore_n (pc := 3) hO 2 (L' := [some (zI a1), some (zI 0), some (zI 0)]) nd_GM_named_3 rfl (by decide) rfl ?_
  exact zl_weak (J_4 FU _ _ _ h) ⟨rfl, ⟨rfl, ⟨rfl, trivial⟩⟩⟩
set_option maxHeartbeats 4000000 in
set_option maxRecDepth 100000 in
theorem c_GM_push {l : Launch} {V : zG} (hJ : zJ0 (sM l V)) {s0 : zS} {a1 : Int32} {a2 : Int32}  {s1 : zS} (h : k_GM_push s0 a1 a2 = some s1) : zM (sM l V) md_GM_push [zR 0 0, zI a1, zI a2] s0 (s1, none) := by
  refine zMet [some (zR 0 0), some (zI a1), some (zI a2), none, none, none] hJ (by decide) rfl (Nat.le_of_ble_eq_true rfl) rfl ?_
  intro X hO
  have J_49 : ∀ (K20 : zS → Int32 → Int32 → Int32 → Option (zS)) (hK20 : ∀ (s0 : zS) (l3 : Int32) (l4 : Int32) (l5 : Int32), K20 s0 l3 l4 l5 = some s1 → ZW (sM l V) md_GM_push (s1, none) X 20 [some (zR 0 0), some (zI a1), some (zI a2), some (zI l3), some (zI l4), some (zI l5)] [] s0), ∀ (s0 : zS) (l3 : Int32) (l4 : Int32) (l5 : Int32), k_GM_push_49 a1 a2 K20 s0 l3 l4 l5 = some s1 → ZW (sM l V) md_GM_push (s1, none) X 49 [some (zR 0 0), some (zI a1), some (zI a2), some (zI l3), some (zI l4), some (zI l5)] [] s0 := by
    intro K20 hK20
    intro s0 l3 l4 l5 h
    unfold k_GM_push_49 at h
    obtain ⟨x8, e_x8, h⟩ := lt_use h
    refine zl_iinc (pc := 49) hO (L' := [some (zR 0 0), some (zI a1), some (zI a2), some (zI l3), some (zI l4), some (zI x8)]) nd_GM_push_49 rfl e_x8.symm (by decide) rfl ?_
    refine zl_goto (pc := 52) hO 20 nd_GM_push_52 (by decide) ?_
    exact zl_weak (hK20 _ _ _ _ h) ⟨rfl, ⟨rfl, ⟨rfl, ⟨rfl, ⟨rfl, ⟨rfl, trivial⟩⟩⟩⟩⟩⟩
  have J_123 : ∀ (K69 : zS → Int32 → Int32 → Int32 → Option (zS)) (hK69 : ∀ (s0 : zS) (l3 : Int32) (l4 : Int32) (l5 : Int32), K69 s0 l3 l4 l5 = some s1 → ZW (sM l V) md_GM_push (s1, none) X 69 [some (zR 0 0), some (zI a1), some (zI a2), some (zI l3), some (zI l4), some (zI l5)] [] s0), ∀ (s0 : zS) (l3 : Int32) (l4 : Int32) (l5 : Int32), k_GM_push_123 a1 a2 K69 s0 l3 l4 l5 = some s1 → ZW (sM l V) md_GM_push (s1, none) X 123 [some (zR 0 0), some (zI a1), some (zI a2), some (zI l3), some (zI l4), some (zI l5)] [] s0 := by
    intro K69 hK69
    intro s0 l3 l4 l5 h
    unfold k_GM_push_123 at h
    obtain ⟨x9, e_x9, h⟩ := lt_use h
    refine zl_iinc (pc := 123) hO (L' := [some (zR 0 0), some (zI a1), some (zI a2), some (zI l3), some (zI l4), some (zI x9)]) nd_GM_push_123 rfl e_x9.symm (by decide) rfl ?_
    refine zl_goto (pc := 126) hO 69 nd_GM_push_126 (by decide) ?_
    exact zl_weak (hK69 _ _ _ _ h) ⟨rfl, ⟨rfl, ⟨rfl, ⟨rfl, ⟨rfl, ⟨rfl, trivial⟩⟩⟩⟩⟩⟩
  have J_117 : ∀ (K69 : zS → Int32 → Int32 → Int32 → Option (zS)) (hK69 : ∀ (s0 : zS) (l3 : Int32) (l4 : Int32) (l5 : Int32), K69 s0 l3 l4 l5 = some s1 → ZW (sM l V) md_GM_push (s1, none) X 69 [some (zR 0 0), some (zI a1), some (zI a2), some (zI l3), some (zI l4), some (zI l5)] [] s0), ∀ (s0 : zS) (l3 : Int32) (l4 : Int32) (l5 : Int32) (t0 : Int32) (t1 : Int32), k_GM_push_117 a1 a2 K69 s0 l3 l4 l5 t0 t1 = some s1 → ZW (sM l V) md_GM_push (s1, none) X 117 [some (zR 0 0), some (zI a1), some (zI a2), some (zI l3), some (zI l4), some (zI l5)] [zI t0, zI t1, zR 0 0] s0 := by
    intro K69 hK69
    intro s0 l3 l4 l5 t0 t1 h
    unfold k_GM_push_117 at h
    obtain ⟨s10, h_117, h⟩ := bn_use h
    refine zl_callVv (pc := 117) hO [zI t1, zI t0] [] (c_GM_set hJ h_117) nd_GM_push_117 kv_GM_167 rfl (Nat.le_of_ble_eq_true rfl) rfl rfl rfl (Nat.le_of_ble_eq_true rfl) ?_
    obtain ⟨x11, e_x11, h⟩ := lt_use h
    refine zl_iinc (pc := 120) hO (L' := [some (zR 0 0), some (zI a1), some (zI a2), some (zI l3), some (zI x11), some (zI l5)]) nd_GM_push_120 rfl e_x11.symm (by decide) rfl ?_
    exact zl_weak (J_123 K69 hK69 _ _ _ _ h) ⟨rfl, ⟨rfl, ⟨rfl, ⟨rfl, ⟨rfl, ⟨rfl, trivial⟩⟩⟩⟩⟩⟩
  have J_69 : ∀ (n : Nat), ∀ (s0 : zS) (l3 : Int32) (l4 : Int32) (l5 : Int32), k_GM_push_69 a1 a2 n s0 l3 l4 l5 = some s1 → ZW (sM l V) md_GM_push (s1, none) X 69 [some (zR 0 0), some (zI a1), some (zI a2), some (zI l3), some (zI l4), some (zI l5)] [] s0 := by
    intro n
    induction n with
    | zero => intro s0 l3 l4 l5 h; exact absurd h (by rw [k_GM_push_69]; exact fun w => nomatch w)
    | succ n ih =>
      intro s0 l3 l4 l5 h
      rw [k_GM_push_69]  at h
      refine zl_iload (pc := 69) hO nd_GM_push_69 rfl ?_
      refine zl_bipush (pc := 71) hO (v := 9) nd_GM_push_71 (by decide) ?_
      refine zl_icmp_ge (pc := 73) hO 129 nd_GM_push_73 (by decide) (fun hc => ?_) (fun hc => ?_)
      · have h := ite_t hc h
        refine zl_aload_n (pc := 129) hO 0 nd_GM_push_129 rfl rfl ?_
        refine zl_get0 (pc := 130) hO nd_GM_push_130 kf_GM_47 rfl (Nat.le_of_ble_eq_true rfl) rfl ?_
        refine zl_iload_n (pc := 133) hO 1 nd_GM_push_133 rfl rfl ?_
        refine zl_iload_n (pc := 134) hO 3 nd_GM_push_134 rfl rfl ?_
        obtain ⟨c_in135, h⟩ := ck_use h
        refine zl_iast (pc := 135) hO nd_GM_push_135 rfl rfl (Nat.le_of_ble_eq_true rfl) c_in135 ?_
        obtain ⟨s7, e_s7, h⟩ := lt_use h
        refine zl_sg e_s7 ?_
        exact zl_vret (pc := 136) hO nd_GM_push_136 rfl (zr_v h)
      · have h := ite_f hc h
        refine zl_iload_n (pc := 76) hO 2 nd_GM_push_76 rfl rfl ?_
        refine zl_iload (pc := 77) hO nd_GM_push_77 rfl ?_
        refine zl_ishr (pc := 79) hO nd_GM_push_79 ?_
        refine zl_iconst (pc := 80) hO (v := 1) nd_GM_push_80 (by decide) ?_
        refine zl_iand (pc := 81) hO nd_GM_push_81 ?_
        refine zl_iconst (pc := 82) hO (v := 1) nd_GM_push_82 (by decide) ?_
        refine zl_icmp_ne (pc := 83) hO 123 nd_GM_push_83 (by decide) (fun hc => ?_) (fun hc => ?_)
        · have h := ite_f hc h
          exact zl_weak (J_123 (k_GM_push_69 a1 a2 n) ih _ _ _ _ h) ⟨rfl, ⟨rfl, ⟨rfl, ⟨rfl, ⟨rfl, ⟨rfl, trivial⟩⟩⟩⟩⟩⟩
        · have h := ite_t hc h
          refine zl_aload_n (pc := 86) hO 0 nd_GM_push_86 rfl rfl ?_
          refine zl_iload (pc := 87) hO nd_GM_push_87 rfl ?_
          refine zl_iload (pc := 89) hO nd_GM_push_89 rfl ?_
          refine zl_bipush (pc := 91) hO (v := 8) nd_GM_push_91 (by decide) ?_
          refine zl_icmp_ne (pc := 93) hO 105 nd_GM_push_93 (by decide) (fun hc => ?_) (fun hc => ?_)
          · have h := ite_f hc h
            refine zl_aload_n (pc := 105) hO 0 nd_GM_push_105 rfl rfl ?_
            refine zl_get0 (pc := 106) hO nd_GM_push_106 kf_GM_44 rfl (Nat.le_of_ble_eq_true rfl) rfl ?_
            refine zl_bipush (pc := 109) hO (v := 8) nd_GM_push_109 (by decide) ?_
            refine zl_iload_n (pc := 111) hO 1 nd_GM_push_111 rfl rfl ?_
            refine zl_imul (pc := 112) hO nd_GM_push_112 ?_
            refine zl_iload (pc := 113) hO nd_GM_push_113 rfl ?_
            refine zl_iadd (pc := 115) hO nd_GM_push_115 ?_
            obtain ⟨c_in116, h⟩ := ck_use h
            refine zl_iald (pc := 116) hO nd_GM_push_116 rfl rfl (Nat.le_of_ble_eq_true rfl) c_in116 ?_
            exact zl_weak (J_117 (k_GM_push_69 a1 a2 n) ih _ _ _ _ _ _ h) ⟨rfl, ⟨rfl, ⟨rfl, ⟨rfl, ⟨rfl, ⟨rfl, trivial⟩⟩⟩⟩⟩⟩
          · have h := ite_t hc h
            refine zl_aload_n (pc := 96) hO 0 nd_GM_push_96 rfl rfl ?_
            refine zl_get0 (pc := 97) hO nd_GM_push_97 kf_GM_50 rfl (Nat.le_of_ble_eq_true rfl) rfl ?_
            refine zl_iload_n (pc := 100) hO 1 nd_GM_push_100 rfl rfl ?_
            obtain ⟨c_in101, h⟩ := ck_use h
            refine zl_iald (pc := 101) hO nd_GM_push_101 rfl rfl (Nat.le_of_ble_eq_true rfl) c_in101 ?_
            refine zl_goto (pc := 102) hO 117 nd_GM_push_102 (by decide) ?_
            exact zl_weak (J_117 (k_GM_push_69 a1 a2 n) ih _ _ _ _ _ _ h) ⟨rfl, ⟨rfl, ⟨rfl, ⟨rfl, ⟨rfl, ⟨rfl, trivial⟩⟩⟩⟩⟩⟩
  have J_20 : ∀ (n : Nat), ∀ (s0 : zS) (l3 : Int32) (l4 : Int32) (l5 : Int32), k_GM_push_20 a1 a2 n s0 l3 l4 l5 = some s1 → ZW (sM l V) md_GM_push (s1, none) X 20 [some (zR 0 0), some (zI a1), some (zI a2), some (zI l3), some (zI l4), some (zI l5)] [] s0 := by
    intro n
    induction n with
    | zero => intro s0 l3 l4 l5 h; exact absurd h (by rw [k_GM_push_20]; exact fun w => nomatch w)
    | succ n ih =>
      intro s0 l3 l4 l5 h
      rw [k_GM_push_20]  at h
      refine zl_iload (pc := 20) hO nd_GM_push_20 rfl ?_
      refine zl_bipush (pc := 22) hO (v := 9) nd_GM_push_22 (by decide) ?_
      refine zl_icmp_ge (pc := 24) hO 55 nd_GM_push_24 (by decide) (fun hc => ?_) (fun hc => ?_)
      · have h := ite_t hc h
        refine zl_aload_n (pc := 55) hO 0 nd_GM_push_55 rfl rfl ?_
        refine zl_geti (pc := 56) hO nd_GM_push_56 kf_GM_161 rfl (Nat.le_of_ble_eq_true rfl) rfl ?_
        refine zl_if_le (pc := 59) hO 63 nd_GM_push_59 (by decide) (fun hc => ?_) (fun hc => ?_)
        · have h := ite_t hc h
          refine zl_iload_n (pc := 63) hO 3 nd_GM_push_63 rfl rfl ?_
          refine zl_istore (pc := 64) hO (L' := [some (zR 0 0), some (zI a1), some (zI a2), some (zI l3), some (zI l3), some (zI l5)]) nd_GM_push_64 (by decide) rfl ?_
          refine zl_iconst (pc := 66) hO (v := 0) nd_GM_push_66 (by decide) ?_
          refine zl_istore (pc := 67) hO (L' := [some (zR 0 0), some (zI a1), some (zI a2), some (zI l3), some (zI l3), some (zI 0)]) nd_GM_push_67 (by decide) rfl ?_
          exact zl_weak (J_69 FU _ _ _ _ h) ⟨rfl, ⟨rfl, ⟨rfl, ⟨rfl, ⟨rfl, ⟨rfl, trivial⟩⟩⟩⟩⟩⟩
        · have h := ite_f hc h
          exact zl_vret (pc := 62) hO nd_GM_push_62 rfl (zr_v h)
      · have h := ite_f hc h
        refine zl_iload_n (pc := 27) hO 2 nd_GM_push_27 rfl rfl ?_
        refine zl_iload (pc := 28) hO nd_GM_push_28 rfl ?_
        refine zl_ishr (pc := 30) hO nd_GM_push_30 ?_
        refine zl_iconst (pc := 31) hO (v := 1) nd_GM_push_31 (by decide) ?_
        refine zl_iand (pc := 32) hO nd_GM_push_32 ?_
        refine zl_iconst (pc := 33) hO (v := 1) nd_GM_push_33 (by decide) ?_
        refine zl_icmp_ne (pc := 34) hO 49 nd_GM_push_34 (by decide) (fun hc => ?_) (fun hc => ?_)
        · have h := ite_f hc h
          exact zl_weak (J_49 (k_GM_push_20 a1 a2 n) ih _ _ _ _ h) ⟨rfl, ⟨rfl, ⟨rfl, ⟨rfl, ⟨rfl, ⟨rfl, trivial⟩⟩⟩⟩⟩⟩
        · have h := ite_t hc h
          refine zl_aload_n (pc := 37) hO 0 nd_GM_push_37 rfl rfl ?_
          refine zl_iload_n (pc := 38) hO 1 nd_GM_push_38 rfl rfl ?_
          refine zl_iload (pc := 39) hO nd_GM_push_39 rfl ?_
          refine zl_iconst (pc := 41) hO (v := 1) nd_GM_push_41 (by decide) ?_
          obtain ⟨⟨s4, r5⟩, h_42, h⟩ := bn_use h
          refine zl_callVi (pc := 42) hO [zI a1, zI l4, zI 1] [] (c_GM_may hJ h_42) nd_GM_push_42 kv_GM_195 rfl (Nat.le_of_ble_eq_true rfl) rfl rfl rfl (Nat.le_of_ble_eq_true rfl) ?_
          refine zl_pop (pc := 45) hO nd_GM_push_45 rfl ?_
          obtain ⟨x6, e_x6, h⟩ := lt_use h
          refine zl_iinc (pc := 46) hO (L' := [some (zR 0 0), some (zI a1), some (zI a2), some (zI l3), some (zI x6), some (zI l5)]) nd_GM_push_46 rfl e_x6.symm (by decide) rfl ?_
          exact zl_weak (J_49 (k_GM_push_20 a1 a2 n) ih _ _ _ _ h) ⟨rfl, ⟨rfl, ⟨rfl, ⟨rfl, ⟨rfl, ⟨rfl, trivial⟩⟩⟩⟩⟩⟩
  unfold k_GM_push at h
  refine zl_aload_n (pc := 0) hO 0 nd_GM_push_0 rfl rfl ?_
  refine zl_get0 (pc := 1) hO nd_GM_push_1 kf_GM_47 rfl (Nat.le_of_ble_eq_true rfl) rfl ?_
  refine zl_iload_n (pc := 4) hO 1 nd_GM_push_4 rfl rfl ?_
  obtain ⟨c_in5, h⟩ := ck_use h
  refine zl_iald (pc := 5) hO nd_GM_push_5 rfl rfl (Nat.le_of_ble_eq_true rfl) c_in5 ?_
  refine zl_iconst (pc := 6) hO (v := 4) nd_GM_push_6 (by decide) ?_
  refine zl_iload_n (pc := 7) hO 2 nd_GM_push_7 rfl rfl ?_
  obtain ⟨⟨s1, r2⟩, h_8, h⟩ := bn_use h
  refine zl_callSi (pc := 8) hO [zI a2] [zI 4, zI (s0 12 0 a1.toNatClampNeg)] (c_GM_named hJ h_8) nd_GM_push_8 ks_GM_202 rfl rfl (Nat.le_of_ble_eq_true rfl) ?_
  refine zl_imul (pc := 11) hO nd_GM_push_11 ?_
  refine zl_isub (pc := 12) hO nd_GM_push_12 ?_
  obtain ⟨x3, e_x3, h⟩ := lt_use h
  refine zl_top e_x3 ?_
  refine zl_istore_n (pc := 13) hO 3 (L' := [some (zR 0 0), some (zI a1), some (zI a2), some (zI x3), none, none]) nd_GM_push_13 rfl (by decide) rfl ?_
  refine zl_iload_n (pc := 14) hO 3 nd_GM_push_14 rfl rfl ?_
  refine zl_istore (pc := 15) hO (L' := [some (zR 0 0), some (zI a1), some (zI a2), some (zI x3), some (zI x3), none]) nd_GM_push_15 (by decide) rfl ?_
  refine zl_iconst (pc := 17) hO (v := 0) nd_GM_push_17 (by decide) ?_
  refine zl_istore (pc := 18) hO (L' := [some (zR 0 0), some (zI a1), some (zI a2), some (zI x3), some (zI x3), some (zI 0)]) nd_GM_push_18 (by decide) rfl ?_
  exact zl_weak (J_20 FU _ _ _ _ h) ⟨rfl, ⟨rfl, ⟨rfl, ⟨rfl, ⟨rfl, ⟨rfl, trivial⟩⟩⟩⟩⟩⟩
