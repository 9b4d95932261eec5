set_option maxHeartbeats 4000000 in
set_option maxRecDepth 100000 in
theorem c_GM_instruction {l : Launch} {V : zG} (hJ : zJ0 (sM l V)) {s0 : zS} {a1 : Int32}  {s1 : zS} (h : k_GM_instruction s0 a1 = some s1) : zM (sM l V) md_GM_instruction [zR 0 0, zI a1] s0 (s1, none) := by
  refine zMet [some (zR 0 0), some (zI a1), none, none, none, none, none] hJ (by decide) rfl (Nat.le_of_ble_eq_true rfl) rfl ?_
  intro X hO
  have J_25 : ∀ (s0 : zS), k_GM_instruction_25 a1 s0 = some s1 → ZW (sM l V) md_GM_instruction (s1, none) X 25 [some (zR 0 0), none, none, none, none, none, none] [] s0 := by
    intro s0 h
    unfold k_GM_instruction_25 at h
    refine zl_aload_n (pc := 25) hO 0 nd_GM_instruction_25 rfl rfl ?_
    refine zl_iconst (pc := 26) hO (v := 1) nd_GM_instruction_26 (by decide) ?_
    refine zl_puti (pc := 27) hO nd_GM_instruction_27 kp_GM_161 rfl (Nat.le_of_ble_eq_true rfl) rfl ?_
    obtain ⟨s11, e_s11, h⟩ := lt_use h
    refine zl_sg e_s11 ?_
    exact zl_vret (pc := 30) hO nd_GM_instruction_30 rfl (zr_v h)
  have J_347 : ∀ (s0 : zS) (t0 : Int32) (t1 : Int32), k_GM_instruction_347 a1 s0 t0 t1 = some s1 → ZW (sM l V) md_GM_instruction (s1, none) X 347 [none, none, none, none, none, none, none] [zI t0, zI t1, zR 14 0] s0 := by
    intro s0 t0 t1 h
    unfold k_GM_instruction_347 at h
    obtain ⟨c_in347, h⟩ := ck_use h
    refine zl_iast (pc := 347) hO nd_GM_instruction_347 rfl rfl (Nat.le_of_ble_eq_true rfl) c_in347 ?_
    obtain ⟨s20, e_s20, h⟩ := lt_use h
    refine zl_sg e_s20 ?_
    exact zl_vret (pc := 348) hO nd_GM_instruction_348 rfl (zr_v h)
  have J_322 : ∀ (s0 : zS), k_GM_instruction_322 a1 s0 = some s1 → ZW (sM l V) md_GM_instruction (s1, none) X 322 [some (zR 0 0), some (zI a1), none, none, none, none, none] [] s0 := by
    intro s0 h
    unfold k_GM_instruction_322 at h
    refine zl_aload_n (pc := 322) hO 0 nd_GM_instruction_322 rfl rfl ?_
    refine zl_get0 (pc := 323) hO nd_GM_instruction_323 kf_GM_53 rfl (Nat.le_of_ble_eq_true rfl) rfl ?_
    refine zl_iload_n (pc := 326) hO 1 nd_GM_instruction_326 rfl rfl ?_
    refine zl_aload_n (pc := 327) hO 0 nd_GM_instruction_327 rfl rfl ?_
    refine zl_geti (pc := 328) hO nd_GM_instruction_328 kf_GM_161 rfl (Nat.le_of_ble_eq_true rfl) rfl ?_
    refine zl_if_le (pc := 331) hO 343 nd_GM_instruction_331 (by decide) (fun hc => ?_) (fun hc => ?_)
    · have h := ite_t hc h
      refine zl_aload_n (pc := 343) hO 0 nd_GM_instruction_343 rfl rfl ?_
      refine zl_geti (pc := 344) hO nd_GM_instruction_344 kf_GM_199 rfl (Nat.le_of_ble_eq_true rfl) rfl ?_
      exact zl_weak (J_347 _ _ _ h) trivial
    · have h := ite_f hc h
      refine zl_aload_n (pc := 334) hO 0 nd_GM_instruction_334 rfl rfl ?_
      refine zl_get0 (pc := 335) hO nd_GM_instruction_335 kf_GM_53 rfl (Nat.le_of_ble_eq_true rfl) rfl ?_
      refine zl_iload_n (pc := 338) hO 1 nd_GM_instruction_338 rfl rfl ?_
      obtain ⟨c_in339, h⟩ := ck_use h
      refine zl_iald (pc := 339) hO nd_GM_instruction_339 rfl rfl (Nat.le_of_ble_eq_true rfl) c_in339 ?_
      refine zl_goto (pc := 340) hO 347 nd_GM_instruction_340 (by decide) ?_
      exact zl_weak (J_347 _ _ _ h) trivial
  have J_127 : ∀ (s0 : zS) (l3 : Int32) (t0 : Int32) (t1 : Int32) (t2 : Int32) (t4 : Int32), k_GM_instruction_127 a1 s0 l3 t0 t1 t2 t4 = some s1 → ZW (sM l V) md_GM_instruction (s1, none) X 127 [some (zR 0 0), some (zI a1), none, some (zI l3), none, none, none] [zI t0, zI t1, zI t2, zR 0 0, zI t4, zR 11 0] s0 := by
    intro s0 l3 t0 t1 t2 t4 h
    unfold k_GM_instruction_127 at h
    refine zl_iload_n (pc := 127) hO 3 nd_GM_instruction_127 rfl rfl ?_
    obtain ⟨⟨s15, r16⟩, h_128, h⟩ := bn_use h
    refine zl_callVi (pc := 128) hO [zI t2, zI t1, zI t0, zI l3] [zI t4, zR 11 0] (c_GM_shifted hJ h_128) nd_GM_instruction_128 kv_GM_188 rfl (Nat.le_of_ble_eq_true rfl) rfl rfl rfl (Nat.le_of_ble_eq_true rfl) ?_
    obtain ⟨c_in131, h⟩ := ck_use h
    refine zl_iast (pc := 131) hO nd_GM_instruction_131 rfl rfl (Nat.le_of_ble_eq_true rfl) c_in131 ?_
    obtain ⟨s17, e_s17, h⟩ := lt_use h
    refine zl_sg e_s17 ?_
    refine zl_goto (pc := 132) hO 322 nd_GM_instruction_132 (by decide) ?_
    exact zl_weak (J_322 _ h) ⟨rfl, ⟨rfl, trivial⟩⟩
  have J_125 : ∀ (s0 : zS) (l3 : Int32) (l4 : Int32) (t0 : Int32) (t1 : Int32) (t3 : Int32), k_GM_instruction_125 a1 s0 l3 l4 t0 t1 t3 = some s1 → ZW (sM l V) md_GM_instruction (s1, none) X 125 [some (zR 0 0), some (zI a1), none, some (zI l3), some (zI l4), none, none] [zI t0, zI t1, zR 0 0, zI t3, zR 11 0] s0 := by
    intro s0 l3 l4 t0 t1 t3 h
    unfold k_GM_instruction_125 at h
    refine zl_iload (pc := 125) hO nd_GM_instruction_125 rfl ?_
    exact zl_weak (J_127 _ _ _ _ _ _ h) ⟨rfl, ⟨rfl, ⟨rfl, trivial⟩⟩⟩
  have J_239 : ∀ (s0 : zS) (t0 : Int32) (t1 : Int32) (t2 : Int32) (t3 : Int32), k_GM_instruction_239 a1 s0 t0 t1 t2 t3 = some s1 → ZW (sM l V) md_GM_instruction (s1, none) X 239 [some (zR 0 0), some (zI a1), none, none, none, none, none] [zI t0, zI t1, zI t2, zI t3, zR 0 0] s0 := by
    intro s0 t0 t1 t2 t3 h
    unfold k_GM_instruction_239 at h
    obtain ⟨s21, h_239, h⟩ := bn_use h
    refine zl_callVv (pc := 239) hO [zI t3, zI t2, zI t1, zI t0] [] (c_GM_access hJ h_239) nd_GM_instruction_239 kv_GM_214 rfl (Nat.le_of_ble_eq_true rfl) rfl rfl rfl (Nat.le_of_ble_eq_true rfl) ?_
    refine zl_goto (pc := 242) hO 322 nd_GM_instruction_242 (by decide) ?_
    exact zl_weak (J_322 _ h) ⟨rfl, ⟨rfl, trivial⟩⟩
  have J_215 : ∀ (s0 : zS) (l2 : Int32) (l3 : Int32) (l4 : Int32) (l5 : Int32), k_GM_instruction_215 a1 s0 l2 l3 l4 l5 = some s1 → ZW (sM l V) md_GM_instruction (s1, none) X 215 [some (zR 0 0), some (zI a1), some (zI l2), some (zI l3), some (zI l4), some (zI l5), none] [] s0 := by
    intro s0 l2 l3 l4 l5 h
    unfold k_GM_instruction_215 at h
    refine zl_aload_n (pc := 215) hO 0 nd_GM_instruction_215 rfl rfl ?_
    refine zl_iload_n (pc := 216) hO 1 nd_GM_instruction_216 rfl rfl ?_
    refine zl_iload_n (pc := 217) hO 2 nd_GM_instruction_217 rfl rfl ?_
    refine zl_bipush (pc := 218) hO (v := 7) nd_GM_instruction_218 (by decide) ?_
    refine zl_iand (pc := 220) hO nd_GM_instruction_220 ?_
    refine zl_iload (pc := 221) hO nd_GM_instruction_221 rfl ?_
    refine zl_iconst (pc := 223) hO (v := 4) nd_GM_instruction_223 (by decide) ?_
    refine zl_iload (pc := 224) hO nd_GM_instruction_224 rfl ?_
    refine zl_imul (pc := 226) hO nd_GM_instruction_226 ?_
    refine zl_iadd (pc := 227) hO nd_GM_instruction_227 ?_
    refine zl_iload_n (pc := 228) hO 3 nd_GM_instruction_228 rfl rfl ?_
    refine zl_bipush (pc := 229) hO (v := 12) nd_GM_instruction_229 (by decide) ?_
    refine zl_icmp_ne (pc := 231) hO 238 nd_GM_instruction_231 (by decide) (fun hc => ?_) (fun hc => ?_)
    · have h := ite_f hc h
      refine zl_iconst (pc := 238) hO (v := 0) nd_GM_instruction_238 (by decide) ?_
      exact zl_weak (J_239 _ _ _ _ _ h) ⟨rfl, ⟨rfl, trivial⟩⟩
    · have h := ite_t hc h
      refine zl_iconst (pc := 234) hO (v := 1) nd_GM_instruction_234 (by decide) ?_
      refine zl_goto (pc := 235) hO 239 nd_GM_instruction_235 (by decide) ?_
      exact zl_weak (J_239 _ _ _ _ _ h) ⟨rfl, ⟨rfl, trivial⟩⟩
  have J_257 : ∀ (s0 : zS) (l2 : Int32), k_GM_instruction_257 a1 s0 l2 = some s1 → ZW (sM l V) md_GM_instruction (s1, none) X 257 [some (zR 0 0), some (zI a1), some (zI l2), none, none, none, none] [] s0 := by
    intro s0 l2 h
    unfold k_GM_instruction_257 at h
    refine zl_aload_n (pc := 257) hO 0 nd_GM_instruction_257 rfl rfl ?_
    refine zl_iload_n (pc := 258) hO 1 nd_GM_instruction_258 rfl rfl ?_
    refine zl_iload_n (pc := 259) hO 2 nd_GM_instruction_259 rfl rfl ?_
    obtain ⟨s18, h_260, h⟩ := bn_use h
    refine zl_callVv (pc := 260) hO [zI a1, zI l2] [] (c_GM_branch hJ h_260) nd_GM_instruction_260 kv_GM_236 rfl (Nat.le_of_ble_eq_true rfl) rfl rfl rfl (Nat.le_of_ble_eq_true rfl) ?_
    refine zl_goto (pc := 263) hO 322 nd_GM_instruction_263 (by decide) ?_
    exact zl_weak (J_322 _ h) ⟨rfl, ⟨rfl, trivial⟩⟩
  have J_308 : ∀ (s0 : zS) (t0 : Int32) (t1 : Int32) (t2 : Int32), k_GM_instruction_308 a1 s0 t0 t1 t2 = some s1 → ZW (sM l V) md_GM_instruction (s1, none) X 308 [some (zR 0 0), some (zI a1), none, none, none, none, none] [zI t0, zI t1, zI t2, zR 0 0] s0 := by
    intro s0 t0 t1 t2 h
    unfold k_GM_instruction_308 at h
    refine zl_imul (pc := 308) hO nd_GM_instruction_308 ?_
    refine zl_iadd (pc := 309) hO nd_GM_instruction_309 ?_
    refine zl_puti (pc := 310) hO nd_GM_instruction_310 kp_GM_199 rfl (Nat.le_of_ble_eq_true rfl) rfl ?_
    obtain ⟨s19, e_s19, h⟩ := lt_use h
    refine zl_sg e_s19 ?_
    refine zl_goto (pc := 313) hO 322 nd_GM_instruction_313 (by decide) ?_
    exact zl_weak (J_322 _ h) ⟨rfl, ⟨rfl, trivial⟩⟩
  have J_188 : ∀ (s0 : zS) (l2 : Int32) (l3 : Int32) (l4 : Int32) (l5 : Int32), k_GM_instruction_188 a1 s0 l2 l3 l4 l5 = some s1 → ZW (sM l V) md_GM_instruction (s1, none) X 188 [some (zR 0 0), some (zI a1), some (zI l2), some (zI l3), some (zI l4), some (zI l5), none] [] s0 := by
    intro s0 l2 l3 l4 l5 h
    unfold k_GM_instruction_188 at h
    refine zl_iload_n (pc := 188) hO 3 nd_GM_instruction_188 rfl rfl ?_
    refine zl_bipush (pc := 189) hO (v := 8) nd_GM_instruction_189 (by decide) ?_
    refine zl_icmp_ne (pc := 191) hO 203 nd_GM_instruction_191 (by decide) (fun hc => ?_) (fun hc => ?_)
    · have h := ite_f hc h
      refine zl_iload_n (pc := 203) hO 3 nd_GM_instruction_203 rfl rfl ?_
      refine zl_bipush (pc := 204) hO (v := 12) nd_GM_instruction_204 (by decide) ?_
      refine zl_icmp_eq (pc := 206) hO 215 nd_GM_instruction_206 (by decide) (fun hc => ?_) (fun hc => ?_)
      · have h := ite_t hc h
        exact zl_weak (J_215 _ _ _ _ _ h) ⟨rfl, ⟨rfl, ⟨rfl, ⟨rfl, ⟨rfl, ⟨rfl, trivial⟩⟩⟩⟩⟩⟩
      · have h := ite_f hc h
        refine zl_iload_n (pc := 209) hO 3 nd_GM_instruction_209 rfl rfl ?_
        refine zl_bipush (pc := 210) hO (v := 13) nd_GM_instruction_210 (by decide) ?_
        refine zl_icmp_ne (pc := 212) hO 245 nd_GM_instruction_212 (by decide) (fun hc => ?_) (fun hc => ?_)
        · have h := ite_f hc h
          refine zl_iload_n (pc := 245) hO 3 nd_GM_instruction_245 rfl rfl ?_
          refine zl_bipush (pc := 246) hO (v := 26) nd_GM_instruction_246 (by decide) ?_
          refine zl_icmp_eq (pc := 248) hO 257 nd_GM_instruction_248 (by decide) (fun hc => ?_) (fun hc => ?_)
          · have h := ite_t hc h
            exact zl_weak (J_257 _ _ h) ⟨rfl, ⟨rfl, ⟨rfl, trivial⟩⟩⟩
          · have h := ite_f hc h
            refine zl_iload_n (pc := 251) hO 3 nd_GM_instruction_251 rfl rfl ?_
            refine zl_bipush (pc := 252) hO (v := 27) nd_GM_instruction_252 (by decide) ?_
            refine zl_icmp_ne (pc := 254) hO 266 nd_GM_instruction_254 (by decide) (fun hc => ?_) (fun hc => ?_)
            · have h := ite_f hc h
              refine zl_iload_n (pc := 266) hO 3 nd_GM_instruction_266 rfl rfl ?_
              refine zl_bipush (pc := 267) hO (v := 28) nd_GM_instruction_267 (by decide) ?_
              refine zl_icmp_ne (pc := 269) hO 316 nd_GM_instruction_269 (by decide) (fun hc => ?_) (fun hc => ?_)
              · have h := ite_f hc h
                refine zl_aload_n (pc := 316) hO 0 nd_GM_instruction_316 rfl rfl ?_
                refine zl_iload_n (pc := 317) hO 1 nd_GM_instruction_317 rfl rfl ?_
                refine zl_iload_n (pc := 318) hO 2 nd_GM_instruction_318 rfl rfl ?_
                obtain ⟨s12, h_319, h⟩ := bn_use h
                refine zl_callVv (pc := 319) hO [zI a1, zI l2] [] (c_GM_stackWord hJ h_319) nd_GM_instruction_319 kv_GM_239 rfl (Nat.le_of_ble_eq_true rfl) rfl rfl rfl (Nat.le_of_ble_eq_true rfl) ?_
                exact zl_weak (J_322 _ h) ⟨rfl, ⟨rfl, trivial⟩⟩
              · have h := ite_t hc h
                refine zl_iload_n (pc := 272) hO 2 nd_GM_instruction_272 rfl rfl ?_
                refine zl_sipush (pc := 273) hO (v := 2047) nd_GM_instruction_273 (by decide) ?_
                refine zl_iand (pc := 276) hO nd_GM_instruction_276 ?_
                obtain ⟨x13, e_x13, h⟩ := lt_use h
                refine zl_top e_x13 ?_
                refine zl_istore (pc := 277) hO (L' := [some (zR 0 0), some (zI a1), some (zI l2), some (zI l3), some (zI l4), some (zI l5), some (zI x13)]) nd_GM_instruction_277 (by decide) rfl ?_
                refine zl_aload_n (pc := 279) hO 0 nd_GM_instruction_279 rfl rfl ?_
                refine zl_aload_n (pc := 280) hO 0 nd_GM_instruction_280 rfl rfl ?_
                refine zl_get0 (pc := 281) hO nd_GM_instruction_281 kf_GM_53 rfl (Nat.le_of_ble_eq_true rfl) rfl ?_
                refine zl_iload_n (pc := 284) hO 1 nd_GM_instruction_284 rfl rfl ?_
                obtain ⟨c_in285, h⟩ := ck_use h
                refine zl_iald (pc := 285) hO nd_GM_instruction_285 rfl rfl (Nat.le_of_ble_eq_true rfl) c_in285 ?_
                refine zl_iconst (pc := 286) hO (v := 4) nd_GM_instruction_286 (by decide) ?_
                refine zl_iadd (pc := 287) hO nd_GM_instruction_287 ?_
                refine zl_iconst (pc := 288) hO (v := 2) nd_GM_instruction_288 (by decide) ?_
                refine zl_iload (pc := 289) hO nd_GM_instruction_289 rfl ?_
                refine zl_sipush (pc := 291) hO (v := 1023) nd_GM_instruction_291 (by decide) ?_
                refine zl_icmp_le (pc := 294) hO 306 nd_GM_instruction_294 (by decide) (fun hc => ?_) (fun hc => ?_)
                · have h := ite_t hc h
                  refine zl_iload (pc := 306) hO nd_GM_instruction_306 rfl ?_
                  exact zl_weak (J_308 _ _ _ _ h) ⟨rfl, ⟨rfl, trivial⟩⟩
                · have h := ite_f hc h
                  refine zl_iload (pc := 297) hO nd_GM_instruction_297 rfl ?_
                  refine zl_sipush (pc := 299) hO (v := 2048) nd_GM_instruction_299 (by decide) ?_
                  refine zl_isub (pc := 302) hO nd_GM_instruction_302 ?_
                  refine zl_goto (pc := 303) hO 308 nd_GM_instruction_303 (by decide) ?_
                  exact zl_weak (J_308 _ _ _ _ h) ⟨rfl, ⟨rfl, trivial⟩⟩
            · have h := ite_t hc h
              exact zl_weak (J_257 _ _ h) ⟨rfl, ⟨rfl, ⟨rfl, trivial⟩⟩⟩
        · have h := ite_t hc h
          exact zl_weak (J_215 _ _ _ _ _ h) ⟨rfl, ⟨rfl, ⟨rfl, ⟨rfl, ⟨rfl, ⟨rfl, trivial⟩⟩⟩⟩⟩⟩
    · have h := ite_t hc h
      refine zl_aload_n (pc := 194) hO 0 nd_GM_instruction_194 rfl rfl ?_
      refine zl_iload_n (pc := 195) hO 1 nd_GM_instruction_195 rfl rfl ?_
      refine zl_iload_n (pc := 196) hO 2 nd_GM_instruction_196 rfl rfl ?_
      obtain ⟨s14, h_197, h⟩ := bn_use h
      refine zl_callVv (pc := 197) hO [zI a1, zI l2] [] (c_GM_leap hJ h_197) nd_GM_instruction_197 kv_GM_233 rfl (Nat.le_of_ble_eq_true rfl) rfl rfl rfl (Nat.le_of_ble_eq_true rfl) ?_
      refine zl_goto (pc := 200) hO 322 nd_GM_instruction_200 (by decide) ?_
      exact zl_weak (J_322 _ h) ⟨rfl, ⟨rfl, trivial⟩⟩
  unfold k_GM_instruction at h
  refine zl_aload_n (pc := 0) hO 0 nd_GM_instruction_0 rfl rfl ?_
  refine zl_get0 (pc := 1) hO nd_GM_instruction_1 kf_GM_53 rfl (Nat.le_of_ble_eq_true rfl) rfl ?_
  refine zl_iload_n (pc := 4) hO 1 nd_GM_instruction_4 rfl rfl ?_
  obtain ⟨c_in5, h⟩ := ck_use h
  refine zl_iald (pc := 5) hO nd_GM_instruction_5 rfl rfl (Nat.le_of_ble_eq_true rfl) c_in5 ?_
  refine zl_iconst (pc := 6) hO (v := 1) nd_GM_instruction_6 (by decide) ?_
  refine zl_iand (pc := 7) hO nd_GM_instruction_7 ?_
  refine zl_if_ne (pc := 8) hO 25 nd_GM_instruction_8 (by decide) (fun hc => ?_) (fun hc => ?_)
  · have h := ite_f hc h
    exact zl_weak (J_25 _ h) ⟨rfl, trivial⟩
  · have h := ite_t hc h
    refine zl_aload_n (pc := 11) hO 0 nd_GM_instruction_11 rfl rfl ?_
    refine zl_iload_n (pc := 12) hO 1 nd_GM_instruction_12 rfl rfl ?_
    refine zl_aload_n (pc := 13) hO 0 nd_GM_instruction_13 rfl rfl ?_
    refine zl_get0 (pc := 14) hO nd_GM_instruction_14 kf_GM_53 rfl (Nat.le_of_ble_eq_true rfl) rfl ?_
    refine zl_iload_n (pc := 17) hO 1 nd_GM_instruction_17 rfl rfl ?_
    obtain ⟨c_in18, h⟩ := ck_use h
    refine zl_iald (pc := 18) hO nd_GM_instruction_18 rfl rfl (Nat.le_of_ble_eq_true rfl) c_in18 ?_
    obtain ⟨⟨s1, r2⟩, h_19, h⟩ := bn_use h
    refine zl_callVi (pc := 19) hO [zI a1, zI (s0 14 0 a1.toNatClampNeg)] [] (c_GM_inCode hJ h_19) nd_GM_instruction_19 kv_GM_158 rfl (Nat.le_of_ble_eq_true rfl) rfl rfl rfl (Nat.le_of_ble_eq_true rfl) ?_
    refine zl_if_ne (pc := 22) hO 31 nd_GM_instruction_22 (by decide) (fun hc => ?_) (fun hc => ?_)
    · have h := ite_f hc h
      refine zl_aload_n (pc := 31) hO 0 nd_GM_instruction_31 rfl rfl ?_
      refine zl_get0 (pc := 32) hO nd_GM_instruction_32 kf_GM_7 rfl (Nat.le_of_ble_eq_true rfl) rfl ?_
      refine zl_aload_n (pc := 35) hO 0 nd_GM_instruction_35 rfl rfl ?_
      refine zl_get0 (pc := 36) hO nd_GM_instruction_36 kf_GM_53 rfl (Nat.le_of_ble_eq_true rfl) rfl ?_
      refine zl_iload_n (pc := 39) hO 1 nd_GM_instruction_39 rfl rfl ?_
      obtain ⟨c_in40, h⟩ := ck_use h
      refine zl_iald (pc := 40) hO nd_GM_instruction_40 rfl rfl (Nat.le_of_ble_eq_true rfl) c_in40 ?_
      refine zl_iconst (pc := 41) hO (v := 2) nd_GM_instruction_41 (by decide) ?_
      obtain ⟨c_div42, h⟩ := ck_use h
      refine zl_idiv (pc := 42) hO nd_GM_instruction_42 c_div42 ?_
      obtain ⟨c_in43, h⟩ := ck_use h
      refine zl_iald (pc := 43) hO nd_GM_instruction_43 rfl rfl (Nat.le_of_ble_eq_true rfl) c_in43 ?_
      obtain ⟨x3, e_x3, h⟩ := lt_use h
      refine zl_top e_x3 ?_
      refine zl_istore_n (pc := 44) hO 2 (L' := [some (zR 0 0), some (zI a1), some (zI x3), none, none, none, none]) nd_GM_instruction_44 rfl (by decide) rfl ?_
      refine zl_iload_n (pc := 45) hO 2 nd_GM_instruction_45 rfl rfl ?_
      refine zl_bipush (pc := 46) hO (v := 11) nd_GM_instruction_46 (by decide) ?_
      refine zl_ishr (pc := 48) hO nd_GM_instruction_48 ?_
      obtain ⟨x4, e_x4, h⟩ := lt_use h
      refine zl_top e_x4 ?_
      refine zl_istore_n (pc := 49) hO 3 (L' := [some (zR 0 0), some (zI a1), some (zI x3), some (zI x4), none, none, none]) nd_GM_instruction_49 rfl (by decide) rfl ?_
      refine zl_iload_n (pc := 50) hO 2 nd_GM_instruction_50 rfl rfl ?_
      refine zl_bipush (pc := 51) hO (v := 6) nd_GM_instruction_51 (by decide) ?_
      refine zl_ishr (pc := 53) hO nd_GM_instruction_53 ?_
      refine zl_bipush (pc := 54) hO (v := 31) nd_GM_instruction_54 (by decide) ?_
      refine zl_iand (pc := 56) hO nd_GM_instruction_56 ?_
      obtain ⟨x5, e_x5, h⟩ := lt_use h
      refine zl_top e_x5 ?_
      refine zl_istore (pc := 57) hO (L' := [some (zR 0 0), some (zI a1), some (zI x3), some (zI x4), some (zI x5), none, none]) nd_GM_instruction_57 (by decide) rfl ?_
      refine zl_aload_n (pc := 59) hO 0 nd_GM_instruction_59 rfl rfl ?_
      refine zl_get0 (pc := 60) hO nd_GM_instruction_60 kf_GM_44 rfl (Nat.le_of_ble_eq_true rfl) rfl ?_
      refine zl_bipush (pc := 63) hO (v := 8) nd_GM_instruction_63 (by decide) ?_
      refine zl_iload_n (pc := 65) hO 1 nd_GM_instruction_65 rfl rfl ?_
      refine zl_imul (pc := 66) hO nd_GM_instruction_66 ?_
      refine zl_iload_n (pc := 67) hO 2 nd_GM_instruction_67 rfl rfl ?_
      refine zl_iconst (pc := 68) hO (v := 3) nd_GM_instruction_68 (by decide) ?_
      refine zl_ishr (pc := 69) hO nd_GM_instruction_69 ?_
      refine zl_bipush (pc := 70) hO (v := 7) nd_GM_instruction_70 (by decide) ?_
      refine zl_iand (pc := 72) hO nd_GM_instruction_72 ?_
      refine zl_iadd (pc := 73) hO nd_GM_instruction_73 ?_
      obtain ⟨c_in74, h⟩ := ck_use h
      refine zl_iald (pc := 74) hO nd_GM_instruction_74 rfl rfl (Nat.le_of_ble_eq_true rfl) c_in74 ?_
      obtain ⟨x6, e_x6, h⟩ := lt_use h
      refine zl_top e_x6 ?_
      refine zl_istore (pc := 75) hO (L' := [some (zR 0 0), some (zI a1), some (zI x3), some (zI x4), some (zI x5), some (zI x6), none]) nd_GM_instruction_75 (by decide) rfl ?_
      refine zl_aload_n (pc := 77) hO 0 nd_GM_instruction_77 rfl rfl ?_
      refine zl_aload_n (pc := 78) hO 0 nd_GM_instruction_78 rfl rfl ?_
      refine zl_get0 (pc := 79) hO nd_GM_instruction_79 kf_GM_53 rfl (Nat.le_of_ble_eq_true rfl) rfl ?_
      refine zl_iload_n (pc := 82) hO 1 nd_GM_instruction_82 rfl rfl ?_
      obtain ⟨c_in83, h⟩ := ck_use h
      refine zl_iald (pc := 83) hO nd_GM_instruction_83 rfl rfl (Nat.le_of_ble_eq_true rfl) c_in83 ?_
      refine zl_iconst (pc := 84) hO (v := 2) nd_GM_instruction_84 (by decide) ?_
      refine zl_iadd (pc := 85) hO nd_GM_instruction_85 ?_
      refine zl_puti (pc := 86) hO nd_GM_instruction_86 kp_GM_199 rfl (Nat.le_of_ble_eq_true rfl) rfl ?_
      obtain ⟨s7, e_s7, h⟩ := lt_use h
      refine zl_sg e_s7 ?_
      refine zl_iload_n (pc := 89) hO 3 nd_GM_instruction_89 rfl rfl ?_
      refine zl_iconst (pc := 90) hO (v := 3) nd_GM_instruction_90 (by decide) ?_
      refine zl_icmp_ge (pc := 91) hO 135 nd_GM_instruction_91 (by decide) (fun hc => ?_) (fun hc => ?_)
      · have h := ite_t hc h
        refine zl_iload_n (pc := 135) hO 3 nd_GM_instruction_135 rfl rfl ?_
        refine zl_iconst (pc := 136) hO (v := 3) nd_GM_instruction_136 (by decide) ?_
        refine zl_icmp_ne (pc := 137) hO 149 nd_GM_instruction_137 (by decide) (fun hc => ?_) (fun hc => ?_)
        · have h := ite_f hc h
          refine zl_iload_n (pc := 149) hO 3 nd_GM_instruction_149 rfl rfl ?_
          refine zl_bipush (pc := 150) hO (v := 8) nd_GM_instruction_150 (by decide) ?_
          refine zl_icmp_ge (pc := 152) hO 164 nd_GM_instruction_152 (by decide) (fun hc => ?_) (fun hc => ?_)
          · have h := ite_t hc h
            refine zl_iload_n (pc := 164) hO 3 nd_GM_instruction_164 rfl rfl ?_
            refine zl_bipush (pc := 165) hO (v := 8) nd_GM_instruction_165 (by decide) ?_
            refine zl_icmp_ne (pc := 167) hO 188 nd_GM_instruction_167 (by decide) (fun hc => ?_) (fun hc => ?_)
            · have h := ite_f hc h
              exact zl_weak (J_188 _ _ _ _ _ h) ⟨rfl, ⟨rfl, ⟨rfl, ⟨rfl, ⟨rfl, ⟨rfl, trivial⟩⟩⟩⟩⟩⟩
            · have h := ite_t hc h
              refine zl_iload_n (pc := 170) hO 2 nd_GM_instruction_170 rfl rfl ?_
              refine zl_bipush (pc := 171) hO (v := 10) nd_GM_instruction_171 (by decide) ?_
              refine zl_ishr (pc := 173) hO nd_GM_instruction_173 ?_
              refine zl_bipush (pc := 174) hO (v := 16) nd_GM_instruction_174 (by decide) ?_
              refine zl_icmp_ne (pc := 176) hO 188 nd_GM_instruction_176 (by decide) (fun hc => ?_) (fun hc => ?_)
              · have h := ite_f hc h
                exact zl_weak (J_188 _ _ _ _ _ h) ⟨rfl, ⟨rfl, ⟨rfl, ⟨rfl, ⟨rfl, ⟨rfl, trivial⟩⟩⟩⟩⟩⟩
              · have h := ite_t hc h
                refine zl_aload_n (pc := 179) hO 0 nd_GM_instruction_179 rfl rfl ?_
                refine zl_iload_n (pc := 180) hO 1 nd_GM_instruction_180 rfl rfl ?_
                refine zl_iload_n (pc := 181) hO 2 nd_GM_instruction_181 rfl rfl ?_
                obtain ⟨s8, h_182, h⟩ := bn_use h
                refine zl_callVv (pc := 182) hO [zI a1, zI x3] [] (c_GM_calculate hJ h_182) nd_GM_instruction_182 kv_GM_230 rfl (Nat.le_of_ble_eq_true rfl) rfl rfl rfl (Nat.le_of_ble_eq_true rfl) ?_
                refine zl_goto (pc := 185) hO 322 nd_GM_instruction_185 (by decide) ?_
                exact zl_weak (J_322 _ h) ⟨rfl, ⟨rfl, trivial⟩⟩
          · have h := ite_f hc h
            refine zl_aload_n (pc := 155) hO 0 nd_GM_instruction_155 rfl rfl ?_
            refine zl_iload_n (pc := 156) hO 1 nd_GM_instruction_156 rfl rfl ?_
            refine zl_iload_n (pc := 157) hO 2 nd_GM_instruction_157 rfl rfl ?_
            obtain ⟨s9, h_158, h⟩ := bn_use h
            refine zl_callVv (pc := 158) hO [zI a1, zI x3] [] (c_GM_immediate hJ h_158) nd_GM_instruction_158 kv_GM_227 rfl (Nat.le_of_ble_eq_true rfl) rfl rfl rfl (Nat.le_of_ble_eq_true rfl) ?_
            refine zl_goto (pc := 161) hO 322 nd_GM_instruction_161 (by decide) ?_
            exact zl_weak (J_322 _ h) ⟨rfl, ⟨rfl, trivial⟩⟩
        · have h := ite_t hc h
          refine zl_aload_n (pc := 140) hO 0 nd_GM_instruction_140 rfl rfl ?_
          refine zl_iload_n (pc := 141) hO 1 nd_GM_instruction_141 rfl rfl ?_
          refine zl_iload_n (pc := 142) hO 2 nd_GM_instruction_142 rfl rfl ?_
          obtain ⟨s10, h_143, h⟩ := bn_use h
          refine zl_callVv (pc := 143) hO [zI a1, zI x3] [] (c_GM_addOrTake hJ h_143) nd_GM_instruction_143 kv_GM_224 rfl (Nat.le_of_ble_eq_true rfl) rfl rfl rfl (Nat.le_of_ble_eq_true rfl) ?_
          refine zl_goto (pc := 146) hO 322 nd_GM_instruction_146 (by decide) ?_
          exact zl_weak (J_322 _ h) ⟨rfl, ⟨rfl, trivial⟩⟩
      · have h := ite_f hc h
        refine zl_aload_n (pc := 94) hO 0 nd_GM_instruction_94 rfl rfl ?_
        refine zl_get0 (pc := 95) hO nd_GM_instruction_95 kf_GM_44 rfl (Nat.le_of_ble_eq_true rfl) rfl ?_
        refine zl_bipush (pc := 98) hO (v := 8) nd_GM_instruction_98 (by decide) ?_
        refine zl_iload_n (pc := 100) hO 1 nd_GM_instruction_100 rfl rfl ?_
        refine zl_imul (pc := 101) hO nd_GM_instruction_101 ?_
        refine zl_iload_n (pc := 102) hO 2 nd_GM_instruction_102 rfl rfl ?_
        refine zl_bipush (pc := 103) hO (v := 7) nd_GM_instruction_103 (by decide) ?_
        refine zl_iand (pc := 105) hO nd_GM_instruction_105 ?_
        refine zl_iadd (pc := 106) hO nd_GM_instruction_106 ?_
        refine zl_aload_n (pc := 107) hO 0 nd_GM_instruction_107 rfl rfl ?_
        refine zl_iload_n (pc := 108) hO 1 nd_GM_instruction_108 rfl rfl ?_
        refine zl_iload (pc := 109) hO nd_GM_instruction_109 rfl ?_
        refine zl_iload_n (pc := 111) hO 3 nd_GM_instruction_111 rfl rfl ?_
        refine zl_if_le (pc := 112) hO 125 nd_GM_instruction_112 (by decide) (fun hc => ?_) (fun hc => ?_)
        · have h := ite_t hc h
          exact zl_weak (J_125 _ _ _ _ _ _ h) ⟨rfl, ⟨rfl, ⟨rfl, ⟨rfl, trivial⟩⟩⟩⟩
        · have h := ite_f hc h
          refine zl_iload (pc := 115) hO nd_GM_instruction_115 rfl ?_
          refine zl_if_ne (pc := 117) hO 125 nd_GM_instruction_117 (by decide) (fun hc => ?_) (fun hc => ?_)
          · have h := ite_f hc h
            exact zl_weak (J_125 _ _ _ _ _ _ h) ⟨rfl, ⟨rfl, ⟨rfl, ⟨rfl, trivial⟩⟩⟩⟩
          · have h := ite_t hc h
            refine zl_bipush (pc := 120) hO (v := 32) nd_GM_instruction_120 (by decide) ?_
            refine zl_goto (pc := 122) hO 127 nd_GM_instruction_122 (by decide) ?_
            exact zl_weak (J_127 _ _ _ _ _ _ h) ⟨rfl, ⟨rfl, ⟨rfl, trivial⟩⟩⟩
    · have h := ite_t hc h
      exact zl_weak (J_25 _ h) ⟨rfl, trivial⟩
set_option maxHeartbeats 4000000 in
set_option maxRecDepth 100000 in
theorem c_GM_faulted {l : Launch} {V : zG} (hJ : zJ0 (sM l V)) {s0 : zS} {a1 : Int32}  {s1 : zS} (h : k_GM_faulted s0 a1 = some s1) : zM (sM l V) md_GM_faulted [zR 0 0, zI a1] s0 (s1, none) := by
  refine zMet [some (zR 0 0), some (zI a1)] hJ (by decide) rfl (Nat.le_of_ble_eq_true rfl) rfl ?_
  intro X hO
  unfold k_GM_faulted at h
  refine zl_aload_n (pc := 0) hO 0 nd_GM_faulted_0 rfl rfl ?_
  refine zl_iconst (pc := 1) hO (v := 0) nd_GM_faulted_1 (by decide) ?_
  refine zl_puti (pc := 2) hO nd_GM_faulted_2 kp_GM_118 rfl (Nat.le_of_ble_eq_true rfl) rfl ?_
  obtain ⟨s1, e_s1, h⟩ := lt_use h
  refine zl_sg e_s1 ?_
  refine zl_aload_n (pc := 5) hO 0 nd_GM_faulted_5 rfl rfl ?_
  refine zl_get0 (pc := 6) hO nd_GM_faulted_6 kf_GM_63 rfl (Nat.le_of_ble_eq_true rfl) rfl ?_
  refine zl_iload_n (pc := 9) hO 1 nd_GM_faulted_9 rfl rfl ?_
  refine zl_aload_n (pc := 10) hO 0 nd_GM_faulted_10 rfl rfl ?_
  refine zl_geti (pc := 11) hO nd_GM_faulted_11 kf_GM_161 rfl (Nat.le_of_ble_eq_true rfl) rfl ?_
  obtain ⟨c_in14, h⟩ := ck_use h
  refine zl_iast (pc := 14) hO nd_GM_faulted_14 rfl rfl (Nat.le_of_ble_eq_true rfl) c_in14 ?_
  obtain ⟨s2, e_s2, h⟩ := lt_use h
  refine zl_sg e_s2 ?_
  refine zl_aload_n (pc := 15) hO 0 nd_GM_faulted_15 rfl rfl ?_
  refine zl_get0 (pc := 16) hO nd_GM_faulted_16 kf_GM_66 rfl (Nat.le_of_ble_eq_true rfl) rfl ?_
  refine zl_iload_n (pc := 19) hO 1 nd_GM_faulted_19 rfl rfl ?_
  refine zl_dup2 (pc := 20) hO nd_GM_faulted_20 rfl rfl ?_
  obtain ⟨c_in21, h⟩ := ck_use h
  refine zl_iald (pc := 21) hO nd_GM_faulted_21 rfl rfl (Nat.le_of_ble_eq_true rfl) c_in21 ?_
  refine zl_iconst (pc := 22) hO (v := 1) nd_GM_faulted_22 (by decide) ?_
  refine zl_iadd (pc := 23) hO nd_GM_faulted_23 ?_
  obtain ⟨c_in24, h⟩ := ck_use h
  refine zl_iast (pc := 24) hO nd_GM_faulted_24 rfl rfl (Nat.le_of_ble_eq_true rfl) c_in24 ?_
  obtain ⟨s3, e_s3, h⟩ := lt_use h
  refine zl_sg e_s3 ?_
  refine zl_aload_n (pc := 25) hO 0 nd_GM_faulted_25 rfl rfl ?_
  refine zl_get0 (pc := 26) hO nd_GM_faulted_26 kf_GM_69 rfl (Nat.le_of_ble_eq_true rfl) rfl ?_
  refine zl_iload_n (pc := 29) hO 1 nd_GM_faulted_29 rfl rfl ?_
  obtain ⟨c_in30, h⟩ := ck_use h
  refine zl_iald (pc := 30) hO nd_GM_faulted_30 rfl rfl (Nat.le_of_ble_eq_true rfl) c_in30 ?_
  refine zl_aload_n (pc := 31) hO 0 nd_GM_faulted_31 rfl rfl ?_
  refine zl_get0 (pc := 32) hO nd_GM_faulted_32 kf_GM_38 rfl (Nat.le_of_ble_eq_true rfl) rfl ?_
  refine zl_iload_n (pc := 35) hO 1 nd_GM_faulted_35 rfl rfl ?_
  obtain ⟨c_in36, h⟩ := ck_use h
  refine zl_iald (pc := 36) hO nd_GM_faulted_36 rfl rfl (Nat.le_of_ble_eq_true rfl) c_in36 ?_
  refine zl_icmp_ge (pc := 37) hO 58 nd_GM_faulted_37 (by decide) (fun hc => ?_) (fun hc => ?_)
  · have h := ite_t hc h
    refine zl_aload_n (pc := 58) hO 0 nd_GM_faulted_58 rfl rfl ?_
    refine zl_iload_n (pc := 59) hO 1 nd_GM_faulted_59 rfl rfl ?_
    obtain ⟨s4, h_60, h⟩ := bn_use h
    refine zl_callVv (pc := 60) hO [zI a1] [] (c_GM_halt hJ h_60) nd_GM_faulted_60 kv_GM_283 rfl (Nat.le_of_ble_eq_true rfl) rfl rfl rfl (Nat.le_of_ble_eq_true rfl) ?_
    exact zl_vret (pc := 63) hO nd_GM_faulted_63 rfl (zr_v h)
  · have h := ite_f hc h
    refine zl_aload_n (pc := 40) hO 0 nd_GM_faulted_40 rfl rfl ?_
    refine zl_get0 (pc := 41) hO nd_GM_faulted_41 kf_GM_69 rfl (Nat.le_of_ble_eq_true rfl) rfl ?_
    refine zl_iload_n (pc := 44) hO 1 nd_GM_faulted_44 rfl rfl ?_
    refine zl_dup2 (pc := 45) hO nd_GM_faulted_45 rfl rfl ?_
    obtain ⟨c_in46, h⟩ := ck_use h
    refine zl_iald (pc := 46) hO nd_GM_faulted_46 rfl rfl (Nat.le_of_ble_eq_true rfl) c_in46 ?_
    refine zl_iconst (pc := 47) hO (v := 1) nd_GM_faulted_47 (by decide) ?_
    refine zl_iadd (pc := 48) hO nd_GM_faulted_48 ?_
    obtain ⟨c_in49, h⟩ := ck_use h
    refine zl_iast (pc := 49) hO nd_GM_faulted_49 rfl rfl (Nat.le_of_ble_eq_true rfl) c_in49 ?_
    obtain ⟨s5, e_s5, h⟩ := lt_use h
    refine zl_sg e_s5 ?_
    refine zl_aload_n (pc := 50) hO 0 nd_GM_faulted_50 rfl rfl ?_
    refine zl_iload_n (pc := 51) hO 1 nd_GM_faulted_51 rfl rfl ?_
    obtain ⟨s6, h_52, h⟩ := bn_use h
    refine zl_callVv (pc := 52) hO [zI a1] [] (c_GM_begin hJ h_52) nd_GM_faulted_52 kv_GM_128 rfl (Nat.le_of_ble_eq_true rfl) rfl rfl rfl (Nat.le_of_ble_eq_true rfl) ?_
    refine zl_goto (pc := 55) hO 63 nd_GM_faulted_55 (by decide) ?_
    exact zl_vret (pc := 63) hO nd_GM_faulted_63 rfl (zr_v h)
set_option maxHeartbeats 4000000 in
set_option maxRecDepth 100000 in
theorem c_GM_alarms {l : Launch} {V : zG} (hJ : zJ0 (sM l V)) {s0 : zS}   {s1 : zS} (h : k_GM_alarms s0 = some s1) : zM (sM l V) md_GM_alarms [zR 0 0] s0 (s1, none) := by
  refine zMet [some (zR 0 0), none, none] hJ (by decide) rfl (Nat.le_of_ble_eq_true rfl) rfl ?_
  intro X hO
  have J_73 : ∀ (K2 : zS → Int32 → Option (zS)) (hK2 : ∀ (s0 : zS) (l1 : Int32), K2 s0 l1 = some s1 → ZW (sM l V) md_GM_alarms (s1, none) X 2 [some (zR 0 0), some (zI l1), none] [] s0), ∀ (s0 : zS) (l1 : Int32), k_GM_alarms_73 K2 s0 l1 = some s1 → ZW (sM l V) md_GM_alarms (s1, none) X 73 [some (zR 0 0), some (zI l1), none] [] s0 := by
    intro K2 hK2
    intro s0 l1 h
    unfold k_GM_alarms_73 at h
    obtain ⟨x9, e_x9, h⟩ := lt_use h
    refine zl_iinc (pc := 73) hO (L' := [some (zR 0 0), some (zI x9), none]) nd_GM_alarms_73 rfl e_x9.symm (by decide) rfl ?_
    refine zl_goto (pc := 76) hO 2 nd_GM_alarms_76 (by decide) ?_
    exact zl_weak (hK2 _ _ h) ⟨rfl, ⟨rfl, trivial⟩⟩
  have J_2 : ∀ (n : Nat), ∀ (s0 : zS) (l1 : Int32), k_GM_alarms_2 n s0 l1 = some s1 → ZW (sM l V) md_GM_alarms (s1, none) X 2 [some (zR 0 0), some (zI l1), none] [] s0 := by
    intro n
    induction n with
    | zero => intro s0 l1 h; exact absurd h (by rw [k_GM_alarms_2]; exact fun w => nomatch w)
    | succ n ih =>
      intro s0 l1 h
      rw [k_GM_alarms_2]  at h
      refine zl_iload_n (pc := 2) hO 1 nd_GM_alarms_2 rfl rfl ?_
      refine zl_aload_n (pc := 3) hO 0 nd_GM_alarms_3 rfl rfl ?_
      refine zl_geti (pc := 4) hO nd_GM_alarms_4 kf_GM_105 rfl (Nat.le_of_ble_eq_true rfl) rfl ?_
      refine zl_icmp_ge (pc := 7) hO 79 nd_GM_alarms_7 (by decide) (fun hc => ?_) (fun hc => ?_)
      · have h := ite_t hc h
        exact zl_vret (pc := 79) hO nd_GM_alarms_79 rfl (zr_v h)
      · have h := ite_f hc h
        refine zl_aload_n (pc := 10) hO 0 nd_GM_alarms_10 rfl rfl ?_
        refine zl_get0 (pc := 11) hO nd_GM_alarms_11 kf_GM_72 rfl (Nat.le_of_ble_eq_true rfl) rfl ?_
        refine zl_iconst (pc := 14) hO (v := 3) nd_GM_alarms_14 (by decide) ?_
        refine zl_iload_n (pc := 15) hO 1 nd_GM_alarms_15 rfl rfl ?_
        refine zl_imul (pc := 16) hO nd_GM_alarms_16 ?_
        obtain ⟨c_in17, h⟩ := ck_use h
        refine zl_iald (pc := 17) hO nd_GM_alarms_17 rfl rfl (Nat.le_of_ble_eq_true rfl) c_in17 ?_
        refine zl_if_le (pc := 18) hO 73 nd_GM_alarms_18 (by decide) (fun hc => ?_) (fun hc => ?_)
        · have h := ite_t hc h
          exact zl_weak (J_73 (k_GM_alarms_2 n) ih _ _ h) ⟨rfl, ⟨rfl, trivial⟩⟩
        · have h := ite_f hc h
          refine zl_aload_n (pc := 21) hO 0 nd_GM_alarms_21 rfl rfl ?_
          refine zl_iload_n (pc := 22) hO 1 nd_GM_alarms_22 rfl rfl ?_
          refine zl_iconst (pc := 23) hO (v := 0) nd_GM_alarms_23 (by decide) ?_
          refine zl_iconst (pc := 24) hO (v := 0) nd_GM_alarms_24 (by decide) ?_
          obtain ⟨⟨s1, r2⟩, h_25, h⟩ := bn_use h
          refine zl_callVi (pc := 25) hO [zI l1, zI 0, zI 0] [] (c_GM_note hJ h_25) nd_GM_alarms_25 kv_GM_267 rfl (Nat.le_of_ble_eq_true rfl) rfl rfl rfl (Nat.le_of_ble_eq_true rfl) ?_
          refine zl_iconst (pc := 28) hO (v := 1) nd_GM_alarms_28 (by decide) ?_
          refine zl_icmp_ne (pc := 29) hO 73 nd_GM_alarms_29 (by decide) (fun hc => ?_) (fun hc => ?_)
          · have h := ite_f hc h
            exact zl_weak (J_73 (k_GM_alarms_2 n) ih _ _ h) ⟨rfl, ⟨rfl, trivial⟩⟩
          · have h := ite_t hc h
            refine zl_aload_n (pc := 32) hO 0 nd_GM_alarms_32 rfl rfl ?_
            refine zl_iload_n (pc := 33) hO 1 nd_GM_alarms_33 rfl rfl ?_
            refine zl_iconst (pc := 34) hO (v := 0) nd_GM_alarms_34 (by decide) ?_
            refine zl_iconst (pc := 35) hO (v := 1) nd_GM_alarms_35 (by decide) ?_
            obtain ⟨⟨s3, r4⟩, h_36, h⟩ := bn_use h
            refine zl_callVi (pc := 36) hO [zI l1, zI 0, zI 1] [] (c_GM_note hJ h_36) nd_GM_alarms_36 kv_GM_267 rfl (Nat.le_of_ble_eq_true rfl) rfl rfl rfl (Nat.le_of_ble_eq_true rfl) ?_
            refine zl_aload_n (pc := 39) hO 0 nd_GM_alarms_39 rfl rfl ?_
            refine zl_geti (pc := 40) hO nd_GM_alarms_40 kf_GM_115 rfl (Nat.le_of_ble_eq_true rfl) rfl ?_
            refine zl_icmp_gt (pc := 43) hO 73 nd_GM_alarms_43 (by decide) (fun hc => ?_) (fun hc => ?_)
            · have h := ite_t hc h
              exact zl_weak (J_73 (k_GM_alarms_2 n) ih _ _ h) ⟨rfl, ⟨rfl, trivial⟩⟩
            · have h := ite_f hc h
              refine zl_aload_n (pc := 46) hO 0 nd_GM_alarms_46 rfl rfl ?_
              refine zl_iload_n (pc := 47) hO 1 nd_GM_alarms_47 rfl rfl ?_
              refine zl_iconst (pc := 48) hO (v := 0) nd_GM_alarms_48 (by decide) ?_
              refine zl_iconst (pc := 49) hO (v := 1) nd_GM_alarms_49 (by decide) ?_
              obtain ⟨⟨s5, r6⟩, h_50, h⟩ := bn_use h
              refine zl_callVi (pc := 50) hO [zI l1, zI 0, zI 1] [] (c_GM_note hJ h_50) nd_GM_alarms_50 kv_GM_267 rfl (Nat.le_of_ble_eq_true rfl) rfl rfl rfl (Nat.le_of_ble_eq_true rfl) ?_
              refine zl_istore_n (pc := 53) hO 2 (L' := [some (zR 0 0), some (zI l1), some (zI r6)]) nd_GM_alarms_53 rfl (by decide) rfl ?_
              refine zl_aload_n (pc := 54) hO 0 nd_GM_alarms_54 rfl rfl ?_
              refine zl_iload_n (pc := 55) hO 1 nd_GM_alarms_55 rfl rfl ?_
              refine zl_iconst (pc := 56) hO (v := 0) nd_GM_alarms_56 (by decide) ?_
              refine zl_iconst (pc := 57) hO (v := 0) nd_GM_alarms_57 (by decide) ?_
              refine zl_iconst (pc := 58) hO (v := 0) nd_GM_alarms_58 (by decide) ?_
              obtain ⟨s7, h_59, h⟩ := bn_use h
              refine zl_callVv (pc := 59) hO [zI l1, zI 0, zI 0, zI 0] [] (c_GM_write hJ h_59) nd_GM_alarms_59 kv_GM_245 rfl (Nat.le_of_ble_eq_true rfl) rfl rfl rfl (Nat.le_of_ble_eq_true rfl) ?_
              refine zl_aload_n (pc := 62) hO 0 nd_GM_alarms_62 rfl rfl ?_
              refine zl_iload_n (pc := 63) hO 1 nd_GM_alarms_63 rfl rfl ?_
              refine zl_iconst (pc := 64) hO (v := 0) nd_GM_alarms_64 (by decide) ?_
              refine zl_aload_n (pc := 65) hO 0 nd_GM_alarms_65 rfl rfl ?_
              refine zl_geti (pc := 66) hO nd_GM_alarms_66 kf_GM_115 rfl (Nat.le_of_ble_eq_true rfl) rfl ?_
              refine zl_iload_n (pc := 69) hO 2 nd_GM_alarms_69 rfl rfl ?_
              obtain ⟨s8, h_70, h⟩ := bn_use h
              refine zl_callVv (pc := 70) hO [zI l1, zI 0, zI (s7 0 0 2), zI r6] [] (c_GM_upcall hJ h_70) nd_GM_alarms_70 kv_GM_277 rfl (Nat.le_of_ble_eq_true rfl) rfl rfl rfl (Nat.le_of_ble_eq_true rfl) ?_
              exact zl_weak (J_73 (k_GM_alarms_2 n) ih _ _ h) ⟨rfl, ⟨rfl, trivial⟩⟩
  unfold k_GM_alarms at h
  refine zl_iconst (pc := 0) hO (v := 0) nd_GM_alarms_0 (by decide) ?_
  refine zl_istore_n (pc := 1) hO 1 (L' := [some (zR 0 0), some (zI 0), none]) nd_GM_alarms_1 rfl (by decide) rfl ?_
  exact zl_weak (J_2 FU _ _ h) ⟨rfl, ⟨rfl, trivial⟩⟩
set_option maxHeartbeats 4000000 in
set_option maxRecDepth 100000 in
theorem c_GM_choose {l : Launch} {V : zG} (hJ : zJ0 (sM l V)) {s0 : zS}   {s1 : zS} {v1 : Int32} (h : k_GM_choose s0 = some (s1, v1)) : zM (sM l V) md_GM_choose [zR 0 0] s0 (s1, some (zI v1)) := by
  refine zMet [some (zR 0 0), none, none] hJ (by decide) rfl (Nat.le_of_ble_eq_true rfl) rfl ?_
  intro X hO
  have J_62 : ∀ (K30 : zS → Int32 → Option (zS × Int32)) (hK30 : ∀ (s0 : zS) (l1 : Int32), K30 s0 l1 = some (s1, v1) → ZW (sM l V) md_GM_choose (s1, some (zI v1)) X 30 [some (zR 0 0), some (zI l1), none] [] s0), ∀ (s0 : zS) (l1 : Int32) (t0 : Int32), k_GM_choose_62 K30 s0 l1 t0 = some (s1, v1) → ZW (sM l V) md_GM_choose (s1, some (zI v1)) X 62 [some (zR 0 0), some (zI l1), none] [zI t0] s0 := by
    intro K30 hK30
    intro s0 l1 t0 h
    unfold k_GM_choose_62 at h
    refine zl_istore_n (pc := 62) hO 2 (L' := [some (zR 0 0), some (zI l1), some (zI t0)]) nd_GM_choose_62 rfl (by decide) rfl ?_
    refine zl_aload_n (pc := 63) hO 0 nd_GM_choose_63 rfl rfl ?_
    refine zl_get0 (pc := 64) hO nd_GM_choose_64 kf_GM_41 rfl (Nat.le_of_ble_eq_true rfl) rfl ?_
    refine zl_iload_n (pc := 67) hO 2 nd_GM_choose_67 rfl rfl ?_
    obtain ⟨c_in68, h⟩ := ck_use h
    refine zl_iald (pc := 68) hO nd_GM_choose_68 rfl rfl (Nat.le_of_ble_eq_true rfl) c_in68 ?_
    refine zl_if_ne (pc := 69) hO 85 nd_GM_choose_69 (by decide) (fun hc => ?_) (fun hc => ?_)
    · have h := ite_f hc h
      obtain ⟨x1, e_x1, h⟩ := lt_use h
      refine zl_iinc (pc := 85) hO (L' := [some (zR 0 0), some (zI x1), some (zI t0)]) nd_GM_choose_85 rfl e_x1.symm (by decide) rfl ?_
      refine zl_goto (pc := 88) hO 30 nd_GM_choose_88 (by decide) ?_
      exact zl_weak (hK30 _ _ h) ⟨rfl, ⟨rfl, trivial⟩⟩
    · have h := ite_t hc h
      refine zl_aload_n (pc := 72) hO 0 nd_GM_choose_72 rfl rfl ?_
      refine zl_iload_n (pc := 73) hO 2 nd_GM_choose_73 rfl rfl ?_
      refine zl_puti (pc := 74) hO nd_GM_choose_74 kp_GM_16 rfl (Nat.le_of_ble_eq_true rfl) rfl ?_
      obtain ⟨s2, e_s2, h⟩ := lt_use h
      refine zl_sg e_s2 ?_
      refine zl_aload_n (pc := 77) hO 0 nd_GM_choose_77 rfl rfl ?_
      refine zl_bipush (pc := 78) hO (v := 10) nd_GM_choose_78 (by decide) ?_
      refine zl_puti (pc := 80) hO nd_GM_choose_80 kp_GM_118 rfl (Nat.le_of_ble_eq_true rfl) rfl ?_
      obtain ⟨s3, e_s3, h⟩ := lt_use h
      refine zl_sg e_s3 ?_
      refine zl_iconst (pc := 83) hO (v := 1) nd_GM_choose_83 (by decide) ?_
      exact zl_zret (pc := 84) hO nd_GM_choose_84 rfl (by decide) (zr_i h)
  have J_30 : ∀ (n : Nat), ∀ (s0 : zS) (l1 : Int32), k_GM_choose_30 n s0 l1 = some (s1, v1) → ZW (sM l V) md_GM_choose (s1, some (zI v1)) X 30 [some (zR 0 0), some (zI l1), none] [] s0 := by
    intro n
    induction n with
    | zero => intro s0 l1 h; exact absurd h (by rw [k_GM_choose_30]; exact fun w => nomatch w)
    | succ n ih =>
      intro s0 l1 h
      rw [k_GM_choose_30]  at h
      refine zl_iload_n (pc := 30) hO 1 nd_GM_choose_30 rfl rfl ?_
      refine zl_aload_n (pc := 31) hO 0 nd_GM_choose_31 rfl rfl ?_
      refine zl_geti (pc := 32) hO nd_GM_choose_32 kf_GM_105 rfl (Nat.le_of_ble_eq_true rfl) rfl ?_
      refine zl_icmp_gt (pc := 35) hO 91 nd_GM_choose_35 (by decide) (fun hc => ?_) (fun hc => ?_)
      · have h := ite_t hc h
        refine zl_iconst (pc := 91) hO (v := 0) nd_GM_choose_91 (by decide) ?_
        exact zl_zret (pc := 92) hO nd_GM_choose_92 rfl (by decide) (zr_i h)
      · have h := ite_f hc h
        refine zl_aload_n (pc := 38) hO 0 nd_GM_choose_38 rfl rfl ?_
        refine zl_geti (pc := 39) hO nd_GM_choose_39 kf_GM_16 rfl (Nat.le_of_ble_eq_true rfl) rfl ?_
        refine zl_if_ge (pc := 42) hO 51 nd_GM_choose_42 (by decide) (fun hc => ?_) (fun hc => ?_)
        · have h := ite_t hc h
          refine zl_aload_n (pc := 51) hO 0 nd_GM_choose_51 rfl rfl ?_
          refine zl_geti (pc := 52) hO nd_GM_choose_52 kf_GM_16 rfl (Nat.le_of_ble_eq_true rfl) rfl ?_
          refine zl_iload_n (pc := 55) hO 1 nd_GM_choose_55 rfl rfl ?_
          refine zl_iadd (pc := 56) hO nd_GM_choose_56 ?_
          refine zl_aload_n (pc := 57) hO 0 nd_GM_choose_57 rfl rfl ?_
          refine zl_geti (pc := 58) hO nd_GM_choose_58 kf_GM_105 rfl (Nat.le_of_ble_eq_true rfl) rfl ?_
          obtain ⟨c_div61, h⟩ := ck_use h
          refine zl_irem (pc := 61) hO nd_GM_choose_61 c_div61 ?_
          exact zl_weak (J_62 (k_GM_choose_30 n) ih _ _ _ h) ⟨rfl, ⟨rfl, trivial⟩⟩
        · have h := ite_f hc h
          refine zl_iload_n (pc := 45) hO 1 nd_GM_choose_45 rfl rfl ?_
          refine zl_iconst (pc := 46) hO (v := 1) nd_GM_choose_46 (by decide) ?_
          refine zl_isub (pc := 47) hO nd_GM_choose_47 ?_
          refine zl_goto (pc := 48) hO 62 nd_GM_choose_48 (by decide) ?_
          exact zl_weak (J_62 (k_GM_choose_30 n) ih _ _ _ h) ⟨rfl, ⟨rfl, trivial⟩⟩
  have J_28 : ∀ (s0 : zS), k_GM_choose_28 s0 = some (s1, v1) → ZW (sM l V) md_GM_choose (s1, some (zI v1)) X 28 [some (zR 0 0), none, none] [] s0 := by
    intro s0 h
    unfold k_GM_choose_28 at h
    refine zl_iconst (pc := 28) hO (v := 1) nd_GM_choose_28 (by decide) ?_
    refine zl_istore_n (pc := 29) hO 1 (L' := [some (zR 0 0), some (zI 1), none]) nd_GM_choose_29 rfl (by decide) rfl ?_
    exact zl_weak (J_30 FU _ _ h) ⟨rfl, ⟨rfl, trivial⟩⟩
  unfold k_GM_choose at h
  refine zl_aload_n (pc := 0) hO 0 nd_GM_choose_0 rfl rfl ?_
  refine zl_geti (pc := 1) hO nd_GM_choose_1 kf_GM_16 rfl (Nat.le_of_ble_eq_true rfl) rfl ?_
  refine zl_if_lt (pc := 4) hO 28 nd_GM_choose_4 (by decide) (fun hc => ?_) (fun hc => ?_)
  · have h := ite_t hc h
    exact zl_weak (J_28 _ h) ⟨rfl, trivial⟩
  · have h := ite_f hc h
    refine zl_aload_n (pc := 7) hO 0 nd_GM_choose_7 rfl rfl ?_
    refine zl_get0 (pc := 8) hO nd_GM_choose_8 kf_GM_41 rfl (Nat.le_of_ble_eq_true rfl) rfl ?_
    refine zl_aload_n (pc := 11) hO 0 nd_GM_choose_11 rfl rfl ?_
    refine zl_geti (pc := 12) hO nd_GM_choose_12 kf_GM_16 rfl (Nat.le_of_ble_eq_true rfl) rfl ?_
    obtain ⟨c_in15, h⟩ := ck_use h
    refine zl_iald (pc := 15) hO nd_GM_choose_15 rfl rfl (Nat.le_of_ble_eq_true rfl) c_in15 ?_
    refine zl_if_ne (pc := 16) hO 28 nd_GM_choose_16 (by decide) (fun hc => ?_) (fun hc => ?_)
    · have h := ite_f hc h
      exact zl_weak (J_28 _ h) ⟨rfl, trivial⟩
    · have h := ite_t hc h
      refine zl_aload_n (pc := 19) hO 0 nd_GM_choose_19 rfl rfl ?_
      refine zl_geti (pc := 20) hO nd_GM_choose_20 kf_GM_118 rfl (Nat.le_of_ble_eq_true rfl) rfl ?_
      refine zl_if_le (pc := 23) hO 28 nd_GM_choose_23 (by decide) (fun hc => ?_) (fun hc => ?_)
      · have h := ite_t hc h
        exact zl_weak (J_28 _ h) ⟨rfl, trivial⟩
      · have h := ite_f hc h
        refine zl_iconst (pc := 26) hO (v := 1) nd_GM_choose_26 (by decide) ?_
        exact zl_zret (pc := 27) hO nd_GM_choose_27 rfl (by decide) (zr_i h)
set_option maxHeartbeats 4000000 in
set_option maxRecDepth 100000 in
theorem c_GM_step {l : Launch} {V : zG} (hJ : zJ0 (sM l V)) {s0 : zS} {a1 : Int32}  {s1 : zS} (h : k_GM_step s0 a1 = some s1) : zM (sM l V) md_GM_step [zR 0 0, zI a1] s0 (s1, none) := by
  refine zMet [some (zR 0 0), some (zI a1)] hJ (by decide) rfl (Nat.le_of_ble_eq_true rfl) rfl ?_
  intro X hO
  have J_75 : ∀ (s0 : zS), k_GM_step_75 a1 s0 = some s1 → ZW (sM l V) md_GM_step (s1, none) X 75 [some (zR 0 0), some (zI a1)] [] s0 := by
    intro s0 h
    unfold k_GM_step_75 at h
    refine zl_aload_n (pc := 75) hO 0 nd_GM_step_75 rfl rfl ?_
    refine zl_geti (pc := 76) hO nd_GM_step_76 kf_GM_161 rfl (Nat.le_of_ble_eq_true rfl) rfl ?_
    refine zl_if_le (pc := 79) hO 87 nd_GM_step_79 (by decide) (fun hc => ?_) (fun hc => ?_)
    · have h := ite_t hc h
      exact zl_vret (pc := 87) hO nd_GM_step_87 rfl (zr_v h)
    · have h := ite_f hc h
      refine zl_aload_n (pc := 82) hO 0 nd_GM_step_82 rfl rfl ?_
      refine zl_iload_n (pc := 83) hO 1 nd_GM_step_83 rfl rfl ?_
      obtain ⟨s6, h_84, h⟩ := bn_use h
      refine zl_callVv (pc := 84) hO [zI a1] [] (c_GM_faulted hJ h_84) nd_GM_step_84 kv_GM_292 rfl (Nat.le_of_ble_eq_true rfl) rfl rfl rfl (Nat.le_of_ble_eq_true rfl) ?_
      exact zl_vret (pc := 87) hO nd_GM_step_87 rfl (zr_v h)
  have J_31 : ∀ (s0 : zS), k_GM_step_31 a1 s0 = some s1 → ZW (sM l V) md_GM_step (s1, none) X 31 [some (zR 0 0), some (zI a1)] [] s0 := by
    intro s0 h
    unfold k_GM_step_31 at h
    refine zl_aload_n (pc := 31) hO 0 nd_GM_step_31 rfl rfl ?_
    refine zl_geti (pc := 32) hO nd_GM_step_32 kf_GM_161 rfl (Nat.le_of_ble_eq_true rfl) rfl ?_
    refine zl_if_ne (pc := 35) hO 75 nd_GM_step_35 (by decide) (fun hc => ?_) (fun hc => ?_)
    · have h := ite_f hc h
      exact zl_weak (J_75 _ h) ⟨rfl, ⟨rfl, trivial⟩⟩
    · have h := ite_t hc h
      refine zl_aload_n (pc := 38) hO 0 nd_GM_step_38 rfl rfl ?_
      refine zl_dup (pc := 39) hO nd_GM_step_39 rfl ?_
      refine zl_geti (pc := 40) hO nd_GM_step_40 kf_GM_118 rfl (Nat.le_of_ble_eq_true rfl) rfl ?_
      refine zl_iconst (pc := 43) hO (v := 1) nd_GM_step_43 (by decide) ?_
      refine zl_isub (pc := 44) hO nd_GM_step_44 ?_
      refine zl_puti (pc := 45) hO nd_GM_step_45 kp_GM_118 rfl (Nat.le_of_ble_eq_true rfl) rfl ?_
      obtain ⟨s4, e_s4, h⟩ := lt_use h
      refine zl_sg e_s4 ?_
      refine zl_aload_n (pc := 48) hO 0 nd_GM_step_48 rfl rfl ?_
      refine zl_geti (pc := 49) hO nd_GM_step_49 kf_GM_118 rfl (Nat.le_of_ble_eq_true rfl) rfl ?_
      refine zl_if_ne (pc := 52) hO 75 nd_GM_step_52 (by decide) (fun hc => ?_) (fun hc => ?_)
      · have h := ite_f hc h
        exact zl_weak (J_75 _ h) ⟨rfl, ⟨rfl, trivial⟩⟩
      · have h := ite_t hc h
        refine zl_aload_n (pc := 55) hO 0 nd_GM_step_55 rfl rfl ?_
        refine zl_get0 (pc := 56) hO nd_GM_step_56 kf_GM_59 rfl (Nat.le_of_ble_eq_true rfl) rfl ?_
        refine zl_iload_n (pc := 59) hO 1 nd_GM_step_59 rfl rfl ?_
        obtain ⟨c_in60, h⟩ := ck_use h
        refine zl_zald (pc := 60) hO nd_GM_step_60 rfl rfl (Nat.le_of_ble_eq_true rfl) c_in60 ?_
        refine zl_if_ne (pc := 61) hO 75 nd_GM_step_61 (by decide) (fun hc => ?_) (fun hc => ?_)
        · have h := ite_f hc h
          exact zl_weak (J_75 _ h) ⟨rfl, ⟨rfl, trivial⟩⟩
        · have h := ite_t hc h
          refine zl_aload_n (pc := 64) hO 0 nd_GM_step_64 rfl rfl ?_
          refine zl_iload_n (pc := 65) hO 1 nd_GM_step_65 rfl rfl ?_
          refine zl_aload_n (pc := 66) hO 0 nd_GM_step_66 rfl rfl ?_
          refine zl_get0 (pc := 67) hO nd_GM_step_67 kf_GM_53 rfl (Nat.le_of_ble_eq_true rfl) rfl ?_
          refine zl_iload_n (pc := 70) hO 1 nd_GM_step_70 rfl rfl ?_
          obtain ⟨c_in71, h⟩ := ck_use h
          refine zl_iald (pc := 71) hO nd_GM_step_71 rfl rfl (Nat.le_of_ble_eq_true rfl) c_in71 ?_
          obtain ⟨s5, h_72, h⟩ := bn_use h
          refine zl_callVv (pc := 72) hO [zI a1, zI (s4 14 0 a1.toNatClampNeg)] [] (c_GM_stack hJ h_72) nd_GM_step_72 kv_GM_205 rfl (Nat.le_of_ble_eq_true rfl) rfl rfl rfl (Nat.le_of_ble_eq_true rfl) ?_
          exact zl_weak (J_75 _ h) ⟨rfl, ⟨rfl, trivial⟩⟩
  have J_19 : ∀ (s0 : zS), k_GM_step_19 a1 s0 = some s1 → ZW (sM l V) md_GM_step (s1, none) X 19 [some (zR 0 0), some (zI a1)] [] s0 := by
    intro s0 h
    unfold k_GM_step_19 at h
    refine zl_aload_n (pc := 19) hO 0 nd_GM_step_19 rfl rfl ?_
    refine zl_geti (pc := 20) hO nd_GM_step_20 kf_GM_161 rfl (Nat.le_of_ble_eq_true rfl) rfl ?_
    refine zl_if_ne (pc := 23) hO 31 nd_GM_step_23 (by decide) (fun hc => ?_) (fun hc => ?_)
    · have h := ite_f hc h
      exact zl_weak (J_31 _ h) ⟨rfl, ⟨rfl, trivial⟩⟩
    · have h := ite_t hc h
      refine zl_aload_n (pc := 26) hO 0 nd_GM_step_26 rfl rfl ?_
      refine zl_iload_n (pc := 27) hO 1 nd_GM_step_27 rfl rfl ?_
      obtain ⟨s3, h_28, h⟩ := bn_use h
      refine zl_callVv (pc := 28) hO [zI a1] [] (c_GM_instruction hJ h_28) nd_GM_step_28 kv_GM_289 rfl (Nat.le_of_ble_eq_true rfl) rfl rfl rfl (Nat.le_of_ble_eq_true rfl) ?_
      exact zl_weak (J_31 _ h) ⟨rfl, ⟨rfl, trivial⟩⟩
  unfold k_GM_step at h
  refine zl_aload_n (pc := 0) hO 0 nd_GM_step_0 rfl rfl ?_
  refine zl_iconst (pc := 1) hO (v := 0) nd_GM_step_1 (by decide) ?_
  refine zl_puti (pc := 2) hO nd_GM_step_2 kp_GM_161 rfl (Nat.le_of_ble_eq_true rfl) rfl ?_
  obtain ⟨s1, e_s1, h⟩ := lt_use h
  refine zl_sg e_s1 ?_
  refine zl_aload_n (pc := 5) hO 0 nd_GM_step_5 rfl rfl ?_
  refine zl_get0 (pc := 6) hO nd_GM_step_6 kf_GM_59 rfl (Nat.le_of_ble_eq_true rfl) rfl ?_
  refine zl_iload_n (pc := 9) hO 1 nd_GM_step_9 rfl rfl ?_
  obtain ⟨c_in10, h⟩ := ck_use h
  refine zl_zald (pc := 10) hO nd_GM_step_10 rfl rfl (Nat.le_of_ble_eq_true rfl) c_in10 ?_
  refine zl_if_eq (pc := 11) hO 19 nd_GM_step_11 (by decide) (fun hc => ?_) (fun hc => ?_)
  · have h := ite_t hc h
    exact zl_weak (J_19 _ h) ⟨rfl, ⟨rfl, trivial⟩⟩
  · have h := ite_f hc h
    refine zl_aload_n (pc := 14) hO 0 nd_GM_step_14 rfl rfl ?_
    refine zl_iload_n (pc := 15) hO 1 nd_GM_step_15 rfl rfl ?_
    obtain ⟨s2, h_16, h⟩ := bn_use h
    refine zl_callVv (pc := 16) hO [zI a1] [] (c_GM_unstack hJ h_16) nd_GM_step_16 kv_GM_286 rfl (Nat.le_of_ble_eq_true rfl) rfl rfl rfl (Nat.le_of_ble_eq_true rfl) ?_
    exact zl_weak (J_19 _ h) ⟨rfl, ⟨rfl, trivial⟩⟩
set_option maxHeartbeats 4000000 in
set_option maxRecDepth 100000 in
theorem c_GM_run {l : Launch} {V : zG} (hJ : zJ0 (sM l V)) {s0 : zS} {a1 : Int32}  {s1 : zS} {v1 : Int32} (h : k_GM_run s0 a1 = some (s1, v1)) : zM (sM l V) md_GM_run [zR 0 0, zI a1] s0 (s1, some (zI v1)) := by
  refine zMet [some (zR 0 0), some (zI a1), none, none] hJ (by decide) rfl (Nat.le_of_ble_eq_true rfl) rfl ?_
  intro X hO
  have J_54 : ∀ (K17 : zS → Int32 → Int32 → Option (zS × Int32)) (hK17 : ∀ (s0 : zS) (l2 : Int32) (l3 : Int32), K17 s0 l2 l3 = some (s1, v1) → ZW (sM l V) md_GM_run (s1, some (zI v1)) X 17 [some (zR 0 0), some (zI a1), some (zI l2), some (zI l3)] [] s0), ∀ (s0 : zS) (l2 : Int32) (l3 : Int32), k_GM_run_54 a1 K17 s0 l2 l3 = some (s1, v1) → ZW (sM l V) md_GM_run (s1, some (zI v1)) X 54 [some (zR 0 0), some (zI a1), some (zI l2), some (zI l3)] [] s0 := by
    intro K17 hK17
    intro s0 l2 l3 h
    unfold k_GM_run_54 at h
    obtain ⟨x7, e_x7, h⟩ := lt_use h
    refine zl_iinc (pc := 54) hO (L' := [some (zR 0 0), some (zI a1), some (zI l2), some (zI x7)]) nd_GM_run_54 rfl e_x7.symm (by decide) rfl ?_
    refine zl_goto (pc := 57) hO 17 nd_GM_run_57 (by decide) ?_
    exact zl_weak (hK17 _ _ _ h) ⟨rfl, ⟨rfl, ⟨rfl, ⟨rfl, trivial⟩⟩⟩⟩
  have J_17 : ∀ (n : Nat), ∀ (s0 : zS) (l2 : Int32) (l3 : Int32), k_GM_run_17 a1 n s0 l2 l3 = some (s1, v1) → ZW (sM l V) md_GM_run (s1, some (zI v1)) X 17 [some (zR 0 0), some (zI a1), some (zI l2), some (zI l3)] [] s0 := by
    intro n
    induction n with
    | zero => intro s0 l2 l3 h; exact absurd h (by rw [k_GM_run_17]; exact fun w => nomatch w)
    | succ n ih =>
      intro s0 l2 l3 h
      rw [k_GM_run_17]  at h
      refine zl_iload_n (pc := 17) hO 3 nd_GM_run_17 rfl rfl ?_
      refine zl_iload_n (pc := 18) hO 1 nd_GM_run_18 rfl rfl ?_
      refine zl_icmp_ge (pc := 19) hO 60 nd_GM_run_19 (by decide) (fun hc => ?_) (fun hc => ?_)
      · have h := ite_t hc h
        refine zl_iload_n (pc := 60) hO 2 nd_GM_run_60 rfl rfl ?_
        exact zl_iret (pc := 61) hO nd_GM_run_61 rfl (zr_i h)
      · have h := ite_f hc h
        refine zl_aload_n (pc := 22) hO 0 nd_GM_run_22 rfl rfl ?_
        refine zl_dup (pc := 23) hO nd_GM_run_23 rfl ?_
        refine zl_geti (pc := 24) hO nd_GM_run_24 kf_GM_115 rfl (Nat.le_of_ble_eq_true rfl) rfl ?_
        refine zl_iconst (pc := 27) hO (v := 1) nd_GM_run_27 (by decide) ?_
        refine zl_iadd (pc := 28) hO nd_GM_run_28 ?_
        refine zl_puti (pc := 29) hO nd_GM_run_29 kp_GM_115 rfl (Nat.le_of_ble_eq_true rfl) rfl ?_
        obtain ⟨s1, e_s1, h⟩ := lt_use h
        refine zl_sg e_s1 ?_
        refine zl_aload_n (pc := 32) hO 0 nd_GM_run_32 rfl rfl ?_
        obtain ⟨s2, h_33, h⟩ := bn_use h
        refine zl_callVv (pc := 33) hO [] [] (c_GM_alarms hJ h_33) nd_GM_run_33 kv_GM_295 rfl (Nat.le_of_ble_eq_true rfl) rfl rfl rfl (Nat.le_of_ble_eq_true rfl) ?_
        refine zl_aload_n (pc := 36) hO 0 nd_GM_run_36 rfl rfl ?_
        obtain ⟨⟨s3, r4⟩, h_37, h⟩ := bn_use h
        refine zl_callVi (pc := 37) hO [] [] (c_GM_choose hJ h_37) nd_GM_run_37 kv_GM_298 rfl (Nat.le_of_ble_eq_true rfl) rfl rfl rfl (Nat.le_of_ble_eq_true rfl) ?_
        refine zl_if_eq (pc := 40) hO 54 nd_GM_run_40 (by decide) (fun hc => ?_) (fun hc => ?_)
        · have h := ite_t hc h
          exact zl_weak (J_54 (k_GM_run_17 a1 n) ih _ _ _ h) ⟨rfl, ⟨rfl, ⟨rfl, ⟨rfl, trivial⟩⟩⟩⟩
        · have h := ite_f hc h
          obtain ⟨x5, e_x5, h⟩ := lt_use h
          refine zl_iinc (pc := 43) hO (L' := [some (zR 0 0), some (zI a1), some (zI x5), some (zI l3)]) nd_GM_run_43 rfl e_x5.symm (by decide) rfl ?_
          refine zl_aload_n (pc := 46) hO 0 nd_GM_run_46 rfl rfl ?_
          refine zl_aload_n (pc := 47) hO 0 nd_GM_run_47 rfl rfl ?_
          refine zl_geti (pc := 48) hO nd_GM_run_48 kf_GM_16 rfl (Nat.le_of_ble_eq_true rfl) rfl ?_
          obtain ⟨s6, h_51, h⟩ := bn_use h
          refine zl_callVv (pc := 51) hO [zI (s3 0 0 3)] [] (c_GM_step hJ h_51) nd_GM_run_51 kv_GM_302 rfl (Nat.le_of_ble_eq_true rfl) rfl rfl rfl (Nat.le_of_ble_eq_true rfl) ?_
          exact zl_weak (J_54 (k_GM_run_17 a1 n) ih _ _ _ h) ⟨rfl, ⟨rfl, ⟨rfl, ⟨rfl, trivial⟩⟩⟩⟩
  unfold k_GM_run at h
  refine zl_iload_n (pc := 0) hO 1 nd_GM_run_0 rfl rfl ?_
  refine zl_if_lt (pc := 1) hO 11 nd_GM_run_1 (by decide) (fun hc => ?_) (fun hc => ?_)
  · have h := ite_t hc h
    refine zl_iconst (pc := 11) hO (v := (-1)) nd_GM_run_11 (by decide) ?_
    exact zl_iret (pc := 12) hO nd_GM_run_12 rfl (zr_i h)
  · have h := ite_f hc h
    refine zl_iload_n (pc := 4) hO 1 nd_GM_run_4 rfl rfl ?_
    refine zl_sipush (pc := 5) hO (v := 400) nd_GM_run_5 (by decide) ?_
    refine zl_icmp_le (pc := 8) hO 13 nd_GM_run_8 (by decide) (fun hc => ?_) (fun hc => ?_)
    · have h := ite_t hc h
      refine zl_iconst (pc := 13) hO (v := 0) nd_GM_run_13 (by decide) ?_
      refine zl_istore_n (pc := 14) hO 2 (L' := [some (zR 0 0), some (zI a1), some (zI 0), none]) nd_GM_run_14 rfl (by decide) rfl ?_
      refine zl_iconst (pc := 15) hO (v := 0) nd_GM_run_15 (by decide) ?_
      refine zl_istore_n (pc := 16) hO 3 (L' := [some (zR 0 0), some (zI a1), some (zI 0), some (zI 0)]) nd_GM_run_16 rfl (by decide) rfl ?_
      exact zl_weak (J_17 FU _ _ _ h) ⟨rfl, ⟨rfl, ⟨rfl, ⟨rfl, trivial⟩⟩⟩⟩
    · have h := ite_f hc h
      refine zl_iconst (pc := 11) hO (v := (-1)) nd_GM_run_11 (by decide) ?_
      exact zl_iret (pc := 12) hO nd_GM_run_12 rfl (zr_i h)
set_option maxHeartbeats 4000000 in
set_option maxRecDepth 100000 in
theorem c_GM_type {l : Launch} {V : zG} (hJ : zJ0 (sM l V)) {s0 : zS} {a1 : Int32}  {s1 : zS} {v1 : Int32} (h : k_GM_type s0 a1 = some (s1, v1)) : zM (sM l V) md_GM_type [zR 0 0, zI a1] s0 (s1, some (zI v1)) := by
  refine zMet [some (zR 0 0), some (zI a1), none] hJ (by decide) rfl (Nat.le_of_ble_eq_true rfl) rfl ?_
  intro X hO
  have J_42 : ∀ (K2 : zS → Int32 → Option (zS × Int32)) (hK2 : ∀ (s0 : zS) (l2 : Int32), K2 s0 l2 = some (s1, v1) → ZW (sM l V) md_GM_type (s1, some (zI v1)) X 2 [some (zR 0 0), some (zI a1), some (zI l2)] [] s0), ∀ (s0 : zS) (l2 : Int32), k_GM_type_42 a1 K2 s0 l2 = some (s1, v1) → ZW (sM l V) md_GM_type (s1, some (zI v1)) X 42 [some (zR 0 0), some (zI a1), some (zI l2)] [] s0 := by
    intro K2 hK2
    intro s0 l2 h
    unfold k_GM_type_42 at h
    obtain ⟨x6, e_x6, h⟩ := lt_use h
    refine zl_iinc (pc := 42) hO (L' := [some (zR 0 0), some (zI a1), some (zI x6)]) nd_GM_type_42 rfl e_x6.symm (by decide) rfl ?_
    refine zl_goto (pc := 45) hO 2 nd_GM_type_45 (by decide) ?_
    exact zl_weak (hK2 _ _ h) ⟨rfl, ⟨rfl, ⟨rfl, trivial⟩⟩⟩
  have J_2 : ∀ (n : Nat), ∀ (s0 : zS) (l2 : Int32), k_GM_type_2 a1 n s0 l2 = some (s1, v1) → ZW (sM l V) md_GM_type (s1, some (zI v1)) X 2 [some (zR 0 0), some (zI a1), some (zI l2)] [] s0 := by
    intro n
    induction n with
    | zero => intro s0 l2 h; exact absurd h (by rw [k_GM_type_2]; exact fun w => nomatch w)
    | succ n ih =>
      intro s0 l2 h
      rw [k_GM_type_2]  at h
      refine zl_iload_n (pc := 2) hO 2 nd_GM_type_2 rfl rfl ?_
      refine zl_aload_n (pc := 3) hO 0 nd_GM_type_3 rfl rfl ?_
      refine zl_geti (pc := 4) hO nd_GM_type_4 kf_GM_105 rfl (Nat.le_of_ble_eq_true rfl) rfl ?_
      refine zl_icmp_ge (pc := 7) hO 48 nd_GM_type_7 (by decide) (fun hc => ?_) (fun hc => ?_)
      · have h := ite_t hc h
        refine zl_aload_n (pc := 48) hO 0 nd_GM_type_48 rfl rfl ?_
        refine zl_geti (pc := 49) hO nd_GM_type_49 kf_GM_109 rfl (Nat.le_of_ble_eq_true rfl) rfl ?_
        refine zl_bipush (pc := 52) hO (v := 8) nd_GM_type_52 (by decide) ?_
        refine zl_icmp_ne (pc := 54) hO 59 nd_GM_type_54 (by decide) (fun hc => ?_) (fun hc => ?_)
        · have h := ite_f hc h
          refine zl_aload_n (pc := 59) hO 0 nd_GM_type_59 rfl rfl ?_
          refine zl_get0 (pc := 60) hO nd_GM_type_60 kf_GM_99 rfl (Nat.le_of_ble_eq_true rfl) rfl ?_
          refine zl_aload_n (pc := 63) hO 0 nd_GM_type_63 rfl rfl ?_
          refine zl_geti (pc := 64) hO nd_GM_type_64 kf_GM_109 rfl (Nat.le_of_ble_eq_true rfl) rfl ?_
          refine zl_iload_n (pc := 67) hO 1 nd_GM_type_67 rfl rfl ?_
          obtain ⟨c_in68, h⟩ := ck_use h
          refine zl_iast (pc := 68) hO nd_GM_type_68 rfl rfl (Nat.le_of_ble_eq_true rfl) c_in68 ?_
          obtain ⟨s1, e_s1, h⟩ := lt_use h
          refine zl_sg e_s1 ?_
          refine zl_aload_n (pc := 69) hO 0 nd_GM_type_69 rfl rfl ?_
          refine zl_dup (pc := 70) hO nd_GM_type_70 rfl ?_
          refine zl_geti (pc := 71) hO nd_GM_type_71 kf_GM_109 rfl (Nat.le_of_ble_eq_true rfl) rfl ?_
          refine zl_iconst (pc := 74) hO (v := 1) nd_GM_type_74 (by decide) ?_
          refine zl_iadd (pc := 75) hO nd_GM_type_75 ?_
          refine zl_puti (pc := 76) hO nd_GM_type_76 kp_GM_109 rfl (Nat.le_of_ble_eq_true rfl) rfl ?_
          obtain ⟨s2, e_s2, h⟩ := lt_use h
          refine zl_sg e_s2 ?_
          refine zl_iconst (pc := 79) hO (v := 1) nd_GM_type_79 (by decide) ?_
          exact zl_zret (pc := 80) hO nd_GM_type_80 rfl (by decide) (zr_i h)
        · have h := ite_t hc h
          refine zl_iconst (pc := 57) hO (v := 0) nd_GM_type_57 (by decide) ?_
          exact zl_zret (pc := 58) hO nd_GM_type_58 rfl (by decide) (zr_i h)
      · have h := ite_f hc h
        refine zl_aload_n (pc := 10) hO 0 nd_GM_type_10 rfl rfl ?_
        refine zl_get0 (pc := 11) hO nd_GM_type_11 kf_GM_72 rfl (Nat.le_of_ble_eq_true rfl) rfl ?_
        refine zl_iconst (pc := 14) hO (v := 3) nd_GM_type_14 (by decide) ?_
        refine zl_iload_n (pc := 15) hO 2 nd_GM_type_15 rfl rfl ?_
        refine zl_imul (pc := 16) hO nd_GM_type_16 ?_
        refine zl_iconst (pc := 17) hO (v := 1) nd_GM_type_17 (by decide) ?_
        refine zl_iadd (pc := 18) hO nd_GM_type_18 ?_
        obtain ⟨c_in19, h⟩ := ck_use h
        refine zl_iald (pc := 19) hO nd_GM_type_19 rfl rfl (Nat.le_of_ble_eq_true rfl) c_in19 ?_
        refine zl_if_le (pc := 20) hO 42 nd_GM_type_20 (by decide) (fun hc => ?_) (fun hc => ?_)
        · have h := ite_t hc h
          exact zl_weak (J_42 (k_GM_type_2 a1 n) ih _ _ h) ⟨rfl, ⟨rfl, ⟨rfl, trivial⟩⟩⟩
        · have h := ite_f hc h
          refine zl_aload_n (pc := 23) hO 0 nd_GM_type_23 rfl rfl ?_
          refine zl_iload_n (pc := 24) hO 2 nd_GM_type_24 rfl rfl ?_
          refine zl_iconst (pc := 25) hO (v := 1) nd_GM_type_25 (by decide) ?_
          refine zl_iconst (pc := 26) hO (v := 0) nd_GM_type_26 (by decide) ?_
          obtain ⟨⟨s3, r4⟩, h_27, h⟩ := bn_use h
          refine zl_callVi (pc := 27) hO [zI l2, zI 1, zI 0] [] (c_GM_note hJ h_27) nd_GM_type_27 kv_GM_267 rfl (Nat.le_of_ble_eq_true rfl) rfl rfl rfl (Nat.le_of_ble_eq_true rfl) ?_
          refine zl_iconst (pc := 30) hO (v := 1) nd_GM_type_30 (by decide) ?_
          refine zl_icmp_ne (pc := 31) hO 42 nd_GM_type_31 (by decide) (fun hc => ?_) (fun hc => ?_)
          · have h := ite_f hc h
            exact zl_weak (J_42 (k_GM_type_2 a1 n) ih _ _ h) ⟨rfl, ⟨rfl, ⟨rfl, trivial⟩⟩⟩
          · have h := ite_t hc h
            refine zl_aload_n (pc := 34) hO 0 nd_GM_type_34 rfl rfl ?_
            refine zl_iload_n (pc := 35) hO 2 nd_GM_type_35 rfl rfl ?_
            refine zl_iload_n (pc := 36) hO 1 nd_GM_type_36 rfl rfl ?_
            obtain ⟨s5, h_37, h⟩ := bn_use h
            refine zl_callVv (pc := 37) hO [zI l2, zI a1] [] (c_GM_receive hJ h_37) nd_GM_type_37 kv_GM_274 rfl (Nat.le_of_ble_eq_true rfl) rfl rfl rfl (Nat.le_of_ble_eq_true rfl) ?_
            refine zl_iconst (pc := 40) hO (v := 1) nd_GM_type_40 (by decide) ?_
            exact zl_zret (pc := 41) hO nd_GM_type_41 rfl (by decide) (zr_i h)
  unfold k_GM_type at h
  refine zl_iconst (pc := 0) hO (v := 0) nd_GM_type_0 (by decide) ?_
  refine zl_istore_n (pc := 1) hO 2 (L' := [some (zR 0 0), some (zI a1), some (zI 0)]) nd_GM_type_1 rfl (by decide) rfl ?_
  exact zl_weak (J_2 FU _ _ h) ⟨rfl, ⟨rfl, ⟨rfl, trivial⟩⟩⟩
set_option maxHeartbeats 4000000 in
set_option maxRecDepth 100000 in
theorem c_GM_sample {l : Launch} {V : zG} (hJ : zJ0 (sM l V)) {s0 : zS} {a1 : Int32}  {s1 : zS} {v1 : Int32} (h : k_GM_sample s0 a1 = some (s1, v1)) : zM (sM l V) md_GM_sample [zR 0 0, zI a1] s0 (s1, some (zI v1)) := by
  refine zMet [some (zR 0 0), some (zI a1), none, none, none] hJ (by decide) rfl (Nat.le_of_ble_eq_true rfl) rfl ?_
  intro X hO
  have J_76 : ∀ (K4 : zS → Int32 → Int32 → Option (zS × Int32)) (hK4 : ∀ (s0 : zS) (l2 : Int32) (l3 : Int32), K4 s0 l2 l3 = some (s1, v1) → ZW (sM l V) md_GM_sample (s1, some (zI v1)) X 4 [some (zR 0 0), some (zI a1), some (zI l2), some (zI l3), none] [] s0), ∀ (s0 : zS) (l2 : Int32) (l3 : Int32), k_GM_sample_76 a1 K4 s0 l2 l3 = some (s1, v1) → ZW (sM l V) md_GM_sample (s1, some (zI v1)) X 76 [some (zR 0 0), some (zI a1), some (zI l2), some (zI l3), none] [] s0 := by
    intro K4 hK4
    intro s0 l2 l3 h
    unfold k_GM_sample_76 at h
    obtain ⟨x10, e_x10, h⟩ := lt_use h
    refine zl_iinc (pc := 76) hO (L' := [some (zR 0 0), some (zI a1), some (zI l2), some (zI x10), none]) nd_GM_sample_76 rfl e_x10.symm (by decide) rfl ?_
    refine zl_goto (pc := 79) hO 4 nd_GM_sample_79 (by decide) ?_
    exact zl_weak (hK4 _ _ _ h) ⟨rfl, ⟨rfl, ⟨rfl, ⟨rfl, trivial⟩⟩⟩⟩
  have J_4 : ∀ (n : Nat), ∀ (s0 : zS) (l2 : Int32) (l3 : Int32), k_GM_sample_4 a1 n s0 l2 l3 = some (s1, v1) → ZW (sM l V) md_GM_sample (s1, some (zI v1)) X 4 [some (zR 0 0), some (zI a1), some (zI l2), some (zI l3), none] [] s0 := by
    intro n
    induction n with
    | zero => intro s0 l2 l3 h; exact absurd h (by rw [k_GM_sample_4]; exact fun w => nomatch w)
    | succ n ih =>
      intro s0 l2 l3 h
      rw [k_GM_sample_4]  at h
      refine zl_iload_n (pc := 4) hO 3 nd_GM_sample_4 rfl rfl ?_
      refine zl_aload_n (pc := 5) hO 0 nd_GM_sample_5 rfl rfl ?_
      refine zl_geti (pc := 6) hO nd_GM_sample_6 kf_GM_105 rfl (Nat.le_of_ble_eq_true rfl) rfl ?_
      refine zl_icmp_ge (pc := 9) hO 82 nd_GM_sample_9 (by decide) (fun hc => ?_) (fun hc => ?_)
      · have h := ite_t hc h
        refine zl_iload_n (pc := 82) hO 2 nd_GM_sample_82 rfl rfl ?_
        exact zl_iret (pc := 83) hO nd_GM_sample_83 rfl (zr_i h)
      · have h := ite_f hc h
        refine zl_aload_n (pc := 12) hO 0 nd_GM_sample_12 rfl rfl ?_
        refine zl_get0 (pc := 13) hO nd_GM_sample_13 kf_GM_72 rfl (Nat.le_of_ble_eq_true rfl) rfl ?_
        refine zl_iconst (pc := 16) hO (v := 3) nd_GM_sample_16 (by decide) ?_
        refine zl_iload_n (pc := 17) hO 3 nd_GM_sample_17 rfl rfl ?_
        refine zl_imul (pc := 18) hO nd_GM_sample_18 ?_
        refine zl_iconst (pc := 19) hO (v := 2) nd_GM_sample_19 (by decide) ?_
        refine zl_iadd (pc := 20) hO nd_GM_sample_20 ?_
        obtain ⟨c_in21, h⟩ := ck_use h
        refine zl_iald (pc := 21) hO nd_GM_sample_21 rfl rfl (Nat.le_of_ble_eq_true rfl) c_in21 ?_
        refine zl_if_le (pc := 22) hO 76 nd_GM_sample_22 (by decide) (fun hc => ?_) (fun hc => ?_)
        · have h := ite_t hc h
          exact zl_weak (J_76 (k_GM_sample_4 a1 n) ih _ _ _ h) ⟨rfl, ⟨rfl, ⟨rfl, ⟨rfl, trivial⟩⟩⟩⟩
        · have h := ite_f hc h
          refine zl_aload_n (pc := 25) hO 0 nd_GM_sample_25 rfl rfl ?_
          refine zl_iload_n (pc := 26) hO 3 nd_GM_sample_26 rfl rfl ?_
          refine zl_iconst (pc := 27) hO (v := 2) nd_GM_sample_27 (by decide) ?_
          refine zl_iconst (pc := 28) hO (v := 0) nd_GM_sample_28 (by decide) ?_
          obtain ⟨⟨s1, r2⟩, h_29, h⟩ := bn_use h
          refine zl_callVi (pc := 29) hO [zI l3, zI 2, zI 0] [] (c_GM_note hJ h_29) nd_GM_sample_29 kv_GM_267 rfl (Nat.le_of_ble_eq_true rfl) rfl rfl rfl (Nat.le_of_ble_eq_true rfl) ?_
          refine zl_iconst (pc := 32) hO (v := 1) nd_GM_sample_32 (by decide) ?_
          refine zl_icmp_ne (pc := 33) hO 76 nd_GM_sample_33 (by decide) (fun hc => ?_) (fun hc => ?_)
          · have h := ite_f hc h
            exact zl_weak (J_76 (k_GM_sample_4 a1 n) ih _ _ _ h) ⟨rfl, ⟨rfl, ⟨rfl, ⟨rfl, trivial⟩⟩⟩⟩
          · have h := ite_t hc h
            refine zl_aload_n (pc := 36) hO 0 nd_GM_sample_36 rfl rfl ?_
            refine zl_iload_n (pc := 37) hO 3 nd_GM_sample_37 rfl rfl ?_
            refine zl_iconst (pc := 38) hO (v := 2) nd_GM_sample_38 (by decide) ?_
            refine zl_iconst (pc := 39) hO (v := 1) nd_GM_sample_39 (by decide) ?_
            obtain ⟨⟨s3, r4⟩, h_40, h⟩ := bn_use h
            refine zl_callVi (pc := 40) hO [zI l3, zI 2, zI 1] [] (c_GM_note hJ h_40) nd_GM_sample_40 kv_GM_267 rfl (Nat.le_of_ble_eq_true rfl) rfl rfl rfl (Nat.le_of_ble_eq_true rfl) ?_
            refine zl_iconst (pc := 43) hO (v := 1) nd_GM_sample_43 (by decide) ?_
            refine zl_iadd (pc := 44) hO nd_GM_sample_44 ?_
            obtain ⟨x5, e_x5, h⟩ := lt_use h
            refine zl_top e_x5 ?_
            refine zl_istore (pc := 45) hO (L' := [some (zR 0 0), some (zI a1), some (zI l2), some (zI l3), some (zI x5)]) nd_GM_sample_45 (by decide) rfl ?_
            refine zl_aload_n (pc := 47) hO 0 nd_GM_sample_47 rfl rfl ?_
            refine zl_iload_n (pc := 48) hO 3 nd_GM_sample_48 rfl rfl ?_
            refine zl_iconst (pc := 49) hO (v := 2) nd_GM_sample_49 (by decide) ?_
            refine zl_iconst (pc := 50) hO (v := 0) nd_GM_sample_50 (by decide) ?_
            refine zl_iconst (pc := 51) hO (v := 0) nd_GM_sample_51 (by decide) ?_
            obtain ⟨s6, h_52, h⟩ := bn_use h
            refine zl_callVv (pc := 52) hO [zI l3, zI 2, zI 0, zI 0] [] (c_GM_write hJ h_52) nd_GM_sample_52 kv_GM_245 rfl (Nat.le_of_ble_eq_true rfl) rfl rfl rfl (Nat.le_of_ble_eq_true rfl) ?_
            refine zl_aload_n (pc := 55) hO 0 nd_GM_sample_55 rfl rfl ?_
            refine zl_iload_n (pc := 56) hO 3 nd_GM_sample_56 rfl rfl ?_
            refine zl_iconst (pc := 57) hO (v := 2) nd_GM_sample_57 (by decide) ?_
            refine zl_iconst (pc := 58) hO (v := 1) nd_GM_sample_58 (by decide) ?_
            refine zl_iload (pc := 59) hO nd_GM_sample_59 rfl ?_
            obtain ⟨s7, h_61, h⟩ := bn_use h
            refine zl_callVv (pc := 61) hO [zI l3, zI 2, zI 1, zI x5] [] (c_GM_write hJ h_61) nd_GM_sample_61 kv_GM_245 rfl (Nat.le_of_ble_eq_true rfl) rfl rfl rfl (Nat.le_of_ble_eq_true rfl) ?_
            refine zl_aload_n (pc := 64) hO 0 nd_GM_sample_64 rfl rfl ?_
            refine zl_iload_n (pc := 65) hO 3 nd_GM_sample_65 rfl rfl ?_
            refine zl_iconst (pc := 66) hO (v := 2) nd_GM_sample_66 (by decide) ?_
            refine zl_iload_n (pc := 67) hO 1 nd_GM_sample_67 rfl rfl ?_
            refine zl_iload (pc := 68) hO nd_GM_sample_68 rfl ?_
            obtain ⟨s8, h_70, h⟩ := bn_use h
            refine zl_callVv (pc := 70) hO [zI l3, zI 2, zI a1, zI x5] [] (c_GM_upcall hJ h_70) nd_GM_sample_70 kv_GM_277 rfl (Nat.le_of_ble_eq_true rfl) rfl rfl rfl (Nat.le_of_ble_eq_true rfl) ?_
            obtain ⟨x9, e_x9, h⟩ := lt_use h
            refine zl_iinc (pc := 73) hO (L' := [some (zR 0 0), some (zI a1), some (zI x9), some (zI l3), some (zI x5)]) nd_GM_sample_73 rfl e_x9.symm (by decide) rfl ?_
            exact zl_weak (J_76 (k_GM_sample_4 a1 n) ih _ _ _ h) ⟨rfl, ⟨rfl, ⟨rfl, ⟨rfl, trivial⟩⟩⟩⟩
  unfold k_GM_sample at h
  refine zl_iconst (pc := 0) hO (v := 0) nd_GM_sample_0 (by decide) ?_
  refine zl_istore_n (pc := 1) hO 2 (L' := [some (zR 0 0), some (zI a1), some (zI 0), none, none]) nd_GM_sample_1 rfl (by decide) rfl ?_
  refine zl_iconst (pc := 2) hO (v := 0) nd_GM_sample_2 (by decide) ?_
  refine zl_istore_n (pc := 3) hO 3 (L' := [some (zR 0 0), some (zI a1), some (zI 0), some (zI 0), none]) nd_GM_sample_3 rfl (by decide) rfl ?_
  exact zl_weak (J_4 FU _ _ _ h) ⟨rfl, ⟨rfl, ⟨rfl, ⟨rfl, trivial⟩⟩⟩⟩
