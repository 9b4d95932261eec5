set_option maxHeartbeats 4000000 in
set_option maxRecDepth 100000 in
theorem c_GM_print {l : Launch} {V : zG} (hJ : zJ0 (sM l V)) {s0 : zS} {a1 : Int32} {a2 : Int32}  {s1 : zS} {v1 : Int32} (h : k_GM_print s0 a1 a2 = some (s1, v1)) : zM (sM l V) md_GM_print [zR 0 0, zI a1, zI a2] s0 (s1, some (zI v1)) := by
  refine zMet [some (zR 0 0), some (zI a1), some (zI a2), none, none] hJ (by decide) rfl (Nat.le_of_ble_eq_true rfl) rfl ?_
  intro X hO
  have J_32 : ∀ (n : Nat), ∀ (s0 : zS) (l3 : Int32) (l4 : Int32), k_GM_print_32 a1 a2 n s0 l3 l4 = some (s1, v1) → ZW (sM l V) md_GM_print (s1, some (zI v1)) X 32 [some (zR 0 0), some (zI a1), none, some (zI l3), some (zI l4)] [] s0 := by
    intro n
    induction n with
    | zero => intro s0 l3 l4 h; exact absurd h (by rw [k_GM_print_32]; exact fun w => nomatch w)
    | succ n ih =>
      intro s0 l3 l4 h
      rw [k_GM_print_32]  at h
      refine zl_iload (pc := 32) hO nd_GM_print_32 rfl ?_
      refine zl_iload_n (pc := 34) hO 3 nd_GM_print_34 rfl rfl ?_
      refine zl_icmp_ge (pc := 35) hO 85 nd_GM_print_35 (by decide) (fun hc => ?_) (fun hc => ?_)
      · have h := ite_t hc h
        refine zl_aload_n (pc := 85) hO 0 nd_GM_print_85 rfl rfl ?_
        refine zl_iload_n (pc := 86) hO 1 nd_GM_print_86 rfl rfl ?_
        refine zl_iconst (pc := 87) hO (v := 1) nd_GM_print_87 (by decide) ?_
        refine zl_iconst (pc := 88) hO (v := 1) nd_GM_print_88 (by decide) ?_
        obtain ⟨⟨s1, r2⟩, h_89, h⟩ := bn_use h
        refine zl_callVi (pc := 89) hO [zI a1, zI 1, zI 1] [] (c_GM_note hJ h_89) nd_GM_print_89 kv_GM_267 rfl (Nat.le_of_ble_eq_true rfl) rfl rfl rfl (Nat.le_of_ble_eq_true rfl) ?_
        refine zl_iload_n (pc := 92) hO 3 nd_GM_print_92 rfl rfl ?_
        refine zl_iadd (pc := 93) hO nd_GM_print_93 ?_
        obtain ⟨x3, e_x3, h⟩ := lt_use h
        refine zl_top e_x3 ?_
        refine zl_istore (pc := 94) hO (L' := [some (zR 0 0), some (zI a1), none, some (zI l3), some (zI x3)]) nd_GM_print_94 (by decide) rfl ?_
        refine zl_aload_n (pc := 96) hO 0 nd_GM_print_96 rfl rfl ?_
        refine zl_iload_n (pc := 97) hO 1 nd_GM_print_97 rfl rfl ?_
        refine zl_iconst (pc := 98) hO (v := 1) nd_GM_print_98 (by decide) ?_
        refine zl_iconst (pc := 99) hO (v := 1) nd_GM_print_99 (by decide) ?_
        refine zl_iload (pc := 100) hO nd_GM_print_100 rfl ?_
        obtain ⟨s4, h_102, h⟩ := bn_use h
        refine zl_callVv (pc := 102) hO [zI a1, zI 1, zI 1, zI x3] [] (c_GM_write hJ h_102) nd_GM_print_102 kv_GM_245 rfl (Nat.le_of_ble_eq_true rfl) rfl rfl rfl (Nat.le_of_ble_eq_true rfl) ?_
        refine zl_aload_n (pc := 105) hO 0 nd_GM_print_105 rfl rfl ?_
        refine zl_iload_n (pc := 106) hO 1 nd_GM_print_106 rfl rfl ?_
        refine zl_iconst (pc := 107) hO (v := 1) nd_GM_print_107 (by decide) ?_
        refine zl_iload_n (pc := 108) hO 3 nd_GM_print_108 rfl rfl ?_
        refine zl_iconst (pc := 109) hO (v := 0) nd_GM_print_109 (by decide) ?_
        obtain ⟨s5, h_110, h⟩ := bn_use h
        refine zl_callVv (pc := 110) hO [zI a1, zI 1, zI l3, zI 0] [] (c_GM_upcall hJ h_110) nd_GM_print_110 kv_GM_277 rfl (Nat.le_of_ble_eq_true rfl) rfl rfl rfl (Nat.le_of_ble_eq_true rfl) ?_
        refine zl_iconst (pc := 113) hO (v := 0) nd_GM_print_113 (by decide) ?_
        exact zl_iret (pc := 114) hO nd_GM_print_114 rfl (zr_i h)
      · have h := ite_f hc h
        refine zl_aload_n (pc := 38) hO 0 nd_GM_print_38 rfl rfl ?_
        refine zl_get0 (pc := 39) hO nd_GM_print_39 kf_GM_102 rfl (Nat.le_of_ble_eq_true rfl) rfl ?_
        refine zl_aload_n (pc := 42) hO 0 nd_GM_print_42 rfl rfl ?_
        refine zl_geti (pc := 43) hO nd_GM_print_43 kf_GM_112 rfl (Nat.le_of_ble_eq_true rfl) rfl ?_
        refine zl_bipush (pc := 46) hO (v := 15) nd_GM_print_46 (by decide) ?_
        refine zl_iand (pc := 48) hO nd_GM_print_48 ?_
        refine zl_aload_n (pc := 49) hO 0 nd_GM_print_49 rfl rfl ?_
        refine zl_aload_n (pc := 50) hO 0 nd_GM_print_50 rfl rfl ?_
        refine zl_get0 (pc := 51) hO nd_GM_print_51 kf_GM_81 rfl (Nat.le_of_ble_eq_true rfl) rfl ?_
        refine zl_iconst (pc := 54) hO (v := 3) nd_GM_print_54 (by decide) ?_
        refine zl_iload_n (pc := 55) hO 1 nd_GM_print_55 rfl rfl ?_
        refine zl_imul (pc := 56) hO nd_GM_print_56 ?_
        refine zl_iconst (pc := 57) hO (v := 1) nd_GM_print_57 (by decide) ?_
        refine zl_iadd (pc := 58) hO nd_GM_print_58 ?_
        obtain ⟨c_in59, h⟩ := ck_use h
        refine zl_iald (pc := 59) hO nd_GM_print_59 rfl rfl (Nat.le_of_ble_eq_true rfl) c_in59 ?_
        refine zl_iconst (pc := 60) hO (v := 4) nd_GM_print_60 (by decide) ?_
        refine zl_iload (pc := 61) hO nd_GM_print_61 rfl ?_
        refine zl_imul (pc := 63) hO nd_GM_print_63 ?_
        refine zl_iadd (pc := 64) hO nd_GM_print_64 ?_
        obtain ⟨⟨s6, r7⟩, h_65, h⟩ := bn_use h
        refine zl_callVi (pc := 65) hO [zI ((s0 23 0 (((3 : Int32) * a1) + (1 : Int32)).toNatClampNeg) + ((4 : Int32) * l4))] [zI ((s0 0 0 35) &&& (15 : Int32)), zR 30 0] (c_GM_get hJ h_65) nd_GM_print_65 kv_GM_172 rfl (Nat.le_of_ble_eq_true rfl) rfl rfl rfl (Nat.le_of_ble_eq_true rfl) ?_
        obtain ⟨c_in68, h⟩ := ck_use h
        refine zl_iast (pc := 68) hO nd_GM_print_68 rfl rfl (Nat.le_of_ble_eq_true rfl) c_in68 ?_
        obtain ⟨s8, e_s8, h⟩ := lt_use h
        refine zl_sg e_s8 ?_
        refine zl_aload_n (pc := 69) hO 0 nd_GM_print_69 rfl rfl ?_
        refine zl_dup (pc := 70) hO nd_GM_print_70 rfl ?_
        refine zl_geti (pc := 71) hO nd_GM_print_71 kf_GM_112 rfl (Nat.le_of_ble_eq_true rfl) rfl ?_
        refine zl_iconst (pc := 74) hO (v := 1) nd_GM_print_74 (by decide) ?_
        refine zl_iadd (pc := 75) hO nd_GM_print_75 ?_
        refine zl_puti (pc := 76) hO nd_GM_print_76 kp_GM_112 rfl (Nat.le_of_ble_eq_true rfl) rfl ?_
        obtain ⟨s9, e_s9, h⟩ := lt_use h
        refine zl_sg e_s9 ?_
        obtain ⟨x10, e_x10, h⟩ := lt_use h
        refine zl_iinc (pc := 79) hO (L' := [some (zR 0 0), some (zI a1), none, some (zI l3), some (zI x10)]) nd_GM_print_79 rfl e_x10.symm (by decide) rfl ?_
        refine zl_goto (pc := 82) hO 32 nd_GM_print_82 (by decide) ?_
        exact zl_weak (ih _ _ _ h) ⟨rfl, ⟨rfl, ⟨rfl, ⟨rfl, trivial⟩⟩⟩⟩
  have J_28 : ∀ (s0 : zS) (t0 : Int32), k_GM_print_28 a1 a2 s0 t0 = some (s1, v1) → ZW (sM l V) md_GM_print (s1, some (zI v1)) X 28 [some (zR 0 0), some (zI a1), none, none, none] [zI t0] s0 := by
    intro s0 t0 h
    unfold k_GM_print_28 at h
    refine zl_istore_n (pc := 28) hO 3 (L' := [some (zR 0 0), some (zI a1), none, some (zI t0), none]) nd_GM_print_28 rfl (by decide) rfl ?_
    refine zl_iconst (pc := 29) hO (v := 0) nd_GM_print_29 (by decide) ?_
    refine zl_istore (pc := 30) hO (L' := [some (zR 0 0), some (zI a1), none, some (zI t0), some (zI 0)]) nd_GM_print_30 (by decide) rfl ?_
    exact zl_weak (J_32 FU _ _ _ h) ⟨rfl, ⟨rfl, ⟨rfl, ⟨rfl, trivial⟩⟩⟩⟩
  unfold k_GM_print at h
  refine zl_iload_n (pc := 0) hO 2 nd_GM_print_0 rfl rfl ?_
  refine zl_aload_n (pc := 1) hO 0 nd_GM_print_1 rfl rfl ?_
  refine zl_get0 (pc := 2) hO nd_GM_print_2 kf_GM_84 rfl (Nat.le_of_ble_eq_true rfl) rfl ?_
  refine zl_iconst (pc := 5) hO (v := 3) nd_GM_print_5 (by decide) ?_
  refine zl_iload_n (pc := 6) hO 1 nd_GM_print_6 rfl rfl ?_
  refine zl_imul (pc := 7) hO nd_GM_print_7 ?_
  refine zl_iconst (pc := 8) hO (v := 1) nd_GM_print_8 (by decide) ?_
  refine zl_iadd (pc := 9) hO nd_GM_print_9 ?_
  obtain ⟨c_in10, h⟩ := ck_use h
  refine zl_iald (pc := 10) hO nd_GM_print_10 rfl rfl (Nat.le_of_ble_eq_true rfl) c_in10 ?_
  refine zl_icmp_ge (pc := 11) hO 18 nd_GM_print_11 (by decide) (fun hc => ?_) (fun hc => ?_)
  · have h := ite_t hc h
    refine zl_aload_n (pc := 18) hO 0 nd_GM_print_18 rfl rfl ?_
    refine zl_get0 (pc := 19) hO nd_GM_print_19 kf_GM_84 rfl (Nat.le_of_ble_eq_true rfl) rfl ?_
    refine zl_iconst (pc := 22) hO (v := 3) nd_GM_print_22 (by decide) ?_
    refine zl_iload_n (pc := 23) hO 1 nd_GM_print_23 rfl rfl ?_
    refine zl_imul (pc := 24) hO nd_GM_print_24 ?_
    refine zl_iconst (pc := 25) hO (v := 1) nd_GM_print_25 (by decide) ?_
    refine zl_iadd (pc := 26) hO nd_GM_print_26 ?_
    obtain ⟨c_in27, h⟩ := ck_use h
    refine zl_iald (pc := 27) hO nd_GM_print_27 rfl rfl (Nat.le_of_ble_eq_true rfl) c_in27 ?_
    exact zl_weak (J_28 _ _ h) ⟨rfl, ⟨rfl, trivial⟩⟩
  · have h := ite_f hc h
    refine zl_iload_n (pc := 14) hO 2 nd_GM_print_14 rfl rfl ?_
    refine zl_goto (pc := 15) hO 28 nd_GM_print_15 (by decide) ?_
    exact zl_weak (J_28 _ _ h) ⟨rfl, ⟨rfl, trivial⟩⟩
set_option maxHeartbeats 4000000 in
set_option maxRecDepth 100000 in
theorem c_GM_receive {l : Launch} {V : zG} (hJ : zJ0 (sM l V)) {s0 : zS} {a1 : Int32} {a2 : Int32}  {s1 : zS} (h : k_GM_receive s0 a1 a2 = some s1) : zM (sM l V) md_GM_receive [zR 0 0, zI a1, zI a2] s0 (s1, none) := by
  refine zMet [some (zR 0 0), some (zI a1), some (zI a2)] hJ (by decide) rfl (Nat.le_of_ble_eq_true rfl) rfl ?_
  intro X hO
  have J_28 : ∀ (s0 : zS), k_GM_receive_28 a1 a2 s0 = some s1 → ZW (sM l V) md_GM_receive (s1, none) X 28 [some (zR 0 0), some (zI a1), some (zI a2)] [] s0 := by
    intro s0 h
    unfold k_GM_receive_28 at h
    refine zl_aload_n (pc := 28) hO 0 nd_GM_receive_28 rfl rfl ?_
    refine zl_iload_n (pc := 29) hO 1 nd_GM_receive_29 rfl rfl ?_
    refine zl_iconst (pc := 30) hO (v := 1) nd_GM_receive_30 (by decide) ?_
    refine zl_iconst (pc := 31) hO (v := 0) nd_GM_receive_31 (by decide) ?_
    refine zl_iconst (pc := 32) hO (v := 0) nd_GM_receive_32 (by decide) ?_
    obtain ⟨s2, h_33, h⟩ := bn_use h
    refine zl_callVv (pc := 33) hO [zI a1, zI 1, zI 0, zI 0] [] (c_GM_write hJ h_33) nd_GM_receive_33 kv_GM_245 rfl (Nat.le_of_ble_eq_true rfl) rfl rfl rfl (Nat.le_of_ble_eq_true rfl) ?_
    refine zl_aload_n (pc := 36) hO 0 nd_GM_receive_36 rfl rfl ?_
    refine zl_iload_n (pc := 37) hO 1 nd_GM_receive_37 rfl rfl ?_
    refine zl_iconst (pc := 38) hO (v := 1) nd_GM_receive_38 (by decide) ?_
    refine zl_iload_n (pc := 39) hO 2 nd_GM_receive_39 rfl rfl ?_
    refine zl_iconst (pc := 40) hO (v := 1) nd_GM_receive_40 (by decide) ?_
    obtain ⟨s3, h_41, h⟩ := bn_use h
    refine zl_callVv (pc := 41) hO [zI a1, zI 1, zI a2, zI 1] [] (c_GM_upcall hJ h_41) nd_GM_receive_41 kv_GM_277 rfl (Nat.le_of_ble_eq_true rfl) rfl rfl rfl (Nat.le_of_ble_eq_true rfl) ?_
    exact zl_vret (pc := 44) hO nd_GM_receive_44 rfl (zr_v h)
  unfold k_GM_receive at h
  refine zl_aload_n (pc := 0) hO 0 nd_GM_receive_0 rfl rfl ?_
  refine zl_get0 (pc := 1) hO nd_GM_receive_1 kf_GM_84 rfl (Nat.le_of_ble_eq_true rfl) rfl ?_
  refine zl_iconst (pc := 4) hO (v := 3) nd_GM_receive_4 (by decide) ?_
  refine zl_iload_n (pc := 5) hO 1 nd_GM_receive_5 rfl rfl ?_
  refine zl_imul (pc := 6) hO nd_GM_receive_6 ?_
  refine zl_iconst (pc := 7) hO (v := 1) nd_GM_receive_7 (by decide) ?_
  refine zl_iadd (pc := 8) hO nd_GM_receive_8 ?_
  obtain ⟨c_in9, h⟩ := ck_use h
  refine zl_iald (pc := 9) hO nd_GM_receive_9 rfl rfl (Nat.le_of_ble_eq_true rfl) c_in9 ?_
  refine zl_if_le (pc := 10) hO 28 nd_GM_receive_10 (by decide) (fun hc => ?_) (fun hc => ?_)
  · have h := ite_t hc h
    exact zl_weak (J_28 _ h) ⟨rfl, ⟨rfl, ⟨rfl, trivial⟩⟩⟩
  · have h := ite_f hc h
    refine zl_aload_n (pc := 13) hO 0 nd_GM_receive_13 rfl rfl ?_
    refine zl_aload_n (pc := 14) hO 0 nd_GM_receive_14 rfl rfl ?_
    refine zl_get0 (pc := 15) hO nd_GM_receive_15 kf_GM_81 rfl (Nat.le_of_ble_eq_true rfl) rfl ?_
    refine zl_iconst (pc := 18) hO (v := 3) nd_GM_receive_18 (by decide) ?_
    refine zl_iload_n (pc := 19) hO 1 nd_GM_receive_19 rfl rfl ?_
    refine zl_imul (pc := 20) hO nd_GM_receive_20 ?_
    refine zl_iconst (pc := 21) hO (v := 1) nd_GM_receive_21 (by decide) ?_
    refine zl_iadd (pc := 22) hO nd_GM_receive_22 ?_
    obtain ⟨c_in23, h⟩ := ck_use h
    refine zl_iald (pc := 23) hO nd_GM_receive_23 rfl rfl (Nat.le_of_ble_eq_true rfl) c_in23 ?_
    refine zl_iload_n (pc := 24) hO 2 nd_GM_receive_24 rfl rfl ?_
    obtain ⟨s1, h_25, h⟩ := bn_use h
    refine zl_callVv (pc := 25) hO [zI (s0 23 0 (((3 : Int32) * a1) + (1 : Int32)).toNatClampNeg), zI a2] [] (c_GM_set hJ h_25) nd_GM_receive_25 kv_GM_167 rfl (Nat.le_of_ble_eq_true rfl) rfl rfl rfl (Nat.le_of_ble_eq_true rfl) ?_
    exact zl_weak (J_28 _ h) ⟨rfl, ⟨rfl, ⟨rfl, trivial⟩⟩⟩
set_option maxHeartbeats 4000000 in
set_option maxRecDepth 100000 in
theorem c_GM_command {l : Launch} {V : zG} (hJ : zJ0 (sM l V)) {s0 : zS} {a1 : Int32} {a2 : Int32} {a3 : Int32} {a4 : Int32}  {s1 : zS} {v1 : Int32} (h : k_GM_command s0 a1 a2 a3 a4 = some (s1, v1)) : zM (sM l V) md_GM_command [zR 0 0, zI a1, zI a2, zI a3, zI a4] s0 (s1, some (zI v1)) := by
  refine zMet [some (zR 0 0), some (zI a1), some (zI a2), some (zI a3), some (zI a4), none, none] hJ (by decide) rfl (Nat.le_of_ble_eq_true rfl) rfl ?_
  intro X hO
  have J_187 : ∀ (n : Nat), ∀ (s0 : zS) (l5 : Int32) (l6 : Int32), k_GM_command_187 a1 a2 a3 a4 n s0 l5 l6 = some (s1, v1) → ZW (sM l V) md_GM_command (s1, some (zI v1)) X 187 [some (zR 0 0), some (zI a1), none, none, none, some (zI l5), some (zI l6)] [] s0 := by
    intro n
    induction n with
    | zero => intro s0 l5 l6 h; exact absurd h (by rw [k_GM_command_187]; exact fun w => nomatch w)
    | succ n ih =>
      intro s0 l5 l6 h
      rw [k_GM_command_187]  at h
      refine zl_iload (pc := 187) hO nd_GM_command_187 rfl ?_
      refine zl_aload_n (pc := 189) hO 0 nd_GM_command_189 rfl rfl ?_
      refine zl_geti (pc := 190) hO nd_GM_command_190 kf_GM_109 rfl (Nat.le_of_ble_eq_true rfl) rfl ?_
      refine zl_icmp_ge (pc := 193) hO 218 nd_GM_command_193 (by decide) (fun hc => ?_) (fun hc => ?_)
      · have h := ite_t hc h
        refine zl_aload_n (pc := 218) hO 0 nd_GM_command_218 rfl rfl ?_
        refine zl_iload_n (pc := 219) hO 1 nd_GM_command_219 rfl rfl ?_
        refine zl_iload (pc := 220) hO nd_GM_command_220 rfl ?_
        obtain ⟨s13, h_222, h⟩ := bn_use h
        refine zl_callVv (pc := 222) hO [zI a1, zI l5] [] (c_GM_receive hJ h_222) nd_GM_command_222 kv_GM_274 rfl (Nat.le_of_ble_eq_true rfl) rfl rfl rfl (Nat.le_of_ble_eq_true rfl) ?_
        refine zl_goto (pc := 225) hO 236 nd_GM_command_225 (by decide) ?_
        refine zl_iconst (pc := 236) hO (v := 0) nd_GM_command_236 (by decide) ?_
        exact zl_iret (pc := 237) hO nd_GM_command_237 rfl (zr_i h)
      · have h := ite_f hc h
        refine zl_aload_n (pc := 196) hO 0 nd_GM_command_196 rfl rfl ?_
        refine zl_get0 (pc := 197) hO nd_GM_command_197 kf_GM_99 rfl (Nat.le_of_ble_eq_true rfl) rfl ?_
        refine zl_iload (pc := 200) hO nd_GM_command_200 rfl ?_
        refine zl_aload_n (pc := 202) hO 0 nd_GM_command_202 rfl rfl ?_
        refine zl_get0 (pc := 203) hO nd_GM_command_203 kf_GM_99 rfl (Nat.le_of_ble_eq_true rfl) rfl ?_
        refine zl_iload (pc := 206) hO nd_GM_command_206 rfl ?_
        refine zl_iconst (pc := 208) hO (v := 1) nd_GM_command_208 (by decide) ?_
        refine zl_iadd (pc := 209) hO nd_GM_command_209 ?_
        obtain ⟨c_in210, h⟩ := ck_use h
        refine zl_iald (pc := 210) hO nd_GM_command_210 rfl rfl (Nat.le_of_ble_eq_true rfl) c_in210 ?_
        obtain ⟨c_in211, h⟩ := ck_use h
        refine zl_iast (pc := 211) hO nd_GM_command_211 rfl rfl (Nat.le_of_ble_eq_true rfl) c_in211 ?_
        obtain ⟨s14, e_s14, h⟩ := lt_use h
        refine zl_sg e_s14 ?_
        obtain ⟨x15, e_x15, h⟩ := lt_use h
        refine zl_iinc (pc := 212) hO (L' := [some (zR 0 0), some (zI a1), none, none, none, some (zI l5), some (zI x15)]) nd_GM_command_212 rfl e_x15.symm (by decide) rfl ?_
        refine zl_goto (pc := 215) hO 187 nd_GM_command_215 (by decide) ?_
        exact zl_weak (ih _ _ _ h) ⟨rfl, ⟨rfl, ⟨rfl, ⟨rfl, trivial⟩⟩⟩⟩
  have J_228 : ∀ (s0 : zS), k_GM_command_228 a1 a2 a3 a4 s0 = some (s1, v1) → ZW (sM l V) md_GM_command (s1, some (zI v1)) X 228 [some (zR 0 0), some (zI a1), some (zI a2), none, none, none, none] [] s0 := by
    intro s0 h
    unfold k_GM_command_228 at h
    refine zl_aload_n (pc := 228) hO 0 nd_GM_command_228 rfl rfl ?_
    refine zl_iload_n (pc := 229) hO 1 nd_GM_command_229 rfl rfl ?_
    refine zl_iload_n (pc := 230) hO 2 nd_GM_command_230 rfl rfl ?_
    refine zl_iconst (pc := 231) hO (v := 0) nd_GM_command_231 (by decide) ?_
    refine zl_iconst (pc := 232) hO (v := 1) nd_GM_command_232 (by decide) ?_
    obtain ⟨s12, h_233, h⟩ := bn_use h
    refine zl_callVv (pc := 233) hO [zI a1, zI a2, zI 0, zI 1] [] (c_GM_write hJ h_233) nd_GM_command_233 kv_GM_245 rfl (Nat.le_of_ble_eq_true rfl) rfl rfl rfl (Nat.le_of_ble_eq_true rfl) ?_
    refine zl_iconst (pc := 236) hO (v := 0) nd_GM_command_236 (by decide) ?_
    exact zl_iret (pc := 237) hO nd_GM_command_237 rfl (zr_i h)
  have J_127 : ∀ (s0 : zS), k_GM_command_127 a1 a2 a3 a4 s0 = some (s1, v1) → ZW (sM l V) md_GM_command (s1, some (zI v1)) X 127 [some (zR 0 0), some (zI a1), some (zI a2), some (zI a3), none, none, none] [] s0 := by
    intro s0 h
    unfold k_GM_command_127 at h
    refine zl_iload_n (pc := 127) hO 2 nd_GM_command_127 rfl rfl ?_
    refine zl_if_le (pc := 128) hO 238 nd_GM_command_128 (by decide) (fun hc => ?_) (fun hc => ?_)
    · have h := ite_t hc h
      refine zl_iconst (pc := 238) hO (v := (-1)) nd_GM_command_238 (by decide) ?_
      exact zl_iret (pc := 239) hO nd_GM_command_239 rfl (zr_i h)
    · have h := ite_f hc h
      refine zl_iload_n (pc := 131) hO 3 nd_GM_command_131 rfl rfl ?_
      refine zl_iload_n (pc := 132) hO 2 nd_GM_command_132 rfl rfl ?_
      refine zl_iconst (pc := 133) hO (v := 2) nd_GM_command_133 (by decide) ?_
      obtain ⟨c_div134, h⟩ := ck_use h
      refine zl_irem (pc := 134) hO nd_GM_command_134 c_div134 ?_
      refine zl_iconst (pc := 135) hO (v := 1) nd_GM_command_135 (by decide) ?_
      refine zl_iadd (pc := 136) hO nd_GM_command_136 ?_
      refine zl_icmp_ne (pc := 137) hO 238 nd_GM_command_137 (by decide) (fun hc => ?_) (fun hc => ?_)
      · have h := ite_f hc h
        refine zl_iconst (pc := 238) hO (v := (-1)) nd_GM_command_238 (by decide) ?_
        exact zl_iret (pc := 239) hO nd_GM_command_239 rfl (zr_i h)
      · have h := ite_t hc h
        refine zl_aload_n (pc := 140) hO 0 nd_GM_command_140 rfl rfl ?_
        refine zl_iload_n (pc := 141) hO 1 nd_GM_command_141 rfl rfl ?_
        refine zl_iload_n (pc := 142) hO 2 nd_GM_command_142 rfl rfl ?_
        refine zl_iconst (pc := 143) hO (v := 0) nd_GM_command_143 (by decide) ?_
        obtain ⟨⟨s8, r9⟩, h_144, h⟩ := bn_use h
        refine zl_callVi (pc := 144) hO [zI a1, zI a2, zI 0] [] (c_GM_note hJ h_144) nd_GM_command_144 kv_GM_267 rfl (Nat.le_of_ble_eq_true rfl) rfl rfl rfl (Nat.le_of_ble_eq_true rfl) ?_
        refine zl_iconst (pc := 147) hO (v := 1) nd_GM_command_147 (by decide) ?_
        refine zl_icmp_ne (pc := 148) hO 154 nd_GM_command_148 (by decide) (fun hc => ?_) (fun hc => ?_)
        · have h := ite_f hc h
          refine zl_iload_n (pc := 154) hO 2 nd_GM_command_154 rfl rfl ?_
          refine zl_iconst (pc := 155) hO (v := 1) nd_GM_command_155 (by decide) ?_
          refine zl_icmp_ne (pc := 156) hO 228 nd_GM_command_156 (by decide) (fun hc => ?_) (fun hc => ?_)
          · have h := ite_f hc h
            exact zl_weak (J_228 _ h) ⟨rfl, ⟨rfl, ⟨rfl, trivial⟩⟩⟩
          · have h := ite_t hc h
            refine zl_aload_n (pc := 159) hO 0 nd_GM_command_159 rfl rfl ?_
            refine zl_geti (pc := 160) hO nd_GM_command_160 kf_GM_109 rfl (Nat.le_of_ble_eq_true rfl) rfl ?_
            refine zl_if_le (pc := 163) hO 228 nd_GM_command_163 (by decide) (fun hc => ?_) (fun hc => ?_)
            · have h := ite_t hc h
              exact zl_weak (J_228 _ h) ⟨rfl, ⟨rfl, ⟨rfl, trivial⟩⟩⟩
            · have h := ite_f hc h
              refine zl_aload_n (pc := 166) hO 0 nd_GM_command_166 rfl rfl ?_
              refine zl_get0 (pc := 167) hO nd_GM_command_167 kf_GM_99 rfl (Nat.le_of_ble_eq_true rfl) rfl ?_
              refine zl_iconst (pc := 170) hO (v := 0) nd_GM_command_170 (by decide) ?_
              obtain ⟨c_in171, h⟩ := ck_use h
              refine zl_iald (pc := 171) hO nd_GM_command_171 rfl rfl (Nat.le_of_ble_eq_true rfl) c_in171 ?_
              obtain ⟨x10, e_x10, h⟩ := lt_use h
              refine zl_top e_x10 ?_
              refine zl_istore (pc := 172) hO (L' := [some (zR 0 0), some (zI a1), some (zI a2), some (zI a3), none, some (zI x10), none]) nd_GM_command_172 (by decide) rfl ?_
              refine zl_aload_n (pc := 174) hO 0 nd_GM_command_174 rfl rfl ?_
              refine zl_dup (pc := 175) hO nd_GM_command_175 rfl ?_
              refine zl_geti (pc := 176) hO nd_GM_command_176 kf_GM_109 rfl (Nat.le_of_ble_eq_true rfl) rfl ?_
              refine zl_iconst (pc := 179) hO (v := 1) nd_GM_command_179 (by decide) ?_
              refine zl_isub (pc := 180) hO nd_GM_command_180 ?_
              refine zl_puti (pc := 181) hO nd_GM_command_181 kp_GM_109 rfl (Nat.le_of_ble_eq_true rfl) rfl ?_
              obtain ⟨s11, e_s11, h⟩ := lt_use h
              refine zl_sg e_s11 ?_
              refine zl_iconst (pc := 184) hO (v := 0) nd_GM_command_184 (by decide) ?_
              refine zl_istore (pc := 185) hO (L' := [some (zR 0 0), some (zI a1), some (zI a2), some (zI a3), none, some (zI x10), some (zI 0)]) nd_GM_command_185 (by decide) rfl ?_
              exact zl_weak (J_187 FU _ _ _ h) ⟨rfl, ⟨rfl, ⟨rfl, ⟨rfl, trivial⟩⟩⟩⟩
        · have h := ite_t hc h
          refine zl_bipush (pc := 151) hO (v := (-5)) nd_GM_command_151 (by decide) ?_
          exact zl_iret (pc := 153) hO nd_GM_command_153 rfl (zr_i h)
  have J_99 : ∀ (s0 : zS), k_GM_command_99 a1 a2 a3 a4 s0 = some (s1, v1) → ZW (sM l V) md_GM_command (s1, some (zI v1)) X 99 [some (zR 0 0), some (zI a1), some (zI a2), some (zI a3), some (zI a4), none, none] [] s0 := by
    intro s0 h
    unfold k_GM_command_99 at h
    refine zl_iload_n (pc := 99) hO 2 nd_GM_command_99 rfl rfl ?_
    refine zl_iconst (pc := 100) hO (v := 1) nd_GM_command_100 (by decide) ?_
    refine zl_icmp_ne (pc := 101) hO 127 nd_GM_command_101 (by decide) (fun hc => ?_) (fun hc => ?_)
    · have h := ite_f hc h
      exact zl_weak (J_127 _ h) ⟨rfl, ⟨rfl, ⟨rfl, ⟨rfl, trivial⟩⟩⟩⟩
    · have h := ite_t hc h
      refine zl_iload_n (pc := 104) hO 3 nd_GM_command_104 rfl rfl ?_
      refine zl_iconst (pc := 105) hO (v := 1) nd_GM_command_105 (by decide) ?_
      refine zl_icmp_ne (pc := 106) hO 127 nd_GM_command_106 (by decide) (fun hc => ?_) (fun hc => ?_)
      · have h := ite_f hc h
        exact zl_weak (J_127 _ h) ⟨rfl, ⟨rfl, ⟨rfl, ⟨rfl, trivial⟩⟩⟩⟩
      · have h := ite_t hc h
        refine zl_iload (pc := 109) hO nd_GM_command_109 rfl ?_
        refine zl_if_ge (pc := 111) hO 119 nd_GM_command_111 (by decide) (fun hc => ?_) (fun hc => ?_)
        · have h := ite_t hc h
          refine zl_aload_n (pc := 119) hO 0 nd_GM_command_119 rfl rfl ?_
          refine zl_iload_n (pc := 120) hO 1 nd_GM_command_120 rfl rfl ?_
          refine zl_iload (pc := 121) hO nd_GM_command_121 rfl ?_
          obtain ⟨⟨s6, r7⟩, h_123, h⟩ := bn_use h
          refine zl_callVi (pc := 123) hO [zI a1, zI a4] [] (c_GM_print hJ h_123) nd_GM_command_123 kv_GM_271 rfl (Nat.le_of_ble_eq_true rfl) rfl rfl rfl (Nat.le_of_ble_eq_true rfl) ?_
          exact zl_iret (pc := 126) hO nd_GM_command_126 rfl (zr_i h)
        · have h := ite_f hc h
          refine zl_bipush (pc := 114) hO (v := (-3)) nd_GM_command_114 (by decide) ?_
          refine zl_goto (pc := 116) hO 126 nd_GM_command_116 (by decide) ?_
          exact zl_iret (pc := 126) hO nd_GM_command_126 rfl (zr_i h)
  have J_49 : ∀ (s0 : zS), k_GM_command_49 a1 a2 a3 a4 s0 = some (s1, v1) → ZW (sM l V) md_GM_command (s1, some (zI v1)) X 49 [some (zR 0 0), some (zI a1), some (zI a2), some (zI a3), some (zI a4), none, none] [] s0 := by
    intro s0 h
    unfold k_GM_command_49 at h
    refine zl_iload_n (pc := 49) hO 2 nd_GM_command_49 rfl rfl ?_
    refine zl_if_ne (pc := 50) hO 99 nd_GM_command_50 (by decide) (fun hc => ?_) (fun hc => ?_)
    · have h := ite_f hc h
      exact zl_weak (J_99 _ h) ⟨rfl, ⟨rfl, ⟨rfl, ⟨rfl, ⟨rfl, trivial⟩⟩⟩⟩⟩
    · have h := ite_t hc h
      refine zl_iload_n (pc := 53) hO 3 nd_GM_command_53 rfl rfl ?_
      refine zl_iconst (pc := 54) hO (v := 1) nd_GM_command_54 (by decide) ?_
      refine zl_icmp_ne (pc := 55) hO 99 nd_GM_command_55 (by decide) (fun hc => ?_) (fun hc => ?_)
      · have h := ite_f hc h
        exact zl_weak (J_99 _ h) ⟨rfl, ⟨rfl, ⟨rfl, ⟨rfl, ⟨rfl, trivial⟩⟩⟩⟩⟩
      · have h := ite_t hc h
        refine zl_iload (pc := 58) hO nd_GM_command_58 rfl ?_
        refine zl_iconst (pc := 60) hO (v := 1) nd_GM_command_60 (by decide) ?_
        refine zl_icmp_lt (pc := 61) hO 72 nd_GM_command_61 (by decide) (fun hc => ?_) (fun hc => ?_)
        · have h := ite_t hc h
          refine zl_bipush (pc := 72) hO (v := (-3)) nd_GM_command_72 (by decide) ?_
          exact zl_iret (pc := 74) hO nd_GM_command_74 rfl (zr_i h)
        · have h := ite_f hc h
          refine zl_iload (pc := 64) hO nd_GM_command_64 rfl ?_
          refine zl_sipush (pc := 66) hO (v := 1000) nd_GM_command_66 (by decide) ?_
          refine zl_icmp_le (pc := 69) hO 75 nd_GM_command_69 (by decide) (fun hc => ?_) (fun hc => ?_)
          · have h := ite_t hc h
            refine zl_aload_n (pc := 75) hO 0 nd_GM_command_75 rfl rfl ?_
            refine zl_iload_n (pc := 76) hO 1 nd_GM_command_76 rfl rfl ?_
            refine zl_iconst (pc := 77) hO (v := 0) nd_GM_command_77 (by decide) ?_
            refine zl_iconst (pc := 78) hO (v := 0) nd_GM_command_78 (by decide) ?_
            refine zl_iconst (pc := 79) hO (v := 1) nd_GM_command_79 (by decide) ?_
            obtain ⟨s4, h_80, h⟩ := bn_use h
            refine zl_callVv (pc := 80) hO [zI a1, zI 0, zI 0, zI 1] [] (c_GM_write hJ h_80) nd_GM_command_80 kv_GM_245 rfl (Nat.le_of_ble_eq_true rfl) rfl rfl rfl (Nat.le_of_ble_eq_true rfl) ?_
            refine zl_aload_n (pc := 83) hO 0 nd_GM_command_83 rfl rfl ?_
            refine zl_iload_n (pc := 84) hO 1 nd_GM_command_84 rfl rfl ?_
            refine zl_iconst (pc := 85) hO (v := 0) nd_GM_command_85 (by decide) ?_
            refine zl_iconst (pc := 86) hO (v := 1) nd_GM_command_86 (by decide) ?_
            refine zl_aload_n (pc := 87) hO 0 nd_GM_command_87 rfl rfl ?_
            refine zl_geti (pc := 88) hO nd_GM_command_88 kf_GM_115 rfl (Nat.le_of_ble_eq_true rfl) rfl ?_
            refine zl_iload (pc := 91) hO nd_GM_command_91 rfl ?_
            refine zl_iadd (pc := 93) hO nd_GM_command_93 ?_
            obtain ⟨s5, h_94, h⟩ := bn_use h
            refine zl_callVv (pc := 94) hO [zI a1, zI 0, zI 1, zI ((s4 0 0 2) + a4)] [] (c_GM_write hJ h_94) nd_GM_command_94 kv_GM_245 rfl (Nat.le_of_ble_eq_true rfl) rfl rfl rfl (Nat.le_of_ble_eq_true rfl) ?_
            refine zl_iconst (pc := 97) hO (v := 0) nd_GM_command_97 (by decide) ?_
            exact zl_iret (pc := 98) hO nd_GM_command_98 rfl (zr_i h)
          · have h := ite_f hc h
            refine zl_bipush (pc := 72) hO (v := (-3)) nd_GM_command_72 (by decide) ?_
            exact zl_iret (pc := 74) hO nd_GM_command_74 rfl (zr_i h)
  have J_35 : ∀ (s0 : zS), k_GM_command_35 a1 a2 a3 a4 s0 = some (s1, v1) → ZW (sM l V) md_GM_command (s1, some (zI v1)) X 35 [some (zR 0 0), some (zI a1), some (zI a2), some (zI a3), some (zI a4), none, none] [] s0 := by
    intro s0 h
    unfold k_GM_command_35 at h
    refine zl_iload_n (pc := 35) hO 2 nd_GM_command_35 rfl rfl ?_
    refine zl_if_ne (pc := 36) hO 49 nd_GM_command_36 (by decide) (fun hc => ?_) (fun hc => ?_)
    · have h := ite_f hc h
      exact zl_weak (J_49 _ h) ⟨rfl, ⟨rfl, ⟨rfl, ⟨rfl, ⟨rfl, trivial⟩⟩⟩⟩⟩
    · have h := ite_t hc h
      refine zl_iload_n (pc := 39) hO 3 nd_GM_command_39 rfl rfl ?_
      refine zl_iconst (pc := 40) hO (v := 3) nd_GM_command_40 (by decide) ?_
      refine zl_icmp_ne (pc := 41) hO 49 nd_GM_command_41 (by decide) (fun hc => ?_) (fun hc => ?_)
      · have h := ite_f hc h
        exact zl_weak (J_49 _ h) ⟨rfl, ⟨rfl, ⟨rfl, ⟨rfl, ⟨rfl, trivial⟩⟩⟩⟩⟩
      · have h := ite_t hc h
        refine zl_aload_n (pc := 44) hO 0 nd_GM_command_44 rfl rfl ?_
        refine zl_geti (pc := 45) hO nd_GM_command_45 kf_GM_115 rfl (Nat.le_of_ble_eq_true rfl) rfl ?_
        exact zl_iret (pc := 48) hO nd_GM_command_48 rfl (zr_i h)
  unfold k_GM_command at h
  refine zl_iload_n (pc := 0) hO 3 nd_GM_command_0 rfl rfl ?_
  refine zl_if_ne (pc := 1) hO 6 nd_GM_command_1 (by decide) (fun hc => ?_) (fun hc => ?_)
  · have h := ite_f hc h
    refine zl_iload_n (pc := 6) hO 2 nd_GM_command_6 rfl rfl ?_
    refine zl_if_ne (pc := 7) hO 35 nd_GM_command_7 (by decide) (fun hc => ?_) (fun hc => ?_)
    · have h := ite_f hc h
      exact zl_weak (J_35 _ h) ⟨rfl, ⟨rfl, ⟨rfl, ⟨rfl, ⟨rfl, trivial⟩⟩⟩⟩⟩
    · have h := ite_t hc h
      refine zl_iload_n (pc := 10) hO 3 nd_GM_command_10 rfl rfl ?_
      refine zl_iconst (pc := 11) hO (v := 2) nd_GM_command_11 (by decide) ?_
      refine zl_icmp_ne (pc := 12) hO 35 nd_GM_command_12 (by decide) (fun hc => ?_) (fun hc => ?_)
      · have h := ite_f hc h
        exact zl_weak (J_35 _ h) ⟨rfl, ⟨rfl, ⟨rfl, ⟨rfl, ⟨rfl, trivial⟩⟩⟩⟩⟩
      · have h := ite_t hc h
        refine zl_aload_n (pc := 15) hO 0 nd_GM_command_15 rfl rfl ?_
        refine zl_iload_n (pc := 16) hO 1 nd_GM_command_16 rfl rfl ?_
        refine zl_iconst (pc := 17) hO (v := 0) nd_GM_command_17 (by decide) ?_
        refine zl_iconst (pc := 18) hO (v := 0) nd_GM_command_18 (by decide) ?_
        obtain ⟨⟨s1, r2⟩, h_19, h⟩ := bn_use h
        refine zl_callVi (pc := 19) hO [zI a1, zI 0, zI 0] [] (c_GM_note hJ h_19) nd_GM_command_19 kv_GM_267 rfl (Nat.le_of_ble_eq_true rfl) rfl rfl rfl (Nat.le_of_ble_eq_true rfl) ?_
        refine zl_istore (pc := 22) hO (L' := [some (zR 0 0), some (zI a1), some (zI a2), some (zI a3), some (zI a4), some (zI r2), none]) nd_GM_command_22 (by decide) rfl ?_
        refine zl_aload_n (pc := 24) hO 0 nd_GM_command_24 rfl rfl ?_
        refine zl_iload_n (pc := 25) hO 1 nd_GM_command_25 rfl rfl ?_
        refine zl_iconst (pc := 26) hO (v := 0) nd_GM_command_26 (by decide) ?_
        refine zl_iconst (pc := 27) hO (v := 0) nd_GM_command_27 (by decide) ?_
        refine zl_iconst (pc := 28) hO (v := 0) nd_GM_command_28 (by decide) ?_
        obtain ⟨s3, h_29, h⟩ := bn_use h
        refine zl_callVv (pc := 29) hO [zI a1, zI 0, zI 0, zI 0] [] (c_GM_write hJ h_29) nd_GM_command_29 kv_GM_245 rfl (Nat.le_of_ble_eq_true rfl) rfl rfl rfl (Nat.le_of_ble_eq_true rfl) ?_
        refine zl_iload (pc := 32) hO nd_GM_command_32 rfl ?_
        exact zl_iret (pc := 34) hO nd_GM_command_34 rfl (zr_i h)
  · have h := ite_t hc h
    refine zl_iconst (pc := 4) hO (v := 0) nd_GM_command_4 (by decide) ?_
    exact zl_iret (pc := 5) hO nd_GM_command_5 rfl (zr_i h)
set_option maxHeartbeats 4000000 in
set_option maxRecDepth 100000 in
theorem c_GM_allow {l : Launch} {V : zG} (hJ : zJ0 (sM l V)) {s0 : zS} {a1 : Int32} {a2 : Int32} {a3 : Int32} {a4 : Int32}  {s1 : zS} {v1 : Int32} (h : k_GM_allow s0 a1 a2 a3 a4 = some (s1, v1)) : zM (sM l V) md_GM_allow [zR 0 0, zI a1, zI a2, zI a3, zI a4] s0 (s1, some (zI v1)) := by
  refine zMet [some (zR 0 0), some (zI a1), some (zI a2), some (zI a3), some (zI a4), none] hJ (by decide) rfl (Nat.le_of_ble_eq_true rfl) rfl ?_
  intro X hO
  have J_29 : ∀ (n : Nat), ∀ (s0 : zS) (l5 : Int32), k_GM_allow_29 a1 a2 a3 a4 n s0 l5 = some (s1, v1) → ZW (sM l V) md_GM_allow (s1, some (zI v1)) X 29 [some (zR 0 0), some (zI a1), some (zI a2), some (zI a3), some (zI a4), some (zI l5)] [] s0 := by
    intro n
    induction n with
    | zero => intro s0 l5 h; exact absurd h (by rw [k_GM_allow_29]; exact fun w => nomatch w)
    | succ n ih =>
      intro s0 l5 h
      rw [k_GM_allow_29]  at h
      refine zl_iload (pc := 29) hO nd_GM_allow_29 rfl ?_
      refine zl_iload (pc := 31) hO nd_GM_allow_31 rfl ?_
      refine zl_icmp_ge (pc := 33) hO 59 nd_GM_allow_33 (by decide) (fun hc => ?_) (fun hc => ?_)
      · have h := ite_t hc h
        refine zl_aload_n (pc := 59) hO 0 nd_GM_allow_59 rfl rfl ?_
        refine zl_get0 (pc := 60) hO nd_GM_allow_60 kf_GM_81 rfl (Nat.le_of_ble_eq_true rfl) rfl ?_
        refine zl_iconst (pc := 63) hO (v := 3) nd_GM_allow_63 (by decide) ?_
        refine zl_iload_n (pc := 64) hO 1 nd_GM_allow_64 rfl rfl ?_
        refine zl_imul (pc := 65) hO nd_GM_allow_65 ?_
        refine zl_iload_n (pc := 66) hO 2 nd_GM_allow_66 rfl rfl ?_
        refine zl_iadd (pc := 67) hO nd_GM_allow_67 ?_
        refine zl_iload_n (pc := 68) hO 3 nd_GM_allow_68 rfl rfl ?_
        obtain ⟨c_in69, h⟩ := ck_use h
        refine zl_iast (pc := 69) hO nd_GM_allow_69 rfl rfl (Nat.le_of_ble_eq_true rfl) c_in69 ?_
        obtain ⟨s1, e_s1, h⟩ := lt_use h
        refine zl_sg e_s1 ?_
        refine zl_aload_n (pc := 70) hO 0 nd_GM_allow_70 rfl rfl ?_
        refine zl_get0 (pc := 71) hO nd_GM_allow_71 kf_GM_84 rfl (Nat.le_of_ble_eq_true rfl) rfl ?_
        refine zl_iconst (pc := 74) hO (v := 3) nd_GM_allow_74 (by decide) ?_
        refine zl_iload_n (pc := 75) hO 1 nd_GM_allow_75 rfl rfl ?_
        refine zl_imul (pc := 76) hO nd_GM_allow_76 ?_
        refine zl_iload_n (pc := 77) hO 2 nd_GM_allow_77 rfl rfl ?_
        refine zl_iadd (pc := 78) hO nd_GM_allow_78 ?_
        refine zl_iload (pc := 79) hO nd_GM_allow_79 rfl ?_
        obtain ⟨c_in81, h⟩ := ck_use h
        refine zl_iast (pc := 81) hO nd_GM_allow_81 rfl rfl (Nat.le_of_ble_eq_true rfl) c_in81 ?_
        obtain ⟨s2, e_s2, h⟩ := lt_use h
        refine zl_sg e_s2 ?_
        refine zl_iconst (pc := 82) hO (v := 0) nd_GM_allow_82 (by decide) ?_
        exact zl_iret (pc := 83) hO nd_GM_allow_83 rfl (zr_i h)
      · have h := ite_f hc h
        refine zl_aload_n (pc := 36) hO 0 nd_GM_allow_36 rfl rfl ?_
        refine zl_iload_n (pc := 37) hO 1 nd_GM_allow_37 rfl rfl ?_
        refine zl_iload_n (pc := 38) hO 3 nd_GM_allow_38 rfl rfl ?_
        refine zl_iconst (pc := 39) hO (v := 4) nd_GM_allow_39 (by decide) ?_
        refine zl_iload (pc := 40) hO nd_GM_allow_40 rfl ?_
        refine zl_imul (pc := 42) hO nd_GM_allow_42 ?_
        refine zl_iadd (pc := 43) hO nd_GM_allow_43 ?_
        obtain ⟨⟨s3, r4⟩, h_44, h⟩ := bn_use h
        refine zl_callVi (pc := 44) hO [zI a1, zI (a3 + ((4 : Int32) * l5))] [] (c_GM_isOpen hJ h_44) nd_GM_allow_44 kv_GM_154 rfl (Nat.le_of_ble_eq_true rfl) rfl rfl rfl (Nat.le_of_ble_eq_true rfl) ?_
        refine zl_if_ne (pc := 47) hO 53 nd_GM_allow_47 (by decide) (fun hc => ?_) (fun hc => ?_)
        · have h := ite_f hc h
          obtain ⟨x5, e_x5, h⟩ := lt_use h
          refine zl_iinc (pc := 53) hO (L' := [some (zR 0 0), some (zI a1), some (zI a2), some (zI a3), some (zI a4), some (zI x5)]) nd_GM_allow_53 rfl e_x5.symm (by decide) rfl ?_
          refine zl_goto (pc := 56) hO 29 nd_GM_allow_56 (by decide) ?_
          exact zl_weak (ih _ _ h) ⟨rfl, ⟨rfl, ⟨rfl, ⟨rfl, ⟨rfl, ⟨rfl, trivial⟩⟩⟩⟩⟩⟩
        · have h := ite_t hc h
          refine zl_bipush (pc := 50) hO (v := (-3)) nd_GM_allow_50 (by decide) ?_
          exact zl_iret (pc := 52) hO nd_GM_allow_52 rfl (zr_i h)
  have J_26 : ∀ (s0 : zS), k_GM_allow_26 a1 a2 a3 a4 s0 = some (s1, v1) → ZW (sM l V) md_GM_allow (s1, some (zI v1)) X 26 [some (zR 0 0), some (zI a1), some (zI a2), some (zI a3), some (zI a4), none] [] s0 := by
    intro s0 h
    unfold k_GM_allow_26 at h
    refine zl_iconst (pc := 26) hO (v := 0) nd_GM_allow_26 (by decide) ?_
    refine zl_istore (pc := 27) hO (L' := [some (zR 0 0), some (zI a1), some (zI a2), some (zI a3), some (zI a4), some (zI 0)]) nd_GM_allow_27 (by decide) rfl ?_
    exact zl_weak (J_29 FU _ _ h) ⟨rfl, ⟨rfl, ⟨rfl, ⟨rfl, ⟨rfl, ⟨rfl, trivial⟩⟩⟩⟩⟩⟩
  unfold k_GM_allow at h
  refine zl_iload (pc := 0) hO nd_GM_allow_0 rfl ?_
  refine zl_if_eq (pc := 2) hO 26 nd_GM_allow_2 (by decide) (fun hc => ?_) (fun hc => ?_)
  · have h := ite_t hc h
    exact zl_weak (J_26 _ h) ⟨rfl, ⟨rfl, ⟨rfl, ⟨rfl, ⟨rfl, trivial⟩⟩⟩⟩⟩
  · have h := ite_f hc h
    refine zl_iload (pc := 5) hO nd_GM_allow_5 rfl ?_
    refine zl_if_lt (pc := 7) hO 23 nd_GM_allow_7 (by decide) (fun hc => ?_) (fun hc => ?_)
    · have h := ite_t hc h
      refine zl_bipush (pc := 23) hO (v := (-3)) nd_GM_allow_23 (by decide) ?_
      exact zl_iret (pc := 25) hO nd_GM_allow_25 rfl (zr_i h)
    · have h := ite_f hc h
      refine zl_iload (pc := 10) hO nd_GM_allow_10 rfl ?_
      refine zl_bipush (pc := 12) hO (v := 64) nd_GM_allow_12 (by decide) ?_
      refine zl_icmp_gt (pc := 14) hO 23 nd_GM_allow_14 (by decide) (fun hc => ?_) (fun hc => ?_)
      · have h := ite_t hc h
        refine zl_bipush (pc := 23) hO (v := (-3)) nd_GM_allow_23 (by decide) ?_
        exact zl_iret (pc := 25) hO nd_GM_allow_25 rfl (zr_i h)
      · have h := ite_f hc h
        refine zl_iload_n (pc := 17) hO 3 nd_GM_allow_17 rfl rfl ?_
        refine zl_iconst (pc := 18) hO (v := 3) nd_GM_allow_18 (by decide) ?_
        refine zl_iand (pc := 19) hO nd_GM_allow_19 ?_
        refine zl_if_eq (pc := 20) hO 26 nd_GM_allow_20 (by decide) (fun hc => ?_) (fun hc => ?_)
        · have h := ite_t hc h
          exact zl_weak (J_26 _ h) ⟨rfl, ⟨rfl, ⟨rfl, ⟨rfl, ⟨rfl, trivial⟩⟩⟩⟩⟩
        · have h := ite_f hc h
          refine zl_bipush (pc := 23) hO (v := (-3)) nd_GM_allow_23 (by decide) ?_
          exact zl_iret (pc := 25) hO nd_GM_allow_25 rfl (zr_i h)
set_option maxHeartbeats 4000000 in
set_option maxRecDepth 100000 in
theorem c_GM_kernel {l : Launch} {V : zG} (hJ : zJ0 (sM l V)) {s0 : zS} {a1 : Int32} {a2 : Int32}  {s1 : zS} (h : k_GM_kernel s0 a1 a2 = some s1) : zM (sM l V) md_GM_kernel [zR 0 0, zI a1, zI a2] s0 (s1, none) := by
  refine zMet [some (zR 0 0), some (zI a1), some (zI a2), none, none, none, none, none, none, none, none, none] hJ (by decide) rfl (Nat.le_of_ble_eq_true rfl) rfl ?_
  intro X hO
  have J_92 : ∀ (n : Nat), ∀ (s0 : zS) (l8 : Int32) (l9 : Int32) (l10 : Int32) (l11 : Int32), k_GM_kernel_92 a1 a2 n s0 l8 l9 l10 l11 = some s1 → ZW (sM l V) md_GM_kernel (s1, none) X 92 [some (zR 0 0), some (zI a1), none, none, none, none, none, none, some (zI l8), some (zI l9), some (zI l10), some (zI l11)] [] s0 := by
    intro n
    induction n with
    | zero => intro s0 l8 l9 l10 l11 h; exact absurd h (by rw [k_GM_kernel_92]; exact fun w => nomatch w)
    | succ n ih =>
      intro s0 l8 l9 l10 l11 h
      rw [k_GM_kernel_92]  at h
      refine zl_iload (pc := 92) hO nd_GM_kernel_92 rfl ?_
      refine zl_aload_n (pc := 94) hO 0 nd_GM_kernel_94 rfl rfl ?_
      refine zl_geti (pc := 95) hO nd_GM_kernel_95 kf_GM_121 rfl (Nat.le_of_ble_eq_true rfl) rfl ?_
      refine zl_icmp_ge (pc := 98) hO 117 nd_GM_kernel_98 (by decide) (fun hc => ?_) (fun hc => ?_)
      · have h := ite_t hc h
        refine zl_aload_n (pc := 117) hO 0 nd_GM_kernel_117 rfl rfl ?_
        refine zl_dup (pc := 118) hO nd_GM_kernel_118 rfl ?_
        refine zl_geti (pc := 119) hO nd_GM_kernel_119 kf_GM_121 rfl (Nat.le_of_ble_eq_true rfl) rfl ?_
        refine zl_iconst (pc := 122) hO (v := 1) nd_GM_kernel_122 (by decide) ?_
        refine zl_isub (pc := 123) hO nd_GM_kernel_123 ?_
        refine zl_puti (pc := 124) hO nd_GM_kernel_124 kp_GM_121 rfl (Nat.le_of_ble_eq_true rfl) rfl ?_
        obtain ⟨s24, e_s24, h⟩ := lt_use h
        refine zl_sg e_s24 ?_
        refine zl_aload_n (pc := 127) hO 0 nd_GM_kernel_127 rfl rfl ?_
        refine zl_iload_n (pc := 128) hO 1 nd_GM_kernel_128 rfl rfl ?_
        refine zl_iload (pc := 129) hO nd_GM_kernel_129 rfl ?_
        refine zl_iload (pc := 131) hO nd_GM_kernel_131 rfl ?_
        refine zl_iload (pc := 133) hO nd_GM_kernel_133 rfl ?_
        obtain ⟨s25, h_135, h⟩ := bn_use h
        refine zl_callVv (pc := 135) hO [zI a1, zI l8, zI l9, zI l10] [] (c_GM_deliver hJ h_135) nd_GM_kernel_135 kv_GM_252 rfl (Nat.le_of_ble_eq_true rfl) rfl rfl rfl (Nat.le_of_ble_eq_true rfl) ?_
        exact zl_vret (pc := 138) hO nd_GM_kernel_138 rfl (zr_v h)
      · have h := ite_f hc h
        refine zl_aload_n (pc := 101) hO 0 nd_GM_kernel_101 rfl rfl ?_
        refine zl_iload (pc := 102) hO nd_GM_kernel_102 rfl ?_
        refine zl_iload (pc := 104) hO nd_GM_kernel_104 rfl ?_
        refine zl_iconst (pc := 106) hO (v := 1) nd_GM_kernel_106 (by decide) ?_
        refine zl_isub (pc := 107) hO nd_GM_kernel_107 ?_
        obtain ⟨s26, h_108, h⟩ := bn_use h
        refine zl_callVv (pc := 108) hO [zI l11, zI (l11 - (1 : Int32))] [] (c_GM_move hJ h_108) nd_GM_kernel_108 kv_GM_139 rfl (Nat.le_of_ble_eq_true rfl) rfl rfl rfl (Nat.le_of_ble_eq_true rfl) ?_
        obtain ⟨x27, e_x27, h⟩ := lt_use h
        refine zl_iinc (pc := 111) hO (L' := [some (zR 0 0), some (zI a1), none, none, none, none, none, none, some (zI l8), some (zI l9), some (zI l10), some (zI x27)]) nd_GM_kernel_111 rfl e_x27.symm (by decide) rfl ?_
        refine zl_goto (pc := 114) hO 92 nd_GM_kernel_114 (by decide) ?_
        exact zl_weak (ih _ _ _ _ _ h) ⟨rfl, ⟨rfl, ⟨rfl, ⟨rfl, ⟨rfl, ⟨rfl, trivial⟩⟩⟩⟩⟩⟩
  have J_229 : ∀ (s0 : zS) (l3 : Int32) (l7 : Int32), k_GM_kernel_229 a1 a2 s0 l3 l7 = some s1 → ZW (sM l V) md_GM_kernel (s1, none) X 229 [some (zR 0 0), none, none, some (zI l3), none, none, none, some (zI l7), none, none, none, none] [] s0 := by
    intro s0 l3 l7 h
    unfold k_GM_kernel_229 at h
    refine zl_aload_n (pc := 229) hO 0 nd_GM_kernel_229 rfl rfl ?_
    refine zl_iload_n (pc := 230) hO 3 nd_GM_kernel_230 rfl rfl ?_
    refine zl_iload (pc := 231) hO nd_GM_kernel_231 rfl ?_
    obtain ⟨s23, h_233, h⟩ := bn_use h
    refine zl_callVv (pc := 233) hO [zI l3, zI l7] [] (c_GM_set hJ h_233) nd_GM_kernel_233 kv_GM_167 rfl (Nat.le_of_ble_eq_true rfl) rfl rfl rfl (Nat.le_of_ble_eq_true rfl) ?_
    exact zl_vret (pc := 236) hO nd_GM_kernel_236 rfl (zr_v h)
  have J_227 : ∀ (s0 : zS) (l3 : Int32) (t0 : Int32), k_GM_kernel_227 a1 a2 s0 l3 t0 = some s1 → ZW (sM l V) md_GM_kernel (s1, none) X 227 [some (zR 0 0), none, none, some (zI l3), none, none, none, none, none, none, none, none] [zI t0] s0 := by
    intro s0 l3 t0 h
    unfold k_GM_kernel_227 at h
    refine zl_istore (pc := 227) hO (L' := [some (zR 0 0), none, none, some (zI l3), none, none, none, some (zI t0), none, none, none, none]) nd_GM_kernel_227 (by decide) rfl ?_
    exact zl_weak (J_229 _ _ _ h) ⟨rfl, ⟨rfl, ⟨rfl, trivial⟩⟩⟩
  have J_158 : ∀ (s0 : zS) (l3 : Int32), k_GM_kernel_158 a1 a2 s0 l3 = some s1 → ZW (sM l V) md_GM_kernel (s1, none) X 158 [some (zR 0 0), none, none, some (zI l3), none, none, none, none, none, none, none, none] [] s0 := by
    intro s0 l3 h
    unfold k_GM_kernel_158 at h
    refine zl_bipush (pc := 158) hO (v := (-2)) nd_GM_kernel_158 (by decide) ?_
    refine zl_goto (pc := 160) hO 227 nd_GM_kernel_160 (by decide) ?_
    exact zl_weak (J_227 _ _ _ h) ⟨rfl, ⟨rfl, trivial⟩⟩
  unfold k_GM_kernel at h
  refine zl_aload_n (pc := 0) hO 0 nd_GM_kernel_0 rfl rfl ?_
  refine zl_get0 (pc := 1) hO nd_GM_kernel_1 kf_GM_47 rfl (Nat.le_of_ble_eq_true rfl) rfl ?_
  refine zl_iload_n (pc := 4) hO 1 nd_GM_kernel_4 rfl rfl ?_
  obtain ⟨c_in5, h⟩ := ck_use h
  refine zl_iald (pc := 5) hO nd_GM_kernel_5 rfl rfl (Nat.le_of_ble_eq_true rfl) c_in5 ?_
  obtain ⟨x1, e_x1, h⟩ := lt_use h
  refine zl_top e_x1 ?_
  refine zl_istore_n (pc := 6) hO 3 (L' := [some (zR 0 0), some (zI a1), some (zI a2), some (zI x1), none, none, none, none, none, none, none, none]) nd_GM_kernel_6 rfl (by decide) rfl ?_
  refine zl_aload_n (pc := 7) hO 0 nd_GM_kernel_7 rfl rfl ?_
  refine zl_iload_n (pc := 8) hO 3 nd_GM_kernel_8 rfl rfl ?_
  obtain ⟨⟨s2, r3⟩, h_9, h⟩ := bn_use h
  refine zl_callVi (pc := 9) hO [zI x1] [] (c_GM_get hJ h_9) nd_GM_kernel_9 kv_GM_172 rfl (Nat.le_of_ble_eq_true rfl) rfl rfl rfl (Nat.le_of_ble_eq_true rfl) ?_
  refine zl_istore (pc := 12) hO (L' := [some (zR 0 0), some (zI a1), some (zI a2), some (zI x1), some (zI r3), none, none, none, none, none, none, none]) nd_GM_kernel_12 (by decide) rfl ?_
  refine zl_aload_n (pc := 14) hO 0 nd_GM_kernel_14 rfl rfl ?_
  refine zl_iload_n (pc := 15) hO 3 nd_GM_kernel_15 rfl rfl ?_
  refine zl_iconst (pc := 16) hO (v := 4) nd_GM_kernel_16 (by decide) ?_
  refine zl_iadd (pc := 17) hO nd_GM_kernel_17 ?_
  obtain ⟨⟨s4, r5⟩, h_18, h⟩ := bn_use h
  refine zl_callVi (pc := 18) hO [zI (x1 + (4 : Int32))] [] (c_GM_get hJ h_18) nd_GM_kernel_18 kv_GM_172 rfl (Nat.le_of_ble_eq_true rfl) rfl rfl rfl (Nat.le_of_ble_eq_true rfl) ?_
  refine zl_istore (pc := 21) hO (L' := [some (zR 0 0), some (zI a1), some (zI a2), some (zI x1), some (zI r3), some (zI r5), none, none, none, none, none, none]) nd_GM_kernel_21 (by decide) rfl ?_
  refine zl_aload_n (pc := 23) hO 0 nd_GM_kernel_23 rfl rfl ?_
  refine zl_iload_n (pc := 24) hO 3 nd_GM_kernel_24 rfl rfl ?_
  refine zl_bipush (pc := 25) hO (v := 8) nd_GM_kernel_25 (by decide) ?_
  refine zl_iadd (pc := 27) hO nd_GM_kernel_27 ?_
  obtain ⟨⟨s6, r7⟩, h_28, h⟩ := bn_use h
  refine zl_callVi (pc := 28) hO [zI (x1 + (8 : Int32))] [] (c_GM_get hJ h_28) nd_GM_kernel_28 kv_GM_172 rfl (Nat.le_of_ble_eq_true rfl) rfl rfl rfl (Nat.le_of_ble_eq_true rfl) ?_
  refine zl_istore (pc := 31) hO (L' := [some (zR 0 0), some (zI a1), some (zI a2), some (zI x1), some (zI r3), some (zI r5), some (zI r7), none, none, none, none, none]) nd_GM_kernel_31 (by decide) rfl ?_
  refine zl_iload_n (pc := 33) hO 2 nd_GM_kernel_33 rfl rfl ?_
  refine zl_if_ne (pc := 34) hO 139 nd_GM_kernel_34 (by decide) (fun hc => ?_) (fun hc => ?_)
  · have h := ite_f hc h
    refine zl_iconst (pc := 139) hO (v := (-1)) nd_GM_kernel_139 (by decide) ?_
    refine zl_istore (pc := 140) hO (L' := [some (zR 0 0), some (zI a1), some (zI a2), some (zI x1), some (zI r3), some (zI r5), some (zI r7), some (zI (-1)), none, none, none, none]) nd_GM_kernel_140 (by decide) rfl ?_
    refine zl_iload_n (pc := 142) hO 2 nd_GM_kernel_142 rfl rfl ?_
    refine zl_iconst (pc := 143) hO (v := 3) nd_GM_kernel_143 (by decide) ?_
    refine zl_icmp_gt (pc := 144) hO 229 nd_GM_kernel_144 (by decide) (fun hc => ?_) (fun hc => ?_)
    · have h := ite_t hc h
      exact zl_weak (J_229 _ _ _ h) ⟨rfl, ⟨rfl, ⟨rfl, trivial⟩⟩⟩
    · have h := ite_f hc h
      refine zl_iload (pc := 147) hO nd_GM_kernel_147 rfl ?_
      refine zl_if_lt (pc := 149) hO 158 nd_GM_kernel_149 (by decide) (fun hc => ?_) (fun hc => ?_)
      · have h := ite_t hc h
        exact zl_weak (J_158 _ _ h) ⟨rfl, ⟨rfl, trivial⟩⟩
      · have h := ite_f hc h
        refine zl_iload (pc := 152) hO nd_GM_kernel_152 rfl ?_
        refine zl_iconst (pc := 154) hO (v := 2) nd_GM_kernel_154 (by decide) ?_
        refine zl_icmp_le (pc := 155) hO 163 nd_GM_kernel_155 (by decide) (fun hc => ?_) (fun hc => ?_)
        · have h := ite_t hc h
          refine zl_aload_n (pc := 163) hO 0 nd_GM_kernel_163 rfl rfl ?_
          refine zl_iload_n (pc := 164) hO 1 nd_GM_kernel_164 rfl rfl ?_
          refine zl_iload (pc := 165) hO nd_GM_kernel_165 rfl ?_
          obtain ⟨⟨s8, r9⟩, h_167, h⟩ := bn_use h
          refine zl_callVi (pc := 167) hO [zI a1, zI r3] [] (c_GM_ensure hJ h_167) nd_GM_kernel_167 kv_GM_255 rfl (Nat.le_of_ble_eq_true rfl) rfl rfl rfl (Nat.le_of_ble_eq_true rfl) ?_
          refine zl_if_ne (pc := 170) hO 178 nd_GM_kernel_170 (by decide) (fun hc => ?_) (fun hc => ?_)
          · have h := ite_f hc h
            refine zl_iload_n (pc := 178) hO 2 nd_GM_kernel_178 rfl rfl ?_
            refine zl_iconst (pc := 179) hO (v := 1) nd_GM_kernel_179 (by decide) ?_
            refine zl_icmp_ne (pc := 180) hO 197 nd_GM_kernel_180 (by decide) (fun hc => ?_) (fun hc => ?_)
            · have h := ite_f hc h
              refine zl_iload_n (pc := 197) hO 2 nd_GM_kernel_197 rfl rfl ?_
              refine zl_iconst (pc := 198) hO (v := 2) nd_GM_kernel_198 (by decide) ?_
              refine zl_icmp_ne (pc := 199) hO 216 nd_GM_kernel_199 (by decide) (fun hc => ?_) (fun hc => ?_)
              · have h := ite_f hc h
                refine zl_aload_n (pc := 216) hO 0 nd_GM_kernel_216 rfl rfl ?_
                refine zl_iload_n (pc := 217) hO 1 nd_GM_kernel_217 rfl rfl ?_
                refine zl_iload (pc := 218) hO nd_GM_kernel_218 rfl ?_
                refine zl_iload (pc := 220) hO nd_GM_kernel_220 rfl ?_
                refine zl_iload (pc := 222) hO nd_GM_kernel_222 rfl ?_
                obtain ⟨⟨s10, r11⟩, h_224, h⟩ := bn_use h
                refine zl_callVi (pc := 224) hO [zI a1, zI r3, zI r5, zI r7] [] (c_GM_allow hJ h_224) nd_GM_kernel_224 kv_GM_264 rfl (Nat.le_of_ble_eq_true rfl) rfl rfl rfl (Nat.le_of_ble_eq_true rfl) ?_
                exact zl_weak (J_227 _ _ _ h) ⟨rfl, ⟨rfl, trivial⟩⟩
              · have h := ite_t hc h
                refine zl_aload_n (pc := 202) hO 0 nd_GM_kernel_202 rfl rfl ?_
                refine zl_iload_n (pc := 203) hO 1 nd_GM_kernel_203 rfl rfl ?_
                refine zl_iload (pc := 204) hO nd_GM_kernel_204 rfl ?_
                refine zl_iload (pc := 206) hO nd_GM_kernel_206 rfl ?_
                refine zl_iload (pc := 208) hO nd_GM_kernel_208 rfl ?_
                obtain ⟨⟨s12, r13⟩, h_210, h⟩ := bn_use h
                refine zl_callVi (pc := 210) hO [zI a1, zI r3, zI r5, zI r7] [] (c_GM_command hJ h_210) nd_GM_kernel_210 kv_GM_261 rfl (Nat.le_of_ble_eq_true rfl) rfl rfl rfl (Nat.le_of_ble_eq_true rfl) ?_
                refine zl_goto (pc := 213) hO 227 nd_GM_kernel_213 (by decide) ?_
                exact zl_weak (J_227 _ _ _ h) ⟨rfl, ⟨rfl, trivial⟩⟩
            · have h := ite_t hc h
              refine zl_aload_n (pc := 183) hO 0 nd_GM_kernel_183 rfl rfl ?_
              refine zl_iload_n (pc := 184) hO 1 nd_GM_kernel_184 rfl rfl ?_
              refine zl_iload (pc := 185) hO nd_GM_kernel_185 rfl ?_
              refine zl_iload (pc := 187) hO nd_GM_kernel_187 rfl ?_
              refine zl_iload (pc := 189) hO nd_GM_kernel_189 rfl ?_
              obtain ⟨⟨s14, r15⟩, h_191, h⟩ := bn_use h
              refine zl_callVi (pc := 191) hO [zI a1, zI r3, zI r5, zI r7] [] (c_GM_subscribe hJ h_191) nd_GM_kernel_191 kv_GM_258 rfl (Nat.le_of_ble_eq_true rfl) rfl rfl rfl (Nat.le_of_ble_eq_true rfl) ?_
              refine zl_goto (pc := 194) hO 227 nd_GM_kernel_194 (by decide) ?_
              exact zl_weak (J_227 _ _ _ h) ⟨rfl, ⟨rfl, trivial⟩⟩
          · have h := ite_t hc h
            refine zl_bipush (pc := 173) hO (v := (-4)) nd_GM_kernel_173 (by decide) ?_
            refine zl_goto (pc := 175) hO 227 nd_GM_kernel_175 (by decide) ?_
            exact zl_weak (J_227 _ _ _ h) ⟨rfl, ⟨rfl, trivial⟩⟩
        · have h := ite_f hc h
          exact zl_weak (J_158 _ _ h) ⟨rfl, ⟨rfl, trivial⟩⟩
  · have h := ite_t hc h
    refine zl_aload_n (pc := 37) hO 0 nd_GM_kernel_37 rfl rfl ?_
    refine zl_iload_n (pc := 38) hO 1 nd_GM_kernel_38 rfl rfl ?_
    obtain ⟨⟨s16, r17⟩, h_39, h⟩ := bn_use h
    refine zl_callVi (pc := 39) hO [zI a1] [] (c_GM_oldest hJ h_39) nd_GM_kernel_39 kv_GM_249 rfl (Nat.le_of_ble_eq_true rfl) rfl rfl rfl (Nat.le_of_ble_eq_true rfl) ?_
    refine zl_istore (pc := 42) hO (L' := [some (zR 0 0), some (zI a1), some (zI a2), some (zI x1), some (zI r3), some (zI r5), some (zI r7), some (zI r17), none, none, none, none]) nd_GM_kernel_42 (by decide) rfl ?_
    refine zl_iload (pc := 44) hO nd_GM_kernel_44 rfl ?_
    refine zl_if_ge (pc := 46) hO 59 nd_GM_kernel_46 (by decide) (fun hc => ?_) (fun hc => ?_)
    · have h := ite_t hc h
      refine zl_aload_n (pc := 59) hO 0 nd_GM_kernel_59 rfl rfl ?_
      refine zl_get0 (pc := 60) hO nd_GM_kernel_60 kf_GM_90 rfl (Nat.le_of_ble_eq_true rfl) rfl ?_
      refine zl_iload (pc := 63) hO nd_GM_kernel_63 rfl ?_
      obtain ⟨c_in65, h⟩ := ck_use h
      refine zl_iald (pc := 65) hO nd_GM_kernel_65 rfl rfl (Nat.le_of_ble_eq_true rfl) c_in65 ?_
      obtain ⟨x18, e_x18, h⟩ := lt_use h
      refine zl_top e_x18 ?_
      refine zl_istore (pc := 66) hO (L' := [some (zR 0 0), some (zI a1), some (zI a2), some (zI x1), some (zI r3), some (zI r5), some (zI r7), some (zI r17), some (zI x18), none, none, none]) nd_GM_kernel_66 (by decide) rfl ?_
      refine zl_aload_n (pc := 68) hO 0 nd_GM_kernel_68 rfl rfl ?_
      refine zl_get0 (pc := 69) hO nd_GM_kernel_69 kf_GM_93 rfl (Nat.le_of_ble_eq_true rfl) rfl ?_
      refine zl_iload (pc := 72) hO nd_GM_kernel_72 rfl ?_
      obtain ⟨c_in74, h⟩ := ck_use h
      refine zl_iald (pc := 74) hO nd_GM_kernel_74 rfl rfl (Nat.le_of_ble_eq_true rfl) c_in74 ?_
      obtain ⟨x19, e_x19, h⟩ := lt_use h
      refine zl_top e_x19 ?_
      refine zl_istore (pc := 75) hO (L' := [some (zR 0 0), some (zI a1), some (zI a2), some (zI x1), some (zI r3), some (zI r5), some (zI r7), some (zI r17), some (zI x18), some (zI x19), none, none]) nd_GM_kernel_75 (by decide) rfl ?_
      refine zl_aload_n (pc := 77) hO 0 nd_GM_kernel_77 rfl rfl ?_
      refine zl_get0 (pc := 78) hO nd_GM_kernel_78 kf_GM_96 rfl (Nat.le_of_ble_eq_true rfl) rfl ?_
      refine zl_iload (pc := 81) hO nd_GM_kernel_81 rfl ?_
      obtain ⟨c_in83, h⟩ := ck_use h
      refine zl_iald (pc := 83) hO nd_GM_kernel_83 rfl rfl (Nat.le_of_ble_eq_true rfl) c_in83 ?_
      obtain ⟨x20, e_x20, h⟩ := lt_use h
      refine zl_top e_x20 ?_
      refine zl_istore (pc := 84) hO (L' := [some (zR 0 0), some (zI a1), some (zI a2), some (zI x1), some (zI r3), some (zI r5), some (zI r7), some (zI r17), some (zI x18), some (zI x19), some (zI x20), none]) nd_GM_kernel_84 (by decide) rfl ?_
      refine zl_iload (pc := 86) hO nd_GM_kernel_86 rfl ?_
      refine zl_iconst (pc := 88) hO (v := 1) nd_GM_kernel_88 (by decide) ?_
      refine zl_iadd (pc := 89) hO nd_GM_kernel_89 ?_
      obtain ⟨x21, e_x21, h⟩ := lt_use h
      refine zl_top e_x21 ?_
      refine zl_istore (pc := 90) hO (L' := [some (zR 0 0), some (zI a1), some (zI a2), some (zI x1), some (zI r3), some (zI r5), some (zI r7), some (zI r17), some (zI x18), some (zI x19), some (zI x20), some (zI x21)]) nd_GM_kernel_90 (by decide) rfl ?_
      exact zl_weak (J_92 FU _ _ _ _ _ h) ⟨rfl, ⟨rfl, ⟨rfl, ⟨rfl, ⟨rfl, ⟨rfl, trivial⟩⟩⟩⟩⟩⟩
    · have h := ite_f hc h
      refine zl_aload_n (pc := 49) hO 0 nd_GM_kernel_49 rfl rfl ?_
      refine zl_get0 (pc := 50) hO nd_GM_kernel_50 kf_GM_41 rfl (Nat.le_of_ble_eq_true rfl) rfl ?_
      refine zl_iload_n (pc := 53) hO 1 nd_GM_kernel_53 rfl rfl ?_
      refine zl_iconst (pc := 54) hO (v := 1) nd_GM_kernel_54 (by decide) ?_
      obtain ⟨c_in55, h⟩ := ck_use h
      refine zl_iast (pc := 55) hO nd_GM_kernel_55 rfl rfl (Nat.le_of_ble_eq_true rfl) c_in55 ?_
      obtain ⟨s22, e_s22, h⟩ := lt_use h
      refine zl_sg e_s22 ?_
      refine zl_goto (pc := 56) hO 138 nd_GM_kernel_56 (by decide) ?_
      exact zl_vret (pc := 138) hO nd_GM_kernel_138 rfl (zr_v h)
set_option maxHeartbeats 4000000 in
set_option maxRecDepth 100000 in
theorem c_GM_branch {l : Launch} {V : zG} (hJ : zJ0 (sM l V)) {s0 : zS} {a1 : Int32} {a2 : Int32}  {s1 : zS} (h : k_GM_branch s0 a1 a2 = some s1) : zM (sM l V) md_GM_branch [zR 0 0, zI a1, zI a2] s0 (s1, none) := by
  refine zMet [some (zR 0 0), some (zI a1), some (zI a2), none, none] hJ (by decide) rfl (Nat.le_of_ble_eq_true rfl) rfl ?_
  intro X hO
  have J_102 : ∀ (s0 : zS) (t0 : Int32) (t1 : Int32) (t2 : Int32), k_GM_branch_102 a1 a2 s0 t0 t1 t2 = some s1 → ZW (sM l V) md_GM_branch (s1, none) X 102 [none, none, none, none, none] [zI t0, zI t1, zI t2, zR 0 0] s0 := by
    intro s0 t0 t1 t2 h
    unfold k_GM_branch_102 at h
    refine zl_imul (pc := 102) hO nd_GM_branch_102 ?_
    refine zl_iadd (pc := 103) hO nd_GM_branch_103 ?_
    refine zl_puti (pc := 104) hO nd_GM_branch_104 kp_GM_199 rfl (Nat.le_of_ble_eq_true rfl) rfl ?_
    obtain ⟨s8, e_s8, h⟩ := lt_use h
    refine zl_sg e_s8 ?_
    exact zl_vret (pc := 107) hO nd_GM_branch_107 rfl (zr_v h)
  unfold k_GM_branch at h
  refine zl_iload_n (pc := 0) hO 2 nd_GM_branch_0 rfl rfl ?_
  refine zl_bipush (pc := 1) hO (v := 8) nd_GM_branch_1 (by decide) ?_
  refine zl_ishr (pc := 3) hO nd_GM_branch_3 ?_
  refine zl_bipush (pc := 4) hO (v := 15) nd_GM_branch_4 (by decide) ?_
  refine zl_iand (pc := 6) hO nd_GM_branch_6 ?_
  obtain ⟨x1, e_x1, h⟩ := lt_use h
  refine zl_top e_x1 ?_
  refine zl_istore_n (pc := 7) hO 3 (L' := [some (zR 0 0), some (zI a1), some (zI a2), some (zI x1), none]) nd_GM_branch_7 rfl (by decide) rfl ?_
  refine zl_iload_n (pc := 8) hO 2 nd_GM_branch_8 rfl rfl ?_
  refine zl_sipush (pc := 9) hO (v := 255) nd_GM_branch_9 (by decide) ?_
  refine zl_iand (pc := 12) hO nd_GM_branch_12 ?_
  obtain ⟨x2, e_x2, h⟩ := lt_use h
  refine zl_top e_x2 ?_
  refine zl_istore (pc := 13) hO (L' := [some (zR 0 0), some (zI a1), some (zI a2), some (zI x1), some (zI x2)]) nd_GM_branch_13 (by decide) rfl ?_
  refine zl_iload_n (pc := 15) hO 3 nd_GM_branch_15 rfl rfl ?_
  refine zl_bipush (pc := 16) hO (v := 14) nd_GM_branch_16 (by decide) ?_
  refine zl_icmp_ne (pc := 18) hO 29 nd_GM_branch_18 (by decide) (fun hc => ?_) (fun hc => ?_)
  · have h := ite_f hc h
    refine zl_iload_n (pc := 29) hO 3 nd_GM_branch_29 rfl rfl ?_
    refine zl_bipush (pc := 30) hO (v := 15) nd_GM_branch_30 (by decide) ?_
    refine zl_icmp_ne (pc := 32) hO 65 nd_GM_branch_32 (by decide) (fun hc => ?_) (fun hc => ?_)
    · have h := ite_f hc h
      refine zl_aload_n (pc := 65) hO 0 nd_GM_branch_65 rfl rfl ?_
      refine zl_iload_n (pc := 66) hO 1 nd_GM_branch_66 rfl rfl ?_
      refine zl_iload_n (pc := 67) hO 3 nd_GM_branch_67 rfl rfl ?_
      obtain ⟨⟨s3, r4⟩, h_68, h⟩ := bn_use h
      refine zl_callVi (pc := 68) hO [zI a1, zI x1] [] (c_GM_holds hJ h_68) nd_GM_branch_68 kv_GM_211 rfl (Nat.le_of_ble_eq_true rfl) rfl rfl rfl (Nat.le_of_ble_eq_true rfl) ?_
      refine zl_if_eq (pc := 71) hO 107 nd_GM_branch_71 (by decide) (fun hc => ?_) (fun hc => ?_)
      · have h := ite_t hc h
        exact zl_vret (pc := 107) hO nd_GM_branch_107 rfl (zr_v h)
      · have h := ite_f hc h
        refine zl_aload_n (pc := 74) hO 0 nd_GM_branch_74 rfl rfl ?_
        refine zl_aload_n (pc := 75) hO 0 nd_GM_branch_75 rfl rfl ?_
        refine zl_get0 (pc := 76) hO nd_GM_branch_76 kf_GM_53 rfl (Nat.le_of_ble_eq_true rfl) rfl ?_
        refine zl_iload_n (pc := 79) hO 1 nd_GM_branch_79 rfl rfl ?_
        obtain ⟨c_in80, h⟩ := ck_use h
        refine zl_iald (pc := 80) hO nd_GM_branch_80 rfl rfl (Nat.le_of_ble_eq_true rfl) c_in80 ?_
        refine zl_iconst (pc := 81) hO (v := 4) nd_GM_branch_81 (by decide) ?_
        refine zl_iadd (pc := 82) hO nd_GM_branch_82 ?_
        refine zl_iconst (pc := 83) hO (v := 2) nd_GM_branch_83 (by decide) ?_
        refine zl_iload (pc := 84) hO nd_GM_branch_84 rfl ?_
        refine zl_bipush (pc := 86) hO (v := 127) nd_GM_branch_86 (by decide) ?_
        refine zl_icmp_le (pc := 88) hO 100 nd_GM_branch_88 (by decide) (fun hc => ?_) (fun hc => ?_)
        · have h := ite_t hc h
          refine zl_iload (pc := 100) hO nd_GM_branch_100 rfl ?_
          exact zl_weak (J_102 _ _ _ _ h) trivial
        · have h := ite_f hc h
          refine zl_iload (pc := 91) hO nd_GM_branch_91 rfl ?_
          refine zl_sipush (pc := 93) hO (v := 256) nd_GM_branch_93 (by decide) ?_
          refine zl_isub (pc := 96) hO nd_GM_branch_96 ?_
          refine zl_goto (pc := 97) hO 102 nd_GM_branch_97 (by decide) ?_
          exact zl_weak (J_102 _ _ _ _ h) trivial
    · have h := ite_t hc h
      refine zl_aload_n (pc := 35) hO 0 nd_GM_branch_35 rfl rfl ?_
      refine zl_iload_n (pc := 36) hO 1 nd_GM_branch_36 rfl rfl ?_
      refine zl_aload_n (pc := 37) hO 0 nd_GM_branch_37 rfl rfl ?_
      refine zl_get0 (pc := 38) hO nd_GM_branch_38 kf_GM_53 rfl (Nat.le_of_ble_eq_true rfl) rfl ?_
      refine zl_iload_n (pc := 41) hO 1 nd_GM_branch_41 rfl rfl ?_
      obtain ⟨c_in42, h⟩ := ck_use h
      refine zl_iald (pc := 42) hO nd_GM_branch_42 rfl rfl (Nat.le_of_ble_eq_true rfl) c_in42 ?_
      refine zl_iconst (pc := 43) hO (v := 2) nd_GM_branch_43 (by decide) ?_
      refine zl_iadd (pc := 44) hO nd_GM_branch_44 ?_
      obtain ⟨s5, h_45, h⟩ := bn_use h
      refine zl_callVv (pc := 45) hO [zI a1, zI ((s0 14 0 a1.toNatClampNeg) + (2 : Int32))] [] (c_GM_stack hJ h_45) nd_GM_branch_45 kv_GM_205 rfl (Nat.le_of_ble_eq_true rfl) rfl rfl rfl (Nat.le_of_ble_eq_true rfl) ?_
      refine zl_aload_n (pc := 48) hO 0 nd_GM_branch_48 rfl rfl ?_
      refine zl_geti (pc := 49) hO nd_GM_branch_49 kf_GM_161 rfl (Nat.le_of_ble_eq_true rfl) rfl ?_
      refine zl_if_ne (pc := 52) hO 107 nd_GM_branch_52 (by decide) (fun hc => ?_) (fun hc => ?_)
      · have h := ite_f hc h
        exact zl_vret (pc := 107) hO nd_GM_branch_107 rfl (zr_v h)
      · have h := ite_t hc h
        refine zl_aload_n (pc := 55) hO 0 nd_GM_branch_55 rfl rfl ?_
        refine zl_iload_n (pc := 56) hO 1 nd_GM_branch_56 rfl rfl ?_
        refine zl_iload (pc := 57) hO nd_GM_branch_57 rfl ?_
        obtain ⟨s6, h_59, h⟩ := bn_use h
        refine zl_callVv (pc := 59) hO [zI a1, zI x2] [] (c_GM_kernel hJ h_59) nd_GM_branch_59 kv_GM_208 rfl (Nat.le_of_ble_eq_true rfl) rfl rfl rfl (Nat.le_of_ble_eq_true rfl) ?_
        refine zl_goto (pc := 62) hO 107 nd_GM_branch_62 (by decide) ?_
        exact zl_vret (pc := 107) hO nd_GM_branch_107 rfl (zr_v h)
  · have h := ite_t hc h
    refine zl_aload_n (pc := 21) hO 0 nd_GM_branch_21 rfl rfl ?_
    refine zl_iconst (pc := 22) hO (v := 2) nd_GM_branch_22 (by decide) ?_
    refine zl_puti (pc := 23) hO nd_GM_branch_23 kp_GM_161 rfl (Nat.le_of_ble_eq_true rfl) rfl ?_
    obtain ⟨s7, e_s7, h⟩ := lt_use h
    refine zl_sg e_s7 ?_
    refine zl_goto (pc := 26) hO 107 nd_GM_branch_26 (by decide) ?_
    exact zl_vret (pc := 107) hO nd_GM_branch_107 rfl (zr_v h)
set_option maxHeartbeats 4000000 in
set_option maxRecDepth 100000 in
theorem c_GM_stackWord {l : Launch} {V : zG} (hJ : zJ0 (sM l V)) {s0 : zS} {a1 : Int32} {a2 : Int32}  {s1 : zS} (h : k_GM_stackWord s0 a1 a2 = some s1) : zM (sM l V) md_GM_stackWord [zR 0 0, zI a1, zI a2] s0 (s1, none) := by
  refine zMet [some (zR 0 0), some (zI a1), some (zI a2), none, none, none] hJ (by decide) rfl (Nat.le_of_ble_eq_true rfl) rfl ?_
  intro X hO
  have J_92 : ∀ (s0 : zS) (t0 : Int32) (t1 : Int32) (t2 : Int32) (t3 : Int32), k_GM_stackWord_92 a1 a2 s0 t0 t1 t2 t3 = some s1 → ZW (sM l V) md_GM_stackWord (s1, none) X 92 [none, none, none, none, none, none] [zI t0, zI t1, zI t2, zI t3, zR 0 0] s0 := by
    intro s0 t0 t1 t2 t3 h
    unfold k_GM_stackWord_92 at h
    obtain ⟨s10, h_92, h⟩ := bn_use h
    refine zl_callVv (pc := 92) hO [zI t3, zI t2, zI t1, zI t0] [] (c_GM_access hJ h_92) nd_GM_stackWord_92 kv_GM_214 rfl (Nat.le_of_ble_eq_true rfl) rfl rfl rfl (Nat.le_of_ble_eq_true rfl) ?_
    refine zl_goto (pc := 95) hO 225 nd_GM_stackWord_95 (by decide) ?_
    exact zl_vret (pc := 225) hO nd_GM_stackWord_225 rfl (zr_v h)
  have J_66 : ∀ (s0 : zS) (l3 : Int32) (l4 : Int32) (l5 : Int32), k_GM_stackWord_66 a1 a2 s0 l3 l4 l5 = some s1 → ZW (sM l V) md_GM_stackWord (s1, none) X 66 [some (zR 0 0), some (zI a1), none, some (zI l3), some (zI l4), some (zI l5)] [] s0 := by
    intro s0 l3 l4 l5 h
    unfold k_GM_stackWord_66 at h
    refine zl_aload_n (pc := 66) hO 0 nd_GM_stackWord_66 rfl rfl ?_
    refine zl_iload_n (pc := 67) hO 1 nd_GM_stackWord_67 rfl rfl ?_
    refine zl_iload (pc := 68) hO nd_GM_stackWord_68 rfl ?_
    refine zl_aload_n (pc := 70) hO 0 nd_GM_stackWord_70 rfl rfl ?_
    refine zl_get0 (pc := 71) hO nd_GM_stackWord_71 kf_GM_47 rfl (Nat.le_of_ble_eq_true rfl) rfl ?_
    refine zl_iload_n (pc := 74) hO 1 nd_GM_stackWord_74 rfl rfl ?_
    obtain ⟨c_in75, h⟩ := ck_use h
    refine zl_iald (pc := 75) hO nd_GM_stackWord_75 rfl rfl (Nat.le_of_ble_eq_true rfl) c_in75 ?_
    refine zl_iconst (pc := 76) hO (v := 4) nd_GM_stackWord_76 (by decide) ?_
    refine zl_iload (pc := 77) hO nd_GM_stackWord_77 rfl ?_
    refine zl_imul (pc := 79) hO nd_GM_stackWord_79 ?_
    refine zl_iadd (pc := 80) hO nd_GM_stackWord_80 ?_
    refine zl_iload_n (pc := 81) hO 3 nd_GM_stackWord_81 rfl rfl ?_
    refine zl_bipush (pc := 82) hO (v := 18) nd_GM_stackWord_82 (by decide) ?_
    refine zl_icmp_ne (pc := 84) hO 91 nd_GM_stackWord_84 (by decide) (fun hc => ?_) (fun hc => ?_)
    · have h := ite_f hc h
      refine zl_iconst (pc := 91) hO (v := 0) nd_GM_stackWord_91 (by decide) ?_
      exact zl_weak (J_92 _ _ _ _ _ h) trivial
    · have h := ite_t hc h
      refine zl_iconst (pc := 87) hO (v := 1) nd_GM_stackWord_87 (by decide) ?_
      refine zl_goto (pc := 88) hO 92 nd_GM_stackWord_88 (by decide) ?_
      exact zl_weak (J_92 _ _ _ _ _ h) trivial
  have J_171 : ∀ (s0 : zS) (t0 : Int32) (t1 : Int32) (t2 : Int32), k_GM_stackWord_171 a1 a2 s0 t0 t1 t2 = some s1 → ZW (sM l V) md_GM_stackWord (s1, none) X 171 [none, none, none, none, none, none] [zI t0, zI t1, zI t2, zR 12 0] s0 := by
    intro s0 t0 t1 t2 h
    unfold k_GM_stackWord_171 at h
    refine zl_iadd (pc := 171) hO nd_GM_stackWord_171 ?_
    obtain ⟨c_in172, h⟩ := ck_use h
    refine zl_iast (pc := 172) hO nd_GM_stackWord_172 rfl rfl (Nat.le_of_ble_eq_true rfl) c_in172 ?_
    obtain ⟨s9, e_s9, h⟩ := lt_use h
    refine zl_sg e_s9 ?_
    refine zl_goto (pc := 173) hO 225 nd_GM_stackWord_173 (by decide) ?_
    exact zl_vret (pc := 225) hO nd_GM_stackWord_225 rfl (zr_v h)
  unfold k_GM_stackWord at h
  refine zl_iload_n (pc := 0) hO 2 nd_GM_stackWord_0 rfl rfl ?_
  refine zl_bipush (pc := 1) hO (v := 11) nd_GM_stackWord_1 (by decide) ?_
  refine zl_ishr (pc := 3) hO nd_GM_stackWord_3 ?_
  obtain ⟨x1, e_x1, h⟩ := lt_use h
  refine zl_top e_x1 ?_
  refine zl_istore_n (pc := 4) hO 3 (L' := [some (zR 0 0), some (zI a1), some (zI a2), some (zI x1), none, none]) nd_GM_stackWord_4 rfl (by decide) rfl ?_
  refine zl_iload_n (pc := 5) hO 2 nd_GM_stackWord_5 rfl rfl ?_
  refine zl_bipush (pc := 6) hO (v := 8) nd_GM_stackWord_6 (by decide) ?_
  refine zl_ishr (pc := 8) hO nd_GM_stackWord_8 ?_
  refine zl_bipush (pc := 9) hO (v := 7) nd_GM_stackWord_9 (by decide) ?_
  refine zl_iand (pc := 11) hO nd_GM_stackWord_11 ?_
  obtain ⟨x2, e_x2, h⟩ := lt_use h
  refine zl_top e_x2 ?_
  refine zl_istore (pc := 12) hO (L' := [some (zR 0 0), some (zI a1), some (zI a2), some (zI x1), some (zI x2), none]) nd_GM_stackWord_12 (by decide) rfl ?_
  refine zl_iload_n (pc := 14) hO 2 nd_GM_stackWord_14 rfl rfl ?_
  refine zl_sipush (pc := 15) hO (v := 255) nd_GM_stackWord_15 (by decide) ?_
  refine zl_iand (pc := 18) hO nd_GM_stackWord_18 ?_
  obtain ⟨x3, e_x3, h⟩ := lt_use h
  refine zl_top e_x3 ?_
  refine zl_istore (pc := 19) hO (L' := [some (zR 0 0), some (zI a1), some (zI a2), some (zI x1), some (zI x2), some (zI x3)]) nd_GM_stackWord_19 (by decide) rfl ?_
  refine zl_iload_n (pc := 21) hO 3 nd_GM_stackWord_21 rfl rfl ?_
  refine zl_bipush (pc := 22) hO (v := 9) nd_GM_stackWord_22 (by decide) ?_
  refine zl_icmp_ne (pc := 24) hO 54 nd_GM_stackWord_24 (by decide) (fun hc => ?_) (fun hc => ?_)
  · have h := ite_f hc h
    refine zl_iload_n (pc := 54) hO 3 nd_GM_stackWord_54 rfl rfl ?_
    refine zl_bipush (pc := 55) hO (v := 18) nd_GM_stackWord_55 (by decide) ?_
    refine zl_icmp_eq (pc := 57) hO 66 nd_GM_stackWord_57 (by decide) (fun hc => ?_) (fun hc => ?_)
    · have h := ite_t hc h
      exact zl_weak (J_66 _ _ _ _ h) ⟨rfl, ⟨rfl, ⟨rfl, ⟨rfl, ⟨rfl, trivial⟩⟩⟩⟩⟩
    · have h := ite_f hc h
      refine zl_iload_n (pc := 60) hO 3 nd_GM_stackWord_60 rfl rfl ?_
      refine zl_bipush (pc := 61) hO (v := 19) nd_GM_stackWord_61 (by decide) ?_
      refine zl_icmp_ne (pc := 63) hO 98 nd_GM_stackWord_63 (by decide) (fun hc => ?_) (fun hc => ?_)
      · have h := ite_f hc h
        refine zl_iload_n (pc := 98) hO 3 nd_GM_stackWord_98 rfl rfl ?_
        refine zl_bipush (pc := 99) hO (v := 21) nd_GM_stackWord_99 (by decide) ?_
        refine zl_icmp_ne (pc := 101) hO 130 nd_GM_stackWord_101 (by decide) (fun hc => ?_) (fun hc => ?_)
        · have h := ite_f hc h
          refine zl_iload_n (pc := 130) hO 2 nd_GM_stackWord_130 rfl rfl ?_
          refine zl_bipush (pc := 131) hO (v := 8) nd_GM_stackWord_131 (by decide) ?_
          refine zl_ishr (pc := 133) hO nd_GM_stackWord_133 ?_
          refine zl_sipush (pc := 134) hO (v := 176) nd_GM_stackWord_134 (by decide) ?_
          refine zl_icmp_ne (pc := 137) hO 176 nd_GM_stackWord_137 (by decide) (fun hc => ?_) (fun hc => ?_)
          · have h := ite_f hc h
            refine zl_iload_n (pc := 176) hO 2 nd_GM_stackWord_176 rfl rfl ?_
            refine zl_bipush (pc := 177) hO (v := 9) nd_GM_stackWord_177 (by decide) ?_
            refine zl_ishr (pc := 179) hO nd_GM_stackWord_179 ?_
            refine zl_bipush (pc := 180) hO (v := 90) nd_GM_stackWord_180 (by decide) ?_
            refine zl_icmp_ne (pc := 182) hO 198 nd_GM_stackWord_182 (by decide) (fun hc => ?_) (fun hc => ?_)
            · have h := ite_f hc h
              refine zl_iload_n (pc := 198) hO 2 nd_GM_stackWord_198 rfl rfl ?_
              refine zl_bipush (pc := 199) hO (v := 9) nd_GM_stackWord_199 (by decide) ?_
              refine zl_ishr (pc := 201) hO nd_GM_stackWord_201 ?_
              refine zl_bipush (pc := 202) hO (v := 94) nd_GM_stackWord_202 (by decide) ?_
              refine zl_icmp_ne (pc := 204) hO 220 nd_GM_stackWord_204 (by decide) (fun hc => ?_) (fun hc => ?_)
              · have h := ite_f hc h
                refine zl_aload_n (pc := 220) hO 0 nd_GM_stackWord_220 rfl rfl ?_
                refine zl_iconst (pc := 221) hO (v := 2) nd_GM_stackWord_221 (by decide) ?_
                refine zl_puti (pc := 222) hO nd_GM_stackWord_222 kp_GM_161 rfl (Nat.le_of_ble_eq_true rfl) rfl ?_
                obtain ⟨s4, e_s4, h⟩ := lt_use h
                refine zl_sg e_s4 ?_
                exact zl_vret (pc := 225) hO nd_GM_stackWord_225 rfl (zr_v h)
              · have h := ite_t hc h
                refine zl_aload_n (pc := 207) hO 0 nd_GM_stackWord_207 rfl rfl ?_
                refine zl_iload_n (pc := 208) hO 1 nd_GM_stackWord_208 rfl rfl ?_
                refine zl_iload_n (pc := 209) hO 2 nd_GM_stackWord_209 rfl rfl ?_
                refine zl_sipush (pc := 210) hO (v := 511) nd_GM_stackWord_210 (by decide) ?_
                refine zl_iand (pc := 213) hO nd_GM_stackWord_213 ?_
                obtain ⟨s5, h_214, h⟩ := bn_use h
                refine zl_callVv (pc := 214) hO [zI a1, zI (a2 &&& (511 : Int32))] [] (c_GM_pop hJ h_214) nd_GM_stackWord_214 kv_GM_221 rfl (Nat.le_of_ble_eq_true rfl) rfl rfl rfl (Nat.le_of_ble_eq_true rfl) ?_
                refine zl_goto (pc := 217) hO 225 nd_GM_stackWord_217 (by decide) ?_
                exact zl_vret (pc := 225) hO nd_GM_stackWord_225 rfl (zr_v h)
            · have h := ite_t hc h
              refine zl_aload_n (pc := 185) hO 0 nd_GM_stackWord_185 rfl rfl ?_
              refine zl_iload_n (pc := 186) hO 1 nd_GM_stackWord_186 rfl rfl ?_
              refine zl_iload_n (pc := 187) hO 2 nd_GM_stackWord_187 rfl rfl ?_
              refine zl_sipush (pc := 188) hO (v := 511) nd_GM_stackWord_188 (by decide) ?_
              refine zl_iand (pc := 191) hO nd_GM_stackWord_191 ?_
              obtain ⟨s6, h_192, h⟩ := bn_use h
              refine zl_callVv (pc := 192) hO [zI a1, zI (a2 &&& (511 : Int32))] [] (c_GM_push hJ h_192) nd_GM_stackWord_192 kv_GM_218 rfl (Nat.le_of_ble_eq_true rfl) rfl rfl rfl (Nat.le_of_ble_eq_true rfl) ?_
              refine zl_goto (pc := 195) hO 225 nd_GM_stackWord_195 (by decide) ?_
              exact zl_vret (pc := 225) hO nd_GM_stackWord_225 rfl (zr_v h)
          · have h := ite_t hc h
            refine zl_aload_n (pc := 140) hO 0 nd_GM_stackWord_140 rfl rfl ?_
            refine zl_get0 (pc := 141) hO nd_GM_stackWord_141 kf_GM_47 rfl (Nat.le_of_ble_eq_true rfl) rfl ?_
            refine zl_iload_n (pc := 144) hO 1 nd_GM_stackWord_144 rfl rfl ?_
            refine zl_dup2 (pc := 145) hO nd_GM_stackWord_145 rfl rfl ?_
            obtain ⟨c_in146, h⟩ := ck_use h
            refine zl_iald (pc := 146) hO nd_GM_stackWord_146 rfl rfl (Nat.le_of_ble_eq_true rfl) c_in146 ?_
            refine zl_iload_n (pc := 147) hO 2 nd_GM_stackWord_147 rfl rfl ?_
            refine zl_sipush (pc := 148) hO (v := 128) nd_GM_stackWord_148 (by decide) ?_
            refine zl_iand (pc := 151) hO nd_GM_stackWord_151 ?_
            refine zl_if_eq (pc := 152) hO 165 nd_GM_stackWord_152 (by decide) (fun hc => ?_) (fun hc => ?_)
            · have h := ite_t hc h
              refine zl_iconst (pc := 165) hO (v := 4) nd_GM_stackWord_165 (by decide) ?_
              refine zl_iload_n (pc := 166) hO 2 nd_GM_stackWord_166 rfl rfl ?_
              refine zl_bipush (pc := 167) hO (v := 127) nd_GM_stackWord_167 (by decide) ?_
              refine zl_iand (pc := 169) hO nd_GM_stackWord_169 ?_
              refine zl_imul (pc := 170) hO nd_GM_stackWord_170 ?_
              exact zl_weak (J_171 _ _ _ _ h) trivial
            · have h := ite_f hc h
              refine zl_bipush (pc := 155) hO (v := (-4)) nd_GM_stackWord_155 (by decide) ?_
              refine zl_iload_n (pc := 157) hO 2 nd_GM_stackWord_157 rfl rfl ?_
              refine zl_bipush (pc := 158) hO (v := 127) nd_GM_stackWord_158 (by decide) ?_
              refine zl_iand (pc := 160) hO nd_GM_stackWord_160 ?_
              refine zl_imul (pc := 161) hO nd_GM_stackWord_161 ?_
              refine zl_goto (pc := 162) hO 171 nd_GM_stackWord_162 (by decide) ?_
              exact zl_weak (J_171 _ _ _ _ h) trivial
        · have h := ite_t hc h
          refine zl_aload_n (pc := 104) hO 0 nd_GM_stackWord_104 rfl rfl ?_
          refine zl_get0 (pc := 105) hO nd_GM_stackWord_105 kf_GM_44 rfl (Nat.le_of_ble_eq_true rfl) rfl ?_
          refine zl_bipush (pc := 108) hO (v := 8) nd_GM_stackWord_108 (by decide) ?_
          refine zl_iload_n (pc := 110) hO 1 nd_GM_stackWord_110 rfl rfl ?_
          refine zl_imul (pc := 111) hO nd_GM_stackWord_111 ?_
          refine zl_iload (pc := 112) hO nd_GM_stackWord_112 rfl ?_
          refine zl_iadd (pc := 114) hO nd_GM_stackWord_114 ?_
          refine zl_aload_n (pc := 115) hO 0 nd_GM_stackWord_115 rfl rfl ?_
          refine zl_get0 (pc := 116) hO nd_GM_stackWord_116 kf_GM_47 rfl (Nat.le_of_ble_eq_true rfl) rfl ?_
          refine zl_iload_n (pc := 119) hO 1 nd_GM_stackWord_119 rfl rfl ?_
          obtain ⟨c_in120, h⟩ := ck_use h
          refine zl_iald (pc := 120) hO nd_GM_stackWord_120 rfl rfl (Nat.le_of_ble_eq_true rfl) c_in120 ?_
          refine zl_iconst (pc := 121) hO (v := 4) nd_GM_stackWord_121 (by decide) ?_
          refine zl_iload (pc := 122) hO nd_GM_stackWord_122 rfl ?_
          refine zl_imul (pc := 124) hO nd_GM_stackWord_124 ?_
          refine zl_iadd (pc := 125) hO nd_GM_stackWord_125 ?_
          obtain ⟨c_in126, h⟩ := ck_use h
          refine zl_iast (pc := 126) hO nd_GM_stackWord_126 rfl rfl (Nat.le_of_ble_eq_true rfl) c_in126 ?_
          obtain ⟨s7, e_s7, h⟩ := lt_use h
          refine zl_sg e_s7 ?_
          refine zl_goto (pc := 127) hO 225 nd_GM_stackWord_127 (by decide) ?_
          exact zl_vret (pc := 225) hO nd_GM_stackWord_225 rfl (zr_v h)
      · have h := ite_t hc h
        exact zl_weak (J_66 _ _ _ _ h) ⟨rfl, ⟨rfl, ⟨rfl, ⟨rfl, ⟨rfl, trivial⟩⟩⟩⟩⟩
  · have h := ite_t hc h
    refine zl_aload_n (pc := 27) hO 0 nd_GM_stackWord_27 rfl rfl ?_
    refine zl_iload_n (pc := 28) hO 1 nd_GM_stackWord_28 rfl rfl ?_
    refine zl_iload (pc := 29) hO nd_GM_stackWord_29 rfl ?_
    refine zl_aload_n (pc := 31) hO 0 nd_GM_stackWord_31 rfl rfl ?_
    refine zl_get0 (pc := 32) hO nd_GM_stackWord_32 kf_GM_53 rfl (Nat.le_of_ble_eq_true rfl) rfl ?_
    refine zl_iload_n (pc := 35) hO 1 nd_GM_stackWord_35 rfl rfl ?_
    obtain ⟨c_in36, h⟩ := ck_use h
    refine zl_iald (pc := 36) hO nd_GM_stackWord_36 rfl rfl (Nat.le_of_ble_eq_true rfl) c_in36 ?_
    refine zl_iconst (pc := 37) hO (v := 4) nd_GM_stackWord_37 (by decide) ?_
    refine zl_iadd (pc := 38) hO nd_GM_stackWord_38 ?_
    refine zl_bipush (pc := 39) hO (v := (-4)) nd_GM_stackWord_39 (by decide) ?_
    refine zl_iand (pc := 41) hO nd_GM_stackWord_41 ?_
    refine zl_iconst (pc := 42) hO (v := 4) nd_GM_stackWord_42 (by decide) ?_
    refine zl_iload (pc := 43) hO nd_GM_stackWord_43 rfl ?_
    refine zl_imul (pc := 45) hO nd_GM_stackWord_45 ?_
    refine zl_iadd (pc := 46) hO nd_GM_stackWord_46 ?_
    refine zl_iconst (pc := 47) hO (v := 0) nd_GM_stackWord_47 (by decide) ?_
    obtain ⟨s8, h_48, h⟩ := bn_use h
    refine zl_callVv (pc := 48) hO [zI a1, zI x2, zI ((((s0 14 0 a1.toNatClampNeg) + (4 : Int32)) &&& (-4 : Int32)) + ((4 : Int32) * x3)), zI 0] [] (c_GM_access hJ h_48) nd_GM_stackWord_48 kv_GM_214 rfl (Nat.le_of_ble_eq_true rfl) rfl rfl rfl (Nat.le_of_ble_eq_true rfl) ?_
    refine zl_goto (pc := 51) hO 225 nd_GM_stackWord_51 (by decide) ?_
    exact zl_vret (pc := 225) hO nd_GM_stackWord_225 rfl (zr_v h)
