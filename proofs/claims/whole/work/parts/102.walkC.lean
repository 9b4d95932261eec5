set_option maxHeartbeats 4000000 in
set_option maxRecDepth 100000 in
theorem c_Pr_rotate {l : Launch} {V : zG} (hJ : zJ0 (sC l V)) {s0 : zS} {a1 : Nat} {a2 : Int32} {a3 : Int32} (b_a1 : a1 < 4) {s1 : zS} {v1 : Int32} (h : k_Pr_rotate s0 a1 a2 a3 = some (s1, v1)) : zM (sC l V) md_Pr_rotate [zR 10 0, zR 11 a1, zI a2, zI a3] s0 (s1, some (zI v1)) := by
  refine zMet [some (zR 10 0), some (zR 11 a1), some (zI a2), some (zI a3), none, none] hJ (by decide) rfl (Nat.le_of_ble_eq_true rfl) rfl ?_
  intro X hO
  have J_48 : ∀ (s0 : zS) (l5 : Int32), k_Pr_rotate_48 a1 a2 a3 s0 l5 = some (s1, v1) → ZW (sC l V) md_Pr_rotate (s1, some (zI v1)) X 48 [some (zR 10 0), some (zR 11 a1), none, none, none, some (zI l5)] [] s0 := by
    intro s0 l5 h
    unfold k_Pr_rotate_48 at h
    refine zl_aload_n (pc := 48) hO 0 nd_Pr_rotate_48 rfl rfl ?_
    refine zl_aload_n (pc := 49) hO 1 nd_Pr_rotate_49 rfl rfl ?_
    refine zl_iload (pc := 50) hO nd_Pr_rotate_50 rfl ?_
    obtain ⟨s2, h_52, h⟩ := bn_use h
    refine zl_callVv (pc := 52) hO [zR 11 a1, zI l5] [] (c_Pr_setSigns hJ b_a1 h_52) nd_Pr_rotate_52 kv_Pr_86 rfl (Nat.le_of_ble_eq_true rfl) rfl rfl rfl (Nat.le_of_ble_eq_true rfl) ?_
    refine zl_iload (pc := 55) hO nd_Pr_rotate_55 rfl ?_
    exact zl_iret (pc := 57) hO nd_Pr_rotate_57 rfl (zr_i h)
  have J_45 : ∀ (s0 : zS) (l5 : Int32) (t0 : Int32) (t1 : Nat) (b_t1 : t1 < 4), k_Pr_rotate_45 a1 a2 a3 s0 l5 t0 t1 = some (s1, v1) → ZW (sC l V) md_Pr_rotate (s1, some (zI v1)) X 45 [some (zR 10 0), some (zR 11 a1), none, none, none, some (zI l5)] [zI t0, zR 11 t1, zR 10 0] s0 := by
    intro s0 l5 t0 t1 b_t1 h
    unfold k_Pr_rotate_45 at h
    obtain ⟨s3, h_45, h⟩ := bn_use h
    refine zl_callVv (pc := 45) hO [zR 11 t1, zI t0] [] (c_Pr_setCarry hJ b_t1 h_45) nd_Pr_rotate_45 kv_Pr_133 rfl (Nat.le_of_ble_eq_true rfl) rfl rfl rfl (Nat.le_of_ble_eq_true rfl) ?_
    exact zl_weak (J_48 _ _ h) ⟨rfl, ⟨rfl, ⟨rfl, trivial⟩⟩⟩
  have J_27 : ∀ (s0 : zS) (t0 : Int32), k_Pr_rotate_27 a1 a2 a3 s0 t0 = some (s1, v1) → ZW (sC l V) md_Pr_rotate (s1, some (zI v1)) X 27 [some (zR 10 0), some (zR 11 a1), none, some (zI a3), none, none] [zI t0] s0 := by
    intro s0 t0 h
    unfold k_Pr_rotate_27 at h
    refine zl_istore (pc := 27) hO (L' := [some (zR 10 0), some (zR 11 a1), none, some (zI a3), none, some (zI t0)]) nd_Pr_rotate_27 (by decide) rfl ?_
    refine zl_iload_n (pc := 29) hO 3 nd_Pr_rotate_29 rfl rfl ?_
    refine zl_if_le (pc := 30) hO 48 nd_Pr_rotate_30 (by decide) (fun hc => ?_) (fun hc => ?_)
    · have h := ite_t hc h
      exact zl_weak (J_48 _ _ h) ⟨rfl, ⟨rfl, ⟨rfl, trivial⟩⟩⟩
    · have h := ite_f hc h
      refine zl_aload_n (pc := 33) hO 0 nd_Pr_rotate_33 rfl rfl ?_
      refine zl_aload_n (pc := 34) hO 1 nd_Pr_rotate_34 rfl rfl ?_
      refine zl_iload (pc := 35) hO nd_Pr_rotate_35 rfl ?_
      refine zl_if_ge (pc := 37) hO 44 nd_Pr_rotate_37 (by decide) (fun hc => ?_) (fun hc => ?_)
      · have h := ite_t hc h
        refine zl_iconst (pc := 44) hO (v := 0) nd_Pr_rotate_44 (by decide) ?_
        exact zl_weak (J_45 _ _ _ _ b_a1 h) ⟨rfl, ⟨rfl, ⟨rfl, trivial⟩⟩⟩
      · have h := ite_f hc h
        refine zl_iconst (pc := 40) hO (v := 1) nd_Pr_rotate_40 (by decide) ?_
        refine zl_goto (pc := 41) hO 45 nd_Pr_rotate_41 (by decide) ?_
        exact zl_weak (J_45 _ _ _ _ b_a1 h) ⟨rfl, ⟨rfl, ⟨rfl, trivial⟩⟩⟩
  unfold k_Pr_rotate at h
  refine zl_iload_n (pc := 0) hO 3 nd_Pr_rotate_0 rfl rfl ?_
  refine zl_bipush (pc := 1) hO (v := 31) nd_Pr_rotate_1 (by decide) ?_
  refine zl_iand (pc := 3) hO nd_Pr_rotate_3 ?_
  obtain ⟨x1, e_x1, h⟩ := lt_use h
  refine zl_top e_x1 ?_
  refine zl_istore (pc := 4) hO (L' := [some (zR 10 0), some (zR 11 a1), some (zI a2), some (zI a3), some (zI x1), none]) nd_Pr_rotate_4 (by decide) rfl ?_
  refine zl_iload (pc := 6) hO nd_Pr_rotate_6 rfl ?_
  refine zl_if_ne (pc := 8) hO 15 nd_Pr_rotate_8 (by decide) (fun hc => ?_) (fun hc => ?_)
  · have h := ite_f hc h
    refine zl_iload_n (pc := 15) hO 2 nd_Pr_rotate_15 rfl rfl ?_
    refine zl_iload (pc := 16) hO nd_Pr_rotate_16 rfl ?_
    refine zl_iushr (pc := 18) hO nd_Pr_rotate_18 ?_
    refine zl_iload_n (pc := 19) hO 2 nd_Pr_rotate_19 rfl rfl ?_
    refine zl_bipush (pc := 20) hO (v := 32) nd_Pr_rotate_20 (by decide) ?_
    refine zl_iload (pc := 22) hO nd_Pr_rotate_22 rfl ?_
    refine zl_isub (pc := 24) hO nd_Pr_rotate_24 ?_
    refine zl_ishl (pc := 25) hO nd_Pr_rotate_25 ?_
    refine zl_ior (pc := 26) hO nd_Pr_rotate_26 ?_
    exact zl_weak (J_27 _ _ h) ⟨rfl, ⟨rfl, ⟨rfl, trivial⟩⟩⟩
  · have h := ite_t hc h
    refine zl_iload_n (pc := 11) hO 2 nd_Pr_rotate_11 rfl rfl ?_
    refine zl_goto (pc := 12) hO 27 nd_Pr_rotate_12 (by decide) ?_
    exact zl_weak (J_27 _ _ h) ⟨rfl, ⟨rfl, ⟨rfl, trivial⟩⟩⟩
set_option maxHeartbeats 4000000 in
set_option maxRecDepth 100000 in
theorem c_Pr_bitwise {l : Launch} {V : zG} (hJ : zJ0 (sC l V)) {s0 : zS} {a1 : Int32} {a2 : Int32} {a3 : Int32}  {s1 : zS} {v1 : Int32} (h : k_Pr_bitwise s0 a1 a2 a3 = some (s1, v1)) : zM (sC l V) md_Pr_bitwise [zR 10 0, zI a1, zI a2, zI a3] s0 (s1, some (zI v1)) := by
  refine zMet [some (zR 10 0), some (zI a1), some (zI a2), some (zI a3)] hJ (by decide) rfl (Nat.le_of_ble_eq_true rfl) rfl ?_
  intro X hO
  unfold k_Pr_bitwise at h
  refine zl_iload_n (pc := 0) hO 1 nd_Pr_bitwise_0 rfl rfl ?_
  by_cases hc : a1 = 1
  · have h := ite_t hc h
    refine zl_tabIn (pc := 1) (off := 75) hO 1 76 hc nd_Pr_bitwise_1 (by decide) (by decide) (by decide) (by decide) ?_
    refine zl_iload_n (pc := 76) hO 2 nd_Pr_bitwise_76 rfl rfl ?_
    refine zl_iload_n (pc := 77) hO 3 nd_Pr_bitwise_77 rfl rfl ?_
    refine zl_ixor (pc := 78) hO nd_Pr_bitwise_78 ?_
    exact zl_iret (pc := 79) hO nd_Pr_bitwise_79 rfl (zr_i h)
  have h := ite_f hc h
  have n_1_1 : ¬ a1.toInt = 1 := lv_neT (k := 1) hc (by decide)
  by_cases hc : a1 = 12
  · have h := ite_t hc h
    refine zl_tabIn (pc := 1) (off := 79) hO 12 80 hc nd_Pr_bitwise_1 (by decide) (by decide) (by decide) (by decide) ?_
    refine zl_iload_n (pc := 80) hO 2 nd_Pr_bitwise_80 rfl rfl ?_
    refine zl_iload_n (pc := 81) hO 3 nd_Pr_bitwise_81 rfl rfl ?_
    refine zl_ior (pc := 82) hO nd_Pr_bitwise_82 ?_
    exact zl_iret (pc := 83) hO nd_Pr_bitwise_83 rfl (zr_i h)
  have h := ite_f hc h
  have n_1_12 : ¬ a1.toInt = 12 := lv_neT (k := 12) hc (by decide)
  by_cases hc : a1 = 13
  · have h := ite_t hc h
    refine zl_tabIn (pc := 1) (off := 83) hO 13 84 hc nd_Pr_bitwise_1 (by decide) (by decide) (by decide) (by decide) ?_
    refine zl_iload_n (pc := 84) hO 2 nd_Pr_bitwise_84 rfl rfl ?_
    refine zl_iload_n (pc := 85) hO 3 nd_Pr_bitwise_85 rfl rfl ?_
    refine zl_imul (pc := 86) hO nd_Pr_bitwise_86 ?_
    exact zl_iret (pc := 87) hO nd_Pr_bitwise_87 rfl (zr_i h)
  have h := ite_f hc h
  have n_1_13 : ¬ a1.toInt = 13 := lv_neT (k := 13) hc (by decide)
  by_cases hc : a1 = 14
  · have h := ite_t hc h
    refine zl_tabIn (pc := 1) (off := 87) hO 14 88 hc nd_Pr_bitwise_1 (by decide) (by decide) (by decide) (by decide) ?_
    refine zl_iload_n (pc := 88) hO 2 nd_Pr_bitwise_88 rfl rfl ?_
    refine zl_iload_n (pc := 89) hO 3 nd_Pr_bitwise_89 rfl rfl ?_
    refine zl_iconst (pc := 90) hO (v := (-1)) nd_Pr_bitwise_90 (by decide) ?_
    refine zl_ixor (pc := 91) hO nd_Pr_bitwise_91 ?_
    refine zl_iand (pc := 92) hO nd_Pr_bitwise_92 ?_
    exact zl_iret (pc := 93) hO nd_Pr_bitwise_93 rfl (zr_i h)
  have h := ite_f hc h
  have n_1_14 : ¬ a1.toInt = 14 := lv_neT (k := 14) hc (by decide)
  by_cases hc : a1 = 15
  · have h := ite_t hc h
    refine zl_tabIn (pc := 1) (off := 93) hO 15 94 hc nd_Pr_bitwise_1 (by decide) (by decide) (by decide) (by decide) ?_
    refine zl_iload_n (pc := 94) hO 3 nd_Pr_bitwise_94 rfl rfl ?_
    refine zl_iconst (pc := 95) hO (v := (-1)) nd_Pr_bitwise_95 (by decide) ?_
    refine zl_ixor (pc := 96) hO nd_Pr_bitwise_96 ?_
    exact zl_iret (pc := 97) hO nd_Pr_bitwise_97 rfl (zr_i h)
  have h := ite_f hc h
  have n_1_15 : ¬ a1.toInt = 15 := lv_neT (k := 15) hc (by decide)
  by_cases hc : a1 = 2
  · refine zl_tabIn (pc := 1) (off := 97) hO 2 98 hc nd_Pr_bitwise_1 (by decide) (by decide) (by decide) (by decide) ?_
    refine zl_iload_n (pc := 98) hO 2 nd_Pr_bitwise_98 rfl rfl ?_
    refine zl_iload_n (pc := 99) hO 3 nd_Pr_bitwise_99 rfl rfl ?_
    refine zl_iand (pc := 100) hO nd_Pr_bitwise_100 ?_
    exact zl_iret (pc := 101) hO nd_Pr_bitwise_101 rfl (zr_i h)
  have n_1_2 : ¬ a1.toInt = 2 := lv_neT (k := 2) hc (by decide)
  by_cases hc : a1 = 3
  · refine zl_tabIn (pc := 1) (off := 97) hO 3 98 hc nd_Pr_bitwise_1 (by decide) (by decide) (by decide) (by decide) ?_
    refine zl_iload_n (pc := 98) hO 2 nd_Pr_bitwise_98 rfl rfl ?_
    refine zl_iload_n (pc := 99) hO 3 nd_Pr_bitwise_99 rfl rfl ?_
    refine zl_iand (pc := 100) hO nd_Pr_bitwise_100 ?_
    exact zl_iret (pc := 101) hO nd_Pr_bitwise_101 rfl (zr_i h)
  have n_1_3 : ¬ a1.toInt = 3 := lv_neT (k := 3) hc (by decide)
  by_cases hc : a1 = 4
  · refine zl_tabIn (pc := 1) (off := 97) hO 4 98 hc nd_Pr_bitwise_1 (by decide) (by decide) (by decide) (by decide) ?_
    refine zl_iload_n (pc := 98) hO 2 nd_Pr_bitwise_98 rfl rfl ?_
    refine zl_iload_n (pc := 99) hO 3 nd_Pr_bitwise_99 rfl rfl ?_
    refine zl_iand (pc := 100) hO nd_Pr_bitwise_100 ?_
    exact zl_iret (pc := 101) hO nd_Pr_bitwise_101 rfl (zr_i h)
  have n_1_4 : ¬ a1.toInt = 4 := lv_neT (k := 4) hc (by decide)
  by_cases hc : a1 = 5
  · refine zl_tabIn (pc := 1) (off := 97) hO 5 98 hc nd_Pr_bitwise_1 (by decide) (by decide) (by decide) (by decide) ?_
    refine zl_iload_n (pc := 98) hO 2 nd_Pr_bitwise_98 rfl rfl ?_
    refine zl_iload_n (pc := 99) hO 3 nd_Pr_bitwise_99 rfl rfl ?_
    refine zl_iand (pc := 100) hO nd_Pr_bitwise_100 ?_
    exact zl_iret (pc := 101) hO nd_Pr_bitwise_101 rfl (zr_i h)
  have n_1_5 : ¬ a1.toInt = 5 := lv_neT (k := 5) hc (by decide)
  by_cases hc : a1 = 6
  · refine zl_tabIn (pc := 1) (off := 97) hO 6 98 hc nd_Pr_bitwise_1 (by decide) (by decide) (by decide) (by decide) ?_
    refine zl_iload_n (pc := 98) hO 2 nd_Pr_bitwise_98 rfl rfl ?_
    refine zl_iload_n (pc := 99) hO 3 nd_Pr_bitwise_99 rfl rfl ?_
    refine zl_iand (pc := 100) hO nd_Pr_bitwise_100 ?_
    exact zl_iret (pc := 101) hO nd_Pr_bitwise_101 rfl (zr_i h)
  have n_1_6 : ¬ a1.toInt = 6 := lv_neT (k := 6) hc (by decide)
  by_cases hc : a1 = 7
  · refine zl_tabIn (pc := 1) (off := 97) hO 7 98 hc nd_Pr_bitwise_1 (by decide) (by decide) (by decide) (by decide) ?_
    refine zl_iload_n (pc := 98) hO 2 nd_Pr_bitwise_98 rfl rfl ?_
    refine zl_iload_n (pc := 99) hO 3 nd_Pr_bitwise_99 rfl rfl ?_
    refine zl_iand (pc := 100) hO nd_Pr_bitwise_100 ?_
    exact zl_iret (pc := 101) hO nd_Pr_bitwise_101 rfl (zr_i h)
  have n_1_7 : ¬ a1.toInt = 7 := lv_neT (k := 7) hc (by decide)
  by_cases hc : a1 = 8
  · refine zl_tabIn (pc := 1) (off := 97) hO 8 98 hc nd_Pr_bitwise_1 (by decide) (by decide) (by decide) (by decide) ?_
    refine zl_iload_n (pc := 98) hO 2 nd_Pr_bitwise_98 rfl rfl ?_
    refine zl_iload_n (pc := 99) hO 3 nd_Pr_bitwise_99 rfl rfl ?_
    refine zl_iand (pc := 100) hO nd_Pr_bitwise_100 ?_
    exact zl_iret (pc := 101) hO nd_Pr_bitwise_101 rfl (zr_i h)
  have n_1_8 : ¬ a1.toInt = 8 := lv_neT (k := 8) hc (by decide)
  by_cases hc : a1 = 9
  · refine zl_tabIn (pc := 1) (off := 97) hO 9 98 hc nd_Pr_bitwise_1 (by decide) (by decide) (by decide) (by decide) ?_
    refine zl_iload_n (pc := 98) hO 2 nd_Pr_bitwise_98 rfl rfl ?_
    refine zl_iload_n (pc := 99) hO 3 nd_Pr_bitwise_99 rfl rfl ?_
    refine zl_iand (pc := 100) hO nd_Pr_bitwise_100 ?_
    exact zl_iret (pc := 101) hO nd_Pr_bitwise_101 rfl (zr_i h)
  have n_1_9 : ¬ a1.toInt = 9 := lv_neT (k := 9) hc (by decide)
  by_cases hc : a1 = 10
  · refine zl_tabIn (pc := 1) (off := 97) hO 10 98 hc nd_Pr_bitwise_1 (by decide) (by decide) (by decide) (by decide) ?_
    refine zl_iload_n (pc := 98) hO 2 nd_Pr_bitwise_98 rfl rfl ?_
    refine zl_iload_n (pc := 99) hO 3 nd_Pr_bitwise_99 rfl rfl ?_
    refine zl_iand (pc := 100) hO nd_Pr_bitwise_100 ?_
    exact zl_iret (pc := 101) hO nd_Pr_bitwise_101 rfl (zr_i h)
  have n_1_10 : ¬ a1.toInt = 10 := lv_neT (k := 10) hc (by decide)
  by_cases hc : a1 = 11
  · refine zl_tabIn (pc := 1) (off := 97) hO 11 98 hc nd_Pr_bitwise_1 (by decide) (by decide) (by decide) (by decide) ?_
    refine zl_iload_n (pc := 98) hO 2 nd_Pr_bitwise_98 rfl rfl ?_
    refine zl_iload_n (pc := 99) hO 3 nd_Pr_bitwise_99 rfl rfl ?_
    refine zl_iand (pc := 100) hO nd_Pr_bitwise_100 ?_
    exact zl_iret (pc := 101) hO nd_Pr_bitwise_101 rfl (zr_i h)
  have n_1_11 : ¬ a1.toInt = 11 := lv_neT (k := 11) hc (by decide)
  refine zl_tabOut (pc := 1) hO 98 nd_Pr_bitwise_1 (by omega) (by decide) ?_
  refine zl_iload_n (pc := 98) hO 2 nd_Pr_bitwise_98 rfl rfl ?_
  refine zl_iload_n (pc := 99) hO 3 nd_Pr_bitwise_99 rfl rfl ?_
  refine zl_iand (pc := 100) hO nd_Pr_bitwise_100 ?_
  exact zl_iret (pc := 101) hO nd_Pr_bitwise_101 rfl (zr_i h)
set_option maxHeartbeats 4000000 in
set_option maxRecDepth 100000 in
theorem c_Pr_combine {l : Launch} {V : zG} (hJ : zJ0 (sC l V)) {s0 : zS} {a1 : Nat} {a2 : Int32} (b_a1 : a1 < 4) {s1 : zS} {v1 : Int32} (h : k_Pr_combine s0 a1 a2 = some (s1, v1)) : zM (sC l V) md_Pr_combine [zR 10 0, zR 11 a1, zI a2] s0 (s1, some (zI v1)) := by
  refine zMet [some (zR 10 0), some (zR 11 a1), some (zI a2), none, none, none, none, none, none] hJ (by decide) rfl (Nat.le_of_ble_eq_true rfl) rfl ?_
  intro X hO
  have J_241 : ∀ (s0 : zS) (l3 : Int32) (l4 : Int32) (l8 : Int32), k_Pr_combine_241 a1 a2 s0 l3 l4 l8 = some (s1, v1) → ZW (sC l V) md_Pr_combine (s1, some (zI v1)) X 241 [none, some (zR 11 a1), none, some (zI l3), some (zI l4), none, none, none, some (zI l8)] [] s0 := by
    intro s0 l3 l4 l8 h
    unfold k_Pr_combine_241 at h
    refine zl_iload (pc := 241) hO nd_Pr_combine_241 rfl ?_
    refine zl_bipush (pc := 243) hO (v := 8) nd_Pr_combine_243 (by decide) ?_
    refine zl_icmp_eq (pc := 245) hO 270 nd_Pr_combine_245 (by decide) (fun hc => ?_) (fun hc => ?_)
    · have h := ite_t hc h
      refine zl_iconst (pc := 270) hO (v := 0) nd_Pr_combine_270 (by decide) ?_
      exact zl_iret (pc := 271) hO nd_Pr_combine_271 rfl (zr_i h)
    · have h := ite_f hc h
      refine zl_iload (pc := 248) hO nd_Pr_combine_248 rfl ?_
      refine zl_bipush (pc := 250) hO (v := 10) nd_Pr_combine_250 (by decide) ?_
      refine zl_icmp_eq (pc := 252) hO 270 nd_Pr_combine_252 (by decide) (fun hc => ?_) (fun hc => ?_)
      · have h := ite_t hc h
        refine zl_iconst (pc := 270) hO (v := 0) nd_Pr_combine_270 (by decide) ?_
        exact zl_iret (pc := 271) hO nd_Pr_combine_271 rfl (zr_i h)
      · have h := ite_f hc h
        refine zl_iload (pc := 255) hO nd_Pr_combine_255 rfl ?_
        refine zl_bipush (pc := 257) hO (v := 11) nd_Pr_combine_257 (by decide) ?_
        refine zl_icmp_eq (pc := 259) hO 270 nd_Pr_combine_259 (by decide) (fun hc => ?_) (fun hc => ?_)
        · have h := ite_t hc h
          refine zl_iconst (pc := 270) hO (v := 0) nd_Pr_combine_270 (by decide) ?_
          exact zl_iret (pc := 271) hO nd_Pr_combine_271 rfl (zr_i h)
        · have h := ite_f hc h
          refine zl_aload_n (pc := 262) hO 1 nd_Pr_combine_262 rfl rfl ?_
          refine zl_getS (pc := 263) hO nd_Pr_combine_263 kf_Pr_57 rfl b_a1 rfl ?_
          refine zl_iload_n (pc := 266) hO 3 nd_Pr_combine_266 rfl rfl ?_
          refine zl_iload (pc := 267) hO nd_Pr_combine_267 rfl ?_
          obtain ⟨c_in269, h⟩ := ck_use h
          refine zl_iast (pc := 269) hO nd_Pr_combine_269 rfl rfl b_a1 c_in269 ?_
          obtain ⟨s23, e_s23, h⟩ := lt_use h
          refine zl_sg e_s23 ?_
          refine zl_iconst (pc := 270) hO (v := 0) nd_Pr_combine_270 (by decide) ?_
          exact zl_iret (pc := 271) hO nd_Pr_combine_271 rfl (zr_i h)
  unfold k_Pr_combine at h
  refine zl_iload_n (pc := 0) hO 2 nd_Pr_combine_0 rfl rfl ?_
  refine zl_bipush (pc := 1) hO (v := 7) nd_Pr_combine_1 (by decide) ?_
  refine zl_iand (pc := 3) hO nd_Pr_combine_3 ?_
  obtain ⟨x1, e_x1, h⟩ := lt_use h
  refine zl_top e_x1 ?_
  refine zl_istore_n (pc := 4) hO 3 (L' := [some (zR 10 0), some (zR 11 a1), some (zI a2), some (zI x1), none, none, none, none, none]) nd_Pr_combine_4 rfl (by decide) rfl ?_
  refine zl_iload_n (pc := 5) hO 2 nd_Pr_combine_5 rfl rfl ?_
  refine zl_bipush (pc := 6) hO (v := 6) nd_Pr_combine_6 (by decide) ?_
  refine zl_ishr (pc := 8) hO nd_Pr_combine_8 ?_
  refine zl_bipush (pc := 9) hO (v := 15) nd_Pr_combine_9 (by decide) ?_
  refine zl_iand (pc := 11) hO nd_Pr_combine_11 ?_
  obtain ⟨x2, e_x2, h⟩ := lt_use h
  refine zl_top e_x2 ?_
  refine zl_istore (pc := 12) hO (L' := [some (zR 10 0), some (zR 11 a1), some (zI a2), some (zI x1), some (zI x2), none, none, none, none]) nd_Pr_combine_12 (by decide) rfl ?_
  refine zl_aload_n (pc := 14) hO 1 nd_Pr_combine_14 rfl rfl ?_
  refine zl_getS (pc := 15) hO nd_Pr_combine_15 kf_Pr_57 rfl b_a1 rfl ?_
  refine zl_iload_n (pc := 18) hO 3 nd_Pr_combine_18 rfl rfl ?_
  obtain ⟨c_in19, h⟩ := ck_use h
  refine zl_iald (pc := 19) hO nd_Pr_combine_19 rfl rfl b_a1 c_in19 ?_
  obtain ⟨x3, e_x3, h⟩ := lt_use h
  refine zl_top e_x3 ?_
  refine zl_istore (pc := 20) hO (L' := [some (zR 10 0), some (zR 11 a1), some (zI a2), some (zI x1), some (zI x2), some (zI x3), none, none, none]) nd_Pr_combine_20 (by decide) rfl ?_
  refine zl_aload_n (pc := 22) hO 1 nd_Pr_combine_22 rfl rfl ?_
  refine zl_getS (pc := 23) hO nd_Pr_combine_23 kf_Pr_57 rfl b_a1 rfl ?_
  refine zl_iload_n (pc := 26) hO 2 nd_Pr_combine_26 rfl rfl ?_
  refine zl_iconst (pc := 27) hO (v := 3) nd_Pr_combine_27 (by decide) ?_
  refine zl_ishr (pc := 28) hO nd_Pr_combine_28 ?_
  refine zl_bipush (pc := 29) hO (v := 7) nd_Pr_combine_29 (by decide) ?_
  refine zl_iand (pc := 31) hO nd_Pr_combine_31 ?_
  obtain ⟨c_in32, h⟩ := ck_use h
  refine zl_iald (pc := 32) hO nd_Pr_combine_32 rfl rfl b_a1 c_in32 ?_
  obtain ⟨x4, e_x4, h⟩ := lt_use h
  refine zl_top e_x4 ?_
  refine zl_istore (pc := 33) hO (L' := [some (zR 10 0), some (zR 11 a1), some (zI a2), some (zI x1), some (zI x2), some (zI x3), some (zI x4), none, none]) nd_Pr_combine_33 (by decide) rfl ?_
  refine zl_aload_n (pc := 35) hO 1 nd_Pr_combine_35 rfl rfl ?_
  refine zl_geti (pc := 36) hO nd_Pr_combine_36 kf_Pr_90 rfl b_a1 rfl ?_
  refine zl_iconst (pc := 39) hO (v := 1) nd_Pr_combine_39 (by decide) ?_
  refine zl_ishr (pc := 40) hO nd_Pr_combine_40 ?_
  refine zl_iconst (pc := 41) hO (v := 1) nd_Pr_combine_41 (by decide) ?_
  refine zl_iand (pc := 42) hO nd_Pr_combine_42 ?_
  obtain ⟨x5, e_x5, h⟩ := lt_use h
  refine zl_top e_x5 ?_
  refine zl_istore (pc := 43) hO (L' := [some (zR 10 0), some (zR 11 a1), some (zI a2), some (zI x1), some (zI x2), some (zI x3), some (zI x4), some (zI x5), none]) nd_Pr_combine_43 (by decide) rfl ?_
  refine zl_iload (pc := 45) hO nd_Pr_combine_45 rfl ?_
  by_cases hc : x2 = 2 ∨ x2 = 3 ∨ x2 = 4
  · have h := ite_t hc h
    rcases hc with hc | hc | hc
    · refine zl_tabIn (pc := 47) (off := 53) hO 2 100 hc nd_Pr_combine_47 (by decide) (by decide) (by decide) (by decide) ?_
      refine zl_aload_n (pc := 100) hO 0 nd_Pr_combine_100 rfl rfl ?_
      refine zl_aload_n (pc := 101) hO 1 nd_Pr_combine_101 rfl rfl ?_
      refine zl_iload (pc := 102) hO nd_Pr_combine_102 rfl ?_
      refine zl_iconst (pc := 104) hO (v := 2) nd_Pr_combine_104 (by decide) ?_
      refine zl_isub (pc := 105) hO nd_Pr_combine_105 ?_
      refine zl_iload (pc := 106) hO nd_Pr_combine_106 rfl ?_
      refine zl_iload (pc := 108) hO nd_Pr_combine_108 rfl ?_
      refine zl_sipush (pc := 110) hO (v := 255) nd_Pr_combine_110 (by decide) ?_
      refine zl_iand (pc := 113) hO nd_Pr_combine_113 ?_
      obtain ⟨⟨s6, r7⟩, h_114, h⟩ := bn_use h
      refine zl_callVi (pc := 114) hO [zR 11 a1, zI (x2 - (2 : Int32)), zI x3, zI (x4 &&& (255 : Int32))] [] (c_Pr_shift hJ b_a1 h_114) nd_Pr_combine_114 kv_Pr_79 rfl (Nat.le_of_ble_eq_true rfl) rfl rfl rfl (Nat.le_of_ble_eq_true rfl) ?_
      refine zl_istore (pc := 117) hO (L' := [some (zR 10 0), some (zR 11 a1), some (zI a2), some (zI x1), some (zI x2), some (zI x3), some (zI x4), some (zI x5), some (zI r7)]) nd_Pr_combine_117 (by decide) rfl ?_
      refine zl_goto (pc := 119) hO 241 nd_Pr_combine_119 (by decide) ?_
      exact zl_weak (J_241 _ _ _ _ h) ⟨rfl, ⟨rfl, ⟨rfl, ⟨rfl, trivial⟩⟩⟩⟩
    · refine zl_tabIn (pc := 47) (off := 53) hO 3 100 hc nd_Pr_combine_47 (by decide) (by decide) (by decide) (by decide) ?_
      refine zl_aload_n (pc := 100) hO 0 nd_Pr_combine_100 rfl rfl ?_
      refine zl_aload_n (pc := 101) hO 1 nd_Pr_combine_101 rfl rfl ?_
      refine zl_iload (pc := 102) hO nd_Pr_combine_102 rfl ?_
      refine zl_iconst (pc := 104) hO (v := 2) nd_Pr_combine_104 (by decide) ?_
      refine zl_isub (pc := 105) hO nd_Pr_combine_105 ?_
      refine zl_iload (pc := 106) hO nd_Pr_combine_106 rfl ?_
      refine zl_iload (pc := 108) hO nd_Pr_combine_108 rfl ?_
      refine zl_sipush (pc := 110) hO (v := 255) nd_Pr_combine_110 (by decide) ?_
      refine zl_iand (pc := 113) hO nd_Pr_combine_113 ?_
      obtain ⟨⟨s6, r7⟩, h_114, h⟩ := bn_use h
      refine zl_callVi (pc := 114) hO [zR 11 a1, zI (x2 - (2 : Int32)), zI x3, zI (x4 &&& (255 : Int32))] [] (c_Pr_shift hJ b_a1 h_114) nd_Pr_combine_114 kv_Pr_79 rfl (Nat.le_of_ble_eq_true rfl) rfl rfl rfl (Nat.le_of_ble_eq_true rfl) ?_
      refine zl_istore (pc := 117) hO (L' := [some (zR 10 0), some (zR 11 a1), some (zI a2), some (zI x1), some (zI x2), some (zI x3), some (zI x4), some (zI x5), some (zI r7)]) nd_Pr_combine_117 (by decide) rfl ?_
      refine zl_goto (pc := 119) hO 241 nd_Pr_combine_119 (by decide) ?_
      exact zl_weak (J_241 _ _ _ _ h) ⟨rfl, ⟨rfl, ⟨rfl, ⟨rfl, trivial⟩⟩⟩⟩
    · refine zl_tabIn (pc := 47) (off := 53) hO 4 100 hc nd_Pr_combine_47 (by decide) (by decide) (by decide) (by decide) ?_
      refine zl_aload_n (pc := 100) hO 0 nd_Pr_combine_100 rfl rfl ?_
      refine zl_aload_n (pc := 101) hO 1 nd_Pr_combine_101 rfl rfl ?_
      refine zl_iload (pc := 102) hO nd_Pr_combine_102 rfl ?_
      refine zl_iconst (pc := 104) hO (v := 2) nd_Pr_combine_104 (by decide) ?_
      refine zl_isub (pc := 105) hO nd_Pr_combine_105 ?_
      refine zl_iload (pc := 106) hO nd_Pr_combine_106 rfl ?_
      refine zl_iload (pc := 108) hO nd_Pr_combine_108 rfl ?_
      refine zl_sipush (pc := 110) hO (v := 255) nd_Pr_combine_110 (by decide) ?_
      refine zl_iand (pc := 113) hO nd_Pr_combine_113 ?_
      obtain ⟨⟨s6, r7⟩, h_114, h⟩ := bn_use h
      refine zl_callVi (pc := 114) hO [zR 11 a1, zI (x2 - (2 : Int32)), zI x3, zI (x4 &&& (255 : Int32))] [] (c_Pr_shift hJ b_a1 h_114) nd_Pr_combine_114 kv_Pr_79 rfl (Nat.le_of_ble_eq_true rfl) rfl rfl rfl (Nat.le_of_ble_eq_true rfl) ?_
      refine zl_istore (pc := 117) hO (L' := [some (zR 10 0), some (zR 11 a1), some (zI a2), some (zI x1), some (zI x2), some (zI x3), some (zI x4), some (zI x5), some (zI r7)]) nd_Pr_combine_117 (by decide) rfl ?_
      refine zl_goto (pc := 119) hO 241 nd_Pr_combine_119 (by decide) ?_
      exact zl_weak (J_241 _ _ _ _ h) ⟨rfl, ⟨rfl, ⟨rfl, ⟨rfl, trivial⟩⟩⟩⟩
  have h := ite_f hc h
  have n_47_2 : ¬ x2.toInt = 2 := lv_neT (k := 2) (fun w => hc (by simp only [w]; decide)) (by decide)
  have n_47_3 : ¬ x2.toInt = 3 := lv_neT (k := 3) (fun w => hc (by simp only [w]; decide)) (by decide)
  have n_47_4 : ¬ x2.toInt = 4 := lv_neT (k := 4) (fun w => hc (by simp only [w]; decide)) (by decide)
  by_cases hc : x2 = 5
  · have h := ite_t hc h
    refine zl_tabIn (pc := 47) (off := 75) hO 5 122 hc nd_Pr_combine_47 (by decide) (by decide) (by decide) (by decide) ?_
    refine zl_aload_n (pc := 122) hO 0 nd_Pr_combine_122 rfl rfl ?_
    refine zl_aload_n (pc := 123) hO 1 nd_Pr_combine_123 rfl rfl ?_
    refine zl_iload (pc := 124) hO nd_Pr_combine_124 rfl ?_
    refine zl_iload (pc := 126) hO nd_Pr_combine_126 rfl ?_
    refine zl_iload (pc := 128) hO nd_Pr_combine_128 rfl ?_
    obtain ⟨⟨s8, r9⟩, h_130, h⟩ := bn_use h
    refine zl_callVi (pc := 130) hO [zR 11 a1, zI x3, zI x4, zI x5] [] (c_Pr_add hJ b_a1 h_130) nd_Pr_combine_130 kv_Pr_83 rfl (Nat.le_of_ble_eq_true rfl) rfl rfl rfl (Nat.le_of_ble_eq_true rfl) ?_
    refine zl_istore (pc := 133) hO (L' := [some (zR 10 0), some (zR 11 a1), some (zI a2), some (zI x1), some (zI x2), some (zI x3), some (zI x4), some (zI x5), some (zI r9)]) nd_Pr_combine_133 (by decide) rfl ?_
    refine zl_goto (pc := 135) hO 241 nd_Pr_combine_135 (by decide) ?_
    exact zl_weak (J_241 _ _ _ _ h) ⟨rfl, ⟨rfl, ⟨rfl, ⟨rfl, trivial⟩⟩⟩⟩
  have h := ite_f hc h
  have n_47_5 : ¬ x2.toInt = 5 := lv_neT (k := 5) hc (by decide)
  by_cases hc : x2 = 6
  · have h := ite_t hc h
    refine zl_tabIn (pc := 47) (off := 91) hO 6 138 hc nd_Pr_combine_47 (by decide) (by decide) (by decide) (by decide) ?_
    refine zl_aload_n (pc := 138) hO 0 nd_Pr_combine_138 rfl rfl ?_
    refine zl_aload_n (pc := 139) hO 1 nd_Pr_combine_139 rfl rfl ?_
    refine zl_iload (pc := 140) hO nd_Pr_combine_140 rfl ?_
    refine zl_iload (pc := 142) hO nd_Pr_combine_142 rfl ?_
    refine zl_iconst (pc := 144) hO (v := (-1)) nd_Pr_combine_144 (by decide) ?_
    refine zl_ixor (pc := 145) hO nd_Pr_combine_145 ?_
    refine zl_iload (pc := 146) hO nd_Pr_combine_146 rfl ?_
    obtain ⟨⟨s10, r11⟩, h_148, h⟩ := bn_use h
    refine zl_callVi (pc := 148) hO [zR 11 a1, zI x3, zI (x4 ^^^ (-1 : Int32)), zI x5] [] (c_Pr_add hJ b_a1 h_148) nd_Pr_combine_148 kv_Pr_83 rfl (Nat.le_of_ble_eq_true rfl) rfl rfl rfl (Nat.le_of_ble_eq_true rfl) ?_
    refine zl_istore (pc := 151) hO (L' := [some (zR 10 0), some (zR 11 a1), some (zI a2), some (zI x1), some (zI x2), some (zI x3), some (zI x4), some (zI x5), some (zI r11)]) nd_Pr_combine_151 (by decide) rfl ?_
    refine zl_goto (pc := 153) hO 241 nd_Pr_combine_153 (by decide) ?_
    exact zl_weak (J_241 _ _ _ _ h) ⟨rfl, ⟨rfl, ⟨rfl, ⟨rfl, trivial⟩⟩⟩⟩
  have h := ite_f hc h
  have n_47_6 : ¬ x2.toInt = 6 := lv_neT (k := 6) hc (by decide)
  by_cases hc : x2 = 7
  · have h := ite_t hc h
    refine zl_tabIn (pc := 47) (off := 109) hO 7 156 hc nd_Pr_combine_47 (by decide) (by decide) (by decide) (by decide) ?_
    refine zl_aload_n (pc := 156) hO 0 nd_Pr_combine_156 rfl rfl ?_
    refine zl_aload_n (pc := 157) hO 1 nd_Pr_combine_157 rfl rfl ?_
    refine zl_iload (pc := 158) hO nd_Pr_combine_158 rfl ?_
    refine zl_iload (pc := 160) hO nd_Pr_combine_160 rfl ?_
    refine zl_sipush (pc := 162) hO (v := 255) nd_Pr_combine_162 (by decide) ?_
    refine zl_iand (pc := 165) hO nd_Pr_combine_165 ?_
    obtain ⟨⟨s12, r13⟩, h_166, h⟩ := bn_use h
    refine zl_callVi (pc := 166) hO [zR 11 a1, zI x3, zI (x4 &&& (255 : Int32))] [] (c_Pr_rotate hJ b_a1 h_166) nd_Pr_combine_166 kv_Pr_93 rfl (Nat.le_of_ble_eq_true rfl) rfl rfl rfl (Nat.le_of_ble_eq_true rfl) ?_
    refine zl_istore (pc := 169) hO (L' := [some (zR 10 0), some (zR 11 a1), some (zI a2), some (zI x1), some (zI x2), some (zI x3), some (zI x4), some (zI x5), some (zI r13)]) nd_Pr_combine_169 (by decide) rfl ?_
    refine zl_goto (pc := 171) hO 241 nd_Pr_combine_171 (by decide) ?_
    exact zl_weak (J_241 _ _ _ _ h) ⟨rfl, ⟨rfl, ⟨rfl, ⟨rfl, trivial⟩⟩⟩⟩
  have h := ite_f hc h
  have n_47_7 : ¬ x2.toInt = 7 := lv_neT (k := 7) hc (by decide)
  by_cases hc : x2 = 9
  · have h := ite_t hc h
    refine zl_tabIn (pc := 47) (off := 127) hO 9 174 hc nd_Pr_combine_47 (by decide) (by decide) (by decide) (by decide) ?_
    refine zl_aload_n (pc := 174) hO 0 nd_Pr_combine_174 rfl rfl ?_
    refine zl_aload_n (pc := 175) hO 1 nd_Pr_combine_175 rfl rfl ?_
    refine zl_iconst (pc := 176) hO (v := 0) nd_Pr_combine_176 (by decide) ?_
    refine zl_iload (pc := 177) hO nd_Pr_combine_177 rfl ?_
    refine zl_iconst (pc := 179) hO (v := (-1)) nd_Pr_combine_179 (by decide) ?_
    refine zl_ixor (pc := 180) hO nd_Pr_combine_180 ?_
    refine zl_iconst (pc := 181) hO (v := 1) nd_Pr_combine_181 (by decide) ?_
    obtain ⟨⟨s14, r15⟩, h_182, h⟩ := bn_use h
    refine zl_callVi (pc := 182) hO [zR 11 a1, zI 0, zI (x4 ^^^ (-1 : Int32)), zI 1] [] (c_Pr_add hJ b_a1 h_182) nd_Pr_combine_182 kv_Pr_83 rfl (Nat.le_of_ble_eq_true rfl) rfl rfl rfl (Nat.le_of_ble_eq_true rfl) ?_
    refine zl_istore (pc := 185) hO (L' := [some (zR 10 0), some (zR 11 a1), some (zI a2), some (zI x1), some (zI x2), some (zI x3), some (zI x4), some (zI x5), some (zI r15)]) nd_Pr_combine_185 (by decide) rfl ?_
    refine zl_goto (pc := 187) hO 241 nd_Pr_combine_187 (by decide) ?_
    exact zl_weak (J_241 _ _ _ _ h) ⟨rfl, ⟨rfl, ⟨rfl, ⟨rfl, trivial⟩⟩⟩⟩
  have h := ite_f hc h
  have n_47_9 : ¬ x2.toInt = 9 := lv_neT (k := 9) hc (by decide)
  by_cases hc : x2 = 10
  · have h := ite_t hc h
    refine zl_tabIn (pc := 47) (off := 143) hO 10 190 hc nd_Pr_combine_47 (by decide) (by decide) (by decide) (by decide) ?_
    refine zl_aload_n (pc := 190) hO 0 nd_Pr_combine_190 rfl rfl ?_
    refine zl_aload_n (pc := 191) hO 1 nd_Pr_combine_191 rfl rfl ?_
    refine zl_iload (pc := 192) hO nd_Pr_combine_192 rfl ?_
    refine zl_iload (pc := 194) hO nd_Pr_combine_194 rfl ?_
    refine zl_iconst (pc := 196) hO (v := (-1)) nd_Pr_combine_196 (by decide) ?_
    refine zl_ixor (pc := 197) hO nd_Pr_combine_197 ?_
    refine zl_iconst (pc := 198) hO (v := 1) nd_Pr_combine_198 (by decide) ?_
    obtain ⟨⟨s16, r17⟩, h_199, h⟩ := bn_use h
    refine zl_callVi (pc := 199) hO [zR 11 a1, zI x3, zI (x4 ^^^ (-1 : Int32)), zI 1] [] (c_Pr_add hJ b_a1 h_199) nd_Pr_combine_199 kv_Pr_83 rfl (Nat.le_of_ble_eq_true rfl) rfl rfl rfl (Nat.le_of_ble_eq_true rfl) ?_
    refine zl_istore (pc := 202) hO (L' := [some (zR 10 0), some (zR 11 a1), some (zI a2), some (zI x1), some (zI x2), some (zI x3), some (zI x4), some (zI x5), some (zI r17)]) nd_Pr_combine_202 (by decide) rfl ?_
    refine zl_goto (pc := 204) hO 241 nd_Pr_combine_204 (by decide) ?_
    exact zl_weak (J_241 _ _ _ _ h) ⟨rfl, ⟨rfl, ⟨rfl, ⟨rfl, trivial⟩⟩⟩⟩
  have h := ite_f hc h
  have n_47_10 : ¬ x2.toInt = 10 := lv_neT (k := 10) hc (by decide)
  by_cases hc : x2 = 11
  · have h := ite_t hc h
    refine zl_tabIn (pc := 47) (off := 160) hO 11 207 hc nd_Pr_combine_47 (by decide) (by decide) (by decide) (by decide) ?_
    refine zl_aload_n (pc := 207) hO 0 nd_Pr_combine_207 rfl rfl ?_
    refine zl_aload_n (pc := 208) hO 1 nd_Pr_combine_208 rfl rfl ?_
    refine zl_iload (pc := 209) hO nd_Pr_combine_209 rfl ?_
    refine zl_iload (pc := 211) hO nd_Pr_combine_211 rfl ?_
    refine zl_iconst (pc := 213) hO (v := 0) nd_Pr_combine_213 (by decide) ?_
    obtain ⟨⟨s18, r19⟩, h_214, h⟩ := bn_use h
    refine zl_callVi (pc := 214) hO [zR 11 a1, zI x3, zI x4, zI 0] [] (c_Pr_add hJ b_a1 h_214) nd_Pr_combine_214 kv_Pr_83 rfl (Nat.le_of_ble_eq_true rfl) rfl rfl rfl (Nat.le_of_ble_eq_true rfl) ?_
    refine zl_istore (pc := 217) hO (L' := [some (zR 10 0), some (zR 11 a1), some (zI a2), some (zI x1), some (zI x2), some (zI x3), some (zI x4), some (zI x5), some (zI r19)]) nd_Pr_combine_217 (by decide) rfl ?_
    refine zl_goto (pc := 219) hO 241 nd_Pr_combine_219 (by decide) ?_
    exact zl_weak (J_241 _ _ _ _ h) ⟨rfl, ⟨rfl, ⟨rfl, ⟨rfl, trivial⟩⟩⟩⟩
  have h := ite_f hc h
  have n_47_11 : ¬ x2.toInt = 11 := lv_neT (k := 11) hc (by decide)
  by_cases hc : x2 = 8
  · refine zl_tabIn (pc := 47) (off := 175) hO 8 222 hc nd_Pr_combine_47 (by decide) (by decide) (by decide) (by decide) ?_
    refine zl_aload_n (pc := 222) hO 0 nd_Pr_combine_222 rfl rfl ?_
    refine zl_iload (pc := 223) hO nd_Pr_combine_223 rfl ?_
    refine zl_iload (pc := 225) hO nd_Pr_combine_225 rfl ?_
    refine zl_iload (pc := 227) hO nd_Pr_combine_227 rfl ?_
    obtain ⟨⟨s20, r21⟩, h_229, h⟩ := bn_use h
    refine zl_callVi (pc := 229) hO [zI x2, zI x3, zI x4] [] (c_Pr_bitwise hJ h_229) nd_Pr_combine_229 kv_Pr_96 rfl (Nat.le_of_ble_eq_true rfl) rfl rfl rfl (Nat.le_of_ble_eq_true rfl) ?_
    refine zl_istore (pc := 232) hO (L' := [some (zR 10 0), some (zR 11 a1), some (zI a2), some (zI x1), some (zI x2), some (zI x3), some (zI x4), some (zI x5), some (zI r21)]) nd_Pr_combine_232 (by decide) rfl ?_
    refine zl_aload_n (pc := 234) hO 0 nd_Pr_combine_234 rfl rfl ?_
    refine zl_aload_n (pc := 235) hO 1 nd_Pr_combine_235 rfl rfl ?_
    refine zl_iload (pc := 236) hO nd_Pr_combine_236 rfl ?_
    obtain ⟨s22, h_238, h⟩ := bn_use h
    refine zl_callVv (pc := 238) hO [zR 11 a1, zI r21] [] (c_Pr_setSigns hJ b_a1 h_238) nd_Pr_combine_238 kv_Pr_86 rfl (Nat.le_of_ble_eq_true rfl) rfl rfl rfl (Nat.le_of_ble_eq_true rfl) ?_
    exact zl_weak (J_241 _ _ _ _ h) ⟨rfl, ⟨rfl, ⟨rfl, ⟨rfl, trivial⟩⟩⟩⟩
  have n_47_8 : ¬ x2.toInt = 8 := lv_neT (k := 8) hc (by decide)
  refine zl_tabOut (pc := 47) hO 222 nd_Pr_combine_47 (by omega) (by decide) ?_
  refine zl_aload_n (pc := 222) hO 0 nd_Pr_combine_222 rfl rfl ?_
  refine zl_iload (pc := 223) hO nd_Pr_combine_223 rfl ?_
  refine zl_iload (pc := 225) hO nd_Pr_combine_225 rfl ?_
  refine zl_iload (pc := 227) hO nd_Pr_combine_227 rfl ?_
  obtain ⟨⟨s20, r21⟩, h_229, h⟩ := bn_use h
  refine zl_callVi (pc := 229) hO [zI x2, zI x3, zI x4] [] (c_Pr_bitwise hJ h_229) nd_Pr_combine_229 kv_Pr_96 rfl (Nat.le_of_ble_eq_true rfl) rfl rfl rfl (Nat.le_of_ble_eq_true rfl) ?_
  refine zl_istore (pc := 232) hO (L' := [some (zR 10 0), some (zR 11 a1), some (zI a2), some (zI x1), some (zI x2), some (zI x3), some (zI x4), some (zI x5), some (zI r21)]) nd_Pr_combine_232 (by decide) rfl ?_
  refine zl_aload_n (pc := 234) hO 0 nd_Pr_combine_234 rfl rfl ?_
  refine zl_aload_n (pc := 235) hO 1 nd_Pr_combine_235 rfl rfl ?_
  refine zl_iload (pc := 236) hO nd_Pr_combine_236 rfl ?_
  obtain ⟨s22, h_238, h⟩ := bn_use h
  refine zl_callVv (pc := 238) hO [zR 11 a1, zI r21] [] (c_Pr_setSigns hJ b_a1 h_238) nd_Pr_combine_238 kv_Pr_86 rfl (Nat.le_of_ble_eq_true rfl) rfl rfl rfl (Nat.le_of_ble_eq_true rfl) ?_
  exact zl_weak (J_241 _ _ _ _ h) ⟨rfl, ⟨rfl, ⟨rfl, ⟨rfl, trivial⟩⟩⟩⟩
set_option maxHeartbeats 4000000 in
set_option maxRecDepth 100000 in
theorem c_Pr_jump {l : Launch} {V : zG} (hJ : zJ0 (sC l V)) {s0 : zS} {a1 : Nat} {a2 : Int32} (b_a1 : a1 < 4) {s1 : zS} {v1 : Int32} (h : k_Pr_jump s0 a1 a2 = some (s1, v1)) : zM (sC l V) md_Pr_jump [zR 10 0, zR 11 a1, zI a2] s0 (s1, some (zI v1)) := by
  refine zMet [some (zR 10 0), some (zR 11 a1), some (zI a2), none, none, none] hJ (by decide) rfl (Nat.le_of_ble_eq_true rfl) rfl ?_
  intro X hO
  have J_74 : ∀ (s0 : zS) (l3 : Int32) (t0 : Int32), k_Pr_jump_74 a1 a2 s0 l3 t0 = some (s1, v1) → ZW (sC l V) md_Pr_jump (s1, some (zI v1)) X 74 [some (zR 10 0), some (zR 11 a1), none, some (zI l3), none, none] [zI t0] s0 := by
    intro s0 l3 t0 h
    unfold k_Pr_jump_74 at h
    refine zl_istore (pc := 74) hO (L' := [some (zR 10 0), some (zR 11 a1), none, some (zI l3), none, some (zI t0)]) nd_Pr_jump_74 (by decide) rfl ?_
    refine zl_iload (pc := 76) hO nd_Pr_jump_76 rfl ?_
    refine zl_iconst (pc := 78) hO (v := 1) nd_Pr_jump_78 (by decide) ?_
    refine zl_iand (pc := 79) hO nd_Pr_jump_79 ?_
    refine zl_if_ne (pc := 80) hO 85 nd_Pr_jump_80 (by decide) (fun hc => ?_) (fun hc => ?_)
    · have h := ite_f hc h
      refine zl_aload_n (pc := 85) hO 0 nd_Pr_jump_85 rfl rfl ?_
      refine zl_iload (pc := 86) hO nd_Pr_jump_86 rfl ?_
      refine zl_iconst (pc := 88) hO (v := 1) nd_Pr_jump_88 (by decide) ?_
      refine zl_isub (pc := 89) hO nd_Pr_jump_89 ?_
      refine zl_puti (pc := 90) hO nd_Pr_jump_90 kp_Pr_25 rfl (Nat.le_of_ble_eq_true rfl) rfl ?_
      obtain ⟨s3, e_s3, h⟩ := lt_use h
      refine zl_sg e_s3 ?_
      refine zl_iload_n (pc := 93) hO 3 nd_Pr_jump_93 rfl rfl ?_
      refine zl_sipush (pc := 94) hO (v := 143) nd_Pr_jump_94 (by decide) ?_
      refine zl_icmp_ne (pc := 97) hO 110 nd_Pr_jump_97 (by decide) (fun hc => ?_) (fun hc => ?_)
      · have h := ite_f hc h
        refine zl_iconst (pc := 110) hO (v := 0) nd_Pr_jump_110 (by decide) ?_
        exact zl_iret (pc := 111) hO nd_Pr_jump_111 rfl (zr_i h)
      · have h := ite_t hc h
        refine zl_aload_n (pc := 100) hO 1 nd_Pr_jump_100 rfl rfl ?_
        refine zl_aload_n (pc := 101) hO 1 nd_Pr_jump_101 rfl rfl ?_
        refine zl_geti (pc := 102) hO nd_Pr_jump_102 kf_Pr_15 rfl b_a1 rfl ?_
        refine zl_iconst (pc := 105) hO (v := 3) nd_Pr_jump_105 (by decide) ?_
        refine zl_iadd (pc := 106) hO nd_Pr_jump_106 ?_
        refine zl_puti (pc := 107) hO nd_Pr_jump_107 kp_Pr_100 rfl b_a1 rfl ?_
        obtain ⟨s4, e_s4, h⟩ := lt_use h
        refine zl_sg e_s4 ?_
        refine zl_iconst (pc := 110) hO (v := 0) nd_Pr_jump_110 (by decide) ?_
        exact zl_iret (pc := 111) hO nd_Pr_jump_111 rfl (zr_i h)
    · have h := ite_t hc h
      refine zl_iconst (pc := 83) hO (v := 5) nd_Pr_jump_83 (by decide) ?_
      exact zl_iret (pc := 84) hO nd_Pr_jump_84 rfl (zr_i h)
  have J_50 : ∀ (s0 : zS) (l3 : Int32) (l4 : Int32), k_Pr_jump_50 a1 a2 s0 l3 l4 = some (s1, v1) → ZW (sC l V) md_Pr_jump (s1, some (zI v1)) X 50 [some (zR 10 0), some (zR 11 a1), none, some (zI l3), some (zI l4), none] [] s0 := by
    intro s0 l3 l4 h
    unfold k_Pr_jump_50 at h
    refine zl_iload (pc := 50) hO nd_Pr_jump_50 rfl ?_
    refine zl_bipush (pc := 52) hO (v := 14) nd_Pr_jump_52 (by decide) ?_
    refine zl_icmp_ne (pc := 54) hO 64 nd_Pr_jump_54 (by decide) (fun hc => ?_) (fun hc => ?_)
    · have h := ite_f hc h
      refine zl_aload_n (pc := 64) hO 1 nd_Pr_jump_64 rfl rfl ?_
      refine zl_getS (pc := 65) hO nd_Pr_jump_65 kf_Pr_57 rfl b_a1 rfl ?_
      refine zl_iload (pc := 68) hO nd_Pr_jump_68 rfl ?_
      refine zl_bipush (pc := 70) hO (v := 7) nd_Pr_jump_70 (by decide) ?_
      refine zl_iand (pc := 72) hO nd_Pr_jump_72 ?_
      obtain ⟨c_in73, h⟩ := ck_use h
      refine zl_iald (pc := 73) hO nd_Pr_jump_73 rfl rfl b_a1 c_in73 ?_
      exact zl_weak (J_74 _ _ _ h) ⟨rfl, ⟨rfl, ⟨rfl, trivial⟩⟩⟩
    · have h := ite_t hc h
      refine zl_aload_n (pc := 57) hO 1 nd_Pr_jump_57 rfl rfl ?_
      refine zl_geti (pc := 58) hO nd_Pr_jump_58 kf_Pr_100 rfl b_a1 rfl ?_
      refine zl_goto (pc := 61) hO 74 nd_Pr_jump_61 (by decide) ?_
      exact zl_weak (J_74 _ _ _ h) ⟨rfl, ⟨rfl, ⟨rfl, trivial⟩⟩⟩
  have J_27 : ∀ (s0 : zS) (l3 : Int32) (l4 : Int32), k_Pr_jump_27 a1 a2 s0 l3 l4 = some (s1, v1) → ZW (sC l V) md_Pr_jump (s1, some (zI v1)) X 27 [some (zR 10 0), some (zR 11 a1), some (zI a2), some (zI l3), some (zI l4), none] [] s0 := by
    intro s0 l3 l4 h
    unfold k_Pr_jump_27 at h
    refine zl_iload_n (pc := 27) hO 2 nd_Pr_jump_27 rfl rfl ?_
    refine zl_bipush (pc := 28) hO (v := 7) nd_Pr_jump_28 (by decide) ?_
    refine zl_iand (pc := 30) hO nd_Pr_jump_30 ?_
    refine zl_if_ne (pc := 31) hO 48 nd_Pr_jump_31 (by decide) (fun hc => ?_) (fun hc => ?_)
    · have h := ite_f hc h
      refine zl_iconst (pc := 48) hO (v := 2) nd_Pr_jump_48 (by decide) ?_
      exact zl_iret (pc := 49) hO nd_Pr_jump_49 rfl (zr_i h)
    · have h := ite_t hc h
      refine zl_iload (pc := 34) hO nd_Pr_jump_34 rfl ?_
      refine zl_bipush (pc := 36) hO (v := 7) nd_Pr_jump_36 (by decide) ?_
      refine zl_icmp_le (pc := 38) hO 50 nd_Pr_jump_38 (by decide) (fun hc => ?_) (fun hc => ?_)
      · have h := ite_t hc h
        exact zl_weak (J_50 _ _ _ h) ⟨rfl, ⟨rfl, ⟨rfl, ⟨rfl, trivial⟩⟩⟩⟩
      · have h := ite_f hc h
        refine zl_iload (pc := 41) hO nd_Pr_jump_41 rfl ?_
        refine zl_bipush (pc := 43) hO (v := 14) nd_Pr_jump_43 (by decide) ?_
        refine zl_icmp_eq (pc := 45) hO 50 nd_Pr_jump_45 (by decide) (fun hc => ?_) (fun hc => ?_)
        · have h := ite_t hc h
          exact zl_weak (J_50 _ _ _ h) ⟨rfl, ⟨rfl, ⟨rfl, ⟨rfl, trivial⟩⟩⟩⟩
        · have h := ite_f hc h
          refine zl_iconst (pc := 48) hO (v := 2) nd_Pr_jump_48 (by decide) ?_
          exact zl_iret (pc := 49) hO nd_Pr_jump_49 rfl (zr_i h)
  unfold k_Pr_jump at h
  refine zl_iload_n (pc := 0) hO 2 nd_Pr_jump_0 rfl rfl ?_
  refine zl_bipush (pc := 1) hO (v := 7) nd_Pr_jump_1 (by decide) ?_
  refine zl_ishr (pc := 3) hO nd_Pr_jump_3 ?_
  obtain ⟨x1, e_x1, h⟩ := lt_use h
  refine zl_top e_x1 ?_
  refine zl_istore_n (pc := 4) hO 3 (L' := [some (zR 10 0), some (zR 11 a1), some (zI a2), some (zI x1), none, none]) nd_Pr_jump_4 rfl (by decide) rfl ?_
  refine zl_iload_n (pc := 5) hO 2 nd_Pr_jump_5 rfl rfl ?_
  refine zl_iconst (pc := 6) hO (v := 3) nd_Pr_jump_6 (by decide) ?_
  refine zl_ishr (pc := 7) hO nd_Pr_jump_7 ?_
  refine zl_bipush (pc := 8) hO (v := 15) nd_Pr_jump_8 (by decide) ?_
  refine zl_iand (pc := 10) hO nd_Pr_jump_10 ?_
  obtain ⟨x2, e_x2, h⟩ := lt_use h
  refine zl_top e_x2 ?_
  refine zl_istore (pc := 11) hO (L' := [some (zR 10 0), some (zR 11 a1), some (zI a2), some (zI x1), some (zI x2), none]) nd_Pr_jump_11 (by decide) rfl ?_
  refine zl_iload_n (pc := 13) hO 3 nd_Pr_jump_13 rfl rfl ?_
  refine zl_sipush (pc := 14) hO (v := 142) nd_Pr_jump_14 (by decide) ?_
  refine zl_icmp_eq (pc := 17) hO 27 nd_Pr_jump_17 (by decide) (fun hc => ?_) (fun hc => ?_)
  · have h := ite_t hc h
    exact zl_weak (J_27 _ _ _ h) ⟨rfl, ⟨rfl, ⟨rfl, ⟨rfl, ⟨rfl, trivial⟩⟩⟩⟩⟩
  · have h := ite_f hc h
    refine zl_iload_n (pc := 20) hO 3 nd_Pr_jump_20 rfl rfl ?_
    refine zl_sipush (pc := 21) hO (v := 143) nd_Pr_jump_21 (by decide) ?_
    refine zl_icmp_ne (pc := 24) hO 48 nd_Pr_jump_24 (by decide) (fun hc => ?_) (fun hc => ?_)
    · have h := ite_f hc h
      refine zl_iconst (pc := 48) hO (v := 2) nd_Pr_jump_48 (by decide) ?_
      exact zl_iret (pc := 49) hO nd_Pr_jump_49 rfl (zr_i h)
    · have h := ite_t hc h
      exact zl_weak (J_27 _ _ _ h) ⟨rfl, ⟨rfl, ⟨rfl, ⟨rfl, ⟨rfl, trivial⟩⟩⟩⟩⟩
set_option maxHeartbeats 4000000 in
set_option maxRecDepth 100000 in
theorem c_BP_mayLoad {l : Launch} {V : zG} (hJ : zJ0 (sC l V)) {s0 : zS} {p : Nat} {a1 : Int32} (b_p : p < 4) {s1 : zS} {v1 : Int32} (h : k_BP_mayLoad s0 p a1 = some (s1, v1)) : zM (sC l V) md_BP_mayLoad [zR 11 p, zI a1] s0 (s1, some (zI v1)) := by
  refine zMet [some (zR 11 p), some (zI a1)] hJ (by decide) rfl (Nat.le_of_ble_eq_true rfl) rfl ?_
  intro X hO
  have J_17 : ∀ (s0 : zS), k_BP_mayLoad_17 p a1 s0 = some (s1, v1) → ZW (sC l V) md_BP_mayLoad (s1, some (zI v1)) X 17 [none, none] [] s0 := by
    intro s0 h
    unfold k_BP_mayLoad_17 at h
    refine zl_iconst (pc := 17) hO (v := 1) nd_BP_mayLoad_17 (by decide) ?_
    refine zl_goto (pc := 18) hO 22 nd_BP_mayLoad_18 (by decide) ?_
    exact zl_zret (pc := 22) hO nd_BP_mayLoad_22 rfl (by decide) (zr_i h)
  unfold k_BP_mayLoad at h
  refine zl_aload_n (pc := 0) hO 0 nd_BP_mayLoad_0 rfl rfl ?_
  refine zl_iload_n (pc := 1) hO 1 nd_BP_mayLoad_1 rfl rfl ?_
  obtain ⟨⟨s1, r2⟩, h_2, h⟩ := bn_use h
  refine zl_callVi (pc := 2) hO [zI a1] [] (c_BP_isInCode hJ b_p h_2) nd_BP_mayLoad_2 kv_BP_97 rfl b_p rfl rfl rfl (Nat.le_of_ble_eq_true rfl) ?_
  refine zl_if_ne (pc := 5) hO 17 nd_BP_mayLoad_5 (by decide) (fun hc => ?_) (fun hc => ?_)
  · have h := ite_f hc h
    exact zl_weak (J_17 _ h) trivial
  · have h := ite_t hc h
    refine zl_aload_n (pc := 8) hO 0 nd_BP_mayLoad_8 rfl rfl ?_
    refine zl_iload_n (pc := 9) hO 1 nd_BP_mayLoad_9 rfl rfl ?_
    refine zl_iconst (pc := 10) hO (v := 1) nd_BP_mayLoad_10 (by decide) ?_
    obtain ⟨⟨s3, r4⟩, h_11, h⟩ := bn_use h
    refine zl_callVi (pc := 11) hO [zI a1, zI 1] [] (c_BP_areOpen hJ b_p h_11) nd_BP_mayLoad_11 kv_BP_101 rfl b_p rfl rfl rfl (Nat.le_of_ble_eq_true rfl) ?_
    refine zl_if_eq (pc := 14) hO 21 nd_BP_mayLoad_14 (by decide) (fun hc => ?_) (fun hc => ?_)
    · have h := ite_t hc h
      refine zl_iconst (pc := 21) hO (v := 0) nd_BP_mayLoad_21 (by decide) ?_
      exact zl_zret (pc := 22) hO nd_BP_mayLoad_22 rfl (by decide) (zr_i h)
    · have h := ite_f hc h
      exact zl_weak (J_17 _ h) trivial
set_option maxHeartbeats 4000000 in
set_option maxRecDepth 100000 in
theorem c_Me_flashWord {l : Launch} {V : zG} (hJ : zJ0 (sC l V)) {s0 : zS} {a1 : Int32}  {s1 : zS} {v1 : Int32} (h : k_Me_flashWord s0 a1 = some (s1, v1)) : zM (sC l V) md_Me_flashWord [zR 1 0, zI a1] s0 (s1, some (zI v1)) := by
  refine zMet [some (zR 1 0), some (zI a1), none] hJ (by decide) rfl (Nat.le_of_ble_eq_true rfl) rfl ?_
  intro X hO
  have J_17 : ∀ (s0 : zS), k_Me_flashWord_17 a1 s0 = some (s1, v1) → ZW (sC l V) md_Me_flashWord (s1, some (zI v1)) X 17 [none, none, none] [] s0 := by
    intro s0 h
    unfold k_Me_flashWord_17 at h
    refine zl_iconst (pc := 17) hO (v := 0) nd_Me_flashWord_17 (by decide) ?_
    refine zl_goto (pc := 18) hO 39 nd_Me_flashWord_18 (by decide) ?_
    exact zl_iret (pc := 39) hO nd_Me_flashWord_39 rfl (zr_i h)
  unfold k_Me_flashWord at h
  refine zl_iload_n (pc := 0) hO 1 nd_Me_flashWord_0 rfl rfl ?_
  refine zl_iconst (pc := 1) hO (v := 1) nd_Me_flashWord_1 (by decide) ?_
  refine zl_ishr (pc := 2) hO nd_Me_flashWord_2 ?_
  obtain ⟨x1, e_x1, h⟩ := lt_use h
  refine zl_top e_x1 ?_
  refine zl_istore_n (pc := 3) hO 2 (L' := [some (zR 1 0), some (zI a1), some (zI x1)]) nd_Me_flashWord_3 rfl (by decide) rfl ?_
  refine zl_iload_n (pc := 4) hO 2 nd_Me_flashWord_4 rfl rfl ?_
  refine zl_if_lt (pc := 5) hO 17 nd_Me_flashWord_5 (by decide) (fun hc => ?_) (fun hc => ?_)
  · have h := ite_t hc h
    exact zl_weak (J_17 _ h) trivial
  · have h := ite_f hc h
    refine zl_iload_n (pc := 8) hO 2 nd_Me_flashWord_8 rfl rfl ?_
    refine zl_iconst (pc := 9) hO (v := 1) nd_Me_flashWord_9 (by decide) ?_
    refine zl_iadd (pc := 10) hO nd_Me_flashWord_10 ?_
    refine zl_sipush (pc := 11) hO (v := 256) nd_Me_flashWord_11 (by decide) ?_
    refine zl_icmp_lt (pc := 14) hO 21 nd_Me_flashWord_14 (by decide) (fun hc => ?_) (fun hc => ?_)
    · have h := ite_t hc h
      refine zl_aload_n (pc := 21) hO 0 nd_Me_flashWord_21 rfl rfl ?_
      refine zl_get0 (pc := 22) hO nd_Me_flashWord_22 kf_Me_9 rfl (Nat.le_of_ble_eq_true rfl) rfl ?_
      refine zl_iload_n (pc := 25) hO 2 nd_Me_flashWord_25 rfl rfl ?_
      obtain ⟨c_in26, h⟩ := ck_use h
      refine zl_iald (pc := 26) hO nd_Me_flashWord_26 rfl rfl (Nat.le_of_ble_eq_true rfl) c_in26 ?_
      refine zl_aload_n (pc := 27) hO 0 nd_Me_flashWord_27 rfl rfl ?_
      refine zl_get0 (pc := 28) hO nd_Me_flashWord_28 kf_Me_9 rfl (Nat.le_of_ble_eq_true rfl) rfl ?_
      refine zl_iload_n (pc := 31) hO 2 nd_Me_flashWord_31 rfl rfl ?_
      refine zl_iconst (pc := 32) hO (v := 1) nd_Me_flashWord_32 (by decide) ?_
      refine zl_iadd (pc := 33) hO nd_Me_flashWord_33 ?_
      obtain ⟨c_in34, h⟩ := ck_use h
      refine zl_iald (pc := 34) hO nd_Me_flashWord_34 rfl rfl (Nat.le_of_ble_eq_true rfl) c_in34 ?_
      refine zl_bipush (pc := 35) hO (v := 16) nd_Me_flashWord_35 (by decide) ?_
      refine zl_ishl (pc := 37) hO nd_Me_flashWord_37 ?_
      refine zl_ior (pc := 38) hO nd_Me_flashWord_38 ?_
      exact zl_iret (pc := 39) hO nd_Me_flashWord_39 rfl (zr_i h)
    · have h := ite_f hc h
      exact zl_weak (J_17 _ h) trivial
set_option maxHeartbeats 4000000 in
set_option maxRecDepth 100000 in
theorem c_BP_readWord {l : Launch} {V : zG} (hJ : zJ0 (sC l V)) {s0 : zS} {p : Nat} {a1 : Int32} (b_p : p < 4) {s1 : zS} {v1 : Int32} (h : k_BP_readWord s0 p a1 = some (s1, v1)) : zM (sC l V) md_BP_readWord [zR 11 p, zI a1] s0 (s1, some (zI v1)) := by
  refine zMet [some (zR 11 p), some (zI a1)] hJ (by decide) rfl (Nat.le_of_ble_eq_true rfl) rfl ?_
  intro X hO
  unfold k_BP_readWord at h
  refine zl_aload_n (pc := 0) hO 0 nd_BP_readWord_0 rfl rfl ?_
  refine zl_iload_n (pc := 1) hO 1 nd_BP_readWord_1 rfl rfl ?_
  obtain ⟨⟨s1, r2⟩, h_2, h⟩ := bn_use h
  refine zl_callVi (pc := 2) hO [zI a1] [] (c_BP_isInCode hJ b_p h_2) nd_BP_readWord_2 kv_BP_97 rfl b_p rfl rfl rfl (Nat.le_of_ble_eq_true rfl) ?_
  refine zl_if_eq (pc := 5) hO 19 nd_BP_readWord_5 (by decide) (fun hc => ?_) (fun hc => ?_)
  · have h := ite_t hc h
    refine zl_aload_n (pc := 19) hO 0 nd_BP_readWord_19 rfl rfl ?_
    refine zl_get0 (pc := 20) hO nd_BP_readWord_20 kf_BP_9 rfl b_p rfl ?_
    refine zl_iload_n (pc := 23) hO 1 nd_BP_readWord_23 rfl rfl ?_
    obtain ⟨⟨s3, r4⟩, h_24, h⟩ := bn_use h
    refine zl_callVi (pc := 24) hO [zI a1] [] (c_Me_ramWord hJ h_24) nd_BP_readWord_24 kv_BP_109 rfl (Nat.le_of_ble_eq_true rfl) rfl rfl rfl (Nat.le_of_ble_eq_true rfl) ?_
    exact zl_iret (pc := 27) hO nd_BP_readWord_27 rfl (zr_i h)
  · have h := ite_f hc h
    refine zl_aload_n (pc := 8) hO 0 nd_BP_readWord_8 rfl rfl ?_
    refine zl_get0 (pc := 9) hO nd_BP_readWord_9 kf_BP_9 rfl b_p rfl ?_
    refine zl_iload_n (pc := 12) hO 1 nd_BP_readWord_12 rfl rfl ?_
    obtain ⟨⟨s5, r6⟩, h_13, h⟩ := bn_use h
    refine zl_callVi (pc := 13) hO [zI a1] [] (c_Me_flashWord hJ h_13) nd_BP_readWord_13 kv_BP_105 rfl (Nat.le_of_ble_eq_true rfl) rfl rfl rfl (Nat.le_of_ble_eq_true rfl) ?_
    refine zl_goto (pc := 16) hO 27 nd_BP_readWord_16 (by decide) ?_
    exact zl_iret (pc := 27) hO nd_BP_readWord_27 rfl (zr_i h)
set_option maxHeartbeats 4000000 in
set_option maxRecDepth 100000 in
theorem c_Pr_loadInto {l : Launch} {V : zG} (hJ : zJ0 (sC l V)) {s0 : zS} {a1 : Nat} {a2 : Int32} {a3 : Int32} (b_a1 : a1 < 4) {s1 : zS} {v1 : Int32} (h : k_Pr_loadInto s0 a1 a2 a3 = some (s1, v1)) : zM (sC l V) md_Pr_loadInto [zR 10 0, zR 11 a1, zI a2, zI a3] s0 (s1, some (zI v1)) := by
  refine zMet [some (zR 10 0), some (zR 11 a1), some (zI a2), some (zI a3)] hJ (by decide) rfl (Nat.le_of_ble_eq_true rfl) rfl ?_
  intro X hO
  unfold k_Pr_loadInto at h
  refine zl_iload_n (pc := 0) hO 3 nd_Pr_loadInto_0 rfl rfl ?_
  refine zl_iconst (pc := 1) hO (v := 3) nd_Pr_loadInto_1 (by decide) ?_
  refine zl_iand (pc := 2) hO nd_Pr_loadInto_2 ?_
  refine zl_if_eq (pc := 3) hO 8 nd_Pr_loadInto_3 (by decide) (fun hc => ?_) (fun hc => ?_)
  · have h := ite_t hc h
    refine zl_aload_n (pc := 8) hO 1 nd_Pr_loadInto_8 rfl rfl ?_
    refine zl_iload_n (pc := 9) hO 3 nd_Pr_loadInto_9 rfl rfl ?_
    obtain ⟨⟨s1, r2⟩, h_10, h⟩ := bn_use h
    refine zl_callVi (pc := 10) hO [zI a3] [] (c_BP_mayLoad hJ b_a1 h_10) nd_Pr_loadInto_10 kv_Pr_103 rfl b_a1 rfl rfl rfl (Nat.le_of_ble_eq_true rfl) ?_
    refine zl_if_ne (pc := 13) hO 18 nd_Pr_loadInto_13 (by decide) (fun hc => ?_) (fun hc => ?_)
    · have h := ite_f hc h
      refine zl_aload_n (pc := 18) hO 1 nd_Pr_loadInto_18 rfl rfl ?_
      refine zl_getS (pc := 19) hO nd_Pr_loadInto_19 kf_Pr_57 rfl b_a1 rfl ?_
      refine zl_iload_n (pc := 22) hO 2 nd_Pr_loadInto_22 rfl rfl ?_
      refine zl_aload_n (pc := 23) hO 1 nd_Pr_loadInto_23 rfl rfl ?_
      refine zl_iload_n (pc := 24) hO 3 nd_Pr_loadInto_24 rfl rfl ?_
      obtain ⟨⟨s3, r4⟩, h_25, h⟩ := bn_use h
      refine zl_callVi (pc := 25) hO [zI a3] [zI a2, zR 12 a1] (c_BP_readWord hJ b_a1 h_25) nd_Pr_loadInto_25 kv_Pr_106 rfl b_a1 rfl rfl rfl (Nat.le_of_ble_eq_true rfl) ?_
      obtain ⟨c_in28, h⟩ := ck_use h
      refine zl_iast (pc := 28) hO nd_Pr_loadInto_28 rfl rfl b_a1 c_in28 ?_
      obtain ⟨s5, e_s5, h⟩ := lt_use h
      refine zl_sg e_s5 ?_
      refine zl_iconst (pc := 29) hO (v := 0) nd_Pr_loadInto_29 (by decide) ?_
      exact zl_iret (pc := 30) hO nd_Pr_loadInto_30 rfl (zr_i h)
    · have h := ite_t hc h
      refine zl_iconst (pc := 16) hO (v := 4) nd_Pr_loadInto_16 (by decide) ?_
      exact zl_iret (pc := 17) hO nd_Pr_loadInto_17 rfl (zr_i h)
  · have h := ite_f hc h
    refine zl_iconst (pc := 6) hO (v := 3) nd_Pr_loadInto_6 (by decide) ?_
    exact zl_iret (pc := 7) hO nd_Pr_loadInto_7 rfl (zr_i h)
set_option maxHeartbeats 4000000 in
set_option maxRecDepth 100000 in
theorem c_Pr_storeFrom {l : Launch} {V : zG} (hJ : zJ0 (sC l V)) {s0 : zS} {a1 : Nat} {a2 : Int32} {a3 : Int32} (b_a1 : a1 < 4) {s1 : zS} {v1 : Int32} (h : k_Pr_storeFrom s0 a1 a2 a3 = some (s1, v1)) : zM (sC l V) md_Pr_storeFrom [zR 10 0, zR 11 a1, zI a2, zI a3] s0 (s1, some (zI v1)) := by
  refine zMet [some (zR 10 0), some (zR 11 a1), some (zI a2), some (zI a3)] hJ (by decide) rfl (Nat.le_of_ble_eq_true rfl) rfl ?_
  intro X hO
  unfold k_Pr_storeFrom at h
  refine zl_iload_n (pc := 0) hO 3 nd_Pr_storeFrom_0 rfl rfl ?_
  refine zl_iconst (pc := 1) hO (v := 3) nd_Pr_storeFrom_1 (by decide) ?_
  refine zl_iand (pc := 2) hO nd_Pr_storeFrom_2 ?_
  refine zl_if_eq (pc := 3) hO 8 nd_Pr_storeFrom_3 (by decide) (fun hc => ?_) (fun hc => ?_)
  · have h := ite_t hc h
    refine zl_aload_n (pc := 8) hO 1 nd_Pr_storeFrom_8 rfl rfl ?_
    refine zl_iload_n (pc := 9) hO 3 nd_Pr_storeFrom_9 rfl rfl ?_
    refine zl_iconst (pc := 10) hO (v := 1) nd_Pr_storeFrom_10 (by decide) ?_
    obtain ⟨⟨s1, r2⟩, h_11, h⟩ := bn_use h
    refine zl_callVi (pc := 11) hO [zI a3, zI 1] [] (c_BP_areOpen hJ b_a1 h_11) nd_Pr_storeFrom_11 kv_Pr_109 rfl b_a1 rfl rfl rfl (Nat.le_of_ble_eq_true rfl) ?_
    refine zl_if_ne (pc := 14) hO 19 nd_Pr_storeFrom_14 (by decide) (fun hc => ?_) (fun hc => ?_)
    · have h := ite_f hc h
      refine zl_aload_n (pc := 19) hO 0 nd_Pr_storeFrom_19 rfl rfl ?_
      refine zl_get0 (pc := 20) hO nd_Pr_storeFrom_20 kf_Pr_9 rfl (Nat.le_of_ble_eq_true rfl) rfl ?_
      refine zl_iload_n (pc := 23) hO 3 nd_Pr_storeFrom_23 rfl rfl ?_
      refine zl_aload_n (pc := 24) hO 1 nd_Pr_storeFrom_24 rfl rfl ?_
      refine zl_getS (pc := 25) hO nd_Pr_storeFrom_25 kf_Pr_57 rfl b_a1 rfl ?_
      refine zl_iload_n (pc := 28) hO 2 nd_Pr_storeFrom_28 rfl rfl ?_
      obtain ⟨c_in29, h⟩ := ck_use h
      refine zl_iald (pc := 29) hO nd_Pr_storeFrom_29 rfl rfl b_a1 c_in29 ?_
      obtain ⟨s3, h_30, h⟩ := bn_use h
      refine zl_callVv (pc := 30) hO [zI a3, zI (s1 12 a1 a2.toNatClampNeg)] [] (c_Me_setRamWord hJ h_30) nd_Pr_storeFrom_30 kv_Pr_113 rfl (Nat.le_of_ble_eq_true rfl) rfl rfl rfl (Nat.le_of_ble_eq_true rfl) ?_
      refine zl_iconst (pc := 33) hO (v := 0) nd_Pr_storeFrom_33 (by decide) ?_
      exact zl_iret (pc := 34) hO nd_Pr_storeFrom_34 rfl (zr_i h)
    · have h := ite_t hc h
      refine zl_iconst (pc := 17) hO (v := 4) nd_Pr_storeFrom_17 (by decide) ?_
      exact zl_iret (pc := 18) hO nd_Pr_storeFrom_18 rfl (zr_i h)
  · have h := ite_f hc h
    refine zl_iconst (pc := 6) hO (v := 3) nd_Pr_storeFrom_6 (by decide) ?_
    exact zl_iret (pc := 7) hO nd_Pr_storeFrom_7 rfl (zr_i h)
set_option maxHeartbeats 4000000 in
set_option maxRecDepth 100000 in
theorem c_Pr_moveStack {l : Launch} {V : zG} (hJ : zJ0 (sC l V)) {s0 : zS} {a1 : Nat} {a2 : Int32} (b_a1 : a1 < 4) {s1 : zS} {v1 : Int32} (h : k_Pr_moveStack s0 a1 a2 = some (s1, v1)) : zM (sC l V) md_Pr_moveStack [zR 10 0, zR 11 a1, zI a2] s0 (s1, some (zI v1)) := by
  refine zMet [some (zR 10 0), some (zR 11 a1), some (zI a2), none] hJ (by decide) rfl (Nat.le_of_ble_eq_true rfl) rfl ?_
  intro X hO
  have J_26 : ∀ (s0 : zS) (t0 : Int32) (t1 : Int32) (t2 : Nat) (b_t2 : t2 < 4), k_Pr_moveStack_26 a1 a2 s0 t0 t1 t2 = some (s1, v1) → ZW (sC l V) md_Pr_moveStack (s1, some (zI v1)) X 26 [none, none, none, none] [zI t0, zI t1, zR 11 t2] s0 := by
    intro s0 t0 t1 t2 b_t2 h
    unfold k_Pr_moveStack_26 at h
    refine zl_iadd (pc := 26) hO nd_Pr_moveStack_26 ?_
    refine zl_puti (pc := 27) hO nd_Pr_moveStack_27 kp_Pr_64 rfl b_t2 rfl ?_
    obtain ⟨s2, e_s2, h⟩ := lt_use h
    refine zl_sg e_s2 ?_
    refine zl_iconst (pc := 30) hO (v := 0) nd_Pr_moveStack_30 (by decide) ?_
    exact zl_iret (pc := 31) hO nd_Pr_moveStack_31 rfl (zr_i h)
  unfold k_Pr_moveStack at h
  refine zl_iconst (pc := 0) hO (v := 4) nd_Pr_moveStack_0 (by decide) ?_
  refine zl_iload_n (pc := 1) hO 2 nd_Pr_moveStack_1 rfl rfl ?_
  refine zl_bipush (pc := 2) hO (v := 127) nd_Pr_moveStack_2 (by decide) ?_
  refine zl_iand (pc := 4) hO nd_Pr_moveStack_4 ?_
  refine zl_imul (pc := 5) hO nd_Pr_moveStack_5 ?_
  obtain ⟨x1, e_x1, h⟩ := lt_use h
  refine zl_top e_x1 ?_
  refine zl_istore_n (pc := 6) hO 3 (L' := [some (zR 10 0), some (zR 11 a1), some (zI a2), some (zI x1)]) nd_Pr_moveStack_6 rfl (by decide) rfl ?_
  refine zl_aload_n (pc := 7) hO 1 nd_Pr_moveStack_7 rfl rfl ?_
  refine zl_dup (pc := 8) hO nd_Pr_moveStack_8 rfl ?_
  refine zl_geti (pc := 9) hO nd_Pr_moveStack_9 kf_Pr_64 rfl b_a1 rfl ?_
  refine zl_iload_n (pc := 12) hO 2 nd_Pr_moveStack_12 rfl rfl ?_
  refine zl_sipush (pc := 13) hO (v := 128) nd_Pr_moveStack_13 (by decide) ?_
  refine zl_iand (pc := 16) hO nd_Pr_moveStack_16 ?_
  refine zl_if_ne (pc := 17) hO 24 nd_Pr_moveStack_17 (by decide) (fun hc => ?_) (fun hc => ?_)
  · have h := ite_f hc h
    refine zl_iload_n (pc := 24) hO 3 nd_Pr_moveStack_24 rfl rfl ?_
    refine zl_ineg (pc := 25) hO nd_Pr_moveStack_25 ?_
    exact zl_weak (J_26 _ _ _ _ b_a1 h) trivial
  · have h := ite_t hc h
    refine zl_iload_n (pc := 20) hO 3 nd_Pr_moveStack_20 rfl rfl ?_
    refine zl_goto (pc := 21) hO 26 nd_Pr_moveStack_21 (by decide) ?_
    exact zl_weak (J_26 _ _ _ _ b_a1 h) trivial
set_option maxHeartbeats 4000000 in
set_option maxRecDepth 100000 in
theorem c_JI_bitCount {l : Launch} {V : zG} (hJ : zJ0 (sC l V)) {s0 : zS} {a1 : Int32}  {s1 : zS} {v1 : Int32} (h : k_JI_bitCount s0 a1 = some (s1, v1)) : zM (sC l V) md_JI_bitCount [zI a1] s0 (s1, some (zI v1)) := by
  refine zMet [some (zI a1)] hJ (by decide) rfl (Nat.le_of_ble_eq_true rfl) rfl ?_
  intro X hO
  unfold k_JI_bitCount at h
  refine zl_iload_n (pc := 0) hO 0 nd_JI_bitCount_0 rfl rfl ?_
  refine zl_iload_n (pc := 1) hO 0 nd_JI_bitCount_1 rfl rfl ?_
  refine zl_iconst (pc := 2) hO (v := 1) nd_JI_bitCount_2 (by decide) ?_
  refine zl_iushr (pc := 3) hO nd_JI_bitCount_3 ?_
  refine zl_ldcw (pc := 4) hO nd_JI_bitCount_4 kc_JI_265 ?_
  refine zl_iand (pc := 7) hO nd_JI_bitCount_7 ?_
  refine zl_isub (pc := 8) hO nd_JI_bitCount_8 ?_
  obtain ⟨x1, e_x1, h⟩ := lt_use h
  refine zl_top e_x1 ?_
  refine zl_istore_n (pc := 9) hO 0 (L' := [some (zI x1)]) nd_JI_bitCount_9 rfl (by decide) rfl ?_
  refine zl_iload_n (pc := 10) hO 0 nd_JI_bitCount_10 rfl rfl ?_
  refine zl_ldcw (pc := 11) hO nd_JI_bitCount_11 kc_JI_266 ?_
  refine zl_iand (pc := 14) hO nd_JI_bitCount_14 ?_
  refine zl_iload_n (pc := 15) hO 0 nd_JI_bitCount_15 rfl rfl ?_
  refine zl_iconst (pc := 16) hO (v := 2) nd_JI_bitCount_16 (by decide) ?_
  refine zl_iushr (pc := 17) hO nd_JI_bitCount_17 ?_
  refine zl_ldcw (pc := 18) hO nd_JI_bitCount_18 kc_JI_266 ?_
  refine zl_iand (pc := 21) hO nd_JI_bitCount_21 ?_
  refine zl_iadd (pc := 22) hO nd_JI_bitCount_22 ?_
  obtain ⟨x2, e_x2, h⟩ := lt_use h
  refine zl_top e_x2 ?_
  refine zl_istore_n (pc := 23) hO 0 (L' := [some (zI x2)]) nd_JI_bitCount_23 rfl (by decide) rfl ?_
  refine zl_iload_n (pc := 24) hO 0 nd_JI_bitCount_24 rfl rfl ?_
  refine zl_iload_n (pc := 25) hO 0 nd_JI_bitCount_25 rfl rfl ?_
  refine zl_iconst (pc := 26) hO (v := 4) nd_JI_bitCount_26 (by decide) ?_
  refine zl_iushr (pc := 27) hO nd_JI_bitCount_27 ?_
  refine zl_iadd (pc := 28) hO nd_JI_bitCount_28 ?_
  refine zl_ldcw (pc := 29) hO nd_JI_bitCount_29 kc_JI_267 ?_
  refine zl_iand (pc := 32) hO nd_JI_bitCount_32 ?_
  obtain ⟨x3, e_x3, h⟩ := lt_use h
  refine zl_top e_x3 ?_
  refine zl_istore_n (pc := 33) hO 0 (L' := [some (zI x3)]) nd_JI_bitCount_33 rfl (by decide) rfl ?_
  refine zl_iload_n (pc := 34) hO 0 nd_JI_bitCount_34 rfl rfl ?_
  refine zl_iload_n (pc := 35) hO 0 nd_JI_bitCount_35 rfl rfl ?_
  refine zl_bipush (pc := 36) hO (v := 8) nd_JI_bitCount_36 (by decide) ?_
  refine zl_iushr (pc := 38) hO nd_JI_bitCount_38 ?_
  refine zl_iadd (pc := 39) hO nd_JI_bitCount_39 ?_
  obtain ⟨x4, e_x4, h⟩ := lt_use h
  refine zl_top e_x4 ?_
  refine zl_istore_n (pc := 40) hO 0 (L' := [some (zI x4)]) nd_JI_bitCount_40 rfl (by decide) rfl ?_
  refine zl_iload_n (pc := 41) hO 0 nd_JI_bitCount_41 rfl rfl ?_
  refine zl_iload_n (pc := 42) hO 0 nd_JI_bitCount_42 rfl rfl ?_
  refine zl_bipush (pc := 43) hO (v := 16) nd_JI_bitCount_43 (by decide) ?_
  refine zl_iushr (pc := 45) hO nd_JI_bitCount_45 ?_
  refine zl_iadd (pc := 46) hO nd_JI_bitCount_46 ?_
  obtain ⟨x5, e_x5, h⟩ := lt_use h
  refine zl_top e_x5 ?_
  refine zl_istore_n (pc := 47) hO 0 (L' := [some (zI x5)]) nd_JI_bitCount_47 rfl (by decide) rfl ?_
  refine zl_iload_n (pc := 48) hO 0 nd_JI_bitCount_48 rfl rfl ?_
  refine zl_bipush (pc := 49) hO (v := 63) nd_JI_bitCount_49 (by decide) ?_
  refine zl_iand (pc := 51) hO nd_JI_bitCount_51 ?_
  exact zl_iret (pc := 52) hO nd_JI_bitCount_52 rfl (zr_i h)
set_option maxHeartbeats 4000000 in
set_option maxRecDepth 100000 in
theorem c_Pr_push {l : Launch} {V : zG} (hJ : zJ0 (sC l V)) {s0 : zS} {a1 : Nat} {a2 : Int32} (b_a1 : a1 < 4) {s1 : zS} {v1 : Int32} (h : k_Pr_push s0 a1 a2 = some (s1, v1)) : zM (sC l V) md_Pr_push [zR 10 0, zR 11 a1, zI a2] s0 (s1, some (zI v1)) := by
  refine zMet [some (zR 10 0), some (zR 11 a1), some (zI a2), none, none, none, none] hJ (by decide) rfl (Nat.le_of_ble_eq_true rfl) rfl ?_
  intro X hO
  have J_89 : ∀ (K53 : zS → Int32 → Int32 → Int32 → Option (zS × Int32)) (hK53 : ∀ (s0 : zS) (l4 : Int32) (l5 : Int32) (l6 : Int32), K53 s0 l4 l5 l6 = some (s1, v1) → ZW (sC l V) md_Pr_push (s1, some (zI v1)) X 53 [some (zR 10 0), some (zR 11 a1), some (zI a2), none, some (zI l4), some (zI l5), some (zI l6)] [] s0), ∀ (s0 : zS) (l4 : Int32) (l5 : Int32) (l6 : Int32), k_Pr_push_89 a1 a2 K53 s0 l4 l5 l6 = some (s1, v1) → ZW (sC l V) md_Pr_push (s1, some (zI v1)) X 89 [some (zR 10 0), some (zR 11 a1), some (zI a2), none, some (zI l4), some (zI l5), some (zI l6)] [] s0 := by
    intro K53 hK53
    intro s0 l4 l5 l6 h
    unfold k_Pr_push_89 at h
    obtain ⟨x10, e_x10, h⟩ := lt_use h
    refine zl_iinc (pc := 89) hO (L' := [some (zR 10 0), some (zR 11 a1), some (zI a2), none, some (zI l4), some (zI l5), some (zI x10)]) nd_Pr_push_89 rfl e_x10.symm (by decide) rfl ?_
    refine zl_goto (pc := 92) hO 53 nd_Pr_push_92 (by decide) ?_
    exact zl_weak (hK53 _ _ _ _ h) ⟨rfl, ⟨rfl, ⟨rfl, ⟨rfl, ⟨rfl, ⟨rfl, trivial⟩⟩⟩⟩⟩⟩
  have J_116 : ∀ (s0 : zS) (l4 : Int32), k_Pr_push_116 a1 a2 s0 l4 = some (s1, v1) → ZW (sC l V) md_Pr_push (s1, some (zI v1)) X 116 [none, some (zR 11 a1), none, none, some (zI l4), none, none] [] s0 := by
    intro s0 l4 h
    unfold k_Pr_push_116 at h
    refine zl_aload_n (pc := 116) hO 1 nd_Pr_push_116 rfl rfl ?_
    refine zl_iload (pc := 117) hO nd_Pr_push_117 rfl ?_
    refine zl_puti (pc := 119) hO nd_Pr_push_119 kp_Pr_64 rfl b_a1 rfl ?_
    obtain ⟨s9, e_s9, h⟩ := lt_use h
    refine zl_sg e_s9 ?_
    refine zl_iconst (pc := 122) hO (v := 0) nd_Pr_push_122 (by decide) ?_
    exact zl_iret (pc := 123) hO nd_Pr_push_123 rfl (zr_i h)
  have J_53 : ∀ (n : Nat), ∀ (s0 : zS) (l4 : Int32) (l5 : Int32) (l6 : Int32), k_Pr_push_53 a1 a2 n s0 l4 l5 l6 = some (s1, v1) → ZW (sC l V) md_Pr_push (s1, some (zI v1)) X 53 [some (zR 10 0), some (zR 11 a1), some (zI a2), none, some (zI l4), some (zI l5), some (zI l6)] [] s0 := by
    intro n
    induction n with
    | zero => intro s0 l4 l5 l6 h; exact absurd h (by rw [k_Pr_push_53]; exact fun w => nomatch w)
    | succ n ih =>
      intro s0 l4 l5 l6 h
      rw [k_Pr_push_53]  at h
      refine zl_iload (pc := 53) hO nd_Pr_push_53 rfl ?_
      refine zl_bipush (pc := 55) hO (v := 8) nd_Pr_push_55 (by decide) ?_
      refine zl_icmp_ge (pc := 57) hO 95 nd_Pr_push_57 (by decide) (fun hc => ?_) (fun hc => ?_)
      · have h := ite_t hc h
        refine zl_iload_n (pc := 95) hO 2 nd_Pr_push_95 rfl rfl ?_
        refine zl_sipush (pc := 96) hO (v := 256) nd_Pr_push_96 (by decide) ?_
        refine zl_iand (pc := 99) hO nd_Pr_push_99 ?_
        refine zl_if_eq (pc := 100) hO 116 nd_Pr_push_100 (by decide) (fun hc => ?_) (fun hc => ?_)
        · have h := ite_t hc h
          exact zl_weak (J_116 _ _ h) ⟨rfl, ⟨rfl, trivial⟩⟩
        · have h := ite_f hc h
          refine zl_aload_n (pc := 103) hO 0 nd_Pr_push_103 rfl rfl ?_
          refine zl_get0 (pc := 104) hO nd_Pr_push_104 kf_Pr_9 rfl (Nat.le_of_ble_eq_true rfl) rfl ?_
          refine zl_iload (pc := 107) hO nd_Pr_push_107 rfl ?_
          refine zl_aload_n (pc := 109) hO 1 nd_Pr_push_109 rfl rfl ?_
          refine zl_geti (pc := 110) hO nd_Pr_push_110 kf_Pr_100 rfl b_a1 rfl ?_
          obtain ⟨s6, h_113, h⟩ := bn_use h
          refine zl_callVv (pc := 113) hO [zI l5, zI (s0 11 a1 12)] [] (c_Me_setRamWord hJ h_113) nd_Pr_push_113 kv_Pr_113 rfl (Nat.le_of_ble_eq_true rfl) rfl rfl rfl (Nat.le_of_ble_eq_true rfl) ?_
          exact zl_weak (J_116 _ _ h) ⟨rfl, ⟨rfl, trivial⟩⟩
      · have h := ite_f hc h
        refine zl_iload_n (pc := 60) hO 2 nd_Pr_push_60 rfl rfl ?_
        refine zl_iload (pc := 61) hO nd_Pr_push_61 rfl ?_
        refine zl_ishr (pc := 63) hO nd_Pr_push_63 ?_
        refine zl_iconst (pc := 64) hO (v := 1) nd_Pr_push_64 (by decide) ?_
        refine zl_iand (pc := 65) hO nd_Pr_push_65 ?_
        refine zl_iconst (pc := 66) hO (v := 1) nd_Pr_push_66 (by decide) ?_
        refine zl_icmp_ne (pc := 67) hO 89 nd_Pr_push_67 (by decide) (fun hc => ?_) (fun hc => ?_)
        · have h := ite_f hc h
          exact zl_weak (J_89 (k_Pr_push_53 a1 a2 n) ih _ _ _ _ h) ⟨rfl, ⟨rfl, ⟨rfl, ⟨rfl, ⟨rfl, ⟨rfl, trivial⟩⟩⟩⟩⟩⟩
        · have h := ite_t hc h
          refine zl_aload_n (pc := 70) hO 0 nd_Pr_push_70 rfl rfl ?_
          refine zl_get0 (pc := 71) hO nd_Pr_push_71 kf_Pr_9 rfl (Nat.le_of_ble_eq_true rfl) rfl ?_
          refine zl_iload (pc := 74) hO nd_Pr_push_74 rfl ?_
          refine zl_aload_n (pc := 76) hO 1 nd_Pr_push_76 rfl rfl ?_
          refine zl_getS (pc := 77) hO nd_Pr_push_77 kf_Pr_57 rfl b_a1 rfl ?_
          refine zl_iload (pc := 80) hO nd_Pr_push_80 rfl ?_
          obtain ⟨c_in82, h⟩ := ck_use h
          refine zl_iald (pc := 82) hO nd_Pr_push_82 rfl rfl b_a1 c_in82 ?_
          obtain ⟨s7, h_83, h⟩ := bn_use h
          refine zl_callVv (pc := 83) hO [zI l5, zI (s0 12 a1 l6.toNatClampNeg)] [] (c_Me_setRamWord hJ h_83) nd_Pr_push_83 kv_Pr_113 rfl (Nat.le_of_ble_eq_true rfl) rfl rfl rfl (Nat.le_of_ble_eq_true rfl) ?_
          obtain ⟨x8, e_x8, h⟩ := lt_use h
          refine zl_iinc (pc := 86) hO (L' := [some (zR 10 0), some (zR 11 a1), some (zI a2), none, some (zI l4), some (zI x8), some (zI l6)]) nd_Pr_push_86 rfl e_x8.symm (by decide) rfl ?_
          exact zl_weak (J_89 (k_Pr_push_53 a1 a2 n) ih _ _ _ _ h) ⟨rfl, ⟨rfl, ⟨rfl, ⟨rfl, ⟨rfl, ⟨rfl, trivial⟩⟩⟩⟩⟩⟩
  have J_46 : ∀ (s0 : zS) (l4 : Int32), k_Pr_push_46 a1 a2 s0 l4 = some (s1, v1) → ZW (sC l V) md_Pr_push (s1, some (zI v1)) X 46 [some (zR 10 0), some (zR 11 a1), some (zI a2), none, some (zI l4), none, none] [] s0 := by
    intro s0 l4 h
    unfold k_Pr_push_46 at h
    refine zl_iload (pc := 46) hO nd_Pr_push_46 rfl ?_
    refine zl_istore (pc := 48) hO (L' := [some (zR 10 0), some (zR 11 a1), some (zI a2), none, some (zI l4), some (zI l4), none]) nd_Pr_push_48 (by decide) rfl ?_
    refine zl_iconst (pc := 50) hO (v := 0) nd_Pr_push_50 (by decide) ?_
    refine zl_istore (pc := 51) hO (L' := [some (zR 10 0), some (zR 11 a1), some (zI a2), none, some (zI l4), some (zI l4), some (zI 0)]) nd_Pr_push_51 (by decide) rfl ?_
    exact zl_weak (J_53 FU _ _ _ _ h) ⟨rfl, ⟨rfl, ⟨rfl, ⟨rfl, ⟨rfl, ⟨rfl, trivial⟩⟩⟩⟩⟩⟩
  unfold k_Pr_push at h
  refine zl_iload_n (pc := 0) hO 2 nd_Pr_push_0 rfl rfl ?_
  refine zl_bipush (pc := 1) hO (v := 9) nd_Pr_push_1 (by decide) ?_
  refine zl_ishr (pc := 3) hO nd_Pr_push_3 ?_
  refine zl_bipush (pc := 4) hO (v := 90) nd_Pr_push_4 (by decide) ?_
  refine zl_icmp_eq (pc := 6) hO 11 nd_Pr_push_6 (by decide) (fun hc => ?_) (fun hc => ?_)
  · have h := ite_t hc h
    refine zl_iload_n (pc := 11) hO 2 nd_Pr_push_11 rfl rfl ?_
    refine zl_sipush (pc := 12) hO (v := 511) nd_Pr_push_12 (by decide) ?_
    refine zl_iand (pc := 15) hO nd_Pr_push_15 ?_
    obtain ⟨⟨s1, r2⟩, h_16, h⟩ := bn_use h
    refine zl_callSi (pc := 16) hO [zI (a2 &&& (511 : Int32))] [] (c_JI_bitCount hJ h_16) nd_Pr_push_16 ks_Pr_117 rfl rfl (Nat.le_of_ble_eq_true rfl) ?_
    refine zl_istore_n (pc := 19) hO 3 (L' := [some (zR 10 0), some (zR 11 a1), some (zI a2), some (zI r2), none, none, none]) nd_Pr_push_19 rfl (by decide) rfl ?_
    refine zl_aload_n (pc := 20) hO 1 nd_Pr_push_20 rfl rfl ?_
    refine zl_geti (pc := 21) hO nd_Pr_push_21 kf_Pr_64 rfl b_a1 rfl ?_
    refine zl_iconst (pc := 24) hO (v := 4) nd_Pr_push_24 (by decide) ?_
    refine zl_iload_n (pc := 25) hO 3 nd_Pr_push_25 rfl rfl ?_
    refine zl_imul (pc := 26) hO nd_Pr_push_26 ?_
    refine zl_isub (pc := 27) hO nd_Pr_push_27 ?_
    obtain ⟨x3, e_x3, h⟩ := lt_use h
    refine zl_top e_x3 ?_
    refine zl_istore (pc := 28) hO (L' := [some (zR 10 0), some (zR 11 a1), some (zI a2), some (zI r2), some (zI x3), none, none]) nd_Pr_push_28 (by decide) rfl ?_
    refine zl_iload_n (pc := 30) hO 3 nd_Pr_push_30 rfl rfl ?_
    refine zl_if_le (pc := 31) hO 46 nd_Pr_push_31 (by decide) (fun hc => ?_) (fun hc => ?_)
    · have h := ite_t hc h
      exact zl_weak (J_46 _ _ h) ⟨rfl, ⟨rfl, ⟨rfl, ⟨rfl, trivial⟩⟩⟩⟩
    · have h := ite_f hc h
      refine zl_aload_n (pc := 34) hO 1 nd_Pr_push_34 rfl rfl ?_
      refine zl_iload (pc := 35) hO nd_Pr_push_35 rfl ?_
      refine zl_iload_n (pc := 37) hO 3 nd_Pr_push_37 rfl rfl ?_
      obtain ⟨⟨s4, r5⟩, h_38, h⟩ := bn_use h
      refine zl_callVi (pc := 38) hO [zI x3, zI r2] [] (c_BP_areOpen hJ b_a1 h_38) nd_Pr_push_38 kv_Pr_109 rfl b_a1 rfl rfl rfl (Nat.le_of_ble_eq_true rfl) ?_
      refine zl_if_ne (pc := 41) hO 46 nd_Pr_push_41 (by decide) (fun hc => ?_) (fun hc => ?_)
      · have h := ite_f hc h
        exact zl_weak (J_46 _ _ h) ⟨rfl, ⟨rfl, ⟨rfl, ⟨rfl, trivial⟩⟩⟩⟩
      · have h := ite_t hc h
        refine zl_iconst (pc := 44) hO (v := 4) nd_Pr_push_44 (by decide) ?_
        exact zl_iret (pc := 45) hO nd_Pr_push_45 rfl (zr_i h)
  · have h := ite_f hc h
    refine zl_iconst (pc := 9) hO (v := 2) nd_Pr_push_9 (by decide) ?_
    exact zl_iret (pc := 10) hO nd_Pr_push_10 rfl (zr_i h)
