set_option maxHeartbeats 4000000 in
set_option maxRecDepth 100000 in
theorem c_GK_serve {l : Launch} {V : zG} (hJ : zJ0 (sC l V)) {s0 : zS} {a1 : Nat} {a2 : Int32} (b_a1 : a1 < 4) {s1 : zS} {v1 : Int32} (h : k_GK_serve s0 a1 a2 = some (s1, v1)) : zM (sC l V) md_GK_serve [zR 0 0, zR 11 a1, zI a2] s0 (s1, some (zI v1)) := by
  refine zMet [some (zR 0 0), some (zR 11 a1), some (zI a2)] hJ (by decide) rfl (Nat.le_of_ble_eq_true rfl) rfl ?_
  intro X hO
  unfold k_GK_serve at h
  refine zl_aload_n (pc := 0) hO 1 nd_GK_serve_0 rfl rfl ?_
  refine zl_aload_n (pc := 1) hO 1 nd_GK_serve_1 rfl rfl ?_
  refine zl_geti (pc := 2) hO nd_GK_serve_2 kf_GK_181 rfl b_a1 rfl ?_
  refine zl_iconst (pc := 5) hO (v := 2) nd_GK_serve_5 (by decide) ?_
  refine zl_iadd (pc := 6) hO nd_GK_serve_6 ?_
  obtain ⟨⟨s1, r2⟩, h_7, h⟩ := bn_use h
  refine zl_callVi (pc := 7) hO [zI ((s0 11 a1 13) + (2 : Int32))] [] (c_BP_stackFrame hJ b_a1 h_7) nd_GK_serve_7 kv_GK_184 rfl b_a1 rfl rfl rfl (Nat.le_of_ble_eq_true rfl) ?_
  refine zl_if_ne (pc := 10) hO 16 nd_GK_serve_10 (by decide) (fun hc => ?_) (fun hc => ?_)
  · have h := ite_f hc h
    refine zl_iload_n (pc := 16) hO 2 nd_GK_serve_16 rfl rfl ?_
    refine zl_if_ne (pc := 17) hO 31 nd_GK_serve_17 (by decide) (fun hc => ?_) (fun hc => ?_)
    · have h := ite_f hc h
      refine zl_aload_n (pc := 31) hO 1 nd_GK_serve_31 rfl rfl ?_
      refine zl_iconst (pc := 32) hO (v := 0) nd_GK_serve_32 (by decide) ?_
      refine zl_aload_n (pc := 33) hO 0 nd_GK_serve_33 rfl rfl ?_
      refine zl_get0 (pc := 34) hO nd_GK_serve_34 kf_GK_37 rfl (Nat.le_of_ble_eq_true rfl) rfl ?_
      refine zl_aload_n (pc := 37) hO 1 nd_GK_serve_37 rfl rfl ?_
      refine zl_iload_n (pc := 38) hO 2 nd_GK_serve_38 rfl rfl ?_
      obtain ⟨⟨s3, r4⟩, h_39, h⟩ := bn_use h
      refine zl_callVi (pc := 39) hO [zR 11 a1, zI a2] [zI 0, zR 11 a1] (c_Ke_answer hJ b_a1 h_39) nd_GK_serve_39 kv_GK_191 rfl (Nat.le_of_ble_eq_true rfl) rfl rfl rfl (Nat.le_of_ble_eq_true rfl) ?_
      obtain ⟨s5, h_42, h⟩ := bn_use h
      refine zl_callVv (pc := 42) hO [zI 0, zI r4] [] (c_BP_setFrameWord hJ b_a1 h_42) nd_GK_serve_42 kv_GK_194 rfl b_a1 rfl rfl rfl (Nat.le_of_ble_eq_true rfl) ?_
      refine zl_iconst (pc := 45) hO (v := 0) nd_GK_serve_45 (by decide) ?_
      exact zl_iret (pc := 46) hO nd_GK_serve_46 rfl (zr_i h)
    · have h := ite_t hc h
      refine zl_aload_n (pc := 20) hO 0 nd_GK_serve_20 rfl rfl ?_
      refine zl_get0 (pc := 21) hO nd_GK_serve_21 kf_GK_37 rfl (Nat.le_of_ble_eq_true rfl) rfl ?_
      refine zl_aload_n (pc := 24) hO 1 nd_GK_serve_24 rfl rfl ?_
      obtain ⟨s6, h_25, h⟩ := bn_use h
      refine zl_callVv (pc := 25) hO [zR 11 a1] [] (c_Ke_waitForUpcall hJ b_a1 h_25) nd_GK_serve_25 kv_GK_187 rfl (Nat.le_of_ble_eq_true rfl) rfl rfl rfl (Nat.le_of_ble_eq_true rfl) ?_
      refine zl_goto (pc := 28) hO 45 nd_GK_serve_28 (by decide) ?_
      refine zl_iconst (pc := 45) hO (v := 0) nd_GK_serve_45 (by decide) ?_
      exact zl_iret (pc := 46) hO nd_GK_serve_46 rfl (zr_i h)
  · have h := ite_t hc h
    refine zl_bipush (pc := 13) hO (v := 6) nd_GK_serve_13 (by decide) ?_
    exact zl_iret (pc := 15) hO nd_GK_serve_15 rfl (zr_i h)
set_option maxHeartbeats 4000000 in
set_option maxRecDepth 100000 in
theorem c_BP_fail {l : Launch} {V : zG} (hJ : zJ0 (sC l V)) {s0 : zS} {p : Nat} {a1 : Int32} (b_p : p < 4) {s1 : zS} (h : k_BP_fail s0 p a1 = some s1) : zM (sC l V) md_BP_fail [zR 11 p, zI a1] s0 (s1, none) := by
  refine zMet [some (zR 11 p), some (zI a1)] hJ (by decide) rfl (Nat.le_of_ble_eq_true rfl) rfl ?_
  intro X hO
  unfold k_BP_fail at h
  refine zl_aload_n (pc := 0) hO 0 nd_BP_fail_0 rfl rfl ?_
  refine zl_iload_n (pc := 1) hO 1 nd_BP_fail_1 rfl rfl ?_
  refine zl_puti (pc := 2) hO nd_BP_fail_2 kp_BP_73 rfl b_p rfl ?_
  obtain ⟨s1, e_s1, h⟩ := lt_use h
  refine zl_sg e_s1 ?_
  refine zl_aload_n (pc := 5) hO 0 nd_BP_fail_5 rfl rfl ?_
  refine zl_dup (pc := 6) hO nd_BP_fail_6 rfl ?_
  refine zl_geti (pc := 7) hO nd_BP_fail_7 kf_BP_76 rfl b_p rfl ?_
  refine zl_iconst (pc := 10) hO (v := 1) nd_BP_fail_10 (by decide) ?_
  refine zl_iadd (pc := 11) hO nd_BP_fail_11 ?_
  refine zl_puti (pc := 12) hO nd_BP_fail_12 kp_BP_76 rfl b_p rfl ?_
  obtain ⟨s2, e_s2, h⟩ := lt_use h
  refine zl_sg e_s2 ?_
  refine zl_aload_n (pc := 15) hO 0 nd_BP_fail_15 rfl rfl ?_
  refine zl_geti (pc := 16) hO nd_BP_fail_16 kf_BP_79 rfl b_p rfl ?_
  refine zl_aload_n (pc := 19) hO 0 nd_BP_fail_19 rfl rfl ?_
  refine zl_geti (pc := 20) hO nd_BP_fail_20 kf_BP_82 rfl b_p rfl ?_
  refine zl_icmp_ge (pc := 23) hO 43 nd_BP_fail_23 (by decide) (fun hc => ?_) (fun hc => ?_)
  · have h := ite_t hc h
    refine zl_aload_n (pc := 43) hO 0 nd_BP_fail_43 rfl rfl ?_
    obtain ⟨s3, h_44, h⟩ := bn_use h
    refine zl_callVv (pc := 44) hO [] [] (c_BP_halt hJ b_p h_44) nd_BP_fail_44 kv_BP_88 rfl b_p rfl rfl rfl (Nat.le_of_ble_eq_true rfl) ?_
    exact zl_vret (pc := 47) hO nd_BP_fail_47 rfl (zr_v h)
  · have h := ite_f hc h
    refine zl_aload_n (pc := 26) hO 0 nd_BP_fail_26 rfl rfl ?_
    refine zl_dup (pc := 27) hO nd_BP_fail_27 rfl ?_
    refine zl_geti (pc := 28) hO nd_BP_fail_28 kf_BP_79 rfl b_p rfl ?_
    refine zl_iconst (pc := 31) hO (v := 1) nd_BP_fail_31 (by decide) ?_
    refine zl_iadd (pc := 32) hO nd_BP_fail_32 ?_
    refine zl_puti (pc := 33) hO nd_BP_fail_33 kp_BP_79 rfl b_p rfl ?_
    obtain ⟨s4, e_s4, h⟩ := lt_use h
    refine zl_sg e_s4 ?_
    refine zl_aload_n (pc := 36) hO 0 nd_BP_fail_36 rfl rfl ?_
    obtain ⟨s5, h_37, h⟩ := bn_use h
    refine zl_callVv (pc := 37) hO [] [] (c_BP_begin hJ b_p h_37) nd_BP_fail_37 kv_BP_85 rfl b_p rfl rfl rfl (Nat.le_of_ble_eq_true rfl) ?_
    refine zl_goto (pc := 40) hO 47 nd_BP_fail_40 (by decide) ?_
    exact zl_vret (pc := 47) hO nd_BP_fail_47 rfl (zr_v h)
set_option maxHeartbeats 4000000 in
set_option maxRecDepth 100000 in
theorem c_GK_endStep {l : Launch} {V : zG} (hJ : zJ0 (sC l V)) {s0 : zS} {a1 : Nat} {a2 : Int32} (b_a1 : a1 < 4) {s1 : zS} (h : k_GK_endStep s0 a1 a2 = some s1) : zM (sC l V) md_GK_endStep [zR 0 0, zR 11 a1, zI a2] s0 (s1, none) := by
  refine zMet [some (zR 0 0), some (zR 11 a1), some (zI a2), none] hJ (by decide) rfl (Nat.le_of_ble_eq_true rfl) rfl ?_
  intro X hO
  have J_44 : ∀ (s0 : zS) (l3 : Int32), k_GK_endStep_44 a1 a2 s0 l3 = some s1 → ZW (sC l V) md_GK_endStep (s1, none) X 44 [some (zR 0 0), some (zR 11 a1), none, some (zI l3)] [] s0 := by
    intro s0 l3 h
    unfold k_GK_endStep_44 at h
    refine zl_iload_n (pc := 44) hO 3 nd_GK_endStep_44 rfl rfl ?_
    refine zl_if_eq (pc := 45) hO 58 nd_GK_endStep_45 (by decide) (fun hc => ?_) (fun hc => ?_)
    · have h := ite_t hc h
      exact zl_vret (pc := 58) hO nd_GK_endStep_58 rfl (zr_v h)
    · have h := ite_f hc h
      refine zl_aload_n (pc := 48) hO 0 nd_GK_endStep_48 rfl rfl ?_
      refine zl_iconst (pc := 49) hO (v := 0) nd_GK_endStep_49 (by decide) ?_
      refine zl_puti (pc := 50) hO nd_GK_endStep_50 kp_GK_76 rfl (Nat.le_of_ble_eq_true rfl) rfl ?_
      obtain ⟨s4, e_s4, h⟩ := lt_use h
      refine zl_sg e_s4 ?_
      refine zl_aload_n (pc := 53) hO 1 nd_GK_endStep_53 rfl rfl ?_
      refine zl_iload_n (pc := 54) hO 3 nd_GK_endStep_54 rfl rfl ?_
      obtain ⟨s5, h_55, h⟩ := bn_use h
      refine zl_callVv (pc := 55) hO [zI l3] [] (c_BP_fail hJ b_a1 h_55) nd_GK_endStep_55 kv_GK_197 rfl b_a1 rfl rfl rfl (Nat.le_of_ble_eq_true rfl) ?_
      exact zl_vret (pc := 58) hO nd_GK_endStep_58 rfl (zr_v h)
  unfold k_GK_endStep at h
  refine zl_iload_n (pc := 0) hO 2 nd_GK_endStep_0 rfl rfl ?_
  refine zl_istore_n (pc := 1) hO 3 (L' := [some (zR 0 0), some (zR 11 a1), some (zI a2), some (zI a2)]) nd_GK_endStep_1 rfl (by decide) rfl ?_
  refine zl_iload_n (pc := 2) hO 3 nd_GK_endStep_2 rfl rfl ?_
  refine zl_if_ne (pc := 3) hO 44 nd_GK_endStep_3 (by decide) (fun hc => ?_) (fun hc => ?_)
  · have h := ite_f hc h
    exact zl_weak (J_44 _ _ h) ⟨rfl, ⟨rfl, ⟨rfl, trivial⟩⟩⟩
  · have h := ite_t hc h
    refine zl_aload_n (pc := 6) hO 0 nd_GK_endStep_6 rfl rfl ?_
    refine zl_dup (pc := 7) hO nd_GK_endStep_7 rfl ?_
    refine zl_geti (pc := 8) hO nd_GK_endStep_8 kf_GK_76 rfl (Nat.le_of_ble_eq_true rfl) rfl ?_
    refine zl_iconst (pc := 11) hO (v := 1) nd_GK_endStep_11 (by decide) ?_
    refine zl_isub (pc := 12) hO nd_GK_endStep_12 ?_
    refine zl_puti (pc := 13) hO nd_GK_endStep_13 kp_GK_76 rfl (Nat.le_of_ble_eq_true rfl) rfl ?_
    obtain ⟨s1, e_s1, h⟩ := lt_use h
    refine zl_sg e_s1 ?_
    refine zl_aload_n (pc := 16) hO 0 nd_GK_endStep_16 rfl rfl ?_
    refine zl_geti (pc := 17) hO nd_GK_endStep_17 kf_GK_76 rfl (Nat.le_of_ble_eq_true rfl) rfl ?_
    refine zl_if_ne (pc := 20) hO 44 nd_GK_endStep_20 (by decide) (fun hc => ?_) (fun hc => ?_)
    · have h := ite_f hc h
      exact zl_weak (J_44 _ _ h) ⟨rfl, ⟨rfl, ⟨rfl, trivial⟩⟩⟩
    · have h := ite_t hc h
      refine zl_aload_n (pc := 23) hO 1 nd_GK_endStep_23 rfl rfl ?_
      refine zl_geti (pc := 24) hO nd_GK_endStep_24 kf_GK_171 rfl b_a1 rfl ?_
      refine zl_if_ne (pc := 27) hO 44 nd_GK_endStep_27 (by decide) (fun hc => ?_) (fun hc => ?_)
      · have h := ite_f hc h
        exact zl_weak (J_44 _ _ h) ⟨rfl, ⟨rfl, ⟨rfl, trivial⟩⟩⟩
      · have h := ite_t hc h
        refine zl_aload_n (pc := 30) hO 1 nd_GK_endStep_30 rfl rfl ?_
        refine zl_aload_n (pc := 31) hO 1 nd_GK_endStep_31 rfl rfl ?_
        refine zl_geti (pc := 32) hO nd_GK_endStep_32 kf_GK_181 rfl b_a1 rfl ?_
        obtain ⟨⟨s2, r3⟩, h_35, h⟩ := bn_use h
        refine zl_callVi (pc := 35) hO [zI (s1 11 a1 13)] [] (c_BP_stackFrame hJ b_a1 h_35) nd_GK_endStep_35 kv_GK_184 rfl b_a1 rfl rfl rfl (Nat.le_of_ble_eq_true rfl) ?_
        refine zl_if_ne (pc := 38) hO 44 nd_GK_endStep_38 (by decide) (fun hc => ?_) (fun hc => ?_)
        · have h := ite_f hc h
          exact zl_weak (J_44 _ _ h) ⟨rfl, ⟨rfl, ⟨rfl, trivial⟩⟩⟩
        · have h := ite_t hc h
          refine zl_bipush (pc := 41) hO (v := 6) nd_GK_endStep_41 (by decide) ?_
          refine zl_istore_n (pc := 43) hO 3 (L' := [some (zR 0 0), some (zR 11 a1), some (zI a2), some (zI 6)]) nd_GK_endStep_43 rfl (by decide) rfl ?_
          exact zl_weak (J_44 _ _ h) ⟨rfl, ⟨rfl, ⟨rfl, trivial⟩⟩⟩
set_option maxHeartbeats 4000000 in
set_option maxRecDepth 100000 in
theorem c_GK_run {l : Launch} {V : zG} (hJ : zJ0 (sC l V)) {s0 : zS} {a1 : Int32}  {s1 : zS} {v1 : Int32} (h : k_GK_run s0 a1 = some (s1, v1)) : zM (sC l V) md_GK_run [zR 0 0, zI a1] s0 (s1, some (zI v1)) := by
  refine zMet [some (zR 0 0), some (zI a1), none, none, none, none] hJ (by decide) rfl (Nat.le_of_ble_eq_true rfl) rfl ?_
  intro X hO
  have J_88 : ∀ (K17 : zS → Int32 → Int32 → Option (zS × Int32)) (hK17 : ∀ (s0 : zS) (l2 : Int32) (l3 : Int32), K17 s0 l2 l3 = some (s1, v1) → ZW (sC l V) md_GK_run (s1, some (zI v1)) X 17 [some (zR 0 0), some (zI a1), some (zI l2), some (zI l3), none, none] [] s0), ∀ (s0 : zS) (l2 : Int32) (l3 : Int32), k_GK_run_88 a1 K17 s0 l2 l3 = some (s1, v1) → ZW (sC l V) md_GK_run (s1, some (zI v1)) X 88 [some (zR 0 0), some (zI a1), some (zI l2), some (zI l3), none, none] [] s0 := by
    intro K17 hK17
    intro s0 l2 l3 h
    unfold k_GK_run_88 at h
    obtain ⟨x8, e_x8, h⟩ := lt_use h
    refine zl_iinc (pc := 88) hO (L' := [some (zR 0 0), some (zI a1), some (zI l2), some (zI x8), none, none]) nd_GK_run_88 rfl e_x8.symm (by decide) rfl ?_
    refine zl_goto (pc := 91) hO 17 nd_GK_run_91 (by decide) ?_
    exact zl_weak (hK17 _ _ _ h) ⟨rfl, ⟨rfl, ⟨rfl, ⟨rfl, trivial⟩⟩⟩⟩
  have J_77 : ∀ (K17 : zS → Int32 → Int32 → Option (zS × Int32)) (hK17 : ∀ (s0 : zS) (l2 : Int32) (l3 : Int32), K17 s0 l2 l3 = some (s1, v1) → ZW (sC l V) md_GK_run (s1, some (zI v1)) X 17 [some (zR 0 0), some (zI a1), some (zI l2), some (zI l3), none, none] [] s0), ∀ (s0 : zS) (l2 : Int32) (l3 : Int32) (l4 : Nat) (l5 : Int32) (b_l4 : l4 < 4), k_GK_run_77 a1 K17 s0 l2 l3 l4 l5 = some (s1, v1) → ZW (sC l V) md_GK_run (s1, some (zI v1)) X 77 [some (zR 0 0), some (zI a1), some (zI l2), some (zI l3), some (zR 11 l4), some (zI l5)] [] s0 := by
    intro K17 hK17
    intro s0 l2 l3 l4 l5 b_l4 h
    unfold k_GK_run_77 at h
    refine zl_aload_n (pc := 77) hO 0 nd_GK_run_77 rfl rfl ?_
    refine zl_aload (pc := 78) hO nd_GK_run_78 rfl ?_
    refine zl_iload (pc := 80) hO nd_GK_run_80 rfl ?_
    obtain ⟨s9, h_82, h⟩ := bn_use h
    refine zl_callVv (pc := 82) hO [zR 11 l4, zI l5] [] (c_GK_endStep hJ b_l4 h_82) nd_GK_run_82 kv_GK_101 rfl (Nat.le_of_ble_eq_true rfl) rfl rfl rfl (Nat.le_of_ble_eq_true rfl) ?_
    obtain ⟨x10, e_x10, h⟩ := lt_use h
    refine zl_iinc (pc := 85) hO (L' := [some (zR 0 0), some (zI a1), some (zI x10), some (zI l3), some (zR 11 l4), some (zI l5)]) nd_GK_run_85 rfl e_x10.symm (by decide) rfl ?_
    exact zl_weak (J_88 K17 hK17 _ _ _ h) ⟨rfl, ⟨rfl, ⟨rfl, ⟨rfl, trivial⟩⟩⟩⟩
  have J_17 : ∀ (n : Nat), ∀ (s0 : zS) (l2 : Int32) (l3 : Int32), k_GK_run_17 a1 n s0 l2 l3 = some (s1, v1) → ZW (sC l V) md_GK_run (s1, some (zI v1)) X 17 [some (zR 0 0), some (zI a1), some (zI l2), some (zI l3), none, none] [] s0 := by
    intro n
    induction n with
    | zero => intro s0 l2 l3 h; exact absurd h (by rw [k_GK_run_17]; exact fun w => nomatch w)
    | succ n ih =>
      intro s0 l2 l3 h
      rw [k_GK_run_17]  at h
      refine zl_iload_n (pc := 17) hO 3 nd_GK_run_17 rfl rfl ?_
      refine zl_iload_n (pc := 18) hO 1 nd_GK_run_18 rfl rfl ?_
      refine zl_icmp_ge (pc := 19) hO 94 nd_GK_run_19 (by decide) (fun hc => ?_) (fun hc => ?_)
      · have h := ite_t hc h
        refine zl_iload_n (pc := 94) hO 2 nd_GK_run_94 rfl rfl ?_
        exact zl_iret (pc := 95) hO nd_GK_run_95 rfl (zr_i h)
      · have h := ite_f hc h
        refine zl_aload_n (pc := 22) hO 0 nd_GK_run_22 rfl rfl ?_
        refine zl_get0 (pc := 23) hO nd_GK_run_23 kf_GK_37 rfl (Nat.le_of_ble_eq_true rfl) rfl ?_
        obtain ⟨s1, h_26, h⟩ := bn_use h
        refine zl_callVv (pc := 26) hO [] [] (c_Ke_beginTick hJ h_26) nd_GK_run_26 kv_GK_86 rfl (Nat.le_of_ble_eq_true rfl) rfl rfl rfl (Nat.le_of_ble_eq_true rfl) ?_
        refine zl_aload_n (pc := 29) hO 0 nd_GK_run_29 rfl rfl ?_
        obtain ⟨⟨s2, r3⟩, h_30, h⟩ := bn_use h
        refine zl_callVi (pc := 30) hO [] [] (c_GK_giveTurn hJ h_30) nd_GK_run_30 kv_GK_89 rfl (Nat.le_of_ble_eq_true rfl) rfl rfl rfl (Nat.le_of_ble_eq_true rfl) ?_
        refine zl_if_eq (pc := 33) hO 88 nd_GK_run_33 (by decide) (fun hc => ?_) (fun hc => ?_)
        · have h := ite_t hc h
          exact zl_weak (J_88 (k_GK_run_17 a1 n) ih _ _ _ h) ⟨rfl, ⟨rfl, ⟨rfl, ⟨rfl, trivial⟩⟩⟩⟩
        · have h := ite_f hc h
          refine zl_aload_n (pc := 36) hO 0 nd_GK_run_36 rfl rfl ?_
          refine zl_get0 (pc := 37) hO nd_GK_run_37 kf_GK_18 rfl (Nat.le_of_ble_eq_true rfl) rfl ?_
          refine zl_aload_n (pc := 40) hO 0 nd_GK_run_40 rfl rfl ?_
          refine zl_geti (pc := 41) hO nd_GK_run_41 kf_GK_57 rfl (Nat.le_of_ble_eq_true rfl) rfl ?_
          obtain ⟨c_in44, h⟩ := ck_use h
          have p_44 := zi_lt c_in44
          refine zl_aald (pc := 44) hO nd_GK_run_44 rfl rfl (Nat.le_of_ble_eq_true rfl) c_in44 ?_
          refine zl_astore (pc := 45) hO (L' := [some (zR 0 0), some (zI a1), some (zI l2), some (zI l3), some (zR 11 ((s2 0 0 7).toNatClampNeg)), none]) nd_GK_run_45 (by decide) rfl ?_
          refine zl_aload_n (pc := 47) hO 0 nd_GK_run_47 rfl rfl ?_
          refine zl_aload (pc := 48) hO nd_GK_run_48 rfl ?_
          obtain ⟨⟨s4, r5⟩, h_50, h⟩ := bn_use h
          refine zl_callVi (pc := 50) hO [zR 11 ((s2 0 0 7).toNatClampNeg)] [] (c_GK_doInstruction hJ p_44 h_50) nd_GK_run_50 kv_GK_93 rfl (Nat.le_of_ble_eq_true rfl) rfl rfl rfl (Nat.le_of_ble_eq_true rfl) ?_
          refine zl_istore (pc := 53) hO (L' := [some (zR 0 0), some (zI a1), some (zI l2), some (zI l3), some (zR 11 ((s2 0 0 7).toNatClampNeg)), some (zI r5)]) nd_GK_run_53 (by decide) rfl ?_
          refine zl_iload (pc := 55) hO nd_GK_run_55 rfl ?_
          refine zl_sipush (pc := 57) hO (v := 256) nd_GK_run_57 (by decide) ?_
          refine zl_icmp_lt (pc := 60) hO 77 nd_GK_run_60 (by decide) (fun hc => ?_) (fun hc => ?_)
          · have h := ite_t hc h
            exact zl_weak (J_77 (k_GK_run_17 a1 n) ih _ _ _ _ _ p_44 h) ⟨rfl, ⟨rfl, ⟨rfl, ⟨rfl, ⟨rfl, ⟨rfl, trivial⟩⟩⟩⟩⟩⟩
          · have h := ite_f hc h
            refine zl_aload_n (pc := 63) hO 0 nd_GK_run_63 rfl rfl ?_
            refine zl_aload (pc := 64) hO nd_GK_run_64 rfl ?_
            refine zl_iload (pc := 66) hO nd_GK_run_66 rfl ?_
            refine zl_sipush (pc := 68) hO (v := 256) nd_GK_run_68 (by decide) ?_
            refine zl_isub (pc := 71) hO nd_GK_run_71 ?_
            obtain ⟨⟨s6, r7⟩, h_72, h⟩ := bn_use h
            refine zl_callVi (pc := 72) hO [zR 11 ((s2 0 0 7).toNatClampNeg), zI (r5 - (256 : Int32))] [] (c_GK_serve hJ p_44 h_72) nd_GK_run_72 kv_GK_97 rfl (Nat.le_of_ble_eq_true rfl) rfl rfl rfl (Nat.le_of_ble_eq_true rfl) ?_
            refine zl_istore (pc := 75) hO (L' := [some (zR 0 0), some (zI a1), some (zI l2), some (zI l3), some (zR 11 ((s2 0 0 7).toNatClampNeg)), some (zI r7)]) nd_GK_run_75 (by decide) rfl ?_
            exact zl_weak (J_77 (k_GK_run_17 a1 n) ih _ _ _ _ _ p_44 h) ⟨rfl, ⟨rfl, ⟨rfl, ⟨rfl, ⟨rfl, ⟨rfl, trivial⟩⟩⟩⟩⟩⟩
  unfold k_GK_run at h
  refine zl_iload_n (pc := 0) hO 1 nd_GK_run_0 rfl rfl ?_
  refine zl_if_lt (pc := 1) hO 11 nd_GK_run_1 (by decide) (fun hc => ?_) (fun hc => ?_)
  · have h := ite_t hc h
    refine zl_iconst (pc := 11) hO (v := (-1)) nd_GK_run_11 (by decide) ?_
    exact zl_iret (pc := 12) hO nd_GK_run_12 rfl (zr_i h)
  · have h := ite_f hc h
    refine zl_iload_n (pc := 4) hO 1 nd_GK_run_4 rfl rfl ?_
    refine zl_sipush (pc := 5) hO (v := 400) nd_GK_run_5 (by decide) ?_
    refine zl_icmp_le (pc := 8) hO 13 nd_GK_run_8 (by decide) (fun hc => ?_) (fun hc => ?_)
    · have h := ite_t hc h
      refine zl_iconst (pc := 13) hO (v := 0) nd_GK_run_13 (by decide) ?_
      refine zl_istore_n (pc := 14) hO 2 (L' := [some (zR 0 0), some (zI a1), some (zI 0), none, none, none]) nd_GK_run_14 rfl (by decide) rfl ?_
      refine zl_iconst (pc := 15) hO (v := 0) nd_GK_run_15 (by decide) ?_
      refine zl_istore_n (pc := 16) hO 3 (L' := [some (zR 0 0), some (zI a1), some (zI 0), some (zI 0), none, none]) nd_GK_run_16 rfl (by decide) rfl ?_
      exact zl_weak (J_17 FU _ _ _ h) ⟨rfl, ⟨rfl, ⟨rfl, ⟨rfl, trivial⟩⟩⟩⟩
    · have h := ite_f hc h
      refine zl_iconst (pc := 11) hO (v := (-1)) nd_GK_run_11 (by decide) ?_
      exact zl_iret (pc := 12) hO nd_GK_run_12 rfl (zr_i h)
set_option maxHeartbeats 4000000 in
set_option maxRecDepth 100000 in
theorem c_Co_addInput {l : Launch} {V : zG} (hJ : zJ0 (sC l V)) {s0 : zS} {a1 : Int32}  {s1 : zS} {v1 : Int32} (h : k_Co_addInput s0 a1 = some (s1, v1)) : zM (sC l V) md_Co_addInput [zR 5 0, zI a1] s0 (s1, some (zI v1)) := by
  refine zMet [some (zR 5 0), some (zI a1)] hJ (by decide) rfl (Nat.le_of_ble_eq_true rfl) rfl ?_
  intro X hO
  unfold k_Co_addInput at h
  refine zl_aload_n (pc := 0) hO 0 nd_Co_addInput_0 rfl rfl ?_
  refine zl_geti (pc := 1) hO nd_Co_addInput_1 kf_Co_16 rfl (Nat.le_of_ble_eq_true rfl) rfl ?_
  refine zl_bipush (pc := 4) hO (v := 8) nd_Co_addInput_4 (by decide) ?_
  refine zl_icmp_lt (pc := 6) hO 11 nd_Co_addInput_6 (by decide) (fun hc => ?_) (fun hc => ?_)
  · have h := ite_t hc h
    refine zl_aload_n (pc := 11) hO 0 nd_Co_addInput_11 rfl rfl ?_
    refine zl_get0 (pc := 12) hO nd_Co_addInput_12 kf_Co_9 rfl (Nat.le_of_ble_eq_true rfl) rfl ?_
    refine zl_aload_n (pc := 15) hO 0 nd_Co_addInput_15 rfl rfl ?_
    refine zl_geti (pc := 16) hO nd_Co_addInput_16 kf_Co_16 rfl (Nat.le_of_ble_eq_true rfl) rfl ?_
    refine zl_iload_n (pc := 19) hO 1 nd_Co_addInput_19 rfl rfl ?_
    obtain ⟨c_in20, h⟩ := ck_use h
    refine zl_iast (pc := 20) hO nd_Co_addInput_20 rfl rfl (Nat.le_of_ble_eq_true rfl) c_in20 ?_
    obtain ⟨s1, e_s1, h⟩ := lt_use h
    refine zl_sg e_s1 ?_
    refine zl_aload_n (pc := 21) hO 0 nd_Co_addInput_21 rfl rfl ?_
    refine zl_dup (pc := 22) hO nd_Co_addInput_22 rfl ?_
    refine zl_geti (pc := 23) hO nd_Co_addInput_23 kf_Co_16 rfl (Nat.le_of_ble_eq_true rfl) rfl ?_
    refine zl_iconst (pc := 26) hO (v := 1) nd_Co_addInput_26 (by decide) ?_
    refine zl_iadd (pc := 27) hO nd_Co_addInput_27 ?_
    refine zl_puti (pc := 28) hO nd_Co_addInput_28 kp_Co_16 rfl (Nat.le_of_ble_eq_true rfl) rfl ?_
    obtain ⟨s2, e_s2, h⟩ := lt_use h
    refine zl_sg e_s2 ?_
    refine zl_iconst (pc := 31) hO (v := 1) nd_Co_addInput_31 (by decide) ?_
    exact zl_zret (pc := 32) hO nd_Co_addInput_32 rfl (by decide) (zr_i h)
  · have h := ite_f hc h
    refine zl_iconst (pc := 9) hO (v := 0) nd_Co_addInput_9 (by decide) ?_
    exact zl_zret (pc := 10) hO nd_Co_addInput_10 rfl (by decide) (zr_i h)
set_option maxHeartbeats 4000000 in
set_option maxRecDepth 100000 in
theorem c_Ke_takeInput {l : Launch} {V : zG} (hJ : zJ0 (sC l V)) {s0 : zS} {a1 : Int32}  {s1 : zS} {v1 : Int32} (h : k_Ke_takeInput s0 a1 = some (s1, v1)) : zM (sC l V) md_Ke_takeInput [zR 8 0, zI a1] s0 (s1, some (zI v1)) := by
  refine zMet [some (zR 8 0), some (zI a1), none] hJ (by decide) rfl (Nat.le_of_ble_eq_true rfl) rfl ?_
  intro X hO
  have J_2 : ∀ (n : Nat), ∀ (s0 : zS) (l2 : Int32), k_Ke_takeInput_2 a1 n s0 l2 = some (s1, v1) → ZW (sC l V) md_Ke_takeInput (s1, some (zI v1)) X 2 [some (zR 8 0), some (zI a1), some (zI l2)] [] s0 := by
    intro n
    induction n with
    | zero => intro s0 l2 h; exact absurd h (by rw [k_Ke_takeInput_2]; exact fun w => nomatch w)
    | succ n ih =>
      intro s0 l2 h
      rw [k_Ke_takeInput_2]  at h
      refine zl_iload_n (pc := 2) hO 2 nd_Ke_takeInput_2 rfl rfl ?_
      refine zl_iconst (pc := 3) hO (v := 4) nd_Ke_takeInput_3 (by decide) ?_
      refine zl_icmp_ge (pc := 4) hO 40 nd_Ke_takeInput_4 (by decide) (fun hc => ?_) (fun hc => ?_)
      · have h := ite_t hc h
        refine zl_aload_n (pc := 40) hO 0 nd_Ke_takeInput_40 rfl rfl ?_
        refine zl_get0 (pc := 41) hO nd_Ke_takeInput_41 kf_Ke_19 rfl (Nat.le_of_ble_eq_true rfl) rfl ?_
        refine zl_iload_n (pc := 44) hO 1 nd_Ke_takeInput_44 rfl rfl ?_
        obtain ⟨⟨s1, r2⟩, h_45, h⟩ := bn_use h
        refine zl_callVi (pc := 45) hO [zI a1] [] (c_Co_addInput hJ h_45) nd_Ke_takeInput_45 kv_Ke_39 rfl (Nat.le_of_ble_eq_true rfl) rfl rfl rfl (Nat.le_of_ble_eq_true rfl) ?_
        obtain ⟨c_bool48, h⟩ := ck_use h
        exact zl_zret (pc := 48) hO nd_Ke_takeInput_48 rfl c_bool48 (zr_i h)
      · have h := ite_f hc h
        refine zl_aload_n (pc := 7) hO 0 nd_Ke_takeInput_7 rfl rfl ?_
        refine zl_aload_n (pc := 8) hO 0 nd_Ke_takeInput_8 rfl rfl ?_
        refine zl_get0 (pc := 9) hO nd_Ke_takeInput_9 kf_Ke_15 rfl (Nat.le_of_ble_eq_true rfl) rfl ?_
        refine zl_iload_n (pc := 12) hO 2 nd_Ke_takeInput_12 rfl rfl ?_
        obtain ⟨c_in13, h⟩ := ck_use h
        have p_13 := zi_lt c_in13
        refine zl_aald (pc := 13) hO nd_Ke_takeInput_13 rfl rfl (Nat.le_of_ble_eq_true rfl) c_in13 ?_
        refine zl_iconst (pc := 14) hO (v := 1) nd_Ke_takeInput_14 (by decide) ?_
        obtain ⟨⟨s3, r4⟩, h_15, h⟩ := bn_use h
        refine zl_callVi (pc := 15) hO [zR 11 (l2.toNatClampNeg), zI 1] [] (c_Ke_isPending hJ p_13 h_15) nd_Ke_takeInput_15 kv_Ke_27 rfl (Nat.le_of_ble_eq_true rfl) rfl rfl rfl (Nat.le_of_ble_eq_true rfl) ?_
        refine zl_if_eq (pc := 18) hO 34 nd_Ke_takeInput_18 (by decide) (fun hc => ?_) (fun hc => ?_)
        · have h := ite_t hc h
          obtain ⟨x5, e_x5, h⟩ := lt_use h
          refine zl_iinc (pc := 34) hO (L' := [some (zR 8 0), some (zI a1), some (zI x5)]) nd_Ke_takeInput_34 rfl e_x5.symm (by decide) rfl ?_
          refine zl_goto (pc := 37) hO 2 nd_Ke_takeInput_37 (by decide) ?_
          exact zl_weak (ih _ _ h) ⟨rfl, ⟨rfl, ⟨rfl, trivial⟩⟩⟩
        · have h := ite_f hc h
          refine zl_aload_n (pc := 21) hO 0 nd_Ke_takeInput_21 rfl rfl ?_
          refine zl_aload_n (pc := 22) hO 0 nd_Ke_takeInput_22 rfl rfl ?_
          refine zl_get0 (pc := 23) hO nd_Ke_takeInput_23 kf_Ke_15 rfl (Nat.le_of_ble_eq_true rfl) rfl ?_
          refine zl_iload_n (pc := 26) hO 2 nd_Ke_takeInput_26 rfl rfl ?_
          obtain ⟨c_in27, h⟩ := ck_use h
          have p_27 := zi_lt c_in27
          refine zl_aald (pc := 27) hO nd_Ke_takeInput_27 rfl rfl (Nat.le_of_ble_eq_true rfl) c_in27 ?_
          refine zl_iload_n (pc := 28) hO 1 nd_Ke_takeInput_28 rfl rfl ?_
          obtain ⟨s6, h_29, h⟩ := bn_use h
          refine zl_callVv (pc := 29) hO [zR 11 (l2.toNatClampNeg), zI a1] [] (c_Ke_receive hJ p_27 h_29) nd_Ke_takeInput_29 kv_Ke_35 rfl (Nat.le_of_ble_eq_true rfl) rfl rfl rfl (Nat.le_of_ble_eq_true rfl) ?_
          refine zl_iconst (pc := 32) hO (v := 1) nd_Ke_takeInput_32 (by decide) ?_
          exact zl_zret (pc := 33) hO nd_Ke_takeInput_33 rfl (by decide) (zr_i h)
  unfold k_Ke_takeInput at h
  refine zl_iconst (pc := 0) hO (v := 0) nd_Ke_takeInput_0 (by decide) ?_
  refine zl_istore_n (pc := 1) hO 2 (L' := [some (zR 8 0), some (zI a1), some (zI 0)]) nd_Ke_takeInput_1 rfl (by decide) rfl ?_
  exact zl_weak (J_2 FU _ _ h) ⟨rfl, ⟨rfl, ⟨rfl, trivial⟩⟩⟩
set_option maxHeartbeats 4000000 in
set_option maxRecDepth 100000 in
theorem c_GK_type {l : Launch} {V : zG} (hJ : zJ0 (sC l V)) {s0 : zS} {a1 : Int32}  {s1 : zS} {v1 : Int32} (h : k_GK_type s0 a1 = some (s1, v1)) : zM (sC l V) md_GK_type [zR 0 0, zI a1] s0 (s1, some (zI v1)) := by
  refine zMet [some (zR 0 0), some (zI a1)] hJ (by decide) rfl (Nat.le_of_ble_eq_true rfl) rfl ?_
  intro X hO
  unfold k_GK_type at h
  refine zl_aload_n (pc := 0) hO 0 nd_GK_type_0 rfl rfl ?_
  refine zl_get0 (pc := 1) hO nd_GK_type_1 kf_GK_37 rfl (Nat.le_of_ble_eq_true rfl) rfl ?_
  refine zl_iload_n (pc := 4) hO 1 nd_GK_type_4 rfl rfl ?_
  obtain ⟨⟨s1, r2⟩, h_5, h⟩ := bn_use h
  refine zl_callVi (pc := 5) hO [zI a1] [] (c_Ke_takeInput hJ h_5) nd_GK_type_5 kv_GK_105 rfl (Nat.le_of_ble_eq_true rfl) rfl rfl rfl (Nat.le_of_ble_eq_true rfl) ?_
  obtain ⟨c_bool8, h⟩ := ck_use h
  exact zl_zret (pc := 8) hO nd_GK_type_8 rfl c_bool8 (zr_i h)
set_option maxHeartbeats 4000000 in
set_option maxRecDepth 100000 in
theorem c_Ke_takeSample {l : Launch} {V : zG} (hJ : zJ0 (sC l V)) {s0 : zS} {a1 : Int32}  {s1 : zS} {v1 : Int32} (h : k_Ke_takeSample s0 a1 = some (s1, v1)) : zM (sC l V) md_Ke_takeSample [zR 8 0, zI a1] s0 (s1, some (zI v1)) := by
  refine zMet [some (zR 8 0), some (zI a1), none, none, none, none, none] hJ (by decide) rfl (Nat.le_of_ble_eq_true rfl) rfl ?_
  intro X hO
  have J_90 : ∀ (K4 : zS → Int32 → Int32 → Option (zS × Int32)) (hK4 : ∀ (s0 : zS) (l2 : Int32) (l3 : Int32), K4 s0 l2 l3 = some (s1, v1) → ZW (sC l V) md_Ke_takeSample (s1, some (zI v1)) X 4 [some (zR 8 0), some (zI a1), some (zI l2), some (zI l3), none, none, none] [] s0), ∀ (s0 : zS) (l2 : Int32) (l3 : Int32), k_Ke_takeSample_90 a1 K4 s0 l2 l3 = some (s1, v1) → ZW (sC l V) md_Ke_takeSample (s1, some (zI v1)) X 90 [some (zR 8 0), some (zI a1), some (zI l2), some (zI l3), none, none, none] [] s0 := by
    intro K4 hK4
    intro s0 l2 l3 h
    unfold k_Ke_takeSample_90 at h
    obtain ⟨x11, e_x11, h⟩ := lt_use h
    refine zl_iinc (pc := 90) hO (L' := [some (zR 8 0), some (zI a1), some (zI l2), some (zI x11), none, none, none]) nd_Ke_takeSample_90 rfl e_x11.symm (by decide) rfl ?_
    refine zl_goto (pc := 93) hO 4 nd_Ke_takeSample_93 (by decide) ?_
    exact zl_weak (hK4 _ _ _ h) ⟨rfl, ⟨rfl, ⟨rfl, ⟨rfl, trivial⟩⟩⟩⟩
  have J_4 : ∀ (n : Nat), ∀ (s0 : zS) (l2 : Int32) (l3 : Int32), k_Ke_takeSample_4 a1 n s0 l2 l3 = some (s1, v1) → ZW (sC l V) md_Ke_takeSample (s1, some (zI v1)) X 4 [some (zR 8 0), some (zI a1), some (zI l2), some (zI l3), none, none, none] [] s0 := by
    intro n
    induction n with
    | zero => intro s0 l2 l3 h; exact absurd h (by rw [k_Ke_takeSample_4]; exact fun w => nomatch w)
    | succ n ih =>
      intro s0 l2 l3 h
      rw [k_Ke_takeSample_4]  at h
      refine zl_iload_n (pc := 4) hO 3 nd_Ke_takeSample_4 rfl rfl ?_
      refine zl_iconst (pc := 5) hO (v := 4) nd_Ke_takeSample_5 (by decide) ?_
      refine zl_icmp_ge (pc := 6) hO 96 nd_Ke_takeSample_6 (by decide) (fun hc => ?_) (fun hc => ?_)
      · have h := ite_t hc h
        refine zl_iload_n (pc := 96) hO 2 nd_Ke_takeSample_96 rfl rfl ?_
        exact zl_iret (pc := 97) hO nd_Ke_takeSample_97 rfl (zr_i h)
      · have h := ite_f hc h
        refine zl_aload_n (pc := 9) hO 0 nd_Ke_takeSample_9 rfl rfl ?_
        refine zl_get0 (pc := 10) hO nd_Ke_takeSample_10 kf_Ke_15 rfl (Nat.le_of_ble_eq_true rfl) rfl ?_
        refine zl_iload_n (pc := 13) hO 3 nd_Ke_takeSample_13 rfl rfl ?_
        obtain ⟨c_in14, h⟩ := ck_use h
        have p_14 := zi_lt c_in14
        refine zl_aald (pc := 14) hO nd_Ke_takeSample_14 rfl rfl (Nat.le_of_ble_eq_true rfl) c_in14 ?_
        refine zl_astore (pc := 15) hO (L' := [some (zR 8 0), some (zI a1), some (zI l2), some (zI l3), some (zR 11 (l3.toNatClampNeg)), none, none]) nd_Ke_takeSample_15 (by decide) rfl ?_
        refine zl_aload_n (pc := 17) hO 0 nd_Ke_takeSample_17 rfl rfl ?_
        refine zl_aload (pc := 18) hO nd_Ke_takeSample_18 rfl ?_
        refine zl_iconst (pc := 20) hO (v := 2) nd_Ke_takeSample_20 (by decide) ?_
        obtain ⟨⟨s1, r2⟩, h_21, h⟩ := bn_use h
        refine zl_callVi (pc := 21) hO [zR 11 (l3.toNatClampNeg), zI 2] [] (c_Ke_isPending hJ p_14 h_21) nd_Ke_takeSample_21 kv_Ke_27 rfl (Nat.le_of_ble_eq_true rfl) rfl rfl rfl (Nat.le_of_ble_eq_true rfl) ?_
        refine zl_if_eq (pc := 24) hO 90 nd_Ke_takeSample_24 (by decide) (fun hc => ?_) (fun hc => ?_)
        · have h := ite_t hc h
          exact zl_weak (J_90 (k_Ke_takeSample_4 a1 n) ih _ _ _ h) ⟨rfl, ⟨rfl, ⟨rfl, ⟨rfl, trivial⟩⟩⟩⟩
        · have h := ite_f hc h
          refine zl_aload (pc := 27) hO nd_Ke_takeSample_27 rfl ?_
          refine zl_getS (pc := 29) hO nd_Ke_takeSample_29 kf_Ke_45 rfl p_14 rfl ?_
          refine zl_getS (pc := 32) hO nd_Ke_takeSample_32 kf_Ke_51 rfl p_14 rfl ?_
          refine zl_iconst (pc := 35) hO (v := 2) nd_Ke_takeSample_35 (by decide) ?_
          obtain ⟨c_in36, h⟩ := ck_use h
          refine zl_iald (pc := 36) hO nd_Ke_takeSample_36 rfl rfl p_14 c_in36 ?_
          obtain ⟨x3, e_x3, h⟩ := lt_use h
          refine zl_top e_x3 ?_
          refine zl_istore (pc := 37) hO (L' := [some (zR 8 0), some (zI a1), some (zI l2), some (zI l3), some (zR 11 (l3.toNatClampNeg)), some (zI x3), none]) nd_Ke_takeSample_37 (by decide) rfl ?_
          refine zl_aload_n (pc := 39) hO 0 nd_Ke_takeSample_39 rfl rfl ?_
          refine zl_get0 (pc := 40) hO nd_Ke_takeSample_40 kf_Ke_9 rfl (Nat.le_of_ble_eq_true rfl) rfl ?_
          refine zl_iload (pc := 43) hO nd_Ke_takeSample_43 rfl ?_
          refine zl_iconst (pc := 45) hO (v := 4) nd_Ke_takeSample_45 (by decide) ?_
          refine zl_iadd (pc := 46) hO nd_Ke_takeSample_46 ?_
          obtain ⟨⟨s4, r5⟩, h_47, h⟩ := bn_use h
          refine zl_callVi (pc := 47) hO [zI (x3 + (4 : Int32))] [] (c_Me_ramWord hJ h_47) nd_Ke_takeSample_47 kv_Ke_57 rfl (Nat.le_of_ble_eq_true rfl) rfl rfl rfl (Nat.le_of_ble_eq_true rfl) ?_
          refine zl_iconst (pc := 50) hO (v := 1) nd_Ke_takeSample_50 (by decide) ?_
          refine zl_iadd (pc := 51) hO nd_Ke_takeSample_51 ?_
          obtain ⟨x6, e_x6, h⟩ := lt_use h
          refine zl_top e_x6 ?_
          refine zl_istore (pc := 52) hO (L' := [some (zR 8 0), some (zI a1), some (zI l2), some (zI l3), some (zR 11 (l3.toNatClampNeg)), some (zI x3), some (zI x6)]) nd_Ke_takeSample_52 (by decide) rfl ?_
          refine zl_aload_n (pc := 54) hO 0 nd_Ke_takeSample_54 rfl rfl ?_
          refine zl_get0 (pc := 55) hO nd_Ke_takeSample_55 kf_Ke_9 rfl (Nat.le_of_ble_eq_true rfl) rfl ?_
          refine zl_iload (pc := 58) hO nd_Ke_takeSample_58 rfl ?_
          refine zl_iconst (pc := 60) hO (v := 0) nd_Ke_takeSample_60 (by decide) ?_
          obtain ⟨s7, h_61, h⟩ := bn_use h
          refine zl_callVv (pc := 61) hO [zI x3, zI 0] [] (c_Me_setRamWord hJ h_61) nd_Ke_takeSample_61 kv_Ke_63 rfl (Nat.le_of_ble_eq_true rfl) rfl rfl rfl (Nat.le_of_ble_eq_true rfl) ?_
          refine zl_aload_n (pc := 64) hO 0 nd_Ke_takeSample_64 rfl rfl ?_
          refine zl_get0 (pc := 65) hO nd_Ke_takeSample_65 kf_Ke_9 rfl (Nat.le_of_ble_eq_true rfl) rfl ?_
          refine zl_iload (pc := 68) hO nd_Ke_takeSample_68 rfl ?_
          refine zl_iconst (pc := 70) hO (v := 4) nd_Ke_takeSample_70 (by decide) ?_
          refine zl_iadd (pc := 71) hO nd_Ke_takeSample_71 ?_
          refine zl_iload (pc := 72) hO nd_Ke_takeSample_72 rfl ?_
          obtain ⟨s8, h_74, h⟩ := bn_use h
          refine zl_callVv (pc := 74) hO [zI (x3 + (4 : Int32)), zI x6] [] (c_Me_setRamWord hJ h_74) nd_Ke_takeSample_74 kv_Ke_63 rfl (Nat.le_of_ble_eq_true rfl) rfl rfl rfl (Nat.le_of_ble_eq_true rfl) ?_
          refine zl_aload_n (pc := 77) hO 0 nd_Ke_takeSample_77 rfl rfl ?_
          refine zl_aload (pc := 78) hO nd_Ke_takeSample_78 rfl ?_
          refine zl_iconst (pc := 80) hO (v := 2) nd_Ke_takeSample_80 (by decide) ?_
          refine zl_iload_n (pc := 81) hO 1 nd_Ke_takeSample_81 rfl rfl ?_
          refine zl_iload (pc := 82) hO nd_Ke_takeSample_82 rfl ?_
          obtain ⟨s9, h_84, h⟩ := bn_use h
          refine zl_callVv (pc := 84) hO [zR 11 (l3.toNatClampNeg), zI 2, zI a1, zI x6] [] (c_Ke_upcall hJ p_14 h_84) nd_Ke_takeSample_84 kv_Ke_67 rfl (Nat.le_of_ble_eq_true rfl) rfl rfl rfl (Nat.le_of_ble_eq_true rfl) ?_
          obtain ⟨x10, e_x10, h⟩ := lt_use h
          refine zl_iinc (pc := 87) hO (L' := [some (zR 8 0), some (zI a1), some (zI x10), some (zI l3), some (zR 11 (l3.toNatClampNeg)), some (zI x3), some (zI x6)]) nd_Ke_takeSample_87 rfl e_x10.symm (by decide) rfl ?_
          exact zl_weak (J_90 (k_Ke_takeSample_4 a1 n) ih _ _ _ h) ⟨rfl, ⟨rfl, ⟨rfl, ⟨rfl, trivial⟩⟩⟩⟩
  unfold k_Ke_takeSample at h
  refine zl_iconst (pc := 0) hO (v := 0) nd_Ke_takeSample_0 (by decide) ?_
  refine zl_istore_n (pc := 1) hO 2 (L' := [some (zR 8 0), some (zI a1), some (zI 0), none, none, none, none]) nd_Ke_takeSample_1 rfl (by decide) rfl ?_
  refine zl_iconst (pc := 2) hO (v := 0) nd_Ke_takeSample_2 (by decide) ?_
  refine zl_istore_n (pc := 3) hO 3 (L' := [some (zR 8 0), some (zI a1), some (zI 0), some (zI 0), none, none, none]) nd_Ke_takeSample_3 rfl (by decide) rfl ?_
  exact zl_weak (J_4 FU _ _ _ h) ⟨rfl, ⟨rfl, ⟨rfl, ⟨rfl, trivial⟩⟩⟩⟩
set_option maxHeartbeats 4000000 in
set_option maxRecDepth 100000 in
theorem c_GK_sample {l : Launch} {V : zG} (hJ : zJ0 (sC l V)) {s0 : zS} {a1 : Int32}  {s1 : zS} {v1 : Int32} (h : k_GK_sample s0 a1 = some (s1, v1)) : zM (sC l V) md_GK_sample [zR 0 0, zI a1] s0 (s1, some (zI v1)) := by
  refine zMet [some (zR 0 0), some (zI a1)] hJ (by decide) rfl (Nat.le_of_ble_eq_true rfl) rfl ?_
  intro X hO
  unfold k_GK_sample at h
  refine zl_aload_n (pc := 0) hO 0 nd_GK_sample_0 rfl rfl ?_
  refine zl_get0 (pc := 1) hO nd_GK_sample_1 kf_GK_37 rfl (Nat.le_of_ble_eq_true rfl) rfl ?_
  refine zl_iload_n (pc := 4) hO 1 nd_GK_sample_4 rfl rfl ?_
  obtain ⟨⟨s1, r2⟩, h_5, h⟩ := bn_use h
  refine zl_callVi (pc := 5) hO [zI a1] [] (c_Ke_takeSample hJ h_5) nd_GK_sample_5 kv_GK_109 rfl (Nat.le_of_ble_eq_true rfl) rfl rfl rfl (Nat.le_of_ble_eq_true rfl) ?_
  exact zl_iret (pc := 8) hO nd_GK_sample_8 rfl (zr_i h)
set_option maxHeartbeats 4000000 in
set_option maxRecDepth 100000 in
theorem c_GK_outputs {l : Launch} {V : zG} (hJ : zJ0 (sC l V)) {s0 : zS}   {s1 : zS} {v1 : Int32} (h : k_GK_outputs s0 = some (s1, v1)) : zM (sC l V) md_GK_outputs [zR 0 0] s0 (s1, some (zI v1)) := by
  refine zMet [some (zR 0 0)] hJ (by decide) rfl (Nat.le_of_ble_eq_true rfl) rfl ?_
  intro X hO
  unfold k_GK_outputs at h
  refine zl_aload_n (pc := 0) hO 0 nd_GK_outputs_0 rfl rfl ?_
  refine zl_get0 (pc := 1) hO nd_GK_outputs_1 kf_GK_28 rfl (Nat.le_of_ble_eq_true rfl) rfl ?_
  refine zl_geti (pc := 4) hO nd_GK_outputs_4 kf_GK_113 rfl (Nat.le_of_ble_eq_true rfl) rfl ?_
  exact zl_iret (pc := 7) hO nd_GK_outputs_7 rfl (zr_i h)
set_option maxHeartbeats 4000000 in
set_option maxRecDepth 100000 in
theorem c_Co_latestOutput {l : Launch} {V : zG} (hJ : zJ0 (sC l V)) {s0 : zS} {a1 : Int32}  {s1 : zS} {v1 : Int32} (h : k_Co_latestOutput s0 a1 = some (s1, v1)) : zM (sC l V) md_Co_latestOutput [zR 5 0, zI a1] s0 (s1, some (zI v1)) := by
  refine zMet [some (zR 5 0), some (zI a1)] hJ (by decide) rfl (Nat.le_of_ble_eq_true rfl) rfl ?_
  intro X hO
  unfold k_Co_latestOutput at h
  refine zl_iload_n (pc := 0) hO 1 nd_Co_latestOutput_0 rfl rfl ?_
  refine zl_if_lt (pc := 1) hO 18 nd_Co_latestOutput_1 (by decide) (fun hc => ?_) (fun hc => ?_)
  · have h := ite_t hc h
    refine zl_iconst (pc := 18) hO (v := 0) nd_Co_latestOutput_18 (by decide) ?_
    exact zl_iret (pc := 19) hO nd_Co_latestOutput_19 rfl (zr_i h)
  · have h := ite_f hc h
    refine zl_iload_n (pc := 4) hO 1 nd_Co_latestOutput_4 rfl rfl ?_
    refine zl_bipush (pc := 5) hO (v := 16) nd_Co_latestOutput_5 (by decide) ?_
    refine zl_icmp_ge (pc := 7) hO 18 nd_Co_latestOutput_7 (by decide) (fun hc => ?_) (fun hc => ?_)
    · have h := ite_t hc h
      refine zl_iconst (pc := 18) hO (v := 0) nd_Co_latestOutput_18 (by decide) ?_
      exact zl_iret (pc := 19) hO nd_Co_latestOutput_19 rfl (zr_i h)
    · have h := ite_f hc h
      refine zl_iload_n (pc := 10) hO 1 nd_Co_latestOutput_10 rfl rfl ?_
      refine zl_aload_n (pc := 11) hO 0 nd_Co_latestOutput_11 rfl rfl ?_
      refine zl_geti (pc := 12) hO nd_Co_latestOutput_12 kf_Co_20 rfl (Nat.le_of_ble_eq_true rfl) rfl ?_
      refine zl_icmp_lt (pc := 15) hO 20 nd_Co_latestOutput_15 (by decide) (fun hc => ?_) (fun hc => ?_)
      · have h := ite_t hc h
        refine zl_aload_n (pc := 20) hO 0 nd_Co_latestOutput_20 rfl rfl ?_
        refine zl_get0 (pc := 21) hO nd_Co_latestOutput_21 kf_Co_13 rfl (Nat.le_of_ble_eq_true rfl) rfl ?_
        refine zl_aload_n (pc := 24) hO 0 nd_Co_latestOutput_24 rfl rfl ?_
        refine zl_geti (pc := 25) hO nd_Co_latestOutput_25 kf_Co_20 rfl (Nat.le_of_ble_eq_true rfl) rfl ?_
        refine zl_iconst (pc := 28) hO (v := 1) nd_Co_latestOutput_28 (by decide) ?_
        refine zl_isub (pc := 29) hO nd_Co_latestOutput_29 ?_
        refine zl_iload_n (pc := 30) hO 1 nd_Co_latestOutput_30 rfl rfl ?_
        refine zl_isub (pc := 31) hO nd_Co_latestOutput_31 ?_
        refine zl_bipush (pc := 32) hO (v := 15) nd_Co_latestOutput_32 (by decide) ?_
        refine zl_iand (pc := 34) hO nd_Co_latestOutput_34 ?_
        obtain ⟨c_in35, h⟩ := ck_use h
        refine zl_iald (pc := 35) hO nd_Co_latestOutput_35 rfl rfl (Nat.le_of_ble_eq_true rfl) c_in35 ?_
        exact zl_iret (pc := 36) hO nd_Co_latestOutput_36 rfl (zr_i h)
      · have h := ite_f hc h
        refine zl_iconst (pc := 18) hO (v := 0) nd_Co_latestOutput_18 (by decide) ?_
        exact zl_iret (pc := 19) hO nd_Co_latestOutput_19 rfl (zr_i h)
set_option maxHeartbeats 4000000 in
set_option maxRecDepth 100000 in
theorem c_GK_output {l : Launch} {V : zG} (hJ : zJ0 (sC l V)) {s0 : zS} {a1 : Int32}  {s1 : zS} {v1 : Int32} (h : k_GK_output s0 a1 = some (s1, v1)) : zM (sC l V) md_GK_output [zR 0 0, zI a1] s0 (s1, some (zI v1)) := by
  refine zMet [some (zR 0 0), some (zI a1)] hJ (by decide) rfl (Nat.le_of_ble_eq_true rfl) rfl ?_
  intro X hO
  unfold k_GK_output at h
  refine zl_aload_n (pc := 0) hO 0 nd_GK_output_0 rfl rfl ?_
  refine zl_get0 (pc := 1) hO nd_GK_output_1 kf_GK_28 rfl (Nat.le_of_ble_eq_true rfl) rfl ?_
  refine zl_iload_n (pc := 4) hO 1 nd_GK_output_4 rfl rfl ?_
  obtain ⟨⟨s1, r2⟩, h_5, h⟩ := bn_use h
  refine zl_callVi (pc := 5) hO [zI a1] [] (c_Co_latestOutput hJ h_5) nd_GK_output_5 kv_GK_116 rfl (Nat.le_of_ble_eq_true rfl) rfl rfl rfl (Nat.le_of_ble_eq_true rfl) ?_
  exact zl_iret (pc := 8) hO nd_GK_output_8 rfl (zr_i h)
set_option maxHeartbeats 4000000 in
set_option maxRecDepth 100000 in
theorem c_GK_now {l : Launch} {V : zG} (hJ : zJ0 (sC l V)) {s0 : zS}   {s1 : zS} {v1 : Int32} (h : k_GK_now s0 = some (s1, v1)) : zM (sC l V) md_GK_now [zR 0 0] s0 (s1, some (zI v1)) := by
  refine zMet [some (zR 0 0)] hJ (by decide) rfl (Nat.le_of_ble_eq_true rfl) rfl ?_
  intro X hO
  unfold k_GK_now at h
  refine zl_aload_n (pc := 0) hO 0 nd_GK_now_0 rfl rfl ?_
  refine zl_get0 (pc := 1) hO nd_GK_now_1 kf_GK_37 rfl (Nat.le_of_ble_eq_true rfl) rfl ?_
  refine zl_geti (pc := 4) hO nd_GK_now_4 kf_GK_73 rfl (Nat.le_of_ble_eq_true rfl) rfl ?_
  exact zl_iret (pc := 7) hO nd_GK_now_7 rfl (zr_i h)
set_option maxHeartbeats 4000000 in
set_option maxRecDepth 100000 in
theorem c_GK_turn {l : Launch} {V : zG} (hJ : zJ0 (sC l V)) {s0 : zS}   {s1 : zS} {v1 : Int32} (h : k_GK_turn s0 = some (s1, v1)) : zM (sC l V) md_GK_turn [zR 0 0] s0 (s1, some (zI v1)) := by
  refine zMet [some (zR 0 0)] hJ (by decide) rfl (Nat.le_of_ble_eq_true rfl) rfl ?_
  intro X hO
  unfold k_GK_turn at h
  refine zl_aload_n (pc := 0) hO 0 nd_GK_turn_0 rfl rfl ?_
  refine zl_geti (pc := 1) hO nd_GK_turn_1 kf_GK_57 rfl (Nat.le_of_ble_eq_true rfl) rfl ?_
  exact zl_iret (pc := 4) hO nd_GK_turn_4 rfl (zr_i h)
set_option maxHeartbeats 4000000 in
set_option maxRecDepth 100000 in
theorem c_GK_find {l : Launch} {V : zG} (hJ : zJ0 (sC l V)) {s0 : zS} {a1 : Int32}  {s1 : zS} {v1 : Option Nat} (h : k_GK_find s0 a1 = some (s1, v1)) : zM (sC l V) md_GK_find [zR 0 0, zI a1] s0 (s1, some (zQv v1)) := by
  refine zMet [some (zR 0 0), some (zI a1)] hJ (by decide) rfl (Nat.le_of_ble_eq_true rfl) rfl ?_
  intro X hO
  have J_12 : ∀ (s0 : zS), k_GK_find_12 a1 s0 = some (s1, v1) → ZW (sC l V) md_GK_find (s1, some (zQv v1)) X 12 [none, none] [] s0 := by
    intro s0 h
    unfold k_GK_find_12 at h
    refine zl_null (pc := 12) hO nd_GK_find_12 ?_
    refine zl_goto (pc := 13) hO 22 nd_GK_find_13 (by decide) ?_
    exact zl_aret (pc := 22) hO nd_GK_find_22 rfl (zr_qn h)
  unfold k_GK_find at h
  refine zl_iload_n (pc := 0) hO 1 nd_GK_find_0 rfl rfl ?_
  refine zl_if_lt (pc := 1) hO 12 nd_GK_find_1 (by decide) (fun hc => ?_) (fun hc => ?_)
  · have h := ite_t hc h
    exact zl_weak (J_12 _ h) trivial
  · have h := ite_f hc h
    refine zl_iload_n (pc := 4) hO 1 nd_GK_find_4 rfl rfl ?_
    refine zl_aload_n (pc := 5) hO 0 nd_GK_find_5 rfl rfl ?_
    refine zl_geti (pc := 6) hO nd_GK_find_6 kf_GK_83 rfl (Nat.le_of_ble_eq_true rfl) rfl ?_
    refine zl_icmp_lt (pc := 9) hO 16 nd_GK_find_9 (by decide) (fun hc => ?_) (fun hc => ?_)
    · have h := ite_t hc h
      refine zl_aload_n (pc := 16) hO 0 nd_GK_find_16 rfl rfl ?_
      refine zl_get0 (pc := 17) hO nd_GK_find_17 kf_GK_18 rfl (Nat.le_of_ble_eq_true rfl) rfl ?_
      refine zl_iload_n (pc := 20) hO 1 nd_GK_find_20 rfl rfl ?_
      obtain ⟨c_in21, h⟩ := ck_use h
      have p_21 := zi_lt c_in21
      refine zl_aald (pc := 21) hO nd_GK_find_21 rfl rfl (Nat.le_of_ble_eq_true rfl) c_in21 ?_
      exact zl_aret (pc := 22) hO nd_GK_find_22 rfl (zr_q h)
    · have h := ite_f hc h
      exact zl_weak (J_12 _ h) trivial
set_option maxHeartbeats 4000000 in
set_option maxRecDepth 100000 in
theorem c_GK_state {l : Launch} {V : zG} (hJ : zJ0 (sC l V)) {s0 : zS} {a1 : Int32}  {s1 : zS} {v1 : Int32} (h : k_GK_state s0 a1 = some (s1, v1)) : zM (sC l V) md_GK_state [zR 0 0, zI a1] s0 (s1, some (zI v1)) := by
  refine zMet [some (zR 0 0), some (zI a1), none] hJ (by decide) rfl (Nat.le_of_ble_eq_true rfl) rfl ?_
  intro X hO
  unfold k_GK_state at h
  refine zl_aload_n (pc := 0) hO 0 nd_GK_state_0 rfl rfl ?_
  refine zl_iload_n (pc := 1) hO 1 nd_GK_state_1 rfl rfl ?_
  obtain ⟨⟨s1, r2⟩, h_2, h⟩ := bn_use h
  refine zl_callVi (pc := 2) hO [zI a1] [] (c_GK_find hJ h_2) nd_GK_state_2 kv_GK_119 rfl (Nat.le_of_ble_eq_true rfl) rfl rfl rfl (Nat.le_of_ble_eq_true rfl) ?_
  refine zl_astore_n (pc := 5) hO 2 (L' := [some (zR 0 0), some (zI a1), some (zQv r2)]) nd_GK_state_5 rfl (by decide) rfl ?_
  refine zl_aload_n (pc := 6) hO 2 nd_GK_state_6 rfl rfl ?_
  cases r2 with
  | none =>
    refine zl_ifnonnullN (pc := 7) hO nd_GK_state_7 ?_
    refine zl_iconst (pc := 10) hO (v := (-1)) nd_GK_state_10 (by decide) ?_
    refine zl_goto (pc := 11) hO 18 nd_GK_state_11 (by decide) ?_
    exact zl_iret (pc := 18) hO nd_GK_state_18 rfl (zr_i h)
  | some q3 =>
    have b_q3 := (k_GK_find_lt h_2)
    refine zl_ifnonnull (pc := 7) hO 14 nd_GK_state_7 (by decide) ?_
    refine zl_aload_n (pc := 14) hO 2 nd_GK_state_14 rfl rfl ?_
    refine zl_geti (pc := 15) hO nd_GK_state_15 kf_GK_123 rfl b_q3 rfl ?_
    exact zl_iret (pc := 18) hO nd_GK_state_18 rfl (zr_i h)
set_option maxHeartbeats 4000000 in
set_option maxRecDepth 100000 in
theorem c_BP_registerValue {l : Launch} {V : zG} (hJ : zJ0 (sC l V)) {s0 : zS} {p : Nat} {a1 : Int32} (b_p : p < 4) {s1 : zS} {v1 : Int32} (h : k_BP_registerValue s0 p a1 = some (s1, v1)) : zM (sC l V) md_BP_registerValue [zR 11 p, zI a1] s0 (s1, some (zI v1)) := by
  refine zMet [some (zR 11 p), some (zI a1)] hJ (by decide) rfl (Nat.le_of_ble_eq_true rfl) rfl ?_
  intro X hO
  have J_38 : ∀ (s0 : zS), k_BP_registerValue_38 p a1 s0 = some (s1, v1) → ZW (sC l V) md_BP_registerValue (s1, some (zI v1)) X 38 [some (zR 11 p), some (zI a1)] [] s0 := by
    intro s0 h
    unfold k_BP_registerValue_38 at h
    refine zl_aload_n (pc := 38) hO 0 nd_BP_registerValue_38 rfl rfl ?_
    refine zl_getS (pc := 39) hO nd_BP_registerValue_39 kf_BP_22 rfl b_p rfl ?_
    refine zl_iload_n (pc := 42) hO 1 nd_BP_registerValue_42 rfl rfl ?_
    obtain ⟨c_in43, h⟩ := ck_use h
    refine zl_iald (pc := 43) hO nd_BP_registerValue_43 rfl rfl b_p c_in43 ?_
    exact zl_iret (pc := 44) hO nd_BP_registerValue_44 rfl (zr_i h)
  unfold k_BP_registerValue at h
  refine zl_iload_n (pc := 0) hO 1 nd_BP_registerValue_0 rfl rfl ?_
  refine zl_if_lt (pc := 1) hO 10 nd_BP_registerValue_1 (by decide) (fun hc => ?_) (fun hc => ?_)
  · have h := ite_t hc h
    refine zl_iconst (pc := 10) hO (v := 0) nd_BP_registerValue_10 (by decide) ?_
    exact zl_iret (pc := 11) hO nd_BP_registerValue_11 rfl (zr_i h)
  · have h := ite_f hc h
    refine zl_iload_n (pc := 4) hO 1 nd_BP_registerValue_4 rfl rfl ?_
    refine zl_bipush (pc := 5) hO (v := 11) nd_BP_registerValue_5 (by decide) ?_
    refine zl_icmp_le (pc := 7) hO 12 nd_BP_registerValue_7 (by decide) (fun hc => ?_) (fun hc => ?_)
    · have h := ite_t hc h
      refine zl_iload_n (pc := 12) hO 1 nd_BP_registerValue_12 rfl rfl ?_
      refine zl_bipush (pc := 13) hO (v := 8) nd_BP_registerValue_13 (by decide) ?_
      refine zl_icmp_ge (pc := 15) hO 45 nd_BP_registerValue_15 (by decide) (fun hc => ?_) (fun hc => ?_)
      · have h := ite_t hc h
        refine zl_iload_n (pc := 45) hO 1 nd_BP_registerValue_45 rfl rfl ?_
        by_cases hc : a1 = 8
        · have h := ite_t hc h
          refine zl_tabIn (pc := 46) (off := 26) hO 8 72 hc nd_BP_registerValue_46 (by decide) (by decide) (by decide) (by decide) ?_
          refine zl_aload_n (pc := 72) hO 0 nd_BP_registerValue_72 rfl rfl ?_
          refine zl_geti (pc := 73) hO nd_BP_registerValue_73 kf_BP_45 rfl b_p rfl ?_
          exact zl_iret (pc := 76) hO nd_BP_registerValue_76 rfl (zr_i h)
        have h := ite_f hc h
        have n_46_8 : ¬ a1.toInt = 8 := lv_neT (k := 8) hc (by decide)
        by_cases hc : a1 = 9
        · have h := ite_t hc h
          refine zl_tabIn (pc := 46) (off := 31) hO 9 77 hc nd_BP_registerValue_46 (by decide) (by decide) (by decide) (by decide) ?_
          refine zl_aload_n (pc := 77) hO 0 nd_BP_registerValue_77 rfl rfl ?_
          refine zl_geti (pc := 78) hO nd_BP_registerValue_78 kf_BP_60 rfl b_p rfl ?_
          refine zl_if_eq (pc := 81) hO 92 nd_BP_registerValue_81 (by decide) (fun hc => ?_) (fun hc => ?_)
          · have h := ite_t hc h
            refine zl_aload_n (pc := 92) hO 0 nd_BP_registerValue_92 rfl rfl ?_
            refine zl_geti (pc := 93) hO nd_BP_registerValue_93 kf_BP_48 rfl b_p rfl ?_
            exact zl_iret (pc := 96) hO nd_BP_registerValue_96 rfl (zr_i h)
          · have h := ite_f hc h
            refine zl_aload_n (pc := 84) hO 0 nd_BP_registerValue_84 rfl rfl ?_
            refine zl_iconst (pc := 85) hO (v := 5) nd_BP_registerValue_85 (by decide) ?_
            obtain ⟨⟨s1, r2⟩, h_86, h⟩ := bn_use h
            refine zl_callVi (pc := 86) hO [zI 5] [] (c_BP_frameWord hJ b_p h_86) nd_BP_registerValue_86 kv_BP_119 rfl b_p rfl rfl rfl (Nat.le_of_ble_eq_true rfl) ?_
            refine zl_goto (pc := 89) hO 96 nd_BP_registerValue_89 (by decide) ?_
            exact zl_iret (pc := 96) hO nd_BP_registerValue_96 rfl (zr_i h)
        have h := ite_f hc h
        have n_46_9 : ¬ a1.toInt = 9 := lv_neT (k := 9) hc (by decide)
        by_cases hc : a1 = 10
        · have h := ite_t hc h
          refine zl_tabIn (pc := 46) (off := 51) hO 10 97 hc nd_BP_registerValue_46 (by decide) (by decide) (by decide) (by decide) ?_
          refine zl_aload_n (pc := 97) hO 0 nd_BP_registerValue_97 rfl rfl ?_
          refine zl_geti (pc := 98) hO nd_BP_registerValue_98 kf_BP_60 rfl b_p rfl ?_
          refine zl_if_eq (pc := 101) hO 113 nd_BP_registerValue_101 (by decide) (fun hc => ?_) (fun hc => ?_)
          · have h := ite_t hc h
            refine zl_aload_n (pc := 113) hO 0 nd_BP_registerValue_113 rfl rfl ?_
            refine zl_geti (pc := 114) hO nd_BP_registerValue_114 kf_BP_54 rfl b_p rfl ?_
            exact zl_iret (pc := 117) hO nd_BP_registerValue_117 rfl (zr_i h)
          · have h := ite_f hc h
            refine zl_aload_n (pc := 104) hO 0 nd_BP_registerValue_104 rfl rfl ?_
            refine zl_bipush (pc := 105) hO (v := 6) nd_BP_registerValue_105 (by decide) ?_
            obtain ⟨⟨s3, r4⟩, h_107, h⟩ := bn_use h
            refine zl_callVi (pc := 107) hO [zI 6] [] (c_BP_frameWord hJ b_p h_107) nd_BP_registerValue_107 kv_BP_119 rfl b_p rfl rfl rfl (Nat.le_of_ble_eq_true rfl) ?_
            refine zl_goto (pc := 110) hO 117 nd_BP_registerValue_110 (by decide) ?_
            exact zl_iret (pc := 117) hO nd_BP_registerValue_117 rfl (zr_i h)
        have h := ite_f hc h
        have n_46_10 : ¬ a1.toInt = 10 := lv_neT (k := 10) hc (by decide)
        refine zl_tabOut (pc := 46) hO 118 nd_BP_registerValue_46 (by omega) (by decide) ?_
        refine zl_aload_n (pc := 118) hO 0 nd_BP_registerValue_118 rfl rfl ?_
        refine zl_geti (pc := 119) hO nd_BP_registerValue_119 kf_BP_60 rfl b_p rfl ?_
        refine zl_if_eq (pc := 122) hO 137 nd_BP_registerValue_122 (by decide) (fun hc => ?_) (fun hc => ?_)
        · have h := ite_t hc h
          refine zl_aload_n (pc := 137) hO 0 nd_BP_registerValue_137 rfl rfl ?_
          refine zl_geti (pc := 138) hO nd_BP_registerValue_138 kf_BP_57 rfl b_p rfl ?_
          exact zl_iret (pc := 141) hO nd_BP_registerValue_141 rfl (zr_i h)
        · have h := ite_f hc h
          refine zl_aload_n (pc := 125) hO 0 nd_BP_registerValue_125 rfl rfl ?_
          refine zl_bipush (pc := 126) hO (v := 7) nd_BP_registerValue_126 (by decide) ?_
          obtain ⟨⟨s5, r6⟩, h_128, h⟩ := bn_use h
          refine zl_callVi (pc := 128) hO [zI 7] [] (c_BP_frameWord hJ b_p h_128) nd_BP_registerValue_128 kv_BP_119 rfl b_p rfl rfl rfl (Nat.le_of_ble_eq_true rfl) ?_
          refine zl_bipush (pc := 131) hO (v := 28) nd_BP_registerValue_131 (by decide) ?_
          refine zl_iushr (pc := 133) hO nd_BP_registerValue_133 ?_
          refine zl_goto (pc := 134) hO 141 nd_BP_registerValue_134 (by decide) ?_
          exact zl_iret (pc := 141) hO nd_BP_registerValue_141 rfl (zr_i h)
      · have h := ite_f hc h
        refine zl_aload_n (pc := 18) hO 0 nd_BP_registerValue_18 rfl rfl ?_
        refine zl_geti (pc := 19) hO nd_BP_registerValue_19 kf_BP_60 rfl b_p rfl ?_
        refine zl_if_eq (pc := 22) hO 38 nd_BP_registerValue_22 (by decide) (fun hc => ?_) (fun hc => ?_)
        · have h := ite_t hc h
          exact zl_weak (J_38 _ h) ⟨rfl, ⟨rfl, trivial⟩⟩
        · have h := ite_f hc h
          refine zl_iload_n (pc := 25) hO 1 nd_BP_registerValue_25 rfl rfl ?_
          refine zl_iconst (pc := 26) hO (v := 4) nd_BP_registerValue_26 (by decide) ?_
          refine zl_icmp_ge (pc := 27) hO 38 nd_BP_registerValue_27 (by decide) (fun hc => ?_) (fun hc => ?_)
          · have h := ite_t hc h
            exact zl_weak (J_38 _ h) ⟨rfl, ⟨rfl, trivial⟩⟩
          · have h := ite_f hc h
            refine zl_aload_n (pc := 30) hO 0 nd_BP_registerValue_30 rfl rfl ?_
            refine zl_iload_n (pc := 31) hO 1 nd_BP_registerValue_31 rfl rfl ?_
            obtain ⟨⟨s7, r8⟩, h_32, h⟩ := bn_use h
            refine zl_callVi (pc := 32) hO [zI a1] [] (c_BP_frameWord hJ b_p h_32) nd_BP_registerValue_32 kv_BP_119 rfl b_p rfl rfl rfl (Nat.le_of_ble_eq_true rfl) ?_
            refine zl_goto (pc := 35) hO 44 nd_BP_registerValue_35 (by decide) ?_
            exact zl_iret (pc := 44) hO nd_BP_registerValue_44 rfl (zr_i h)
    · have h := ite_f hc h
      refine zl_iconst (pc := 10) hO (v := 0) nd_BP_registerValue_10 (by decide) ?_
      exact zl_iret (pc := 11) hO nd_BP_registerValue_11 rfl (zr_i h)
set_option maxHeartbeats 4000000 in
set_option maxRecDepth 100000 in
theorem c_GK_register {l : Launch} {V : zG} (hJ : zJ0 (sC l V)) {s0 : zS} {a1 : Int32} {a2 : Int32}  {s1 : zS} {v1 : Int32} (h : k_GK_register s0 a1 a2 = some (s1, v1)) : zM (sC l V) md_GK_register [zR 0 0, zI a1, zI a2] s0 (s1, some (zI v1)) := by
  refine zMet [some (zR 0 0), some (zI a1), some (zI a2), none] hJ (by decide) rfl (Nat.le_of_ble_eq_true rfl) rfl ?_
  intro X hO
  unfold k_GK_register at h
  refine zl_aload_n (pc := 0) hO 0 nd_GK_register_0 rfl rfl ?_
  refine zl_iload_n (pc := 1) hO 1 nd_GK_register_1 rfl rfl ?_
  obtain ⟨⟨s1, r2⟩, h_2, h⟩ := bn_use h
  refine zl_callVi (pc := 2) hO [zI a1] [] (c_GK_find hJ h_2) nd_GK_register_2 kv_GK_119 rfl (Nat.le_of_ble_eq_true rfl) rfl rfl rfl (Nat.le_of_ble_eq_true rfl) ?_
  refine zl_astore_n (pc := 5) hO 3 (L' := [some (zR 0 0), some (zI a1), some (zI a2), some (zQv r2)]) nd_GK_register_5 rfl (by decide) rfl ?_
  refine zl_aload_n (pc := 6) hO 3 nd_GK_register_6 rfl rfl ?_
  cases r2 with
  | none =>
    refine zl_ifnonnullN (pc := 7) hO nd_GK_register_7 ?_
    refine zl_iconst (pc := 10) hO (v := 0) nd_GK_register_10 (by decide) ?_
    refine zl_goto (pc := 11) hO 19 nd_GK_register_11 (by decide) ?_
    exact zl_iret (pc := 19) hO nd_GK_register_19 rfl (zr_i h)
  | some q3 =>
    have b_q3 := (k_GK_find_lt h_2)
    refine zl_ifnonnull (pc := 7) hO 14 nd_GK_register_7 (by decide) ?_
    refine zl_aload_n (pc := 14) hO 3 nd_GK_register_14 rfl rfl ?_
    refine zl_iload_n (pc := 15) hO 2 nd_GK_register_15 rfl rfl ?_
    obtain ⟨⟨s4, r5⟩, h_16, h⟩ := bn_use h
    refine zl_callVi (pc := 16) hO [zI a2] [] (c_BP_registerValue hJ b_q3 h_16) nd_GK_register_16 kv_GK_126 rfl b_q3 rfl rfl rfl (Nat.le_of_ble_eq_true rfl) ?_
    exact zl_iret (pc := 19) hO nd_GK_register_19 rfl (zr_i h)
set_option maxHeartbeats 4000000 in
set_option maxRecDepth 100000 in
theorem c_GK_word {l : Launch} {V : zG} (hJ : zJ0 (sC l V)) {s0 : zS} {a1 : Int32}  {s1 : zS} {v1 : Int32} (h : k_GK_word s0 a1 = some (s1, v1)) : zM (sC l V) md_GK_word [zR 0 0, zI a1] s0 (s1, some (zI v1)) := by
  refine zMet [some (zR 0 0), some (zI a1)] hJ (by decide) rfl (Nat.le_of_ble_eq_true rfl) rfl ?_
  intro X hO
  have J_11 : ∀ (s0 : zS), k_GK_word_11 a1 s0 = some (s1, v1) → ZW (sC l V) md_GK_word (s1, some (zI v1)) X 11 [none, none] [] s0 := by
    intro s0 h
    unfold k_GK_word_11 at h
    refine zl_iconst (pc := 11) hO (v := 0) nd_GK_word_11 (by decide) ?_
    refine zl_goto (pc := 12) hO 24 nd_GK_word_12 (by decide) ?_
    exact zl_iret (pc := 24) hO nd_GK_word_24 rfl (zr_i h)
  unfold k_GK_word at h
  refine zl_iload_n (pc := 0) hO 1 nd_GK_word_0 rfl rfl ?_
  refine zl_if_lt (pc := 1) hO 11 nd_GK_word_1 (by decide) (fun hc => ?_) (fun hc => ?_)
  · have h := ite_t hc h
    exact zl_weak (J_11 _ h) trivial
  · have h := ite_f hc h
    refine zl_iload_n (pc := 4) hO 1 nd_GK_word_4 rfl rfl ?_
    refine zl_sipush (pc := 5) hO (v := 128) nd_GK_word_5 (by decide) ?_
    refine zl_icmp_lt (pc := 8) hO 15 nd_GK_word_8 (by decide) (fun hc => ?_) (fun hc => ?_)
    · have h := ite_t hc h
      refine zl_aload_n (pc := 15) hO 0 nd_GK_word_15 rfl rfl ?_
      refine zl_get0 (pc := 16) hO nd_GK_word_16 kf_GK_10 rfl (Nat.le_of_ble_eq_true rfl) rfl ?_
      refine zl_get0 (pc := 19) hO nd_GK_word_19 kf_GK_129 rfl (Nat.le_of_ble_eq_true rfl) rfl ?_
      refine zl_iload_n (pc := 22) hO 1 nd_GK_word_22 rfl rfl ?_
      obtain ⟨c_in23, h⟩ := ck_use h
      refine zl_iald (pc := 23) hO nd_GK_word_23 rfl rfl (Nat.le_of_ble_eq_true rfl) c_in23 ?_
      exact zl_iret (pc := 24) hO nd_GK_word_24 rfl (zr_i h)
    · have h := ite_f hc h
      exact zl_weak (J_11 _ h) trivial
set_option maxHeartbeats 4000000 in
set_option maxRecDepth 100000 in
theorem c_GK_block {l : Launch} {V : zG} (hJ : zJ0 (sC l V)) {s0 : zS} {a1 : Int32}  {s1 : zS} {v1 : Int32} (h : k_GK_block s0 a1 = some (s1, v1)) : zM (sC l V) md_GK_block [zR 0 0, zI a1] s0 (s1, some (zI v1)) := by
  refine zMet [some (zR 0 0), some (zI a1), none] hJ (by decide) rfl (Nat.le_of_ble_eq_true rfl) rfl ?_
  intro X hO
  unfold k_GK_block at h
  refine zl_aload_n (pc := 0) hO 0 nd_GK_block_0 rfl rfl ?_
  refine zl_iload_n (pc := 1) hO 1 nd_GK_block_1 rfl rfl ?_
  obtain ⟨⟨s1, r2⟩, h_2, h⟩ := bn_use h
  refine zl_callVi (pc := 2) hO [zI a1] [] (c_GK_find hJ h_2) nd_GK_block_2 kv_GK_119 rfl (Nat.le_of_ble_eq_true rfl) rfl rfl rfl (Nat.le_of_ble_eq_true rfl) ?_
  refine zl_astore_n (pc := 5) hO 2 (L' := [some (zR 0 0), some (zI a1), some (zQv r2)]) nd_GK_block_5 rfl (by decide) rfl ?_
  refine zl_aload_n (pc := 6) hO 2 nd_GK_block_6 rfl rfl ?_
  cases r2 with
  | none =>
    refine zl_ifnonnullN (pc := 7) hO nd_GK_block_7 ?_
    refine zl_iconst (pc := 10) hO (v := (-1)) nd_GK_block_10 (by decide) ?_
    refine zl_goto (pc := 11) hO 18 nd_GK_block_11 (by decide) ?_
    exact zl_iret (pc := 18) hO nd_GK_block_18 rfl (zr_i h)
  | some q3 =>
    have b_q3 := (k_GK_find_lt h_2)
    refine zl_ifnonnull (pc := 7) hO 14 nd_GK_block_7 (by decide) ?_
    refine zl_aload_n (pc := 14) hO 2 nd_GK_block_14 rfl rfl ?_
    refine zl_geti (pc := 15) hO nd_GK_block_15 kf_GK_132 rfl b_q3 rfl ?_
    exact zl_iret (pc := 18) hO nd_GK_block_18 rfl (zr_i h)
set_option maxHeartbeats 4000000 in
set_option maxRecDepth 100000 in
theorem c_GK_open {l : Launch} {V : zG} (hJ : zJ0 (sC l V)) {s0 : zS} {a1 : Int32}  {s1 : zS} {v1 : Int32} (h : k_GK_open s0 a1 = some (s1, v1)) : zM (sC l V) md_GK_open [zR 0 0, zI a1] s0 (s1, some (zI v1)) := by
  refine zMet [some (zR 0 0), some (zI a1), none] hJ (by decide) rfl (Nat.le_of_ble_eq_true rfl) rfl ?_
  intro X hO
  unfold k_GK_open at h
  refine zl_aload_n (pc := 0) hO 0 nd_GK_open_0 rfl rfl ?_
  refine zl_iload_n (pc := 1) hO 1 nd_GK_open_1 rfl rfl ?_
  obtain ⟨⟨s1, r2⟩, h_2, h⟩ := bn_use h
  refine zl_callVi (pc := 2) hO [zI a1] [] (c_GK_find hJ h_2) nd_GK_open_2 kv_GK_119 rfl (Nat.le_of_ble_eq_true rfl) rfl rfl rfl (Nat.le_of_ble_eq_true rfl) ?_
  refine zl_astore_n (pc := 5) hO 2 (L' := [some (zR 0 0), some (zI a1), some (zQv r2)]) nd_GK_open_5 rfl (by decide) rfl ?_
  refine zl_aload_n (pc := 6) hO 2 nd_GK_open_6 rfl rfl ?_
  cases r2 with
  | none =>
    refine zl_ifnonnullN (pc := 7) hO nd_GK_open_7 ?_
    refine zl_iconst (pc := 10) hO (v := (-1)) nd_GK_open_10 (by decide) ?_
    refine zl_goto (pc := 11) hO 18 nd_GK_open_11 (by decide) ?_
    exact zl_iret (pc := 18) hO nd_GK_open_18 rfl (zr_i h)
  | some q3 =>
    have b_q3 := (k_GK_find_lt h_2)
    refine zl_ifnonnull (pc := 7) hO 14 nd_GK_open_7 (by decide) ?_
    refine zl_aload_n (pc := 14) hO 2 nd_GK_open_14 rfl rfl ?_
    refine zl_geti (pc := 15) hO nd_GK_open_15 kf_GK_135 rfl b_q3 rfl ?_
    exact zl_iret (pc := 18) hO nd_GK_open_18 rfl (zr_i h)
set_option maxHeartbeats 4000000 in
set_option maxRecDepth 100000 in
theorem c_GK_grant {l : Launch} {V : zG} (hJ : zJ0 (sC l V)) {s0 : zS} {a1 : Int32} {a2 : Int32}  {s1 : zS} {v1 : Int32} (h : k_GK_grant s0 a1 a2 = some (s1, v1)) : zM (sC l V) md_GK_grant [zR 0 0, zI a1, zI a2] s0 (s1, some (zI v1)) := by
  refine zMet [some (zR 0 0), some (zI a1), some (zI a2), none] hJ (by decide) rfl (Nat.le_of_ble_eq_true rfl) rfl ?_
  intro X hO
  unfold k_GK_grant at h
  refine zl_aload_n (pc := 0) hO 0 nd_GK_grant_0 rfl rfl ?_
  refine zl_iload_n (pc := 1) hO 1 nd_GK_grant_1 rfl rfl ?_
  obtain ⟨⟨s1, r2⟩, h_2, h⟩ := bn_use h
  refine zl_callVi (pc := 2) hO [zI a1] [] (c_GK_find hJ h_2) nd_GK_grant_2 kv_GK_119 rfl (Nat.le_of_ble_eq_true rfl) rfl rfl rfl (Nat.le_of_ble_eq_true rfl) ?_
  refine zl_astore_n (pc := 5) hO 3 (L' := [some (zR 0 0), some (zI a1), some (zI a2), some (zQv r2)]) nd_GK_grant_5 rfl (by decide) rfl ?_
  refine zl_aload_n (pc := 6) hO 3 nd_GK_grant_6 rfl rfl ?_
  cases r2 with
  | none =>
    refine zl_ifnullN (pc := 7) hO 30 nd_GK_grant_7 (by decide) ?_
    refine zl_iconst (pc := 30) hO (v := (-1)) nd_GK_grant_30 (by decide) ?_
    exact zl_iret (pc := 31) hO nd_GK_grant_31 rfl (zr_i h)
  | some q3 =>
    have b_q3 := (k_GK_find_lt h_2)
    refine zl_ifnull (pc := 7) hO nd_GK_grant_7 ?_
    refine zl_iload_n (pc := 10) hO 2 nd_GK_grant_10 rfl rfl ?_
    refine zl_if_lt (pc := 11) hO 30 nd_GK_grant_11 (by decide) (fun hc => ?_) (fun hc => ?_)
    · have h := ite_t hc h
      refine zl_iconst (pc := 30) hO (v := (-1)) nd_GK_grant_30 (by decide) ?_
      exact zl_iret (pc := 31) hO nd_GK_grant_31 rfl (zr_i h)
    · have h := ite_f hc h
      refine zl_iload_n (pc := 14) hO 2 nd_GK_grant_14 rfl rfl ?_
      refine zl_iconst (pc := 15) hO (v := 3) nd_GK_grant_15 (by decide) ?_
      refine zl_icmp_ge (pc := 16) hO 30 nd_GK_grant_16 (by decide) (fun hc => ?_) (fun hc => ?_)
      · have h := ite_t hc h
        refine zl_iconst (pc := 30) hO (v := (-1)) nd_GK_grant_30 (by decide) ?_
        exact zl_iret (pc := 31) hO nd_GK_grant_31 rfl (zr_i h)
      · have h := ite_f hc h
        refine zl_aload_n (pc := 19) hO 3 nd_GK_grant_19 rfl rfl ?_
        refine zl_getS (pc := 20) hO nd_GK_grant_20 kf_GK_138 rfl b_q3 rfl ?_
        refine zl_iload_n (pc := 23) hO 2 nd_GK_grant_23 rfl rfl ?_
        obtain ⟨⟨s4, r5⟩, h_24, h⟩ := bn_use h
        refine zl_callVi (pc := 24) hO [zI a2] [] (c_No_hasGrant hJ b_q3 h_24) nd_GK_grant_24 kv_GK_142 rfl b_q3 rfl rfl rfl (Nat.le_of_ble_eq_true rfl) ?_
        refine zl_if_ne (pc := 27) hO 32 nd_GK_grant_27 (by decide) (fun hc => ?_) (fun hc => ?_)
        · have h := ite_f hc h
          refine zl_aload_n (pc := 32) hO 3 nd_GK_grant_32 rfl rfl ?_
          refine zl_getS (pc := 33) hO nd_GK_grant_33 kf_GK_138 rfl b_q3 rfl ?_
          refine zl_getS (pc := 36) hO nd_GK_grant_36 kf_GK_147 rfl b_q3 rfl ?_
          refine zl_iload_n (pc := 39) hO 2 nd_GK_grant_39 rfl rfl ?_
          obtain ⟨c_in40, h⟩ := ck_use h
          refine zl_iald (pc := 40) hO nd_GK_grant_40 rfl rfl b_q3 c_in40 ?_
          exact zl_iret (pc := 41) hO nd_GK_grant_41 rfl (zr_i h)
        · have h := ite_t hc h
          refine zl_iconst (pc := 30) hO (v := (-1)) nd_GK_grant_30 (by decide) ?_
          exact zl_iret (pc := 31) hO nd_GK_grant_31 rfl (zr_i h)
set_option maxHeartbeats 4000000 in
set_option maxRecDepth 100000 in
theorem c_GK_queued {l : Launch} {V : zG} (hJ : zJ0 (sC l V)) {s0 : zS} {a1 : Int32}  {s1 : zS} {v1 : Int32} (h : k_GK_queued s0 a1 = some (s1, v1)) : zM (sC l V) md_GK_queued [zR 0 0, zI a1] s0 (s1, some (zI v1)) := by
  refine zMet [some (zR 0 0), some (zI a1), none] hJ (by decide) rfl (Nat.le_of_ble_eq_true rfl) rfl ?_
  intro X hO
  unfold k_GK_queued at h
  refine zl_aload_n (pc := 0) hO 0 nd_GK_queued_0 rfl rfl ?_
  refine zl_iload_n (pc := 1) hO 1 nd_GK_queued_1 rfl rfl ?_
  obtain ⟨⟨s1, r2⟩, h_2, h⟩ := bn_use h
  refine zl_callVi (pc := 2) hO [zI a1] [] (c_GK_find hJ h_2) nd_GK_queued_2 kv_GK_119 rfl (Nat.le_of_ble_eq_true rfl) rfl rfl rfl (Nat.le_of_ble_eq_true rfl) ?_
  refine zl_astore_n (pc := 5) hO 2 (L' := [some (zR 0 0), some (zI a1), some (zQv r2)]) nd_GK_queued_5 rfl (by decide) rfl ?_
  refine zl_aload_n (pc := 6) hO 2 nd_GK_queued_6 rfl rfl ?_
  cases r2 with
  | none =>
    refine zl_ifnonnullN (pc := 7) hO nd_GK_queued_7 ?_
    refine zl_iconst (pc := 10) hO (v := (-1)) nd_GK_queued_10 (by decide) ?_
    refine zl_goto (pc := 11) hO 24 nd_GK_queued_11 (by decide) ?_
    exact zl_iret (pc := 24) hO nd_GK_queued_24 rfl (zr_i h)
  | some q3 =>
    have b_q3 := (k_GK_find_lt h_2)
    refine zl_ifnonnull (pc := 7) hO 14 nd_GK_queued_7 (by decide) ?_
    refine zl_aload_n (pc := 14) hO 2 nd_GK_queued_14 rfl rfl ?_
    refine zl_getS (pc := 15) hO nd_GK_queued_15 kf_GK_138 rfl b_q3 rfl ?_
    refine zl_getS (pc := 18) hO nd_GK_queued_18 kf_GK_150 rfl b_q3 rfl ?_
    refine zl_geti (pc := 21) hO nd_GK_queued_21 kf_GK_154 rfl b_q3 rfl ?_
    exact zl_iret (pc := 24) hO nd_GK_queued_24 rfl (zr_i h)
set_option maxHeartbeats 4000000 in
set_option maxRecDepth 100000 in
theorem c_GK_fault {l : Launch} {V : zG} (hJ : zJ0 (sC l V)) {s0 : zS} {a1 : Int32}  {s1 : zS} {v1 : Int32} (h : k_GK_fault s0 a1 = some (s1, v1)) : zM (sC l V) md_GK_fault [zR 0 0, zI a1] s0 (s1, some (zI v1)) := by
  refine zMet [some (zR 0 0), some (zI a1), none] hJ (by decide) rfl (Nat.le_of_ble_eq_true rfl) rfl ?_
  intro X hO
  unfold k_GK_fault at h
  refine zl_aload_n (pc := 0) hO 0 nd_GK_fault_0 rfl rfl ?_
  refine zl_iload_n (pc := 1) hO 1 nd_GK_fault_1 rfl rfl ?_
  obtain ⟨⟨s1, r2⟩, h_2, h⟩ := bn_use h
  refine zl_callVi (pc := 2) hO [zI a1] [] (c_GK_find hJ h_2) nd_GK_fault_2 kv_GK_119 rfl (Nat.le_of_ble_eq_true rfl) rfl rfl rfl (Nat.le_of_ble_eq_true rfl) ?_
  refine zl_astore_n (pc := 5) hO 2 (L' := [some (zR 0 0), some (zI a1), some (zQv r2)]) nd_GK_fault_5 rfl (by decide) rfl ?_
  refine zl_aload_n (pc := 6) hO 2 nd_GK_fault_6 rfl rfl ?_
  cases r2 with
  | none =>
    refine zl_ifnonnullN (pc := 7) hO nd_GK_fault_7 ?_
    refine zl_iconst (pc := 10) hO (v := (-1)) nd_GK_fault_10 (by decide) ?_
    refine zl_goto (pc := 11) hO 18 nd_GK_fault_11 (by decide) ?_
    exact zl_iret (pc := 18) hO nd_GK_fault_18 rfl (zr_i h)
  | some q3 =>
    have b_q3 := (k_GK_find_lt h_2)
    refine zl_ifnonnull (pc := 7) hO 14 nd_GK_fault_7 (by decide) ?_
    refine zl_aload_n (pc := 14) hO 2 nd_GK_fault_14 rfl rfl ?_
    refine zl_geti (pc := 15) hO nd_GK_fault_15 kf_GK_159 rfl b_q3 rfl ?_
    exact zl_iret (pc := 18) hO nd_GK_fault_18 rfl (zr_i h)
set_option maxHeartbeats 4000000 in
set_option maxRecDepth 100000 in
theorem c_GK_faults {l : Launch} {V : zG} (hJ : zJ0 (sC l V)) {s0 : zS} {a1 : Int32}  {s1 : zS} {v1 : Int32} (h : k_GK_faults s0 a1 = some (s1, v1)) : zM (sC l V) md_GK_faults [zR 0 0, zI a1] s0 (s1, some (zI v1)) := by
  refine zMet [some (zR 0 0), some (zI a1), none] hJ (by decide) rfl (Nat.le_of_ble_eq_true rfl) rfl ?_
  intro X hO
  unfold k_GK_faults at h
  refine zl_aload_n (pc := 0) hO 0 nd_GK_faults_0 rfl rfl ?_
  refine zl_iload_n (pc := 1) hO 1 nd_GK_faults_1 rfl rfl ?_
  obtain ⟨⟨s1, r2⟩, h_2, h⟩ := bn_use h
  refine zl_callVi (pc := 2) hO [zI a1] [] (c_GK_find hJ h_2) nd_GK_faults_2 kv_GK_119 rfl (Nat.le_of_ble_eq_true rfl) rfl rfl rfl (Nat.le_of_ble_eq_true rfl) ?_
  refine zl_astore_n (pc := 5) hO 2 (L' := [some (zR 0 0), some (zI a1), some (zQv r2)]) nd_GK_faults_5 rfl (by decide) rfl ?_
  refine zl_aload_n (pc := 6) hO 2 nd_GK_faults_6 rfl rfl ?_
  cases r2 with
  | none =>
    refine zl_ifnonnullN (pc := 7) hO nd_GK_faults_7 ?_
    refine zl_iconst (pc := 10) hO (v := (-1)) nd_GK_faults_10 (by decide) ?_
    refine zl_goto (pc := 11) hO 18 nd_GK_faults_11 (by decide) ?_
    exact zl_iret (pc := 18) hO nd_GK_faults_18 rfl (zr_i h)
  | some q3 =>
    have b_q3 := (k_GK_find_lt h_2)
    refine zl_ifnonnull (pc := 7) hO 14 nd_GK_faults_7 (by decide) ?_
    refine zl_aload_n (pc := 14) hO 2 nd_GK_faults_14 rfl rfl ?_
    refine zl_geti (pc := 15) hO nd_GK_faults_15 kf_GK_162 rfl b_q3 rfl ?_
    exact zl_iret (pc := 18) hO nd_GK_faults_18 rfl (zr_i h)
