set_option maxHeartbeats 4000000 in
set_option maxRecDepth 100000 in
theorem c_Ke_ringIfDue {l : Launch} {V : zG} (hJ : zJ0 (sC l V)) {s0 : zS} {a1 : Nat} (b_a1 : a1 < 4) {s1 : zS} (h : k_Ke_ringIfDue s0 a1 = some s1) : zM (sC l V) md_Ke_ringIfDue [zR 8 0, zR 11 a1] s0 (s1, none) := by
  refine zMet [some (zR 8 0), some (zR 11 a1), none, none] hJ (by decide) rfl (Nat.le_of_ble_eq_true rfl) rfl ?_
  intro X hO
  unfold k_Ke_ringIfDue at h
  refine zl_aload_n (pc := 0) hO 1 nd_Ke_ringIfDue_0 rfl rfl ?_
  refine zl_getS (pc := 1) hO nd_Ke_ringIfDue_1 kf_Ke_45 rfl b_a1 rfl ?_
  refine zl_getS (pc := 4) hO nd_Ke_ringIfDue_4 kf_Ke_51 rfl b_a1 rfl ?_
  refine zl_iconst (pc := 7) hO (v := 0) nd_Ke_ringIfDue_7 (by decide) ?_
  obtain ⟨c_in8, h⟩ := ck_use h
  refine zl_iald (pc := 8) hO nd_Ke_ringIfDue_8 rfl rfl b_a1 c_in8 ?_
  obtain ⟨x1, e_x1, h⟩ := lt_use h
  refine zl_top e_x1 ?_
  refine zl_istore_n (pc := 9) hO 2 (L' := [some (zR 8 0), some (zR 11 a1), some (zI x1), none]) nd_Ke_ringIfDue_9 rfl (by decide) rfl ?_
  refine zl_aload_n (pc := 10) hO 0 nd_Ke_ringIfDue_10 rfl rfl ?_
  refine zl_get0 (pc := 11) hO nd_Ke_ringIfDue_11 kf_Ke_9 rfl (Nat.le_of_ble_eq_true rfl) rfl ?_
  refine zl_iload_n (pc := 14) hO 2 nd_Ke_ringIfDue_14 rfl rfl ?_
  refine zl_iconst (pc := 15) hO (v := 4) nd_Ke_ringIfDue_15 (by decide) ?_
  refine zl_iadd (pc := 16) hO nd_Ke_ringIfDue_16 ?_
  obtain ⟨⟨s2, r3⟩, h_17, h⟩ := bn_use h
  refine zl_callVi (pc := 17) hO [zI (x1 + (4 : Int32))] [] (c_Me_ramWord hJ h_17) nd_Ke_ringIfDue_17 kv_Ke_57 rfl (Nat.le_of_ble_eq_true rfl) rfl rfl rfl (Nat.le_of_ble_eq_true rfl) ?_
  refine zl_istore_n (pc := 20) hO 3 (L' := [some (zR 8 0), some (zR 11 a1), some (zI x1), some (zI r3)]) nd_Ke_ringIfDue_20 rfl (by decide) rfl ?_
  refine zl_iload_n (pc := 21) hO 3 nd_Ke_ringIfDue_21 rfl rfl ?_
  refine zl_aload_n (pc := 22) hO 0 nd_Ke_ringIfDue_22 rfl rfl ?_
  refine zl_geti (pc := 23) hO nd_Ke_ringIfDue_23 kf_Ke_23 rfl (Nat.le_of_ble_eq_true rfl) rfl ?_
  refine zl_icmp_gt (pc := 26) hO 49 nd_Ke_ringIfDue_26 (by decide) (fun hc => ?_) (fun hc => ?_)
  · have h := ite_t hc h
    exact zl_vret (pc := 49) hO nd_Ke_ringIfDue_49 rfl (zr_v h)
  · have h := ite_f hc h
    refine zl_aload_n (pc := 29) hO 0 nd_Ke_ringIfDue_29 rfl rfl ?_
    refine zl_get0 (pc := 30) hO nd_Ke_ringIfDue_30 kf_Ke_9 rfl (Nat.le_of_ble_eq_true rfl) rfl ?_
    refine zl_iload_n (pc := 33) hO 2 nd_Ke_ringIfDue_33 rfl rfl ?_
    refine zl_iconst (pc := 34) hO (v := 0) nd_Ke_ringIfDue_34 (by decide) ?_
    obtain ⟨s4, h_35, h⟩ := bn_use h
    refine zl_callVv (pc := 35) hO [zI x1, zI 0] [] (c_Me_setRamWord hJ h_35) nd_Ke_ringIfDue_35 kv_Ke_63 rfl (Nat.le_of_ble_eq_true rfl) rfl rfl rfl (Nat.le_of_ble_eq_true rfl) ?_
    refine zl_aload_n (pc := 38) hO 0 nd_Ke_ringIfDue_38 rfl rfl ?_
    refine zl_aload_n (pc := 39) hO 1 nd_Ke_ringIfDue_39 rfl rfl ?_
    refine zl_iconst (pc := 40) hO (v := 0) nd_Ke_ringIfDue_40 (by decide) ?_
    refine zl_aload_n (pc := 41) hO 0 nd_Ke_ringIfDue_41 rfl rfl ?_
    refine zl_geti (pc := 42) hO nd_Ke_ringIfDue_42 kf_Ke_23 rfl (Nat.le_of_ble_eq_true rfl) rfl ?_
    refine zl_iload_n (pc := 45) hO 3 nd_Ke_ringIfDue_45 rfl rfl ?_
    obtain ⟨s5, h_46, h⟩ := bn_use h
    refine zl_callVv (pc := 46) hO [zR 11 a1, zI 0, zI (s4 8 0 3), zI r3] [] (c_Ke_upcall hJ b_a1 h_46) nd_Ke_ringIfDue_46 kv_Ke_67 rfl (Nat.le_of_ble_eq_true rfl) rfl rfl rfl (Nat.le_of_ble_eq_true rfl) ?_
    exact zl_vret (pc := 49) hO nd_Ke_ringIfDue_49 rfl (zr_v h)
set_option maxHeartbeats 4000000 in
set_option maxRecDepth 100000 in
theorem c_Ke_beginTick {l : Launch} {V : zG} (hJ : zJ0 (sC l V)) {s0 : zS}   {s1 : zS} (h : k_Ke_beginTick s0 = some s1) : zM (sC l V) md_Ke_beginTick [zR 8 0] s0 (s1, none) := by
  refine zMet [some (zR 8 0), none] hJ (by decide) rfl (Nat.le_of_ble_eq_true rfl) rfl ?_
  intro X hO
  have J_41 : ∀ (K12 : zS → Int32 → Option (zS)) (hK12 : ∀ (s0 : zS) (l1 : Int32), K12 s0 l1 = some s1 → ZW (sC l V) md_Ke_beginTick (s1, none) X 12 [some (zR 8 0), some (zI l1)] [] s0), ∀ (s0 : zS) (l1 : Int32), k_Ke_beginTick_41 K12 s0 l1 = some s1 → ZW (sC l V) md_Ke_beginTick (s1, none) X 41 [some (zR 8 0), some (zI l1)] [] s0 := by
    intro K12 hK12
    intro s0 l1 h
    unfold k_Ke_beginTick_41 at h
    obtain ⟨x5, e_x5, h⟩ := lt_use h
    refine zl_iinc (pc := 41) hO (L' := [some (zR 8 0), some (zI x5)]) nd_Ke_beginTick_41 rfl e_x5.symm (by decide) rfl ?_
    refine zl_goto (pc := 44) hO 12 nd_Ke_beginTick_44 (by decide) ?_
    exact zl_weak (hK12 _ _ h) ⟨rfl, ⟨rfl, trivial⟩⟩
  have J_12 : ∀ (n : Nat), ∀ (s0 : zS) (l1 : Int32), k_Ke_beginTick_12 n s0 l1 = some s1 → ZW (sC l V) md_Ke_beginTick (s1, none) X 12 [some (zR 8 0), some (zI l1)] [] s0 := by
    intro n
    induction n with
    | zero => intro s0 l1 h; exact absurd h (by rw [k_Ke_beginTick_12]; exact fun w => nomatch w)
    | succ n ih =>
      intro s0 l1 h
      rw [k_Ke_beginTick_12]  at h
      refine zl_iload_n (pc := 12) hO 1 nd_Ke_beginTick_12 rfl rfl ?_
      refine zl_iconst (pc := 13) hO (v := 4) nd_Ke_beginTick_13 (by decide) ?_
      refine zl_icmp_ge (pc := 14) hO 47 nd_Ke_beginTick_14 (by decide) (fun hc => ?_) (fun hc => ?_)
      · have h := ite_t hc h
        exact zl_vret (pc := 47) hO nd_Ke_beginTick_47 rfl (zr_v h)
      · have h := ite_f hc h
        refine zl_aload_n (pc := 17) hO 0 nd_Ke_beginTick_17 rfl rfl ?_
        refine zl_aload_n (pc := 18) hO 0 nd_Ke_beginTick_18 rfl rfl ?_
        refine zl_get0 (pc := 19) hO nd_Ke_beginTick_19 kf_Ke_15 rfl (Nat.le_of_ble_eq_true rfl) rfl ?_
        refine zl_iload_n (pc := 22) hO 1 nd_Ke_beginTick_22 rfl rfl ?_
        obtain ⟨c_in23, h⟩ := ck_use h
        have p_23 := zi_lt c_in23
        refine zl_aald (pc := 23) hO nd_Ke_beginTick_23 rfl rfl (Nat.le_of_ble_eq_true rfl) c_in23 ?_
        refine zl_iconst (pc := 24) hO (v := 0) nd_Ke_beginTick_24 (by decide) ?_
        obtain ⟨⟨s2, r3⟩, h_25, h⟩ := bn_use h
        refine zl_callVi (pc := 25) hO [zR 11 (l1.toNatClampNeg), zI 0] [] (c_Ke_isPending hJ p_23 h_25) nd_Ke_beginTick_25 kv_Ke_27 rfl (Nat.le_of_ble_eq_true rfl) rfl rfl rfl (Nat.le_of_ble_eq_true rfl) ?_
        refine zl_if_eq (pc := 28) hO 41 nd_Ke_beginTick_28 (by decide) (fun hc => ?_) (fun hc => ?_)
        · have h := ite_t hc h
          exact zl_weak (J_41 (k_Ke_beginTick_12 n) ih _ _ h) ⟨rfl, ⟨rfl, trivial⟩⟩
        · have h := ite_f hc h
          refine zl_aload_n (pc := 31) hO 0 nd_Ke_beginTick_31 rfl rfl ?_
          refine zl_aload_n (pc := 32) hO 0 nd_Ke_beginTick_32 rfl rfl ?_
          refine zl_get0 (pc := 33) hO nd_Ke_beginTick_33 kf_Ke_15 rfl (Nat.le_of_ble_eq_true rfl) rfl ?_
          refine zl_iload_n (pc := 36) hO 1 nd_Ke_beginTick_36 rfl rfl ?_
          obtain ⟨c_in37, h⟩ := ck_use h
          have p_37 := zi_lt c_in37
          refine zl_aald (pc := 37) hO nd_Ke_beginTick_37 rfl rfl (Nat.le_of_ble_eq_true rfl) c_in37 ?_
          obtain ⟨s4, h_38, h⟩ := bn_use h
          refine zl_callVv (pc := 38) hO [zR 11 (l1.toNatClampNeg)] [] (c_Ke_ringIfDue hJ p_37 h_38) nd_Ke_beginTick_38 kv_Ke_31 rfl (Nat.le_of_ble_eq_true rfl) rfl rfl rfl (Nat.le_of_ble_eq_true rfl) ?_
          exact zl_weak (J_41 (k_Ke_beginTick_12 n) ih _ _ h) ⟨rfl, ⟨rfl, trivial⟩⟩
  unfold k_Ke_beginTick at h
  refine zl_aload_n (pc := 0) hO 0 nd_Ke_beginTick_0 rfl rfl ?_
  refine zl_dup (pc := 1) hO nd_Ke_beginTick_1 rfl ?_
  refine zl_geti (pc := 2) hO nd_Ke_beginTick_2 kf_Ke_23 rfl (Nat.le_of_ble_eq_true rfl) rfl ?_
  refine zl_iconst (pc := 5) hO (v := 1) nd_Ke_beginTick_5 (by decide) ?_
  refine zl_iadd (pc := 6) hO nd_Ke_beginTick_6 ?_
  refine zl_puti (pc := 7) hO nd_Ke_beginTick_7 kp_Ke_23 rfl (Nat.le_of_ble_eq_true rfl) rfl ?_
  obtain ⟨s1, e_s1, h⟩ := lt_use h
  refine zl_sg e_s1 ?_
  refine zl_iconst (pc := 10) hO (v := 0) nd_Ke_beginTick_10 (by decide) ?_
  refine zl_istore_n (pc := 11) hO 1 (L' := [some (zR 8 0), some (zI 0)]) nd_Ke_beginTick_11 rfl (by decide) rfl ?_
  exact zl_weak (J_12 FU _ _ h) ⟨rfl, ⟨rfl, trivial⟩⟩
set_option maxHeartbeats 4000000 in
set_option maxRecDepth 100000 in
theorem c_GK_giveTurn {l : Launch} {V : zG} (hJ : zJ0 (sC l V)) {s0 : zS}   {s1 : zS} {v1 : Int32} (h : k_GK_giveTurn s0 = some (s1, v1)) : zM (sC l V) md_GK_giveTurn [zR 0 0] s0 (s1, some (zI v1)) := by
  refine zMet [some (zR 0 0), none, none] hJ (by decide) rfl (Nat.le_of_ble_eq_true rfl) rfl ?_
  intro X hO
  have J_64 : ∀ (K39 : zS → Int32 → Int32 → Option (zS × Int32)) (hK39 : ∀ (s0 : zS) (l1 : Int32) (l2 : Int32), K39 s0 l1 l2 = some (s1, v1) → ZW (sC l V) md_GK_giveTurn (s1, some (zI v1)) X 39 [some (zR 0 0), some (zI l1), some (zI l2)] [] s0), ∀ (s0 : zS) (l2 : Int32) (t0 : Int32), k_GK_giveTurn_64 K39 s0 l2 t0 = some (s1, v1) → ZW (sC l V) md_GK_giveTurn (s1, some (zI v1)) X 64 [some (zR 0 0), none, some (zI l2)] [zI t0] s0 := by
    intro K39 hK39
    intro s0 l2 t0 h
    unfold k_GK_giveTurn_64 at h
    refine zl_istore_n (pc := 64) hO 1 (L' := [some (zR 0 0), some (zI t0), some (zI l2)]) nd_GK_giveTurn_64 rfl (by decide) rfl ?_
    refine zl_aload_n (pc := 65) hO 0 nd_GK_giveTurn_65 rfl rfl ?_
    refine zl_get0 (pc := 66) hO nd_GK_giveTurn_66 kf_GK_18 rfl (Nat.le_of_ble_eq_true rfl) rfl ?_
    refine zl_iload_n (pc := 69) hO 1 nd_GK_giveTurn_69 rfl rfl ?_
    obtain ⟨c_in70, h⟩ := ck_use h
    have p_70 := zi_lt c_in70
    refine zl_aald (pc := 70) hO nd_GK_giveTurn_70 rfl rfl (Nat.le_of_ble_eq_true rfl) c_in70 ?_
    refine zl_geti (pc := 71) hO nd_GK_giveTurn_71 kf_GK_123 rfl p_70 rfl ?_
    refine zl_if_ne (pc := 74) hO 90 nd_GK_giveTurn_74 (by decide) (fun hc => ?_) (fun hc => ?_)
    · have h := ite_f hc h
      obtain ⟨x2, e_x2, h⟩ := lt_use h
      refine zl_iinc (pc := 90) hO (L' := [some (zR 0 0), some (zI t0), some (zI x2)]) nd_GK_giveTurn_90 rfl e_x2.symm (by decide) rfl ?_
      refine zl_goto (pc := 93) hO 39 nd_GK_giveTurn_93 (by decide) ?_
      exact zl_weak (hK39 _ _ _ h) ⟨rfl, ⟨rfl, ⟨rfl, trivial⟩⟩⟩
    · have h := ite_t hc h
      refine zl_aload_n (pc := 77) hO 0 nd_GK_giveTurn_77 rfl rfl ?_
      refine zl_iload_n (pc := 78) hO 1 nd_GK_giveTurn_78 rfl rfl ?_
      refine zl_puti (pc := 79) hO nd_GK_giveTurn_79 kp_GK_57 rfl (Nat.le_of_ble_eq_true rfl) rfl ?_
      obtain ⟨s3, e_s3, h⟩ := lt_use h
      refine zl_sg e_s3 ?_
      refine zl_aload_n (pc := 82) hO 0 nd_GK_giveTurn_82 rfl rfl ?_
      refine zl_bipush (pc := 83) hO (v := 10) nd_GK_giveTurn_83 (by decide) ?_
      refine zl_puti (pc := 85) hO nd_GK_giveTurn_85 kp_GK_76 rfl (Nat.le_of_ble_eq_true rfl) rfl ?_
      obtain ⟨s4, e_s4, h⟩ := lt_use h
      refine zl_sg e_s4 ?_
      refine zl_iconst (pc := 88) hO (v := 1) nd_GK_giveTurn_88 (by decide) ?_
      exact zl_zret (pc := 89) hO nd_GK_giveTurn_89 rfl (by decide) (zr_i h)
  have J_39 : ∀ (n : Nat), ∀ (s0 : zS) (l1 : Int32) (l2 : Int32), k_GK_giveTurn_39 n s0 l1 l2 = some (s1, v1) → ZW (sC l V) md_GK_giveTurn (s1, some (zI v1)) X 39 [some (zR 0 0), some (zI l1), some (zI l2)] [] s0 := by
    intro n
    induction n with
    | zero => intro s0 l1 l2 h; exact absurd h (by rw [k_GK_giveTurn_39]; exact fun w => nomatch w)
    | succ n ih =>
      intro s0 l1 l2 h
      rw [k_GK_giveTurn_39]  at h
      refine zl_iload_n (pc := 39) hO 2 nd_GK_giveTurn_39 rfl rfl ?_
      refine zl_aload_n (pc := 40) hO 0 nd_GK_giveTurn_40 rfl rfl ?_
      refine zl_geti (pc := 41) hO nd_GK_giveTurn_41 kf_GK_83 rfl (Nat.le_of_ble_eq_true rfl) rfl ?_
      refine zl_icmp_ge (pc := 44) hO 96 nd_GK_giveTurn_44 (by decide) (fun hc => ?_) (fun hc => ?_)
      · have h := ite_t hc h
        refine zl_iconst (pc := 96) hO (v := 0) nd_GK_giveTurn_96 (by decide) ?_
        exact zl_zret (pc := 97) hO nd_GK_giveTurn_97 rfl (by decide) (zr_i h)
      · have h := ite_f hc h
        refine zl_iload_n (pc := 47) hO 1 nd_GK_giveTurn_47 rfl rfl ?_
        refine zl_iconst (pc := 48) hO (v := 1) nd_GK_giveTurn_48 (by decide) ?_
        refine zl_iadd (pc := 49) hO nd_GK_giveTurn_49 ?_
        refine zl_aload_n (pc := 50) hO 0 nd_GK_giveTurn_50 rfl rfl ?_
        refine zl_geti (pc := 51) hO nd_GK_giveTurn_51 kf_GK_83 rfl (Nat.le_of_ble_eq_true rfl) rfl ?_
        refine zl_icmp_ge (pc := 54) hO 63 nd_GK_giveTurn_54 (by decide) (fun hc => ?_) (fun hc => ?_)
        · have h := ite_t hc h
          refine zl_iconst (pc := 63) hO (v := 0) nd_GK_giveTurn_63 (by decide) ?_
          exact zl_weak (J_64 (k_GK_giveTurn_39 n) ih _ _ _ h) ⟨rfl, ⟨rfl, trivial⟩⟩
        · have h := ite_f hc h
          refine zl_iload_n (pc := 57) hO 1 nd_GK_giveTurn_57 rfl rfl ?_
          refine zl_iconst (pc := 58) hO (v := 1) nd_GK_giveTurn_58 (by decide) ?_
          refine zl_iadd (pc := 59) hO nd_GK_giveTurn_59 ?_
          refine zl_goto (pc := 60) hO 64 nd_GK_giveTurn_60 (by decide) ?_
          exact zl_weak (J_64 (k_GK_giveTurn_39 n) ih _ _ _ h) ⟨rfl, ⟨rfl, trivial⟩⟩
  have J_32 : ∀ (s0 : zS), k_GK_giveTurn_32 s0 = some (s1, v1) → ZW (sC l V) md_GK_giveTurn (s1, some (zI v1)) X 32 [some (zR 0 0), none, none] [] s0 := by
    intro s0 h
    unfold k_GK_giveTurn_32 at h
    refine zl_aload_n (pc := 32) hO 0 nd_GK_giveTurn_32 rfl rfl ?_
    refine zl_geti (pc := 33) hO nd_GK_giveTurn_33 kf_GK_57 rfl (Nat.le_of_ble_eq_true rfl) rfl ?_
    obtain ⟨x1, e_x1, h⟩ := lt_use h
    refine zl_top e_x1 ?_
    refine zl_istore_n (pc := 36) hO 1 (L' := [some (zR 0 0), some (zI x1), none]) nd_GK_giveTurn_36 rfl (by decide) rfl ?_
    refine zl_iconst (pc := 37) hO (v := 0) nd_GK_giveTurn_37 (by decide) ?_
    refine zl_istore_n (pc := 38) hO 2 (L' := [some (zR 0 0), some (zI x1), some (zI 0)]) nd_GK_giveTurn_38 rfl (by decide) rfl ?_
    exact zl_weak (J_39 FU _ _ _ h) ⟨rfl, ⟨rfl, ⟨rfl, trivial⟩⟩⟩
  unfold k_GK_giveTurn at h
  refine zl_aload_n (pc := 0) hO 0 nd_GK_giveTurn_0 rfl rfl ?_
  refine zl_geti (pc := 1) hO nd_GK_giveTurn_1 kf_GK_57 rfl (Nat.le_of_ble_eq_true rfl) rfl ?_
  refine zl_iconst (pc := 4) hO (v := (-1)) nd_GK_giveTurn_4 (by decide) ?_
  refine zl_icmp_eq (pc := 5) hO 32 nd_GK_giveTurn_5 (by decide) (fun hc => ?_) (fun hc => ?_)
  · have h := ite_t hc h
    exact zl_weak (J_32 _ h) ⟨rfl, trivial⟩
  · have h := ite_f hc h
    refine zl_aload_n (pc := 8) hO 0 nd_GK_giveTurn_8 rfl rfl ?_
    refine zl_geti (pc := 9) hO nd_GK_giveTurn_9 kf_GK_76 rfl (Nat.le_of_ble_eq_true rfl) rfl ?_
    refine zl_if_le (pc := 12) hO 32 nd_GK_giveTurn_12 (by decide) (fun hc => ?_) (fun hc => ?_)
    · have h := ite_t hc h
      exact zl_weak (J_32 _ h) ⟨rfl, trivial⟩
    · have h := ite_f hc h
      refine zl_aload_n (pc := 15) hO 0 nd_GK_giveTurn_15 rfl rfl ?_
      refine zl_get0 (pc := 16) hO nd_GK_giveTurn_16 kf_GK_18 rfl (Nat.le_of_ble_eq_true rfl) rfl ?_
      refine zl_aload_n (pc := 19) hO 0 nd_GK_giveTurn_19 rfl rfl ?_
      refine zl_geti (pc := 20) hO nd_GK_giveTurn_20 kf_GK_57 rfl (Nat.le_of_ble_eq_true rfl) rfl ?_
      obtain ⟨c_in23, h⟩ := ck_use h
      have p_23 := zi_lt c_in23
      refine zl_aald (pc := 23) hO nd_GK_giveTurn_23 rfl rfl (Nat.le_of_ble_eq_true rfl) c_in23 ?_
      refine zl_geti (pc := 24) hO nd_GK_giveTurn_24 kf_GK_123 rfl p_23 rfl ?_
      refine zl_if_ne (pc := 27) hO 32 nd_GK_giveTurn_27 (by decide) (fun hc => ?_) (fun hc => ?_)
      · have h := ite_f hc h
        exact zl_weak (J_32 _ h) ⟨rfl, trivial⟩
      · have h := ite_t hc h
        refine zl_iconst (pc := 30) hO (v := 1) nd_GK_giveTurn_30 (by decide) ?_
        exact zl_zret (pc := 31) hO nd_GK_giveTurn_31 rfl (by decide) (zr_i h)
set_option maxHeartbeats 4000000 in
set_option maxRecDepth 100000 in
theorem c_BP_areOpen {l : Launch} {V : zG} (hJ : zJ0 (sC l V)) {s0 : zS} {p : Nat} {a1 : Int32} {a2 : Int32} (b_p : p < 4) {s1 : zS} {v1 : Int32} (h : k_BP_areOpen s0 p a1 a2 = some (s1, v1)) : zM (sC l V) md_BP_areOpen [zR 11 p, zI a1, zI a2] s0 (s1, some (zI v1)) := by
  refine zMet [some (zR 11 p), some (zI a1), some (zI a2), none, none] hJ (by decide) rfl (Nat.le_of_ble_eq_true rfl) rfl ?_
  intro X hO
  unfold k_BP_areOpen at h
  refine zl_iload_n (pc := 0) hO 1 nd_BP_areOpen_0 rfl rfl ?_
  refine zl_aload_n (pc := 1) hO 0 nd_BP_areOpen_1 rfl rfl ?_
  refine zl_geti (pc := 2) hO nd_BP_areOpen_2 kf_BP_30 rfl b_p rfl ?_
  refine zl_isub (pc := 5) hO nd_BP_areOpen_5 ?_
  obtain ⟨x1, e_x1, h⟩ := lt_use h
  refine zl_top e_x1 ?_
  refine zl_istore_n (pc := 6) hO 3 (L' := [some (zR 11 p), some (zI a1), some (zI a2), some (zI x1), none]) nd_BP_areOpen_6 rfl (by decide) rfl ?_
  refine zl_iconst (pc := 7) hO (v := 4) nd_BP_areOpen_7 (by decide) ?_
  refine zl_aload_n (pc := 8) hO 0 nd_BP_areOpen_8 rfl rfl ?_
  refine zl_geti (pc := 9) hO nd_BP_areOpen_9 kf_BP_70 rfl b_p rfl ?_
  refine zl_imul (pc := 12) hO nd_BP_areOpen_12 ?_
  obtain ⟨x2, e_x2, h⟩ := lt_use h
  refine zl_top e_x2 ?_
  refine zl_istore (pc := 13) hO (L' := [some (zR 11 p), some (zI a1), some (zI a2), some (zI x1), some (zI x2)]) nd_BP_areOpen_13 (by decide) rfl ?_
  refine zl_iload_n (pc := 15) hO 3 nd_BP_areOpen_15 rfl rfl ?_
  refine zl_if_lt (pc := 16) hO 39 nd_BP_areOpen_16 (by decide) (fun hc => ?_) (fun hc => ?_)
  · have h := ite_t hc h
    refine zl_iconst (pc := 39) hO (v := 0) nd_BP_areOpen_39 (by decide) ?_
    exact zl_zret (pc := 40) hO nd_BP_areOpen_40 rfl (by decide) (zr_i h)
  · have h := ite_f hc h
    refine zl_iload_n (pc := 19) hO 3 nd_BP_areOpen_19 rfl rfl ?_
    refine zl_iload (pc := 20) hO nd_BP_areOpen_20 rfl ?_
    refine zl_icmp_ge (pc := 22) hO 39 nd_BP_areOpen_22 (by decide) (fun hc => ?_) (fun hc => ?_)
    · have h := ite_t hc h
      refine zl_iconst (pc := 39) hO (v := 0) nd_BP_areOpen_39 (by decide) ?_
      exact zl_zret (pc := 40) hO nd_BP_areOpen_40 rfl (by decide) (zr_i h)
    · have h := ite_f hc h
      refine zl_iload_n (pc := 25) hO 2 nd_BP_areOpen_25 rfl rfl ?_
      refine zl_iload (pc := 26) hO nd_BP_areOpen_26 rfl ?_
      refine zl_iload_n (pc := 28) hO 3 nd_BP_areOpen_28 rfl rfl ?_
      refine zl_isub (pc := 29) hO nd_BP_areOpen_29 ?_
      refine zl_iconst (pc := 30) hO (v := 2) nd_BP_areOpen_30 (by decide) ?_
      refine zl_ishr (pc := 31) hO nd_BP_areOpen_31 ?_
      refine zl_icmp_gt (pc := 32) hO 39 nd_BP_areOpen_32 (by decide) (fun hc => ?_) (fun hc => ?_)
      · have h := ite_t hc h
        refine zl_iconst (pc := 39) hO (v := 0) nd_BP_areOpen_39 (by decide) ?_
        exact zl_zret (pc := 40) hO nd_BP_areOpen_40 rfl (by decide) (zr_i h)
      · have h := ite_f hc h
        refine zl_iconst (pc := 35) hO (v := 1) nd_BP_areOpen_35 (by decide) ?_
        refine zl_goto (pc := 36) hO 40 nd_BP_areOpen_36 (by decide) ?_
        exact zl_zret (pc := 40) hO nd_BP_areOpen_40 rfl (by decide) (zr_i h)
set_option maxHeartbeats 4000000 in
set_option maxRecDepth 100000 in
theorem c_BP_frameWord {l : Launch} {V : zG} (hJ : zJ0 (sC l V)) {s0 : zS} {p : Nat} {a1 : Int32} (b_p : p < 4) {s1 : zS} {v1 : Int32} (h : k_BP_frameWord s0 p a1 = some (s1, v1)) : zM (sC l V) md_BP_frameWord [zR 11 p, zI a1] s0 (s1, some (zI v1)) := by
  refine zMet [some (zR 11 p), some (zI a1)] hJ (by decide) rfl (Nat.le_of_ble_eq_true rfl) rfl ?_
  intro X hO
  unfold k_BP_frameWord at h
  refine zl_aload_n (pc := 0) hO 0 nd_BP_frameWord_0 rfl rfl ?_
  refine zl_get0 (pc := 1) hO nd_BP_frameWord_1 kf_BP_9 rfl b_p rfl ?_
  refine zl_aload_n (pc := 4) hO 0 nd_BP_frameWord_4 rfl rfl ?_
  refine zl_geti (pc := 5) hO nd_BP_frameWord_5 kf_BP_45 rfl b_p rfl ?_
  refine zl_iconst (pc := 8) hO (v := 4) nd_BP_frameWord_8 (by decide) ?_
  refine zl_iload_n (pc := 9) hO 1 nd_BP_frameWord_9 rfl rfl ?_
  refine zl_imul (pc := 10) hO nd_BP_frameWord_10 ?_
  refine zl_iadd (pc := 11) hO nd_BP_frameWord_11 ?_
  obtain ⟨⟨s1, r2⟩, h_12, h⟩ := bn_use h
  refine zl_callVi (pc := 12) hO [zI ((s0 11 p 11) + ((4 : Int32) * a1))] [] (c_Me_ramWord hJ h_12) nd_BP_frameWord_12 kv_BP_109 rfl (Nat.le_of_ble_eq_true rfl) rfl rfl rfl (Nat.le_of_ble_eq_true rfl) ?_
  exact zl_iret (pc := 15) hO nd_BP_frameWord_15 rfl (zr_i h)
set_option maxHeartbeats 4000000 in
set_option maxRecDepth 100000 in
theorem c_BP_takeFrame {l : Launch} {V : zG} (hJ : zJ0 (sC l V)) {s0 : zS} {p : Nat} (b_p : p < 4) {s1 : zS} {v1 : Int32} (h : k_BP_takeFrame s0 p = some (s1, v1)) : zM (sC l V) md_BP_takeFrame [zR 11 p] s0 (s1, some (zI v1)) := by
  refine zMet [some (zR 11 p), none] hJ (by decide) rfl (Nat.le_of_ble_eq_true rfl) rfl ?_
  intro X hO
  have J_96 : ∀ (s0 : zS) (t0 : Int32) (t1 : Int32) (t2 : Nat) (b_t2 : t2 < 4), k_BP_takeFrame_96 p s0 t0 t1 t2 = some (s1, v1) → ZW (sC l V) md_BP_takeFrame (s1, some (zI v1)) X 96 [some (zR 11 p), none] [zI t0, zI t1, zR 11 t2] s0 := by
    intro s0 t0 t1 t2 b_t2 h
    unfold k_BP_takeFrame_96 at h
    refine zl_iadd (pc := 96) hO nd_BP_takeFrame_96 ?_
    refine zl_puti (pc := 97) hO nd_BP_takeFrame_97 kp_BP_45 rfl b_t2 rfl ?_
    obtain ⟨s16, e_s16, h⟩ := lt_use h
    refine zl_sg e_s16 ?_
    refine zl_aload_n (pc := 100) hO 0 nd_BP_takeFrame_100 rfl rfl ?_
    refine zl_iconst (pc := 101) hO (v := 0) nd_BP_takeFrame_101 (by decide) ?_
    refine zl_putz (pc := 102) hO nd_BP_takeFrame_102 rfl kp_BP_60 rfl b_p rfl ?_
    obtain ⟨s17, e_s17, h⟩ := lt_use h
    refine zl_sg e_s17 ?_
    refine zl_iconst (pc := 105) hO (v := 1) nd_BP_takeFrame_105 (by decide) ?_
    exact zl_zret (pc := 106) hO nd_BP_takeFrame_106 rfl (by decide) (zr_i h)
  have J_17 : ∀ (n : Nat), ∀ (s0 : zS) (l1 : Int32), k_BP_takeFrame_17 p n s0 l1 = some (s1, v1) → ZW (sC l V) md_BP_takeFrame (s1, some (zI v1)) X 17 [some (zR 11 p), some (zI l1)] [] s0 := by
    intro n
    induction n with
    | zero => intro s0 l1 h; exact absurd h (by rw [k_BP_takeFrame_17]; exact fun w => nomatch w)
    | succ n ih =>
      intro s0 l1 h
      rw [k_BP_takeFrame_17]  at h
      refine zl_iload_n (pc := 17) hO 1 nd_BP_takeFrame_17 rfl rfl ?_
      refine zl_iconst (pc := 18) hO (v := 4) nd_BP_takeFrame_18 (by decide) ?_
      refine zl_icmp_ge (pc := 19) hO 39 nd_BP_takeFrame_19 (by decide) (fun hc => ?_) (fun hc => ?_)
      · have h := ite_t hc h
        refine zl_aload_n (pc := 39) hO 0 nd_BP_takeFrame_39 rfl rfl ?_
        refine zl_aload_n (pc := 40) hO 0 nd_BP_takeFrame_40 rfl rfl ?_
        refine zl_iconst (pc := 41) hO (v := 5) nd_BP_takeFrame_41 (by decide) ?_
        obtain ⟨⟨s3, r4⟩, h_42, h⟩ := bn_use h
        refine zl_callVi (pc := 42) hO [zI 5] [zR 11 p] (c_BP_frameWord hJ b_p h_42) nd_BP_takeFrame_42 kv_BP_119 rfl b_p rfl rfl rfl (Nat.le_of_ble_eq_true rfl) ?_
        refine zl_puti (pc := 45) hO nd_BP_takeFrame_45 kp_BP_48 rfl b_p rfl ?_
        obtain ⟨s5, e_s5, h⟩ := lt_use h
        refine zl_sg e_s5 ?_
        refine zl_aload_n (pc := 48) hO 0 nd_BP_takeFrame_48 rfl rfl ?_
        refine zl_aload_n (pc := 49) hO 0 nd_BP_takeFrame_49 rfl rfl ?_
        refine zl_bipush (pc := 50) hO (v := 6) nd_BP_takeFrame_50 (by decide) ?_
        obtain ⟨⟨s6, r7⟩, h_52, h⟩ := bn_use h
        refine zl_callVi (pc := 52) hO [zI 6] [zR 11 p] (c_BP_frameWord hJ b_p h_52) nd_BP_takeFrame_52 kv_BP_119 rfl b_p rfl rfl rfl (Nat.le_of_ble_eq_true rfl) ?_
        refine zl_bipush (pc := 55) hO (v := (-2)) nd_BP_takeFrame_55 (by decide) ?_
        refine zl_iand (pc := 57) hO nd_BP_takeFrame_57 ?_
        refine zl_puti (pc := 58) hO nd_BP_takeFrame_58 kp_BP_54 rfl b_p rfl ?_
        obtain ⟨s8, e_s8, h⟩ := lt_use h
        refine zl_sg e_s8 ?_
        refine zl_aload_n (pc := 61) hO 0 nd_BP_takeFrame_61 rfl rfl ?_
        refine zl_bipush (pc := 62) hO (v := 7) nd_BP_takeFrame_62 (by decide) ?_
        obtain ⟨⟨s9, r10⟩, h_64, h⟩ := bn_use h
        refine zl_callVi (pc := 64) hO [zI 7] [] (c_BP_frameWord hJ b_p h_64) nd_BP_takeFrame_64 kv_BP_119 rfl b_p rfl rfl rfl (Nat.le_of_ble_eq_true rfl) ?_
        refine zl_istore_n (pc := 67) hO 1 (L' := [some (zR 11 p), some (zI r10)]) nd_BP_takeFrame_67 rfl (by decide) rfl ?_
        refine zl_aload_n (pc := 68) hO 0 nd_BP_takeFrame_68 rfl rfl ?_
        refine zl_iload_n (pc := 69) hO 1 nd_BP_takeFrame_69 rfl rfl ?_
        refine zl_bipush (pc := 70) hO (v := 28) nd_BP_takeFrame_70 (by decide) ?_
        refine zl_iushr (pc := 72) hO nd_BP_takeFrame_72 ?_
        refine zl_puti (pc := 73) hO nd_BP_takeFrame_73 kp_BP_57 rfl b_p rfl ?_
        obtain ⟨s11, e_s11, h⟩ := lt_use h
        refine zl_sg e_s11 ?_
        refine zl_aload_n (pc := 76) hO 0 nd_BP_takeFrame_76 rfl rfl ?_
        refine zl_dup (pc := 77) hO nd_BP_takeFrame_77 rfl ?_
        refine zl_geti (pc := 78) hO nd_BP_takeFrame_78 kf_BP_45 rfl b_p rfl ?_
        refine zl_iload_n (pc := 81) hO 1 nd_BP_takeFrame_81 rfl rfl ?_
        refine zl_sipush (pc := 82) hO (v := 512) nd_BP_takeFrame_82 (by decide) ?_
        refine zl_iand (pc := 85) hO nd_BP_takeFrame_85 ?_
        refine zl_if_ne (pc := 86) hO 94 nd_BP_takeFrame_86 (by decide) (fun hc => ?_) (fun hc => ?_)
        · have h := ite_f hc h
          refine zl_bipush (pc := 94) hO (v := 36) nd_BP_takeFrame_94 (by decide) ?_
          exact zl_weak (J_96 _ _ _ _ b_p h) ⟨rfl, trivial⟩
        · have h := ite_t hc h
          refine zl_bipush (pc := 89) hO (v := 32) nd_BP_takeFrame_89 (by decide) ?_
          refine zl_goto (pc := 91) hO 96 nd_BP_takeFrame_91 (by decide) ?_
          exact zl_weak (J_96 _ _ _ _ b_p h) ⟨rfl, trivial⟩
      · have h := ite_f hc h
        refine zl_aload_n (pc := 22) hO 0 nd_BP_takeFrame_22 rfl rfl ?_
        refine zl_getS (pc := 23) hO nd_BP_takeFrame_23 kf_BP_22 rfl b_p rfl ?_
        refine zl_iload_n (pc := 26) hO 1 nd_BP_takeFrame_26 rfl rfl ?_
        refine zl_aload_n (pc := 27) hO 0 nd_BP_takeFrame_27 rfl rfl ?_
        refine zl_iload_n (pc := 28) hO 1 nd_BP_takeFrame_28 rfl rfl ?_
        obtain ⟨⟨s12, r13⟩, h_29, h⟩ := bn_use h
        refine zl_callVi (pc := 29) hO [zI l1] [zI l1, zR 12 p] (c_BP_frameWord hJ b_p h_29) nd_BP_takeFrame_29 kv_BP_119 rfl b_p rfl rfl rfl (Nat.le_of_ble_eq_true rfl) ?_
        obtain ⟨c_in32, h⟩ := ck_use h
        refine zl_iast (pc := 32) hO nd_BP_takeFrame_32 rfl rfl b_p c_in32 ?_
        obtain ⟨s14, e_s14, h⟩ := lt_use h
        refine zl_sg e_s14 ?_
        obtain ⟨x15, e_x15, h⟩ := lt_use h
        refine zl_iinc (pc := 33) hO (L' := [some (zR 11 p), some (zI x15)]) nd_BP_takeFrame_33 rfl e_x15.symm (by decide) rfl ?_
        refine zl_goto (pc := 36) hO 17 nd_BP_takeFrame_36 (by decide) ?_
        exact zl_weak (ih _ _ h) ⟨rfl, ⟨rfl, trivial⟩⟩
  unfold k_BP_takeFrame at h
  refine zl_aload_n (pc := 0) hO 0 nd_BP_takeFrame_0 rfl rfl ?_
  refine zl_aload_n (pc := 1) hO 0 nd_BP_takeFrame_1 rfl rfl ?_
  refine zl_geti (pc := 2) hO nd_BP_takeFrame_2 kf_BP_45 rfl b_p rfl ?_
  refine zl_bipush (pc := 5) hO (v := 8) nd_BP_takeFrame_5 (by decide) ?_
  obtain ⟨⟨s1, r2⟩, h_7, h⟩ := bn_use h
  refine zl_callVi (pc := 7) hO [zI (s0 11 p 11), zI 8] [] (c_BP_areOpen hJ b_p h_7) nd_BP_takeFrame_7 kv_BP_101 rfl b_p rfl rfl rfl (Nat.le_of_ble_eq_true rfl) ?_
  refine zl_if_ne (pc := 10) hO 15 nd_BP_takeFrame_10 (by decide) (fun hc => ?_) (fun hc => ?_)
  · have h := ite_f hc h
    refine zl_iconst (pc := 15) hO (v := 0) nd_BP_takeFrame_15 (by decide) ?_
    refine zl_istore_n (pc := 16) hO 1 (L' := [some (zR 11 p), some (zI 0)]) nd_BP_takeFrame_16 rfl (by decide) rfl ?_
    exact zl_weak (J_17 FU _ _ h) ⟨rfl, ⟨rfl, trivial⟩⟩
  · have h := ite_t hc h
    refine zl_iconst (pc := 13) hO (v := 0) nd_BP_takeFrame_13 (by decide) ?_
    exact zl_zret (pc := 14) hO nd_BP_takeFrame_14 rfl (by decide) (zr_i h)
set_option maxHeartbeats 4000000 in
set_option maxRecDepth 100000 in
theorem c_BP_isInCode {l : Launch} {V : zG} (hJ : zJ0 (sC l V)) {s0 : zS} {p : Nat} {a1 : Int32} (b_p : p < 4) {s1 : zS} {v1 : Int32} (h : k_BP_isInCode s0 p a1 = some (s1, v1)) : zM (sC l V) md_BP_isInCode [zR 11 p, zI a1] s0 (s1, some (zI v1)) := by
  refine zMet [some (zR 11 p), some (zI a1)] hJ (by decide) rfl (Nat.le_of_ble_eq_true rfl) rfl ?_
  intro X hO
  unfold k_BP_isInCode at h
  refine zl_iload_n (pc := 0) hO 1 nd_BP_isInCode_0 rfl rfl ?_
  refine zl_aload_n (pc := 1) hO 0 nd_BP_isInCode_1 rfl rfl ?_
  refine zl_geti (pc := 2) hO nd_BP_isInCode_2 kf_BP_91 rfl b_p rfl ?_
  refine zl_icmp_lt (pc := 5) hO 20 nd_BP_isInCode_5 (by decide) (fun hc => ?_) (fun hc => ?_)
  · have h := ite_t hc h
    refine zl_iconst (pc := 20) hO (v := 0) nd_BP_isInCode_20 (by decide) ?_
    exact zl_zret (pc := 21) hO nd_BP_isInCode_21 rfl (by decide) (zr_i h)
  · have h := ite_f hc h
    refine zl_iload_n (pc := 8) hO 1 nd_BP_isInCode_8 rfl rfl ?_
    refine zl_aload_n (pc := 9) hO 0 nd_BP_isInCode_9 rfl rfl ?_
    refine zl_geti (pc := 10) hO nd_BP_isInCode_10 kf_BP_94 rfl b_p rfl ?_
    refine zl_icmp_ge (pc := 13) hO 20 nd_BP_isInCode_13 (by decide) (fun hc => ?_) (fun hc => ?_)
    · have h := ite_t hc h
      refine zl_iconst (pc := 20) hO (v := 0) nd_BP_isInCode_20 (by decide) ?_
      exact zl_zret (pc := 21) hO nd_BP_isInCode_21 rfl (by decide) (zr_i h)
    · have h := ite_f hc h
      refine zl_iconst (pc := 16) hO (v := 1) nd_BP_isInCode_16 (by decide) ?_
      refine zl_goto (pc := 17) hO 21 nd_BP_isInCode_17 (by decide) ?_
      exact zl_zret (pc := 21) hO nd_BP_isInCode_21 rfl (by decide) (zr_i h)
set_option maxHeartbeats 4000000 in
set_option maxRecDepth 100000 in
theorem c_Me_halfword {l : Launch} {V : zG} (hJ : zJ0 (sC l V)) {s0 : zS} {a1 : Int32}  {s1 : zS} {v1 : Int32} (h : k_Me_halfword s0 a1 = some (s1, v1)) : zM (sC l V) md_Me_halfword [zR 1 0, zI a1] s0 (s1, some (zI v1)) := by
  refine zMet [some (zR 1 0), some (zI a1), none] hJ (by decide) rfl (Nat.le_of_ble_eq_true rfl) rfl ?_
  intro X hO
  have J_15 : ∀ (s0 : zS), k_Me_halfword_15 a1 s0 = some (s1, v1) → ZW (sC l V) md_Me_halfword (s1, some (zI v1)) X 15 [none, none, none] [] s0 := by
    intro s0 h
    unfold k_Me_halfword_15 at h
    refine zl_iconst (pc := 15) hO (v := 0) nd_Me_halfword_15 (by decide) ?_
    refine zl_goto (pc := 16) hO 25 nd_Me_halfword_16 (by decide) ?_
    exact zl_iret (pc := 25) hO nd_Me_halfword_25 rfl (zr_i h)
  unfold k_Me_halfword at h
  refine zl_iload_n (pc := 0) hO 1 nd_Me_halfword_0 rfl rfl ?_
  refine zl_iconst (pc := 1) hO (v := 1) nd_Me_halfword_1 (by decide) ?_
  refine zl_ishr (pc := 2) hO nd_Me_halfword_2 ?_
  obtain ⟨x1, e_x1, h⟩ := lt_use h
  refine zl_top e_x1 ?_
  refine zl_istore_n (pc := 3) hO 2 (L' := [some (zR 1 0), some (zI a1), some (zI x1)]) nd_Me_halfword_3 rfl (by decide) rfl ?_
  refine zl_iload_n (pc := 4) hO 2 nd_Me_halfword_4 rfl rfl ?_
  refine zl_if_lt (pc := 5) hO 15 nd_Me_halfword_5 (by decide) (fun hc => ?_) (fun hc => ?_)
  · have h := ite_t hc h
    exact zl_weak (J_15 _ h) trivial
  · have h := ite_f hc h
    refine zl_iload_n (pc := 8) hO 2 nd_Me_halfword_8 rfl rfl ?_
    refine zl_sipush (pc := 9) hO (v := 256) nd_Me_halfword_9 (by decide) ?_
    refine zl_icmp_lt (pc := 12) hO 19 nd_Me_halfword_12 (by decide) (fun hc => ?_) (fun hc => ?_)
    · have h := ite_t hc h
      refine zl_aload_n (pc := 19) hO 0 nd_Me_halfword_19 rfl rfl ?_
      refine zl_get0 (pc := 20) hO nd_Me_halfword_20 kf_Me_9 rfl (Nat.le_of_ble_eq_true rfl) rfl ?_
      refine zl_iload_n (pc := 23) hO 2 nd_Me_halfword_23 rfl rfl ?_
      obtain ⟨c_in24, h⟩ := ck_use h
      refine zl_iald (pc := 24) hO nd_Me_halfword_24 rfl rfl (Nat.le_of_ble_eq_true rfl) c_in24 ?_
      exact zl_iret (pc := 25) hO nd_Me_halfword_25 rfl (zr_i h)
    · have h := ite_f hc h
      exact zl_weak (J_15 _ h) trivial
set_option maxHeartbeats 4000000 in
set_option maxRecDepth 100000 in
theorem c_Pr_setCarry {l : Launch} {V : zG} (hJ : zJ0 (sC l V)) {s0 : zS} {a1 : Nat} {a2 : Int32} (b_a1 : a1 < 4) {s1 : zS} (h : k_Pr_setCarry s0 a1 a2 = some s1) : zM (sC l V) md_Pr_setCarry [zR 10 0, zR 11 a1, zI a2] s0 (s1, none) := by
  refine zMet [some (zR 10 0), some (zR 11 a1), some (zI a2)] hJ (by decide) rfl (Nat.le_of_ble_eq_true rfl) rfl ?_
  intro X hO
  have J_21 : ∀ (s0 : zS) (t0 : Int32) (t1 : Nat) (b_t1 : t1 < 4), k_Pr_setCarry_21 a1 a2 s0 t0 t1 = some s1 → ZW (sC l V) md_Pr_setCarry (s1, none) X 21 [none, none, none] [zI t0, zR 11 t1] s0 := by
    intro s0 t0 t1 b_t1 h
    unfold k_Pr_setCarry_21 at h
    refine zl_puti (pc := 21) hO nd_Pr_setCarry_21 kp_Pr_90 rfl b_t1 rfl ?_
    obtain ⟨s1, e_s1, h⟩ := lt_use h
    refine zl_sg e_s1 ?_
    exact zl_vret (pc := 24) hO nd_Pr_setCarry_24 rfl (zr_v h)
  unfold k_Pr_setCarry at h
  refine zl_aload_n (pc := 0) hO 1 nd_Pr_setCarry_0 rfl rfl ?_
  refine zl_iload_n (pc := 1) hO 2 nd_Pr_setCarry_1 rfl rfl ?_
  refine zl_if_eq (pc := 2) hO 14 nd_Pr_setCarry_2 (by decide) (fun hc => ?_) (fun hc => ?_)
  · have h := ite_t hc h
    refine zl_aload_n (pc := 14) hO 1 nd_Pr_setCarry_14 rfl rfl ?_
    refine zl_geti (pc := 15) hO nd_Pr_setCarry_15 kf_Pr_90 rfl b_a1 rfl ?_
    refine zl_bipush (pc := 18) hO (v := (-3)) nd_Pr_setCarry_18 (by decide) ?_
    refine zl_iand (pc := 20) hO nd_Pr_setCarry_20 ?_
    exact zl_weak (J_21 _ _ _ b_a1 h) trivial
  · have h := ite_f hc h
    refine zl_aload_n (pc := 5) hO 1 nd_Pr_setCarry_5 rfl rfl ?_
    refine zl_geti (pc := 6) hO nd_Pr_setCarry_6 kf_Pr_90 rfl b_a1 rfl ?_
    refine zl_iconst (pc := 9) hO (v := 2) nd_Pr_setCarry_9 (by decide) ?_
    refine zl_ior (pc := 10) hO nd_Pr_setCarry_10 ?_
    refine zl_goto (pc := 11) hO 21 nd_Pr_setCarry_11 (by decide) ?_
    exact zl_weak (J_21 _ _ _ b_a1 h) trivial
set_option maxHeartbeats 4000000 in
set_option maxRecDepth 100000 in
theorem c_Pr_setSigns {l : Launch} {V : zG} (hJ : zJ0 (sC l V)) {s0 : zS} {a1 : Nat} {a2 : Int32} (b_a1 : a1 < 4) {s1 : zS} (h : k_Pr_setSigns s0 a1 a2 = some s1) : zM (sC l V) md_Pr_setSigns [zR 10 0, zR 11 a1, zI a2] s0 (s1, none) := by
  refine zMet [some (zR 10 0), some (zR 11 a1), some (zI a2), none] hJ (by decide) rfl (Nat.le_of_ble_eq_true rfl) rfl ?_
  intro X hO
  have J_19 : ∀ (s0 : zS) (t0 : Int32) (t1 : Int32), k_Pr_setSigns_19 a1 a2 s0 t0 t1 = some s1 → ZW (sC l V) md_Pr_setSigns (s1, none) X 19 [none, some (zR 11 a1), none, none] [zI t0, zI t1] s0 := by
    intro s0 t0 t1 h
    unfold k_Pr_setSigns_19 at h
    refine zl_iadd (pc := 19) hO nd_Pr_setSigns_19 ?_
    obtain ⟨x1, e_x1, h⟩ := lt_use h
    refine zl_top e_x1 ?_
    refine zl_istore_n (pc := 20) hO 3 (L' := [none, some (zR 11 a1), none, some (zI x1)]) nd_Pr_setSigns_20 rfl (by decide) rfl ?_
    refine zl_aload_n (pc := 21) hO 1 nd_Pr_setSigns_21 rfl rfl ?_
    refine zl_aload_n (pc := 22) hO 1 nd_Pr_setSigns_22 rfl rfl ?_
    refine zl_geti (pc := 23) hO nd_Pr_setSigns_23 kf_Pr_90 rfl b_a1 rfl ?_
    refine zl_iconst (pc := 26) hO (v := 3) nd_Pr_setSigns_26 (by decide) ?_
    refine zl_iand (pc := 27) hO nd_Pr_setSigns_27 ?_
    refine zl_iload_n (pc := 28) hO 3 nd_Pr_setSigns_28 rfl rfl ?_
    refine zl_ior (pc := 29) hO nd_Pr_setSigns_29 ?_
    refine zl_puti (pc := 30) hO nd_Pr_setSigns_30 kp_Pr_90 rfl b_a1 rfl ?_
    obtain ⟨s2, e_s2, h⟩ := lt_use h
    refine zl_sg e_s2 ?_
    exact zl_vret (pc := 33) hO nd_Pr_setSigns_33 rfl (zr_v h)
  have J_10 : ∀ (s0 : zS) (t0 : Int32), k_Pr_setSigns_10 a1 a2 s0 t0 = some s1 → ZW (sC l V) md_Pr_setSigns (s1, none) X 10 [none, some (zR 11 a1), some (zI a2), none] [zI t0] s0 := by
    intro s0 t0 h
    unfold k_Pr_setSigns_10 at h
    refine zl_iload_n (pc := 10) hO 2 nd_Pr_setSigns_10 rfl rfl ?_
    refine zl_if_ne (pc := 11) hO 18 nd_Pr_setSigns_11 (by decide) (fun hc => ?_) (fun hc => ?_)
    · have h := ite_f hc h
      refine zl_iconst (pc := 18) hO (v := 0) nd_Pr_setSigns_18 (by decide) ?_
      exact zl_weak (J_19 _ _ _ h) ⟨rfl, trivial⟩
    · have h := ite_t hc h
      refine zl_iconst (pc := 14) hO (v := 4) nd_Pr_setSigns_14 (by decide) ?_
      refine zl_goto (pc := 15) hO 19 nd_Pr_setSigns_15 (by decide) ?_
      exact zl_weak (J_19 _ _ _ h) ⟨rfl, trivial⟩
  unfold k_Pr_setSigns at h
  refine zl_iload_n (pc := 0) hO 2 nd_Pr_setSigns_0 rfl rfl ?_
  refine zl_if_ge (pc := 1) hO 9 nd_Pr_setSigns_1 (by decide) (fun hc => ?_) (fun hc => ?_)
  · have h := ite_t hc h
    refine zl_iconst (pc := 9) hO (v := 0) nd_Pr_setSigns_9 (by decide) ?_
    exact zl_weak (J_10 _ _ h) ⟨rfl, ⟨rfl, trivial⟩⟩
  · have h := ite_f hc h
    refine zl_bipush (pc := 4) hO (v := 8) nd_Pr_setSigns_4 (by decide) ?_
    refine zl_goto (pc := 6) hO 10 nd_Pr_setSigns_6 (by decide) ?_
    exact zl_weak (J_10 _ _ h) ⟨rfl, ⟨rfl, trivial⟩⟩
set_option maxHeartbeats 4000000 in
set_option maxRecDepth 100000 in
theorem c_Pr_shift {l : Launch} {V : zG} (hJ : zJ0 (sC l V)) {s0 : zS} {a1 : Nat} {a2 : Int32} {a3 : Int32} {a4 : Int32} (b_a1 : a1 < 4) {s1 : zS} {v1 : Int32} (h : k_Pr_shift s0 a1 a2 a3 a4 = some (s1, v1)) : zM (sC l V) md_Pr_shift [zR 10 0, zR 11 a1, zI a2, zI a3, zI a4] s0 (s1, some (zI v1)) := by
  refine zMet [some (zR 10 0), some (zR 11 a1), some (zI a2), some (zI a3), some (zI a4), none, none, none, none, none, none] hJ (by decide) rfl (Nat.le_of_ble_eq_true rfl) rfl ?_
  intro X hO
  have J_109 : ∀ (s0 : zS) (l5 : Int32), k_Pr_shift_109 a1 a2 a3 a4 s0 l5 = some (s1, v1) → ZW (sC l V) md_Pr_shift (s1, some (zI v1)) X 109 [some (zR 10 0), some (zR 11 a1), none, none, none, some (zI l5), none, none, none, none, none] [] s0 := by
    intro s0 l5 h
    unfold k_Pr_shift_109 at h
    refine zl_aload_n (pc := 109) hO 0 nd_Pr_shift_109 rfl rfl ?_
    refine zl_aload_n (pc := 110) hO 1 nd_Pr_shift_110 rfl rfl ?_
    refine zl_iload (pc := 111) hO nd_Pr_shift_111 rfl ?_
    obtain ⟨s2, h_113, h⟩ := bn_use h
    refine zl_callVv (pc := 113) hO [zR 11 a1, zI l5] [] (c_Pr_setSigns hJ b_a1 h_113) nd_Pr_shift_113 kv_Pr_86 rfl (Nat.le_of_ble_eq_true rfl) rfl rfl rfl (Nat.le_of_ble_eq_true rfl) ?_
    refine zl_iload (pc := 116) hO nd_Pr_shift_116 rfl ?_
    exact zl_iret (pc := 118) hO nd_Pr_shift_118 rfl (zr_i h)
  have J_106 : ∀ (s0 : zS) (l5 : Int32) (t0 : Int32) (t1 : Nat) (b_t1 : t1 < 4), k_Pr_shift_106 a1 a2 a3 a4 s0 l5 t0 t1 = some (s1, v1) → ZW (sC l V) md_Pr_shift (s1, some (zI v1)) X 106 [some (zR 10 0), some (zR 11 a1), none, none, none, some (zI l5), none, none, none, none, none] [zI t0, zR 11 t1, zR 10 0] s0 := by
    intro s0 l5 t0 t1 b_t1 h
    unfold k_Pr_shift_106 at h
    obtain ⟨s4, h_106, h⟩ := bn_use h
    refine zl_callVv (pc := 106) hO [zR 11 t1, zI t0] [] (c_Pr_setCarry hJ b_t1 h_106) nd_Pr_shift_106 kv_Pr_133 rfl (Nat.le_of_ble_eq_true rfl) rfl rfl rfl (Nat.le_of_ble_eq_true rfl) ?_
    exact zl_weak (J_109 _ _ h) ⟨rfl, ⟨rfl, ⟨rfl, trivial⟩⟩⟩
  have J_96 : ∀ (s0 : zS) (l5 : Int32) (t0 : Int64) (t1 : Nat) (b_t1 : t1 < 4), k_Pr_shift_96 a1 a2 a3 a4 s0 l5 t0 t1 = some (s1, v1) → ZW (sC l V) md_Pr_shift (s1, some (zI v1)) X 96 [some (zR 10 0), some (zR 11 a1), none, none, none, some (zI l5), none, none, none, none, none] [zJ t0, zR 11 t1, zR 10 0] s0 := by
    intro s0 l5 t0 t1 b_t1 h
    unfold k_Pr_shift_96 at h
    refine zl_lconst (pc := 96) hO (v := 1) nd_Pr_shift_96 (by decide) ?_
    refine zl_lcmp (pc := 97) hO nd_Pr_shift_97 ?_
    refine zl_if_ne (pc := 98) hO 105 nd_Pr_shift_98 (by decide) (fun hc => ?_) (fun hc => ?_)
    · have h := ite_f hc h
      refine zl_iconst (pc := 105) hO (v := 0) nd_Pr_shift_105 (by decide) ?_
      exact zl_weak (J_106 _ _ _ _ b_t1 h) ⟨rfl, ⟨rfl, ⟨rfl, trivial⟩⟩⟩
    · have h := ite_t hc h
      refine zl_iconst (pc := 101) hO (v := 1) nd_Pr_shift_101 (by decide) ?_
      refine zl_goto (pc := 102) hO 106 nd_Pr_shift_102 (by decide) ?_
      exact zl_weak (J_106 _ _ _ _ b_t1 h) ⟨rfl, ⟨rfl, ⟨rfl, trivial⟩⟩⟩
  have J_73 : ∀ (s0 : zS) (l9 : Int64) (t0 : Int64), k_Pr_shift_73 a1 a2 a3 a4 s0 l9 t0 = some (s1, v1) → ZW (sC l V) md_Pr_shift (s1, some (zI v1)) X 73 [some (zR 10 0), some (zR 11 a1), some (zI a2), none, none, none, none, none, none, some (zJ l9), none] [zJ t0] s0 := by
    intro s0 l9 t0 h
    unfold k_Pr_shift_73 at h
    refine zl_l2i (pc := 73) hO nd_Pr_shift_73 ?_
    obtain ⟨x3, e_x3, h⟩ := lt_use h
    refine zl_top e_x3 ?_
    refine zl_istore (pc := 74) hO (L' := [some (zR 10 0), some (zR 11 a1), some (zI a2), none, none, some (zI x3), none, none, none, some (zJ l9), none]) nd_Pr_shift_74 (by decide) rfl ?_
    refine zl_aload_n (pc := 76) hO 0 nd_Pr_shift_76 rfl rfl ?_
    refine zl_aload_n (pc := 77) hO 1 nd_Pr_shift_77 rfl rfl ?_
    refine zl_iload_n (pc := 78) hO 2 nd_Pr_shift_78 rfl rfl ?_
    refine zl_if_ne (pc := 79) hO 92 nd_Pr_shift_79 (by decide) (fun hc => ?_) (fun hc => ?_)
    · have h := ite_f hc h
      refine zl_lload (pc := 92) hO nd_Pr_shift_92 rfl ?_
      refine zl_lconst (pc := 94) hO (v := 1) nd_Pr_shift_94 (by decide) ?_
      refine zl_land (pc := 95) hO nd_Pr_shift_95 ?_
      exact zl_weak (J_96 _ _ _ _ b_a1 h) ⟨rfl, ⟨rfl, ⟨rfl, trivial⟩⟩⟩
    · have h := ite_t hc h
      refine zl_lload (pc := 82) hO nd_Pr_shift_82 rfl ?_
      refine zl_bipush (pc := 84) hO (v := 32) nd_Pr_shift_84 (by decide) ?_
      refine zl_lshr (pc := 86) hO nd_Pr_shift_86 ?_
      refine zl_lconst (pc := 87) hO (v := 1) nd_Pr_shift_87 (by decide) ?_
      refine zl_land (pc := 88) hO nd_Pr_shift_88 ?_
      refine zl_goto (pc := 89) hO 96 nd_Pr_shift_89 (by decide) ?_
      exact zl_weak (J_96 _ _ _ _ b_a1 h) ⟨rfl, ⟨rfl, ⟨rfl, trivial⟩⟩⟩
  have J_58 : ∀ (s0 : zS) (t0 : Int64), k_Pr_shift_58 a1 a2 a3 a4 s0 t0 = some (s1, v1) → ZW (sC l V) md_Pr_shift (s1, some (zI v1)) X 58 [some (zR 10 0), some (zR 11 a1), some (zI a2), none, none, none, none, none, none, none, none] [zJ t0] s0 := by
    intro s0 t0 h
    unfold k_Pr_shift_58 at h
    refine zl_lstore (pc := 58) hO (L' := [some (zR 10 0), some (zR 11 a1), some (zI a2), none, none, none, none, none, none, some (zJ t0), none]) nd_Pr_shift_58 (by decide) rfl ?_
    refine zl_iload_n (pc := 60) hO 2 nd_Pr_shift_60 rfl rfl ?_
    refine zl_if_ne (pc := 61) hO 69 nd_Pr_shift_61 (by decide) (fun hc => ?_) (fun hc => ?_)
    · have h := ite_f hc h
      refine zl_lload (pc := 69) hO nd_Pr_shift_69 rfl ?_
      refine zl_iconst (pc := 71) hO (v := 1) nd_Pr_shift_71 (by decide) ?_
      refine zl_lshr (pc := 72) hO nd_Pr_shift_72 ?_
      exact zl_weak (J_73 _ _ _ h) ⟨rfl, ⟨rfl, ⟨rfl, ⟨rfl, trivial⟩⟩⟩⟩
    · have h := ite_t hc h
      refine zl_lload (pc := 64) hO nd_Pr_shift_64 rfl ?_
      refine zl_goto (pc := 66) hO 73 nd_Pr_shift_66 (by decide) ?_
      exact zl_weak (J_73 _ _ _ h) ⟨rfl, ⟨rfl, ⟨rfl, ⟨rfl, trivial⟩⟩⟩⟩
  have J_37 : ∀ (s0 : zS) (l6 : Int32) (t0 : Int64), k_Pr_shift_37 a1 a2 a3 a4 s0 l6 t0 = some (s1, v1) → ZW (sC l V) md_Pr_shift (s1, some (zI v1)) X 37 [some (zR 10 0), some (zR 11 a1), some (zI a2), none, none, none, some (zI l6), none, none, none, none] [zJ t0] s0 := by
    intro s0 l6 t0 h
    unfold k_Pr_shift_37 at h
    refine zl_lstore (pc := 37) hO (L' := [some (zR 10 0), some (zR 11 a1), some (zI a2), none, none, none, some (zI l6), some (zJ t0), none, none, none]) nd_Pr_shift_37 (by decide) rfl ?_
    refine zl_iload_n (pc := 39) hO 2 nd_Pr_shift_39 rfl rfl ?_
    refine zl_if_ne (pc := 40) hO 51 nd_Pr_shift_40 (by decide) (fun hc => ?_) (fun hc => ?_)
    · have h := ite_f hc h
      refine zl_lload (pc := 51) hO nd_Pr_shift_51 rfl ?_
      refine zl_iconst (pc := 53) hO (v := 1) nd_Pr_shift_53 (by decide) ?_
      refine zl_lshl (pc := 54) hO nd_Pr_shift_54 ?_
      refine zl_iload (pc := 55) hO nd_Pr_shift_55 rfl ?_
      refine zl_lshr (pc := 57) hO nd_Pr_shift_57 ?_
      exact zl_weak (J_58 _ _ h) ⟨rfl, ⟨rfl, ⟨rfl, trivial⟩⟩⟩
    · have h := ite_t hc h
      refine zl_lload (pc := 43) hO nd_Pr_shift_43 rfl ?_
      refine zl_iload (pc := 45) hO nd_Pr_shift_45 rfl ?_
      refine zl_lshl (pc := 47) hO nd_Pr_shift_47 ?_
      refine zl_goto (pc := 48) hO 58 nd_Pr_shift_48 (by decide) ?_
      exact zl_weak (J_58 _ _ h) ⟨rfl, ⟨rfl, ⟨rfl, trivial⟩⟩⟩
  have J_26 : ∀ (s0 : zS) (l6 : Int32), k_Pr_shift_26 a1 a2 a3 a4 s0 l6 = some (s1, v1) → ZW (sC l V) md_Pr_shift (s1, some (zI v1)) X 26 [some (zR 10 0), some (zR 11 a1), some (zI a2), some (zI a3), none, none, some (zI l6), none, none, none, none] [] s0 := by
    intro s0 l6 h
    unfold k_Pr_shift_26 at h
    refine zl_iload_n (pc := 26) hO 3 nd_Pr_shift_26 rfl rfl ?_
    refine zl_i2l (pc := 27) hO nd_Pr_shift_27 ?_
    refine zl_ldc2 (pc := 28) hO nd_Pr_shift_28 kc_Pr_131 ?_
    refine zl_land (pc := 31) hO nd_Pr_shift_31 ?_
    refine zl_goto (pc := 32) hO 37 nd_Pr_shift_32 (by decide) ?_
    exact zl_weak (J_37 _ _ _ h) ⟨rfl, ⟨rfl, ⟨rfl, ⟨rfl, trivial⟩⟩⟩⟩
  unfold k_Pr_shift at h
  refine zl_iload_n (pc := 0) hO 3 nd_Pr_shift_0 rfl rfl ?_
  refine zl_istore (pc := 1) hO (L' := [some (zR 10 0), some (zR 11 a1), some (zI a2), some (zI a3), some (zI a4), some (zI a3), none, none, none, none, none]) nd_Pr_shift_1 (by decide) rfl ?_
  refine zl_iload (pc := 3) hO nd_Pr_shift_3 rfl ?_
  refine zl_if_le (pc := 5) hO 109 nd_Pr_shift_5 (by decide) (fun hc => ?_) (fun hc => ?_)
  · have h := ite_t hc h
    exact zl_weak (J_109 _ _ h) ⟨rfl, ⟨rfl, ⟨rfl, trivial⟩⟩⟩
  · have h := ite_f hc h
    refine zl_iload (pc := 8) hO nd_Pr_shift_8 rfl ?_
    refine zl_bipush (pc := 10) hO (v := 33) nd_Pr_shift_10 (by decide) ?_
    refine zl_mmin (pc := 12) hO nd_Pr_shift_12 km_Pr_125 km_min_st km_ini km_min_code (by decide) (Nat.le_of_ble_eq_true rfl) ?_
    obtain ⟨x1, e_x1, h⟩ := lt_use h
    refine zl_top e_x1 ?_
    refine zl_istore (pc := 15) hO (L' := [some (zR 10 0), some (zR 11 a1), some (zI a2), some (zI a3), some (zI a4), some (zI a3), some (zI x1), none, none, none, none]) nd_Pr_shift_15 (by decide) rfl ?_
    refine zl_iload_n (pc := 17) hO 2 nd_Pr_shift_17 rfl rfl ?_
    refine zl_if_eq (pc := 18) hO 26 nd_Pr_shift_18 (by decide) (fun hc => ?_) (fun hc => ?_)
    · have h := ite_t hc h
      exact zl_weak (J_26 _ _ h) ⟨rfl, ⟨rfl, ⟨rfl, ⟨rfl, ⟨rfl, trivial⟩⟩⟩⟩⟩
    · have h := ite_f hc h
      refine zl_iload_n (pc := 21) hO 2 nd_Pr_shift_21 rfl rfl ?_
      refine zl_iconst (pc := 22) hO (v := 1) nd_Pr_shift_22 (by decide) ?_
      refine zl_icmp_ne (pc := 23) hO 35 nd_Pr_shift_23 (by decide) (fun hc => ?_) (fun hc => ?_)
      · have h := ite_f hc h
        refine zl_iload_n (pc := 35) hO 3 nd_Pr_shift_35 rfl rfl ?_
        refine zl_i2l (pc := 36) hO nd_Pr_shift_36 ?_
        exact zl_weak (J_37 _ _ _ h) ⟨rfl, ⟨rfl, ⟨rfl, ⟨rfl, trivial⟩⟩⟩⟩
      · have h := ite_t hc h
        exact zl_weak (J_26 _ _ h) ⟨rfl, ⟨rfl, ⟨rfl, ⟨rfl, ⟨rfl, trivial⟩⟩⟩⟩⟩
set_option maxHeartbeats 4000000 in
set_option maxRecDepth 100000 in
theorem c_Pr_shiftByNumber {l : Launch} {V : zG} (hJ : zJ0 (sC l V)) {s0 : zS} {a1 : Nat} {a2 : Int32} (b_a1 : a1 < 4) {s1 : zS} {v1 : Int32} (h : k_Pr_shiftByNumber s0 a1 a2 = some (s1, v1)) : zM (sC l V) md_Pr_shiftByNumber [zR 10 0, zR 11 a1, zI a2] s0 (s1, some (zI v1)) := by
  refine zMet [some (zR 10 0), some (zR 11 a1), some (zI a2), none, none] hJ (by decide) rfl (Nat.le_of_ble_eq_true rfl) rfl ?_
  intro X hO
  have J_27 : ∀ (s0 : zS) (l3 : Int32) (l4 : Int32), k_Pr_shiftByNumber_27 a1 a2 s0 l3 l4 = some (s1, v1) → ZW (sC l V) md_Pr_shiftByNumber (s1, some (zI v1)) X 27 [some (zR 10 0), some (zR 11 a1), some (zI a2), some (zI l3), some (zI l4)] [] s0 := by
    intro s0 l3 l4 h
    unfold k_Pr_shiftByNumber_27 at h
    refine zl_aload_n (pc := 27) hO 1 nd_Pr_shiftByNumber_27 rfl rfl ?_
    refine zl_getS (pc := 28) hO nd_Pr_shiftByNumber_28 kf_Pr_57 rfl b_a1 rfl ?_
    refine zl_iload_n (pc := 31) hO 2 nd_Pr_shiftByNumber_31 rfl rfl ?_
    refine zl_bipush (pc := 32) hO (v := 7) nd_Pr_shiftByNumber_32 (by decide) ?_
    refine zl_iand (pc := 34) hO nd_Pr_shiftByNumber_34 ?_
    refine zl_aload_n (pc := 35) hO 0 nd_Pr_shiftByNumber_35 rfl rfl ?_
    refine zl_aload_n (pc := 36) hO 1 nd_Pr_shiftByNumber_36 rfl rfl ?_
    refine zl_iload_n (pc := 37) hO 3 nd_Pr_shiftByNumber_37 rfl rfl ?_
    refine zl_aload_n (pc := 38) hO 1 nd_Pr_shiftByNumber_38 rfl rfl ?_
    refine zl_getS (pc := 39) hO nd_Pr_shiftByNumber_39 kf_Pr_57 rfl b_a1 rfl ?_
    refine zl_iload_n (pc := 42) hO 2 nd_Pr_shiftByNumber_42 rfl rfl ?_
    refine zl_iconst (pc := 43) hO (v := 3) nd_Pr_shiftByNumber_43 (by decide) ?_
    refine zl_ishr (pc := 44) hO nd_Pr_shiftByNumber_44 ?_
    refine zl_bipush (pc := 45) hO (v := 7) nd_Pr_shiftByNumber_45 (by decide) ?_
    refine zl_iand (pc := 47) hO nd_Pr_shiftByNumber_47 ?_
    obtain ⟨c_in48, h⟩ := ck_use h
    refine zl_iald (pc := 48) hO nd_Pr_shiftByNumber_48 rfl rfl b_a1 c_in48 ?_
    refine zl_iload (pc := 49) hO nd_Pr_shiftByNumber_49 rfl ?_
    obtain ⟨⟨s3, r4⟩, h_51, h⟩ := bn_use h
    refine zl_callVi (pc := 51) hO [zR 11 a1, zI l3, zI (s0 12 a1 ((a2 >>> ((3 : Int32) &&& 31)) &&& (7 : Int32)).toNatClampNeg), zI l4] [zI (a2 &&& (7 : Int32)), zR 12 a1] (c_Pr_shift hJ b_a1 h_51) nd_Pr_shiftByNumber_51 kv_Pr_79 rfl (Nat.le_of_ble_eq_true rfl) rfl rfl rfl (Nat.le_of_ble_eq_true rfl) ?_
    obtain ⟨c_in54, h⟩ := ck_use h
    refine zl_iast (pc := 54) hO nd_Pr_shiftByNumber_54 rfl rfl b_a1 c_in54 ?_
    obtain ⟨s5, e_s5, h⟩ := lt_use h
    refine zl_sg e_s5 ?_
    refine zl_iconst (pc := 55) hO (v := 0) nd_Pr_shiftByNumber_55 (by decide) ?_
    exact zl_iret (pc := 56) hO nd_Pr_shiftByNumber_56 rfl (zr_i h)
  unfold k_Pr_shiftByNumber at h
  refine zl_iload_n (pc := 0) hO 2 nd_Pr_shiftByNumber_0 rfl rfl ?_
  refine zl_bipush (pc := 1) hO (v := 11) nd_Pr_shiftByNumber_1 (by decide) ?_
  refine zl_ishr (pc := 3) hO nd_Pr_shiftByNumber_3 ?_
  obtain ⟨x1, e_x1, h⟩ := lt_use h
  refine zl_top e_x1 ?_
  refine zl_istore_n (pc := 4) hO 3 (L' := [some (zR 10 0), some (zR 11 a1), some (zI a2), some (zI x1), none]) nd_Pr_shiftByNumber_4 rfl (by decide) rfl ?_
  refine zl_iload_n (pc := 5) hO 2 nd_Pr_shiftByNumber_5 rfl rfl ?_
  refine zl_bipush (pc := 6) hO (v := 6) nd_Pr_shiftByNumber_6 (by decide) ?_
  refine zl_ishr (pc := 8) hO nd_Pr_shiftByNumber_8 ?_
  refine zl_bipush (pc := 9) hO (v := 31) nd_Pr_shiftByNumber_9 (by decide) ?_
  refine zl_iand (pc := 11) hO nd_Pr_shiftByNumber_11 ?_
  obtain ⟨x2, e_x2, h⟩ := lt_use h
  refine zl_top e_x2 ?_
  refine zl_istore (pc := 12) hO (L' := [some (zR 10 0), some (zR 11 a1), some (zI a2), some (zI x1), some (zI x2)]) nd_Pr_shiftByNumber_12 (by decide) rfl ?_
  refine zl_iload_n (pc := 14) hO 3 nd_Pr_shiftByNumber_14 rfl rfl ?_
  refine zl_if_eq (pc := 15) hO 27 nd_Pr_shiftByNumber_15 (by decide) (fun hc => ?_) (fun hc => ?_)
  · have h := ite_t hc h
    exact zl_weak (J_27 _ _ _ h) ⟨rfl, ⟨rfl, ⟨rfl, ⟨rfl, ⟨rfl, trivial⟩⟩⟩⟩⟩
  · have h := ite_f hc h
    refine zl_iload (pc := 18) hO nd_Pr_shiftByNumber_18 rfl ?_
    refine zl_if_ne (pc := 20) hO 27 nd_Pr_shiftByNumber_20 (by decide) (fun hc => ?_) (fun hc => ?_)
    · have h := ite_f hc h
      exact zl_weak (J_27 _ _ _ h) ⟨rfl, ⟨rfl, ⟨rfl, ⟨rfl, ⟨rfl, trivial⟩⟩⟩⟩⟩
    · have h := ite_t hc h
      refine zl_bipush (pc := 23) hO (v := 32) nd_Pr_shiftByNumber_23 (by decide) ?_
      refine zl_istore (pc := 25) hO (L' := [some (zR 10 0), some (zR 11 a1), some (zI a2), some (zI x1), some (zI 32)]) nd_Pr_shiftByNumber_25 (by decide) rfl ?_
      exact zl_weak (J_27 _ _ _ h) ⟨rfl, ⟨rfl, ⟨rfl, ⟨rfl, ⟨rfl, trivial⟩⟩⟩⟩⟩
set_option maxHeartbeats 4000000 in
set_option maxRecDepth 100000 in
theorem c_Pr_add {l : Launch} {V : zG} (hJ : zJ0 (sC l V)) {s0 : zS} {a1 : Nat} {a2 : Int32} {a3 : Int32} {a4 : Int32} (b_a1 : a1 < 4) {s1 : zS} {v1 : Int32} (h : k_Pr_add s0 a1 a2 a3 a4 = some (s1, v1)) : zM (sC l V) md_Pr_add [zR 10 0, zR 11 a1, zI a2, zI a3, zI a4] s0 (s1, some (zI v1)) := by
  refine zMet [some (zR 10 0), some (zR 11 a1), some (zI a2), some (zI a3), some (zI a4), none, none, none, none, none] hJ (by decide) rfl (Nat.le_of_ble_eq_true rfl) rfl ?_
  intro X hO
  have J_64 : ∀ (s0 : zS) (l9 : Int32) (t0 : Int32) (t1 : Int32) (t2 : Nat) (b_t2 : t2 < 4), k_Pr_add_64 a1 a2 a3 a4 s0 l9 t0 t1 t2 = some (s1, v1) → ZW (sC l V) md_Pr_add (s1, some (zI v1)) X 64 [some (zR 10 0), some (zR 11 a1), none, none, none, none, none, none, none, some (zI l9)] [zI t0, zI t1, zR 11 t2] s0 := by
    intro s0 l9 t0 t1 t2 b_t2 h
    unfold k_Pr_add_64 at h
    refine zl_iadd (pc := 64) hO nd_Pr_add_64 ?_
    refine zl_puti (pc := 65) hO nd_Pr_add_65 kp_Pr_90 rfl b_t2 rfl ?_
    obtain ⟨s4, e_s4, h⟩ := lt_use h
    refine zl_sg e_s4 ?_
    refine zl_aload_n (pc := 68) hO 0 nd_Pr_add_68 rfl rfl ?_
    refine zl_aload_n (pc := 69) hO 1 nd_Pr_add_69 rfl rfl ?_
    refine zl_iload (pc := 70) hO nd_Pr_add_70 rfl ?_
    obtain ⟨s5, h_72, h⟩ := bn_use h
    refine zl_callVv (pc := 72) hO [zR 11 a1, zI l9] [] (c_Pr_setSigns hJ b_a1 h_72) nd_Pr_add_72 kv_Pr_86 rfl (Nat.le_of_ble_eq_true rfl) rfl rfl rfl (Nat.le_of_ble_eq_true rfl) ?_
    refine zl_iload (pc := 75) hO nd_Pr_add_75 rfl ?_
    exact zl_iret (pc := 77) hO nd_Pr_add_77 rfl (zr_i h)
  have J_50 : ∀ (s0 : zS) (l5 : Int64) (l9 : Int32) (t0 : Int32) (t1 : Nat) (b_t1 : t1 < 4), k_Pr_add_50 a1 a2 a3 a4 s0 l5 l9 t0 t1 = some (s1, v1) → ZW (sC l V) md_Pr_add (s1, some (zI v1)) X 50 [some (zR 10 0), some (zR 11 a1), none, none, none, some (zJ l5), none, none, none, some (zI l9)] [zI t0, zR 11 t1] s0 := by
    intro s0 l5 l9 t0 t1 b_t1 h
    unfold k_Pr_add_50 at h
    refine zl_lload (pc := 50) hO nd_Pr_add_50 rfl ?_
    refine zl_iload (pc := 52) hO nd_Pr_add_52 rfl ?_
    refine zl_i2l (pc := 54) hO nd_Pr_add_54 ?_
    refine zl_lcmp (pc := 55) hO nd_Pr_add_55 ?_
    refine zl_if_ne (pc := 56) hO 63 nd_Pr_add_56 (by decide) (fun hc => ?_) (fun hc => ?_)
    · have h := ite_f hc h
      refine zl_iconst (pc := 63) hO (v := 1) nd_Pr_add_63 (by decide) ?_
      exact zl_weak (J_64 _ _ _ _ _ b_t1 h) ⟨rfl, ⟨rfl, ⟨rfl, trivial⟩⟩⟩
    · have h := ite_t hc h
      refine zl_iconst (pc := 59) hO (v := 0) nd_Pr_add_59 (by decide) ?_
      refine zl_goto (pc := 60) hO 64 nd_Pr_add_60 (by decide) ?_
      exact zl_weak (J_64 _ _ _ _ _ b_t1 h) ⟨rfl, ⟨rfl, ⟨rfl, trivial⟩⟩⟩
  unfold k_Pr_add at h
  refine zl_iload_n (pc := 0) hO 2 nd_Pr_add_0 rfl rfl ?_
  refine zl_i2l (pc := 1) hO nd_Pr_add_1 ?_
  refine zl_iload_n (pc := 2) hO 3 nd_Pr_add_2 rfl rfl ?_
  refine zl_i2l (pc := 3) hO nd_Pr_add_3 ?_
  refine zl_ladd (pc := 4) hO nd_Pr_add_4 ?_
  refine zl_iload (pc := 5) hO nd_Pr_add_5 rfl ?_
  refine zl_i2l (pc := 7) hO nd_Pr_add_7 ?_
  refine zl_ladd (pc := 8) hO nd_Pr_add_8 ?_
  obtain ⟨x1, e_x1, h⟩ := lt_use h
  refine zl_topJ e_x1 ?_
  refine zl_lstore (pc := 9) hO (L' := [some (zR 10 0), some (zR 11 a1), some (zI a2), some (zI a3), some (zI a4), some (zJ x1), none, none, none, none]) nd_Pr_add_9 (by decide) rfl ?_
  refine zl_iload_n (pc := 11) hO 2 nd_Pr_add_11 rfl rfl ?_
  refine zl_i2l (pc := 12) hO nd_Pr_add_12 ?_
  refine zl_ldc2 (pc := 13) hO nd_Pr_add_13 kc_Pr_131 ?_
  refine zl_land (pc := 16) hO nd_Pr_add_16 ?_
  refine zl_iload_n (pc := 17) hO 3 nd_Pr_add_17 rfl rfl ?_
  refine zl_i2l (pc := 18) hO nd_Pr_add_18 ?_
  refine zl_ldc2 (pc := 19) hO nd_Pr_add_19 kc_Pr_131 ?_
  refine zl_land (pc := 22) hO nd_Pr_add_22 ?_
  refine zl_ladd (pc := 23) hO nd_Pr_add_23 ?_
  refine zl_iload (pc := 24) hO nd_Pr_add_24 rfl ?_
  refine zl_i2l (pc := 26) hO nd_Pr_add_26 ?_
  refine zl_ladd (pc := 27) hO nd_Pr_add_27 ?_
  obtain ⟨x2, e_x2, h⟩ := lt_use h
  refine zl_topJ e_x2 ?_
  refine zl_lstore (pc := 28) hO (L' := [some (zR 10 0), some (zR 11 a1), some (zI a2), some (zI a3), some (zI a4), some (zJ x1), none, some (zJ x2), none, none]) nd_Pr_add_28 (by decide) rfl ?_
  refine zl_lload (pc := 30) hO nd_Pr_add_30 rfl ?_
  refine zl_l2i (pc := 32) hO nd_Pr_add_32 ?_
  obtain ⟨x3, e_x3, h⟩ := lt_use h
  refine zl_top e_x3 ?_
  refine zl_istore (pc := 33) hO (L' := [some (zR 10 0), some (zR 11 a1), some (zI a2), some (zI a3), some (zI a4), some (zJ x1), none, some (zJ x2), none, some (zI x3)]) nd_Pr_add_33 (by decide) rfl ?_
  refine zl_aload_n (pc := 35) hO 1 nd_Pr_add_35 rfl rfl ?_
  refine zl_lload (pc := 36) hO nd_Pr_add_36 rfl ?_
  refine zl_ldc2 (pc := 38) hO nd_Pr_add_38 kc_Pr_131 ?_
  refine zl_lcmp (pc := 41) hO nd_Pr_add_41 ?_
  refine zl_if_le (pc := 42) hO 49 nd_Pr_add_42 (by decide) (fun hc => ?_) (fun hc => ?_)
  · have h := ite_t hc h
    refine zl_iconst (pc := 49) hO (v := 0) nd_Pr_add_49 (by decide) ?_
    exact zl_weak (J_50 _ _ _ _ _ b_a1 h) ⟨rfl, ⟨rfl, ⟨rfl, ⟨rfl, trivial⟩⟩⟩⟩
  · have h := ite_f hc h
    refine zl_iconst (pc := 45) hO (v := 2) nd_Pr_add_45 (by decide) ?_
    refine zl_goto (pc := 46) hO 50 nd_Pr_add_46 (by decide) ?_
    exact zl_weak (J_50 _ _ _ _ _ b_a1 h) ⟨rfl, ⟨rfl, ⟨rfl, ⟨rfl, trivial⟩⟩⟩⟩
set_option maxHeartbeats 4000000 in
set_option maxRecDepth 100000 in
theorem c_Pr_addThree {l : Launch} {V : zG} (hJ : zJ0 (sC l V)) {s0 : zS} {a1 : Nat} {a2 : Int32} (b_a1 : a1 < 4) {s1 : zS} {v1 : Int32} (h : k_Pr_addThree s0 a1 a2 = some (s1, v1)) : zM (sC l V) md_Pr_addThree [zR 10 0, zR 11 a1, zI a2] s0 (s1, some (zI v1)) := by
  refine zMet [some (zR 10 0), some (zR 11 a1), some (zI a2), none, none, none, none] hJ (by decide) rfl (Nat.le_of_ble_eq_true rfl) rfl ?_
  intro X hO
  have J_97 : ∀ (s0 : zS) (t0 : Int32) (t1 : Int32) (t2 : Nat) (b_t2 : t2 < 4), k_Pr_addThree_97 a1 a2 s0 t0 t1 t2 = some (s1, v1) → ZW (sC l V) md_Pr_addThree (s1, some (zI v1)) X 97 [none, none, none, none, none, none, none] [zI t0, zI t1, zR 12 t2] s0 := by
    intro s0 t0 t1 t2 b_t2 h
    unfold k_Pr_addThree_97 at h
    obtain ⟨c_in97, h⟩ := ck_use h
    refine zl_iast (pc := 97) hO nd_Pr_addThree_97 rfl rfl b_t2 c_in97 ?_
    obtain ⟨s7, e_s7, h⟩ := lt_use h
    refine zl_sg e_s7 ?_
    refine zl_iconst (pc := 98) hO (v := 0) nd_Pr_addThree_98 (by decide) ?_
    exact zl_iret (pc := 99) hO nd_Pr_addThree_99 rfl (zr_i h)
  have J_57 : ∀ (s0 : zS) (l4 : Int32) (l5 : Int32) (t0 : Int32), k_Pr_addThree_57 a1 a2 s0 l4 l5 t0 = some (s1, v1) → ZW (sC l V) md_Pr_addThree (s1, some (zI v1)) X 57 [some (zR 10 0), some (zR 11 a1), some (zI a2), none, some (zI l4), some (zI l5), none] [zI t0] s0 := by
    intro s0 l4 l5 t0 h
    unfold k_Pr_addThree_57 at h
    refine zl_istore (pc := 57) hO (L' := [some (zR 10 0), some (zR 11 a1), some (zI a2), none, some (zI l4), some (zI l5), some (zI t0)]) nd_Pr_addThree_57 (by decide) rfl ?_
    refine zl_aload_n (pc := 59) hO 1 nd_Pr_addThree_59 rfl rfl ?_
    refine zl_getS (pc := 60) hO nd_Pr_addThree_60 kf_Pr_57 rfl b_a1 rfl ?_
    refine zl_iload_n (pc := 63) hO 2 nd_Pr_addThree_63 rfl rfl ?_
    refine zl_bipush (pc := 64) hO (v := 7) nd_Pr_addThree_64 (by decide) ?_
    refine zl_iand (pc := 66) hO nd_Pr_addThree_66 ?_
    refine zl_iload (pc := 67) hO nd_Pr_addThree_67 rfl ?_
    refine zl_if_eq (pc := 69) hO 87 nd_Pr_addThree_69 (by decide) (fun hc => ?_) (fun hc => ?_)
    · have h := ite_t hc h
      refine zl_aload_n (pc := 87) hO 0 nd_Pr_addThree_87 rfl rfl ?_
      refine zl_aload_n (pc := 88) hO 1 nd_Pr_addThree_88 rfl rfl ?_
      refine zl_iload (pc := 89) hO nd_Pr_addThree_89 rfl ?_
      refine zl_iload (pc := 91) hO nd_Pr_addThree_91 rfl ?_
      refine zl_iconst (pc := 93) hO (v := 0) nd_Pr_addThree_93 (by decide) ?_
      obtain ⟨⟨s3, r4⟩, h_94, h⟩ := bn_use h
      refine zl_callVi (pc := 94) hO [zR 11 a1, zI l4, zI l5, zI 0] [zI (a2 &&& (7 : Int32)), zR 12 a1] (c_Pr_add hJ b_a1 h_94) nd_Pr_addThree_94 kv_Pr_83 rfl (Nat.le_of_ble_eq_true rfl) rfl rfl rfl (Nat.le_of_ble_eq_true rfl) ?_
      exact zl_weak (J_97 _ _ _ _ b_a1 h) trivial
    · have h := ite_f hc h
      refine zl_aload_n (pc := 72) hO 0 nd_Pr_addThree_72 rfl rfl ?_
      refine zl_aload_n (pc := 73) hO 1 nd_Pr_addThree_73 rfl rfl ?_
      refine zl_iload (pc := 74) hO nd_Pr_addThree_74 rfl ?_
      refine zl_iload (pc := 76) hO nd_Pr_addThree_76 rfl ?_
      refine zl_iconst (pc := 78) hO (v := (-1)) nd_Pr_addThree_78 (by decide) ?_
      refine zl_ixor (pc := 79) hO nd_Pr_addThree_79 ?_
      refine zl_iconst (pc := 80) hO (v := 1) nd_Pr_addThree_80 (by decide) ?_
      obtain ⟨⟨s5, r6⟩, h_81, h⟩ := bn_use h
      refine zl_callVi (pc := 81) hO [zR 11 a1, zI l4, zI (l5 ^^^ (-1 : Int32)), zI 1] [zI (a2 &&& (7 : Int32)), zR 12 a1] (c_Pr_add hJ b_a1 h_81) nd_Pr_addThree_81 kv_Pr_83 rfl (Nat.le_of_ble_eq_true rfl) rfl rfl rfl (Nat.le_of_ble_eq_true rfl) ?_
      refine zl_goto (pc := 84) hO 97 nd_Pr_addThree_84 (by decide) ?_
      exact zl_weak (J_97 _ _ _ _ b_a1 h) trivial
  have J_40 : ∀ (s0 : zS) (l4 : Int32) (t0 : Int32), k_Pr_addThree_40 a1 a2 s0 l4 t0 = some (s1, v1) → ZW (sC l V) md_Pr_addThree (s1, some (zI v1)) X 40 [some (zR 10 0), some (zR 11 a1), some (zI a2), none, some (zI l4), none, none] [zI t0] s0 := by
    intro s0 l4 t0 h
    unfold k_Pr_addThree_40 at h
    refine zl_istore (pc := 40) hO (L' := [some (zR 10 0), some (zR 11 a1), some (zI a2), none, some (zI l4), some (zI t0), none]) nd_Pr_addThree_40 (by decide) rfl ?_
    refine zl_iload_n (pc := 42) hO 2 nd_Pr_addThree_42 rfl rfl ?_
    refine zl_bipush (pc := 43) hO (v := 9) nd_Pr_addThree_43 (by decide) ?_
    refine zl_ishr (pc := 45) hO nd_Pr_addThree_45 ?_
    refine zl_iconst (pc := 46) hO (v := 1) nd_Pr_addThree_46 (by decide) ?_
    refine zl_iand (pc := 47) hO nd_Pr_addThree_47 ?_
    refine zl_iconst (pc := 48) hO (v := 1) nd_Pr_addThree_48 (by decide) ?_
    refine zl_icmp_ne (pc := 49) hO 56 nd_Pr_addThree_49 (by decide) (fun hc => ?_) (fun hc => ?_)
    · have h := ite_f hc h
      refine zl_iconst (pc := 56) hO (v := 0) nd_Pr_addThree_56 (by decide) ?_
      exact zl_weak (J_57 _ _ _ _ h) ⟨rfl, ⟨rfl, ⟨rfl, ⟨rfl, ⟨rfl, trivial⟩⟩⟩⟩⟩
    · have h := ite_t hc h
      refine zl_iconst (pc := 52) hO (v := 1) nd_Pr_addThree_52 (by decide) ?_
      refine zl_goto (pc := 53) hO 57 nd_Pr_addThree_53 (by decide) ?_
      exact zl_weak (J_57 _ _ _ _ h) ⟨rfl, ⟨rfl, ⟨rfl, ⟨rfl, ⟨rfl, trivial⟩⟩⟩⟩⟩
  unfold k_Pr_addThree at h
  refine zl_iload_n (pc := 0) hO 2 nd_Pr_addThree_0 rfl rfl ?_
  refine zl_bipush (pc := 1) hO (v := 6) nd_Pr_addThree_1 (by decide) ?_
  refine zl_ishr (pc := 3) hO nd_Pr_addThree_3 ?_
  refine zl_bipush (pc := 4) hO (v := 7) nd_Pr_addThree_4 (by decide) ?_
  refine zl_iand (pc := 6) hO nd_Pr_addThree_6 ?_
  obtain ⟨x1, e_x1, h⟩ := lt_use h
  refine zl_top e_x1 ?_
  refine zl_istore_n (pc := 7) hO 3 (L' := [some (zR 10 0), some (zR 11 a1), some (zI a2), some (zI x1), none, none, none]) nd_Pr_addThree_7 rfl (by decide) rfl ?_
  refine zl_aload_n (pc := 8) hO 1 nd_Pr_addThree_8 rfl rfl ?_
  refine zl_getS (pc := 9) hO nd_Pr_addThree_9 kf_Pr_57 rfl b_a1 rfl ?_
  refine zl_iload_n (pc := 12) hO 2 nd_Pr_addThree_12 rfl rfl ?_
  refine zl_iconst (pc := 13) hO (v := 3) nd_Pr_addThree_13 (by decide) ?_
  refine zl_ishr (pc := 14) hO nd_Pr_addThree_14 ?_
  refine zl_bipush (pc := 15) hO (v := 7) nd_Pr_addThree_15 (by decide) ?_
  refine zl_iand (pc := 17) hO nd_Pr_addThree_17 ?_
  obtain ⟨c_in18, h⟩ := ck_use h
  refine zl_iald (pc := 18) hO nd_Pr_addThree_18 rfl rfl b_a1 c_in18 ?_
  obtain ⟨x2, e_x2, h⟩ := lt_use h
  refine zl_top e_x2 ?_
  refine zl_istore (pc := 19) hO (L' := [some (zR 10 0), some (zR 11 a1), some (zI a2), some (zI x1), some (zI x2), none, none]) nd_Pr_addThree_19 (by decide) rfl ?_
  refine zl_iload_n (pc := 21) hO 2 nd_Pr_addThree_21 rfl rfl ?_
  refine zl_bipush (pc := 22) hO (v := 10) nd_Pr_addThree_22 (by decide) ?_
  refine zl_ishr (pc := 24) hO nd_Pr_addThree_24 ?_
  refine zl_iconst (pc := 25) hO (v := 1) nd_Pr_addThree_25 (by decide) ?_
  refine zl_iand (pc := 26) hO nd_Pr_addThree_26 ?_
  refine zl_if_ne (pc := 27) hO 39 nd_Pr_addThree_27 (by decide) (fun hc => ?_) (fun hc => ?_)
  · have h := ite_f hc h
    refine zl_iload_n (pc := 39) hO 3 nd_Pr_addThree_39 rfl rfl ?_
    exact zl_weak (J_40 _ _ _ h) ⟨rfl, ⟨rfl, ⟨rfl, ⟨rfl, trivial⟩⟩⟩⟩
  · have h := ite_t hc h
    refine zl_aload_n (pc := 30) hO 1 nd_Pr_addThree_30 rfl rfl ?_
    refine zl_getS (pc := 31) hO nd_Pr_addThree_31 kf_Pr_57 rfl b_a1 rfl ?_
    refine zl_iload_n (pc := 34) hO 3 nd_Pr_addThree_34 rfl rfl ?_
    obtain ⟨c_in35, h⟩ := ck_use h
    refine zl_iald (pc := 35) hO nd_Pr_addThree_35 rfl rfl b_a1 c_in35 ?_
    refine zl_goto (pc := 36) hO 40 nd_Pr_addThree_36 (by decide) ?_
    exact zl_weak (J_40 _ _ _ h) ⟨rfl, ⟨rfl, ⟨rfl, ⟨rfl, trivial⟩⟩⟩⟩
set_option maxHeartbeats 4000000 in
set_option maxRecDepth 100000 in
theorem c_Pr_withByte {l : Launch} {V : zG} (hJ : zJ0 (sC l V)) {s0 : zS} {a1 : Nat} {a2 : Int32} (b_a1 : a1 < 4) {s1 : zS} {v1 : Int32} (h : k_Pr_withByte s0 a1 a2 = some (s1, v1)) : zM (sC l V) md_Pr_withByte [zR 10 0, zR 11 a1, zI a2] s0 (s1, some (zI v1)) := by
  refine zMet [some (zR 10 0), some (zR 11 a1), some (zI a2), none, none, none] hJ (by decide) rfl (Nat.le_of_ble_eq_true rfl) rfl ?_
  intro X hO
  unfold k_Pr_withByte at h
  refine zl_iload_n (pc := 0) hO 2 nd_Pr_withByte_0 rfl rfl ?_
  refine zl_bipush (pc := 1) hO (v := 8) nd_Pr_withByte_1 (by decide) ?_
  refine zl_ishr (pc := 3) hO nd_Pr_withByte_3 ?_
  refine zl_bipush (pc := 4) hO (v := 7) nd_Pr_withByte_4 (by decide) ?_
  refine zl_iand (pc := 6) hO nd_Pr_withByte_6 ?_
  obtain ⟨x1, e_x1, h⟩ := lt_use h
  refine zl_top e_x1 ?_
  refine zl_istore_n (pc := 7) hO 3 (L' := [some (zR 10 0), some (zR 11 a1), some (zI a2), some (zI x1), none, none]) nd_Pr_withByte_7 rfl (by decide) rfl ?_
  refine zl_aload_n (pc := 8) hO 1 nd_Pr_withByte_8 rfl rfl ?_
  refine zl_getS (pc := 9) hO nd_Pr_withByte_9 kf_Pr_57 rfl b_a1 rfl ?_
  refine zl_iload_n (pc := 12) hO 3 nd_Pr_withByte_12 rfl rfl ?_
  obtain ⟨c_in13, h⟩ := ck_use h
  refine zl_iald (pc := 13) hO nd_Pr_withByte_13 rfl rfl b_a1 c_in13 ?_
  obtain ⟨x2, e_x2, h⟩ := lt_use h
  refine zl_top e_x2 ?_
  refine zl_istore (pc := 14) hO (L' := [some (zR 10 0), some (zR 11 a1), some (zI a2), some (zI x1), some (zI x2), none]) nd_Pr_withByte_14 (by decide) rfl ?_
  refine zl_iload_n (pc := 16) hO 2 nd_Pr_withByte_16 rfl rfl ?_
  refine zl_sipush (pc := 17) hO (v := 255) nd_Pr_withByte_17 (by decide) ?_
  refine zl_iand (pc := 20) hO nd_Pr_withByte_20 ?_
  obtain ⟨x3, e_x3, h⟩ := lt_use h
  refine zl_top e_x3 ?_
  refine zl_istore (pc := 21) hO (L' := [some (zR 10 0), some (zR 11 a1), some (zI a2), some (zI x1), some (zI x2), some (zI x3)]) nd_Pr_withByte_21 (by decide) rfl ?_
  refine zl_iload_n (pc := 23) hO 2 nd_Pr_withByte_23 rfl rfl ?_
  refine zl_bipush (pc := 24) hO (v := 11) nd_Pr_withByte_24 (by decide) ?_
  refine zl_ishr (pc := 26) hO nd_Pr_withByte_26 ?_
  by_cases hc : (a2 >>> ((11 : Int32) &&& 31)) = 4
  · have h := ite_t hc h
    refine zl_tabIn (pc := 27) (off := 25) hO 4 52 hc nd_Pr_withByte_27 (by decide) (by decide) (by decide) (by decide) ?_
    refine zl_aload_n (pc := 52) hO 1 nd_Pr_withByte_52 rfl rfl ?_
    refine zl_getS (pc := 53) hO nd_Pr_withByte_53 kf_Pr_57 rfl b_a1 rfl ?_
    refine zl_iload_n (pc := 56) hO 3 nd_Pr_withByte_56 rfl rfl ?_
    refine zl_iload (pc := 57) hO nd_Pr_withByte_57 rfl ?_
    obtain ⟨c_in59, h⟩ := ck_use h
    refine zl_iast (pc := 59) hO nd_Pr_withByte_59 rfl rfl b_a1 c_in59 ?_
    obtain ⟨s4, e_s4, h⟩ := lt_use h
    refine zl_sg e_s4 ?_
    refine zl_aload_n (pc := 60) hO 0 nd_Pr_withByte_60 rfl rfl ?_
    refine zl_aload_n (pc := 61) hO 1 nd_Pr_withByte_61 rfl rfl ?_
    refine zl_iload (pc := 62) hO nd_Pr_withByte_62 rfl ?_
    obtain ⟨s5, h_64, h⟩ := bn_use h
    refine zl_callVv (pc := 64) hO [zR 11 a1, zI x3] [] (c_Pr_setSigns hJ b_a1 h_64) nd_Pr_withByte_64 kv_Pr_86 rfl (Nat.le_of_ble_eq_true rfl) rfl rfl rfl (Nat.le_of_ble_eq_true rfl) ?_
    refine zl_goto (pc := 67) hO 123 nd_Pr_withByte_67 (by decide) ?_
    refine zl_iconst (pc := 123) hO (v := 0) nd_Pr_withByte_123 (by decide) ?_
    exact zl_iret (pc := 124) hO nd_Pr_withByte_124 rfl (zr_i h)
  have h := ite_f hc h
  have n_27_4 : ¬ (a2 >>> ((11 : Int32) &&& 31)).toInt = 4 := lv_neT (k := 4) hc (by decide)
  by_cases hc : (a2 >>> ((11 : Int32) &&& 31)) = 5
  · have h := ite_t hc h
    refine zl_tabIn (pc := 27) (off := 43) hO 5 70 hc nd_Pr_withByte_27 (by decide) (by decide) (by decide) (by decide) ?_
    refine zl_aload_n (pc := 70) hO 0 nd_Pr_withByte_70 rfl rfl ?_
    refine zl_aload_n (pc := 71) hO 1 nd_Pr_withByte_71 rfl rfl ?_
    refine zl_iload (pc := 72) hO nd_Pr_withByte_72 rfl ?_
    refine zl_iload (pc := 74) hO nd_Pr_withByte_74 rfl ?_
    refine zl_iconst (pc := 76) hO (v := (-1)) nd_Pr_withByte_76 (by decide) ?_
    refine zl_ixor (pc := 77) hO nd_Pr_withByte_77 ?_
    refine zl_iconst (pc := 78) hO (v := 1) nd_Pr_withByte_78 (by decide) ?_
    obtain ⟨⟨s6, r7⟩, h_79, h⟩ := bn_use h
    refine zl_callVi (pc := 79) hO [zR 11 a1, zI x2, zI (x3 ^^^ (-1 : Int32)), zI 1] [] (c_Pr_add hJ b_a1 h_79) nd_Pr_withByte_79 kv_Pr_83 rfl (Nat.le_of_ble_eq_true rfl) rfl rfl rfl (Nat.le_of_ble_eq_true rfl) ?_
    refine zl_pop (pc := 82) hO nd_Pr_withByte_82 rfl ?_
    refine zl_goto (pc := 83) hO 123 nd_Pr_withByte_83 (by decide) ?_
    refine zl_iconst (pc := 123) hO (v := 0) nd_Pr_withByte_123 (by decide) ?_
    exact zl_iret (pc := 124) hO nd_Pr_withByte_124 rfl (zr_i h)
  have h := ite_f hc h
  have n_27_5 : ¬ (a2 >>> ((11 : Int32) &&& 31)).toInt = 5 := lv_neT (k := 5) hc (by decide)
  by_cases hc : (a2 >>> ((11 : Int32) &&& 31)) = 6
  · have h := ite_t hc h
    refine zl_tabIn (pc := 27) (off := 59) hO 6 86 hc nd_Pr_withByte_27 (by decide) (by decide) (by decide) (by decide) ?_
    refine zl_aload_n (pc := 86) hO 1 nd_Pr_withByte_86 rfl rfl ?_
    refine zl_getS (pc := 87) hO nd_Pr_withByte_87 kf_Pr_57 rfl b_a1 rfl ?_
    refine zl_iload_n (pc := 90) hO 3 nd_Pr_withByte_90 rfl rfl ?_
    refine zl_aload_n (pc := 91) hO 0 nd_Pr_withByte_91 rfl rfl ?_
    refine zl_aload_n (pc := 92) hO 1 nd_Pr_withByte_92 rfl rfl ?_
    refine zl_iload (pc := 93) hO nd_Pr_withByte_93 rfl ?_
    refine zl_iload (pc := 95) hO nd_Pr_withByte_95 rfl ?_
    refine zl_iconst (pc := 97) hO (v := 0) nd_Pr_withByte_97 (by decide) ?_
    obtain ⟨⟨s8, r9⟩, h_98, h⟩ := bn_use h
    refine zl_callVi (pc := 98) hO [zR 11 a1, zI x2, zI x3, zI 0] [zI x1, zR 12 a1] (c_Pr_add hJ b_a1 h_98) nd_Pr_withByte_98 kv_Pr_83 rfl (Nat.le_of_ble_eq_true rfl) rfl rfl rfl (Nat.le_of_ble_eq_true rfl) ?_
    obtain ⟨c_in101, h⟩ := ck_use h
    refine zl_iast (pc := 101) hO nd_Pr_withByte_101 rfl rfl b_a1 c_in101 ?_
    obtain ⟨s10, e_s10, h⟩ := lt_use h
    refine zl_sg e_s10 ?_
    refine zl_goto (pc := 102) hO 123 nd_Pr_withByte_102 (by decide) ?_
    refine zl_iconst (pc := 123) hO (v := 0) nd_Pr_withByte_123 (by decide) ?_
    exact zl_iret (pc := 124) hO nd_Pr_withByte_124 rfl (zr_i h)
  have h := ite_f hc h
  have n_27_6 : ¬ (a2 >>> ((11 : Int32) &&& 31)).toInt = 6 := lv_neT (k := 6) hc (by decide)
  refine zl_tabOut (pc := 27) hO 105 nd_Pr_withByte_27 (by omega) (by decide) ?_
  refine zl_aload_n (pc := 105) hO 1 nd_Pr_withByte_105 rfl rfl ?_
  refine zl_getS (pc := 106) hO nd_Pr_withByte_106 kf_Pr_57 rfl b_a1 rfl ?_
  refine zl_iload_n (pc := 109) hO 3 nd_Pr_withByte_109 rfl rfl ?_
  refine zl_aload_n (pc := 110) hO 0 nd_Pr_withByte_110 rfl rfl ?_
  refine zl_aload_n (pc := 111) hO 1 nd_Pr_withByte_111 rfl rfl ?_
  refine zl_iload (pc := 112) hO nd_Pr_withByte_112 rfl ?_
  refine zl_iload (pc := 114) hO nd_Pr_withByte_114 rfl ?_
  refine zl_iconst (pc := 116) hO (v := (-1)) nd_Pr_withByte_116 (by decide) ?_
  refine zl_ixor (pc := 117) hO nd_Pr_withByte_117 ?_
  refine zl_iconst (pc := 118) hO (v := 1) nd_Pr_withByte_118 (by decide) ?_
  obtain ⟨⟨s11, r12⟩, h_119, h⟩ := bn_use h
  refine zl_callVi (pc := 119) hO [zR 11 a1, zI x2, zI (x3 ^^^ (-1 : Int32)), zI 1] [zI x1, zR 12 a1] (c_Pr_add hJ b_a1 h_119) nd_Pr_withByte_119 kv_Pr_83 rfl (Nat.le_of_ble_eq_true rfl) rfl rfl rfl (Nat.le_of_ble_eq_true rfl) ?_
  obtain ⟨c_in122, h⟩ := ck_use h
  refine zl_iast (pc := 122) hO nd_Pr_withByte_122 rfl rfl b_a1 c_in122 ?_
  obtain ⟨s13, e_s13, h⟩ := lt_use h
  refine zl_sg e_s13 ?_
  refine zl_iconst (pc := 123) hO (v := 0) nd_Pr_withByte_123 (by decide) ?_
  exact zl_iret (pc := 124) hO nd_Pr_withByte_124 rfl (zr_i h)
