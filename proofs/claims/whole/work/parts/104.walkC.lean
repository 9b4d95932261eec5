set_option maxHeartbeats 4000000 in
set_option maxRecDepth 100000 in
theorem c_UQ_move {l : Launch} {V : zG} (hJ : zJ0 (sC l V)) {s0 : zS} {p : Nat} {a1 : Int32} {a2 : Int32} (b_p : p < 4) {s1 : zS} (h : k_UQ_move s0 p a1 a2 = some s1) : zM (sC l V) md_UQ_move [zR 19 p, zI a1, zI a2] s0 (s1, none) := by
  refine zMet [some (zR 19 p), some (zI a1), some (zI a2)] hJ (by decide) rfl (Nat.le_of_ble_eq_true rfl) rfl ?_
  intro X hO
  unfold k_UQ_move at h
  refine zl_aload_n (pc := 0) hO 0 nd_UQ_move_0 rfl rfl ?_
  refine zl_getS (pc := 1) hO nd_UQ_move_1 kf_UQ_9 rfl b_p rfl ?_
  refine zl_iload_n (pc := 4) hO 2 nd_UQ_move_4 rfl rfl ?_
  refine zl_aload_n (pc := 5) hO 0 nd_UQ_move_5 rfl rfl ?_
  refine zl_getS (pc := 6) hO nd_UQ_move_6 kf_UQ_9 rfl b_p rfl ?_
  refine zl_iload_n (pc := 9) hO 1 nd_UQ_move_9 rfl rfl ?_
  obtain ⟨c_in10, h⟩ := ck_use h
  refine zl_iald (pc := 10) hO nd_UQ_move_10 rfl rfl b_p c_in10 ?_
  obtain ⟨c_in11, h⟩ := ck_use h
  refine zl_iast (pc := 11) hO nd_UQ_move_11 rfl rfl b_p c_in11 ?_
  obtain ⟨s1, e_s1, h⟩ := lt_use h
  refine zl_sg e_s1 ?_
  refine zl_aload_n (pc := 12) hO 0 nd_UQ_move_12 rfl rfl ?_
  refine zl_getS (pc := 13) hO nd_UQ_move_13 kf_UQ_13 rfl b_p rfl ?_
  refine zl_iload_n (pc := 16) hO 2 nd_UQ_move_16 rfl rfl ?_
  refine zl_aload_n (pc := 17) hO 0 nd_UQ_move_17 rfl rfl ?_
  refine zl_getS (pc := 18) hO nd_UQ_move_18 kf_UQ_13 rfl b_p rfl ?_
  refine zl_iload_n (pc := 21) hO 1 nd_UQ_move_21 rfl rfl ?_
  obtain ⟨c_in22, h⟩ := ck_use h
  refine zl_iald (pc := 22) hO nd_UQ_move_22 rfl rfl b_p c_in22 ?_
  obtain ⟨c_in23, h⟩ := ck_use h
  refine zl_iast (pc := 23) hO nd_UQ_move_23 rfl rfl b_p c_in23 ?_
  obtain ⟨s2, e_s2, h⟩ := lt_use h
  refine zl_sg e_s2 ?_
  refine zl_aload_n (pc := 24) hO 0 nd_UQ_move_24 rfl rfl ?_
  refine zl_getS (pc := 25) hO nd_UQ_move_25 kf_UQ_16 rfl b_p rfl ?_
  refine zl_iload_n (pc := 28) hO 2 nd_UQ_move_28 rfl rfl ?_
  refine zl_aload_n (pc := 29) hO 0 nd_UQ_move_29 rfl rfl ?_
  refine zl_getS (pc := 30) hO nd_UQ_move_30 kf_UQ_16 rfl b_p rfl ?_
  refine zl_iload_n (pc := 33) hO 1 nd_UQ_move_33 rfl rfl ?_
  obtain ⟨c_in34, h⟩ := ck_use h
  refine zl_iald (pc := 34) hO nd_UQ_move_34 rfl rfl b_p c_in34 ?_
  obtain ⟨c_in35, h⟩ := ck_use h
  refine zl_iast (pc := 35) hO nd_UQ_move_35 rfl rfl b_p c_in35 ?_
  obtain ⟨s3, e_s3, h⟩ := lt_use h
  refine zl_sg e_s3 ?_
  exact zl_vret (pc := 36) hO nd_UQ_move_36 rfl (zr_v h)
set_option maxHeartbeats 4000000 in
set_option maxRecDepth 100000 in
theorem c_UQ_removeOldest {l : Launch} {V : zG} (hJ : zJ0 (sC l V)) {s0 : zS} {p : Nat} (b_p : p < 4) {s1 : zS} (h : k_UQ_removeOldest s0 p = some s1) : zM (sC l V) md_UQ_removeOldest [zR 19 p] s0 (s1, none) := by
  refine zMet [some (zR 19 p), none] hJ (by decide) rfl (Nat.le_of_ble_eq_true rfl) rfl ?_
  intro X hO
  have J_2 : ∀ (n : Nat), ∀ (s0 : zS) (l1 : Int32), k_UQ_removeOldest_2 p n s0 l1 = some s1 → ZW (sC l V) md_UQ_removeOldest (s1, none) X 2 [some (zR 19 p), some (zI l1)] [] s0 := by
    intro n
    induction n with
    | zero => intro s0 l1 h; exact absurd h (by rw [k_UQ_removeOldest_2]; exact fun w => nomatch w)
    | succ n ih =>
      intro s0 l1 h
      rw [k_UQ_removeOldest_2]  at h
      refine zl_iload_n (pc := 2) hO 1 nd_UQ_removeOldest_2 rfl rfl ?_
      refine zl_aload_n (pc := 3) hO 0 nd_UQ_removeOldest_3 rfl rfl ?_
      refine zl_geti (pc := 4) hO nd_UQ_removeOldest_4 kf_UQ_19 rfl b_p rfl ?_
      refine zl_icmp_ge (pc := 7) hO 24 nd_UQ_removeOldest_7 (by decide) (fun hc => ?_) (fun hc => ?_)
      · have h := ite_t hc h
        refine zl_aload_n (pc := 24) hO 0 nd_UQ_removeOldest_24 rfl rfl ?_
        refine zl_aload_n (pc := 25) hO 0 nd_UQ_removeOldest_25 rfl rfl ?_
        refine zl_geti (pc := 26) hO nd_UQ_removeOldest_26 kf_UQ_19 rfl b_p rfl ?_
        refine zl_iconst (pc := 29) hO (v := 1) nd_UQ_removeOldest_29 (by decide) ?_
        refine zl_isub (pc := 30) hO nd_UQ_removeOldest_30 ?_
        refine zl_iconst (pc := 31) hO (v := 0) nd_UQ_removeOldest_31 (by decide) ?_
        refine zl_mmax (pc := 32) hO nd_UQ_removeOldest_32 km_UQ_27 km_max_st km_ini km_max_code (by decide) (Nat.le_of_ble_eq_true rfl) ?_
        refine zl_puti (pc := 35) hO nd_UQ_removeOldest_35 kp_UQ_19 rfl b_p rfl ?_
        obtain ⟨s1, e_s1, h⟩ := lt_use h
        refine zl_sg e_s1 ?_
        exact zl_vret (pc := 38) hO nd_UQ_removeOldest_38 rfl (zr_v h)
      · have h := ite_f hc h
        refine zl_aload_n (pc := 10) hO 0 nd_UQ_removeOldest_10 rfl rfl ?_
        refine zl_iload_n (pc := 11) hO 1 nd_UQ_removeOldest_11 rfl rfl ?_
        refine zl_iload_n (pc := 12) hO 1 nd_UQ_removeOldest_12 rfl rfl ?_
        refine zl_iconst (pc := 13) hO (v := 1) nd_UQ_removeOldest_13 (by decide) ?_
        refine zl_isub (pc := 14) hO nd_UQ_removeOldest_14 ?_
        obtain ⟨s2, h_15, h⟩ := bn_use h
        refine zl_callVv (pc := 15) hO [zI l1, zI (l1 - (1 : Int32))] [] (c_UQ_move hJ b_p h_15) nd_UQ_removeOldest_15 kv_UQ_23 rfl b_p rfl rfl rfl (Nat.le_of_ble_eq_true rfl) ?_
        obtain ⟨x3, e_x3, h⟩ := lt_use h
        refine zl_iinc (pc := 18) hO (L' := [some (zR 19 p), some (zI x3)]) nd_UQ_removeOldest_18 rfl e_x3.symm (by decide) rfl ?_
        refine zl_goto (pc := 21) hO 2 nd_UQ_removeOldest_21 (by decide) ?_
        exact zl_weak (ih _ _ h) ⟨rfl, ⟨rfl, trivial⟩⟩
  unfold k_UQ_removeOldest at h
  refine zl_iconst (pc := 0) hO (v := 1) nd_UQ_removeOldest_0 (by decide) ?_
  refine zl_istore_n (pc := 1) hO 1 (L' := [some (zR 19 p), some (zI 1)]) nd_UQ_removeOldest_1 rfl (by decide) rfl ?_
  exact zl_weak (J_2 FU _ _ h) ⟨rfl, ⟨rfl, trivial⟩⟩
set_option maxHeartbeats 4000000 in
set_option maxRecDepth 100000 in
theorem c_Ke_waitForUpcall {l : Launch} {V : zG} (hJ : zJ0 (sC l V)) {s0 : zS} {a1 : Nat} (b_a1 : a1 < 4) {s1 : zS} (h : k_Ke_waitForUpcall s0 a1 = some s1) : zM (sC l V) md_Ke_waitForUpcall [zR 8 0, zR 11 a1] s0 (s1, none) := by
  refine zMet [some (zR 8 0), some (zR 11 a1), none, none, none, none] hJ (by decide) rfl (Nat.le_of_ble_eq_true rfl) rfl ?_
  intro X hO
  unfold k_Ke_waitForUpcall at h
  refine zl_aload_n (pc := 0) hO 1 nd_Ke_waitForUpcall_0 rfl rfl ?_
  refine zl_getS (pc := 1) hO nd_Ke_waitForUpcall_1 kf_Ke_45 rfl b_a1 rfl ?_
  refine zl_getS (pc := 4) hO nd_Ke_waitForUpcall_4 kf_Ke_71 rfl b_a1 rfl ?_
  refine zl_astore_n (pc := 7) hO 2 (L' := [some (zR 8 0), some (zR 11 a1), some (zR 19 a1), none, none, none]) nd_Ke_waitForUpcall_7 rfl (by decide) rfl ?_
  refine zl_aload_n (pc := 8) hO 1 nd_Ke_waitForUpcall_8 rfl rfl ?_
  refine zl_iconst (pc := 9) hO (v := 1) nd_Ke_waitForUpcall_9 (by decide) ?_
  refine zl_puti (pc := 10) hO nd_Ke_waitForUpcall_10 kp_Ke_75 rfl b_a1 rfl ?_
  obtain ⟨s1, e_s1, h⟩ := lt_use h
  refine zl_sg e_s1 ?_
  refine zl_aload_n (pc := 13) hO 2 nd_Ke_waitForUpcall_13 rfl rfl ?_
  refine zl_geti (pc := 14) hO nd_Ke_waitForUpcall_14 kf_Ke_78 rfl b_a1 rfl ?_
  refine zl_if_le (pc := 17) hO 57 nd_Ke_waitForUpcall_17 (by decide) (fun hc => ?_) (fun hc => ?_)
  · have h := ite_t hc h
    exact zl_vret (pc := 57) hO nd_Ke_waitForUpcall_57 rfl (zr_v h)
  · have h := ite_f hc h
    refine zl_aload_n (pc := 20) hO 2 nd_Ke_waitForUpcall_20 rfl rfl ?_
    refine zl_getS (pc := 21) hO nd_Ke_waitForUpcall_21 kf_Ke_83 rfl b_a1 rfl ?_
    refine zl_iconst (pc := 24) hO (v := 0) nd_Ke_waitForUpcall_24 (by decide) ?_
    obtain ⟨c_in25, h⟩ := ck_use h
    refine zl_iald (pc := 25) hO nd_Ke_waitForUpcall_25 rfl rfl b_a1 c_in25 ?_
    obtain ⟨x2, e_x2, h⟩ := lt_use h
    refine zl_top e_x2 ?_
    refine zl_istore_n (pc := 26) hO 3 (L' := [some (zR 8 0), some (zR 11 a1), some (zR 19 a1), some (zI x2), none, none]) nd_Ke_waitForUpcall_26 rfl (by decide) rfl ?_
    refine zl_aload_n (pc := 27) hO 2 nd_Ke_waitForUpcall_27 rfl rfl ?_
    refine zl_getS (pc := 28) hO nd_Ke_waitForUpcall_28 kf_Ke_86 rfl b_a1 rfl ?_
    refine zl_iconst (pc := 31) hO (v := 0) nd_Ke_waitForUpcall_31 (by decide) ?_
    obtain ⟨c_in32, h⟩ := ck_use h
    refine zl_iald (pc := 32) hO nd_Ke_waitForUpcall_32 rfl rfl b_a1 c_in32 ?_
    obtain ⟨x3, e_x3, h⟩ := lt_use h
    refine zl_top e_x3 ?_
    refine zl_istore (pc := 33) hO (L' := [some (zR 8 0), some (zR 11 a1), some (zR 19 a1), some (zI x2), some (zI x3), none]) nd_Ke_waitForUpcall_33 (by decide) rfl ?_
    refine zl_aload_n (pc := 35) hO 2 nd_Ke_waitForUpcall_35 rfl rfl ?_
    refine zl_getS (pc := 36) hO nd_Ke_waitForUpcall_36 kf_Ke_89 rfl b_a1 rfl ?_
    refine zl_iconst (pc := 39) hO (v := 0) nd_Ke_waitForUpcall_39 (by decide) ?_
    obtain ⟨c_in40, h⟩ := ck_use h
    refine zl_iald (pc := 40) hO nd_Ke_waitForUpcall_40 rfl rfl b_a1 c_in40 ?_
    obtain ⟨x4, e_x4, h⟩ := lt_use h
    refine zl_top e_x4 ?_
    refine zl_istore (pc := 41) hO (L' := [some (zR 8 0), some (zR 11 a1), some (zR 19 a1), some (zI x2), some (zI x3), some (zI x4)]) nd_Ke_waitForUpcall_41 (by decide) rfl ?_
    refine zl_aload_n (pc := 43) hO 2 nd_Ke_waitForUpcall_43 rfl rfl ?_
    obtain ⟨s5, h_44, h⟩ := bn_use h
    refine zl_callVv (pc := 44) hO [] [] (c_UQ_removeOldest hJ b_a1 h_44) nd_Ke_waitForUpcall_44 kv_Ke_92 rfl b_a1 rfl rfl rfl (Nat.le_of_ble_eq_true rfl) ?_
    refine zl_aload_n (pc := 47) hO 0 nd_Ke_waitForUpcall_47 rfl rfl ?_
    refine zl_aload_n (pc := 48) hO 1 nd_Ke_waitForUpcall_48 rfl rfl ?_
    refine zl_iload_n (pc := 49) hO 3 nd_Ke_waitForUpcall_49 rfl rfl ?_
    refine zl_iload (pc := 50) hO nd_Ke_waitForUpcall_50 rfl ?_
    refine zl_iload (pc := 52) hO nd_Ke_waitForUpcall_52 rfl ?_
    obtain ⟨s6, h_54, h⟩ := bn_use h
    refine zl_callVv (pc := 54) hO [zR 11 a1, zI x2, zI x3, zI x4] [] (c_Ke_upcall hJ b_a1 h_54) nd_Ke_waitForUpcall_54 kv_Ke_67 rfl (Nat.le_of_ble_eq_true rfl) rfl rfl rfl (Nat.le_of_ble_eq_true rfl) ?_
    exact zl_vret (pc := 57) hO nd_Ke_waitForUpcall_57 rfl (zr_v h)
set_option maxHeartbeats 4000000 in
set_option maxRecDepth 100000 in
theorem c_BP_openWordsBefore {l : Launch} {V : zG} (hJ : zJ0 (sC l V)) {s0 : zS} {p : Nat} {a1 : Int32} (b_p : p < 4) {s1 : zS} {v1 : Int32} (h : k_BP_openWordsBefore s0 p a1 = some (s1, v1)) : zM (sC l V) md_BP_openWordsBefore [zR 11 p, zI a1] s0 (s1, some (zI v1)) := by
  refine zMet [some (zR 11 p), some (zI a1)] hJ (by decide) rfl (Nat.le_of_ble_eq_true rfl) rfl ?_
  intro X hO
  unfold k_BP_openWordsBefore at h
  refine zl_aload_n (pc := 0) hO 0 nd_BP_openWordsBefore_0 rfl rfl ?_
  refine zl_geti (pc := 1) hO nd_BP_openWordsBefore_1 kf_BP_33 rfl b_p rfl ?_
  refine zl_iload_n (pc := 4) hO 1 nd_BP_openWordsBefore_4 rfl rfl ?_
  refine zl_isub (pc := 5) hO nd_BP_openWordsBefore_5 ?_
  refine zl_aload_n (pc := 6) hO 0 nd_BP_openWordsBefore_6 rfl rfl ?_
  refine zl_geti (pc := 7) hO nd_BP_openWordsBefore_7 kf_BP_33 rfl b_p rfl ?_
  refine zl_iconst (pc := 10) hO (v := 3) nd_BP_openWordsBefore_10 (by decide) ?_
  refine zl_ishr (pc := 11) hO nd_BP_openWordsBefore_11 ?_
  refine zl_ineg (pc := 12) hO nd_BP_openWordsBefore_12 ?_
  refine zl_iand (pc := 13) hO nd_BP_openWordsBefore_13 ?_
  exact zl_iret (pc := 14) hO nd_BP_openWordsBefore_14 rfl (zr_i h)
set_option maxHeartbeats 4000000 in
set_option maxRecDepth 100000 in
theorem c_No_buffersEndBy {l : Launch} {V : zG} (hJ : zJ0 (sC l V)) {s0 : zS} {p : Nat} {a1 : Int32} (b_p : p < 4) {s1 : zS} {v1 : Int32} (h : k_No_buffersEndBy s0 p a1 = some (s1, v1)) : zM (sC l V) md_No_buffersEndBy [zR 13 p, zI a1] s0 (s1, some (zI v1)) := by
  refine zMet [some (zR 13 p), some (zI a1), none, none] hJ (by decide) rfl (Nat.le_of_ble_eq_true rfl) rfl ?_
  intro X hO
  have J_34 : ∀ (K2 : zS → Int32 → Option (zS × Int32)) (hK2 : ∀ (s0 : zS) (l2 : Int32), K2 s0 l2 = some (s1, v1) → ZW (sC l V) md_No_buffersEndBy (s1, some (zI v1)) X 2 [some (zR 13 p), some (zI a1), some (zI l2), none] [] s0), ∀ (s0 : zS) (l2 : Int32), k_No_buffersEndBy_34 p a1 K2 s0 l2 = some (s1, v1) → ZW (sC l V) md_No_buffersEndBy (s1, some (zI v1)) X 34 [some (zR 13 p), some (zI a1), some (zI l2), none] [] s0 := by
    intro K2 hK2
    intro s0 l2 h
    unfold k_No_buffersEndBy_34 at h
    obtain ⟨x2, e_x2, h⟩ := lt_use h
    refine zl_iinc (pc := 34) hO (L' := [some (zR 13 p), some (zI a1), some (zI x2), none]) nd_No_buffersEndBy_34 rfl e_x2.symm (by decide) rfl ?_
    refine zl_goto (pc := 37) hO 2 nd_No_buffersEndBy_37 (by decide) ?_
    exact zl_weak (hK2 _ _ h) ⟨rfl, ⟨rfl, ⟨rfl, trivial⟩⟩⟩
  have J_2 : ∀ (n : Nat), ∀ (s0 : zS) (l2 : Int32), k_No_buffersEndBy_2 p a1 n s0 l2 = some (s1, v1) → ZW (sC l V) md_No_buffersEndBy (s1, some (zI v1)) X 2 [some (zR 13 p), some (zI a1), some (zI l2), none] [] s0 := by
    intro n
    induction n with
    | zero => intro s0 l2 h; exact absurd h (by rw [k_No_buffersEndBy_2]; exact fun w => nomatch w)
    | succ n ih =>
      intro s0 l2 h
      rw [k_No_buffersEndBy_2]  at h
      refine zl_iload_n (pc := 2) hO 2 nd_No_buffersEndBy_2 rfl rfl ?_
      refine zl_iconst (pc := 3) hO (v := 3) nd_No_buffersEndBy_3 (by decide) ?_
      refine zl_icmp_ge (pc := 4) hO 40 nd_No_buffersEndBy_4 (by decide) (fun hc => ?_) (fun hc => ?_)
      · have h := ite_t hc h
        refine zl_iconst (pc := 40) hO (v := 1) nd_No_buffersEndBy_40 (by decide) ?_
        exact zl_zret (pc := 41) hO nd_No_buffersEndBy_41 rfl (by decide) (zr_i h)
      · have h := ite_f hc h
        refine zl_aload_n (pc := 7) hO 0 nd_No_buffersEndBy_7 rfl rfl ?_
        refine zl_getS (pc := 8) hO nd_No_buffersEndBy_8 kf_No_24 rfl b_p rfl ?_
        refine zl_iload_n (pc := 11) hO 2 nd_No_buffersEndBy_11 rfl rfl ?_
        obtain ⟨c_in12, h⟩ := ck_use h
        refine zl_iald (pc := 12) hO nd_No_buffersEndBy_12 rfl rfl b_p c_in12 ?_
        obtain ⟨x1, e_x1, h⟩ := lt_use h
        refine zl_top e_x1 ?_
        refine zl_istore_n (pc := 13) hO 3 (L' := [some (zR 13 p), some (zI a1), some (zI l2), some (zI x1)]) nd_No_buffersEndBy_13 rfl (by decide) rfl ?_
        refine zl_iload_n (pc := 14) hO 3 nd_No_buffersEndBy_14 rfl rfl ?_
        refine zl_if_le (pc := 15) hO 34 nd_No_buffersEndBy_15 (by decide) (fun hc => ?_) (fun hc => ?_)
        · have h := ite_t hc h
          exact zl_weak (J_34 (k_No_buffersEndBy_2 p a1 n) ih _ _ h) ⟨rfl, ⟨rfl, ⟨rfl, trivial⟩⟩⟩
        · have h := ite_f hc h
          refine zl_aload_n (pc := 18) hO 0 nd_No_buffersEndBy_18 rfl rfl ?_
          refine zl_getS (pc := 19) hO nd_No_buffersEndBy_19 kf_No_21 rfl b_p rfl ?_
          refine zl_iload_n (pc := 22) hO 2 nd_No_buffersEndBy_22 rfl rfl ?_
          obtain ⟨c_in23, h⟩ := ck_use h
          refine zl_iald (pc := 23) hO nd_No_buffersEndBy_23 rfl rfl b_p c_in23 ?_
          refine zl_iconst (pc := 24) hO (v := 4) nd_No_buffersEndBy_24 (by decide) ?_
          refine zl_iload_n (pc := 25) hO 3 nd_No_buffersEndBy_25 rfl rfl ?_
          refine zl_imul (pc := 26) hO nd_No_buffersEndBy_26 ?_
          refine zl_iadd (pc := 27) hO nd_No_buffersEndBy_27 ?_
          refine zl_iload_n (pc := 28) hO 1 nd_No_buffersEndBy_28 rfl rfl ?_
          refine zl_icmp_le (pc := 29) hO 34 nd_No_buffersEndBy_29 (by decide) (fun hc => ?_) (fun hc => ?_)
          · have h := ite_t hc h
            exact zl_weak (J_34 (k_No_buffersEndBy_2 p a1 n) ih _ _ h) ⟨rfl, ⟨rfl, ⟨rfl, trivial⟩⟩⟩
          · have h := ite_f hc h
            refine zl_iconst (pc := 32) hO (v := 0) nd_No_buffersEndBy_32 (by decide) ?_
            exact zl_zret (pc := 33) hO nd_No_buffersEndBy_33 rfl (by decide) (zr_i h)
  unfold k_No_buffersEndBy at h
  refine zl_iconst (pc := 0) hO (v := 0) nd_No_buffersEndBy_0 (by decide) ?_
  refine zl_istore_n (pc := 1) hO 2 (L' := [some (zR 13 p), some (zI a1), some (zI 0), none]) nd_No_buffersEndBy_1 rfl (by decide) rfl ?_
  exact zl_weak (J_2 FU _ _ h) ⟨rfl, ⟨rfl, ⟨rfl, trivial⟩⟩⟩
set_option maxHeartbeats 4000000 in
set_option maxRecDepth 100000 in
theorem c_Ke_makeGrant {l : Launch} {V : zG} (hJ : zJ0 (sC l V)) {s0 : zS} {a1 : Nat} {a2 : Int32} (b_a1 : a1 < 4) {s1 : zS} {v1 : Int32} (h : k_Ke_makeGrant s0 a1 a2 = some (s1, v1)) : zM (sC l V) md_Ke_makeGrant [zR 8 0, zR 11 a1, zI a2] s0 (s1, some (zI v1)) := by
  refine zMet [some (zR 8 0), some (zR 11 a1), some (zI a2), none, none, none, none] hJ (by decide) rfl (Nat.le_of_ble_eq_true rfl) rfl ?_
  intro X hO
  unfold k_Ke_makeGrant at h
  refine zl_aload_n (pc := 0) hO 1 nd_Ke_makeGrant_0 rfl rfl ?_
  refine zl_getS (pc := 1) hO nd_Ke_makeGrant_1 kf_Ke_45 rfl b_a1 rfl ?_
  refine zl_astore_n (pc := 4) hO 3 (L' := [some (zR 8 0), some (zR 11 a1), some (zI a2), some (zR 13 a1), none, none, none]) nd_Ke_makeGrant_4 rfl (by decide) rfl ?_
  refine zl_aload_n (pc := 5) hO 3 nd_Ke_makeGrant_5 rfl rfl ?_
  refine zl_geti (pc := 6) hO nd_Ke_makeGrant_6 kf_Ke_123 rfl b_a1 rfl ?_
  refine zl_iconst (pc := 9) hO (v := 2) nd_Ke_makeGrant_9 (by decide) ?_
  refine zl_iadd (pc := 10) hO nd_Ke_makeGrant_10 ?_
  obtain ⟨x1, e_x1, h⟩ := lt_use h
  refine zl_top e_x1 ?_
  refine zl_istore (pc := 11) hO (L' := [some (zR 8 0), some (zR 11 a1), some (zI a2), some (zR 13 a1), some (zI x1), none, none]) nd_Ke_makeGrant_11 (by decide) rfl ?_
  refine zl_aload_n (pc := 13) hO 1 nd_Ke_makeGrant_13 rfl rfl ?_
  refine zl_iload (pc := 14) hO nd_Ke_makeGrant_14 rfl ?_
  obtain ⟨⟨s2, r3⟩, h_16, h⟩ := bn_use h
  refine zl_callVi (pc := 16) hO [zI x1] [] (c_BP_openWordsBefore hJ b_a1 h_16) nd_Ke_makeGrant_16 kv_Ke_126 rfl b_a1 rfl rfl rfl (Nat.le_of_ble_eq_true rfl) ?_
  refine zl_istore (pc := 19) hO (L' := [some (zR 8 0), some (zR 11 a1), some (zI a2), some (zR 13 a1), some (zI x1), some (zI r3), none]) nd_Ke_makeGrant_19 (by decide) rfl ?_
  refine zl_iload (pc := 21) hO nd_Ke_makeGrant_21 rfl ?_
  refine zl_aload_n (pc := 23) hO 1 nd_Ke_makeGrant_23 rfl rfl ?_
  refine zl_geti (pc := 24) hO nd_Ke_makeGrant_24 kf_Ke_129 rfl b_a1 rfl ?_
  refine zl_icmp_lt (pc := 27) hO 46 nd_Ke_makeGrant_27 (by decide) (fun hc => ?_) (fun hc => ?_)
  · have h := ite_t hc h
    refine zl_iconst (pc := 46) hO (v := 0) nd_Ke_makeGrant_46 (by decide) ?_
    exact zl_zret (pc := 47) hO nd_Ke_makeGrant_47 rfl (by decide) (zr_i h)
  · have h := ite_f hc h
    refine zl_aload_n (pc := 30) hO 3 nd_Ke_makeGrant_30 rfl rfl ?_
    refine zl_aload_n (pc := 31) hO 1 nd_Ke_makeGrant_31 rfl rfl ?_
    refine zl_geti (pc := 32) hO nd_Ke_makeGrant_32 kf_Ke_132 rfl b_a1 rfl ?_
    refine zl_iconst (pc := 35) hO (v := 4) nd_Ke_makeGrant_35 (by decide) ?_
    refine zl_iload (pc := 36) hO nd_Ke_makeGrant_36 rfl ?_
    refine zl_imul (pc := 38) hO nd_Ke_makeGrant_38 ?_
    refine zl_iadd (pc := 39) hO nd_Ke_makeGrant_39 ?_
    obtain ⟨⟨s4, r5⟩, h_40, h⟩ := bn_use h
    refine zl_callVi (pc := 40) hO [zI ((s2 11 a1 5) + ((4 : Int32) * r3))] [] (c_No_buffersEndBy hJ b_a1 h_40) nd_Ke_makeGrant_40 kv_Ke_135 rfl b_a1 rfl rfl rfl (Nat.le_of_ble_eq_true rfl) ?_
    refine zl_if_ne (pc := 43) hO 48 nd_Ke_makeGrant_43 (by decide) (fun hc => ?_) (fun hc => ?_)
    · have h := ite_f hc h
      refine zl_aload_n (pc := 48) hO 1 nd_Ke_makeGrant_48 rfl rfl ?_
      refine zl_geti (pc := 49) hO nd_Ke_makeGrant_49 kf_Ke_132 rfl b_a1 rfl ?_
      refine zl_iconst (pc := 52) hO (v := 4) nd_Ke_makeGrant_52 (by decide) ?_
      refine zl_aload_n (pc := 53) hO 1 nd_Ke_makeGrant_53 rfl rfl ?_
      refine zl_geti (pc := 54) hO nd_Ke_makeGrant_54 kf_Ke_138 rfl b_a1 rfl ?_
      refine zl_iload (pc := 57) hO nd_Ke_makeGrant_57 rfl ?_
      refine zl_isub (pc := 59) hO nd_Ke_makeGrant_59 ?_
      refine zl_imul (pc := 60) hO nd_Ke_makeGrant_60 ?_
      refine zl_iadd (pc := 61) hO nd_Ke_makeGrant_61 ?_
      obtain ⟨x6, e_x6, h⟩ := lt_use h
      refine zl_top e_x6 ?_
      refine zl_istore (pc := 62) hO (L' := [some (zR 8 0), some (zR 11 a1), some (zI a2), some (zR 13 a1), some (zI x1), some (zI r3), some (zI x6)]) nd_Ke_makeGrant_62 (by decide) rfl ?_
      refine zl_aload_n (pc := 64) hO 1 nd_Ke_makeGrant_64 rfl rfl ?_
      refine zl_iload (pc := 65) hO nd_Ke_makeGrant_65 rfl ?_
      refine zl_puti (pc := 67) hO nd_Ke_makeGrant_67 kp_Ke_141 rfl b_a1 rfl ?_
      obtain ⟨s7, e_s7, h⟩ := lt_use h
      refine zl_sg e_s7 ?_
      refine zl_aload_n (pc := 70) hO 3 nd_Ke_makeGrant_70 rfl rfl ?_
      refine zl_iload (pc := 71) hO nd_Ke_makeGrant_71 rfl ?_
      refine zl_puti (pc := 73) hO nd_Ke_makeGrant_73 kp_Ke_123 rfl b_a1 rfl ?_
      obtain ⟨s8, e_s8, h⟩ := lt_use h
      refine zl_sg e_s8 ?_
      refine zl_aload_n (pc := 76) hO 3 nd_Ke_makeGrant_76 rfl rfl ?_
      refine zl_getS (pc := 77) hO nd_Ke_makeGrant_77 kf_Ke_51 rfl b_a1 rfl ?_
      refine zl_iload_n (pc := 80) hO 2 nd_Ke_makeGrant_80 rfl rfl ?_
      refine zl_iload (pc := 81) hO nd_Ke_makeGrant_81 rfl ?_
      obtain ⟨c_in83, h⟩ := ck_use h
      refine zl_iast (pc := 83) hO nd_Ke_makeGrant_83 rfl rfl b_a1 c_in83 ?_
      obtain ⟨s9, e_s9, h⟩ := lt_use h
      refine zl_sg e_s9 ?_
      refine zl_aload_n (pc := 84) hO 0 nd_Ke_makeGrant_84 rfl rfl ?_
      refine zl_get0 (pc := 85) hO nd_Ke_makeGrant_85 kf_Ke_9 rfl (Nat.le_of_ble_eq_true rfl) rfl ?_
      refine zl_iload (pc := 88) hO nd_Ke_makeGrant_88 rfl ?_
      refine zl_iconst (pc := 90) hO (v := 2) nd_Ke_makeGrant_90 (by decide) ?_
      obtain ⟨s10, h_91, h⟩ := bn_use h
      refine zl_callVv (pc := 91) hO [zI x6, zI 2] [] (c_Me_clearRam hJ h_91) nd_Ke_makeGrant_91 kv_Ke_144 rfl (Nat.le_of_ble_eq_true rfl) rfl rfl rfl (Nat.le_of_ble_eq_true rfl) ?_
      refine zl_iconst (pc := 94) hO (v := 1) nd_Ke_makeGrant_94 (by decide) ?_
      exact zl_zret (pc := 95) hO nd_Ke_makeGrant_95 rfl (by decide) (zr_i h)
    · have h := ite_t hc h
      refine zl_iconst (pc := 46) hO (v := 0) nd_Ke_makeGrant_46 (by decide) ?_
      exact zl_zret (pc := 47) hO nd_Ke_makeGrant_47 rfl (by decide) (zr_i h)
set_option maxHeartbeats 4000000 in
set_option maxRecDepth 100000 in
theorem c_UQ_removeDriver {l : Launch} {V : zG} (hJ : zJ0 (sC l V)) {s0 : zS} {p : Nat} {a1 : Int32} (b_p : p < 4) {s1 : zS} (h : k_UQ_removeDriver s0 p a1 = some s1) : zM (sC l V) md_UQ_removeDriver [zR 19 p, zI a1] s0 (s1, none) := by
  refine zMet [some (zR 19 p), some (zI a1), none, none] hJ (by decide) rfl (Nat.le_of_ble_eq_true rfl) rfl ?_
  intro X hO
  have J_31 : ∀ (K4 : zS → Int32 → Int32 → Option (zS)) (hK4 : ∀ (s0 : zS) (l2 : Int32) (l3 : Int32), K4 s0 l2 l3 = some s1 → ZW (sC l V) md_UQ_removeDriver (s1, none) X 4 [some (zR 19 p), some (zI a1), some (zI l2), some (zI l3)] [] s0), ∀ (s0 : zS) (l2 : Int32) (l3 : Int32), k_UQ_removeDriver_31 p a1 K4 s0 l2 l3 = some s1 → ZW (sC l V) md_UQ_removeDriver (s1, none) X 31 [some (zR 19 p), some (zI a1), some (zI l2), some (zI l3)] [] s0 := by
    intro K4 hK4
    intro s0 l2 l3 h
    unfold k_UQ_removeDriver_31 at h
    obtain ⟨x4, e_x4, h⟩ := lt_use h
    refine zl_iinc (pc := 31) hO (L' := [some (zR 19 p), some (zI a1), some (zI l2), some (zI x4)]) nd_UQ_removeDriver_31 rfl e_x4.symm (by decide) rfl ?_
    refine zl_goto (pc := 34) hO 4 nd_UQ_removeDriver_34 (by decide) ?_
    exact zl_weak (hK4 _ _ _ h) ⟨rfl, ⟨rfl, ⟨rfl, ⟨rfl, trivial⟩⟩⟩⟩
  have J_4 : ∀ (n : Nat), ∀ (s0 : zS) (l2 : Int32) (l3 : Int32), k_UQ_removeDriver_4 p a1 n s0 l2 l3 = some s1 → ZW (sC l V) md_UQ_removeDriver (s1, none) X 4 [some (zR 19 p), some (zI a1), some (zI l2), some (zI l3)] [] s0 := by
    intro n
    induction n with
    | zero => intro s0 l2 l3 h; exact absurd h (by rw [k_UQ_removeDriver_4]; exact fun w => nomatch w)
    | succ n ih =>
      intro s0 l2 l3 h
      rw [k_UQ_removeDriver_4]  at h
      refine zl_iload_n (pc := 4) hO 3 nd_UQ_removeDriver_4 rfl rfl ?_
      refine zl_aload_n (pc := 5) hO 0 nd_UQ_removeDriver_5 rfl rfl ?_
      refine zl_geti (pc := 6) hO nd_UQ_removeDriver_6 kf_UQ_19 rfl b_p rfl ?_
      refine zl_icmp_ge (pc := 9) hO 37 nd_UQ_removeDriver_9 (by decide) (fun hc => ?_) (fun hc => ?_)
      · have h := ite_t hc h
        refine zl_aload_n (pc := 37) hO 0 nd_UQ_removeDriver_37 rfl rfl ?_
        refine zl_iload_n (pc := 38) hO 2 nd_UQ_removeDriver_38 rfl rfl ?_
        refine zl_puti (pc := 39) hO nd_UQ_removeDriver_39 kp_UQ_19 rfl b_p rfl ?_
        obtain ⟨s1, e_s1, h⟩ := lt_use h
        refine zl_sg e_s1 ?_
        exact zl_vret (pc := 42) hO nd_UQ_removeDriver_42 rfl (zr_v h)
      · have h := ite_f hc h
        refine zl_aload_n (pc := 12) hO 0 nd_UQ_removeDriver_12 rfl rfl ?_
        refine zl_getS (pc := 13) hO nd_UQ_removeDriver_13 kf_UQ_9 rfl b_p rfl ?_
        refine zl_iload_n (pc := 16) hO 3 nd_UQ_removeDriver_16 rfl rfl ?_
        obtain ⟨c_in17, h⟩ := ck_use h
        refine zl_iald (pc := 17) hO nd_UQ_removeDriver_17 rfl rfl b_p c_in17 ?_
        refine zl_iload_n (pc := 18) hO 1 nd_UQ_removeDriver_18 rfl rfl ?_
        refine zl_icmp_eq (pc := 19) hO 31 nd_UQ_removeDriver_19 (by decide) (fun hc => ?_) (fun hc => ?_)
        · have h := ite_t hc h
          exact zl_weak (J_31 (k_UQ_removeDriver_4 p a1 n) ih _ _ _ h) ⟨rfl, ⟨rfl, ⟨rfl, ⟨rfl, trivial⟩⟩⟩⟩
        · have h := ite_f hc h
          refine zl_aload_n (pc := 22) hO 0 nd_UQ_removeDriver_22 rfl rfl ?_
          refine zl_iload_n (pc := 23) hO 3 nd_UQ_removeDriver_23 rfl rfl ?_
          refine zl_iload_n (pc := 24) hO 2 nd_UQ_removeDriver_24 rfl rfl ?_
          obtain ⟨s2, h_25, h⟩ := bn_use h
          refine zl_callVv (pc := 25) hO [zI l3, zI l2] [] (c_UQ_move hJ b_p h_25) nd_UQ_removeDriver_25 kv_UQ_23 rfl b_p rfl rfl rfl (Nat.le_of_ble_eq_true rfl) ?_
          obtain ⟨x3, e_x3, h⟩ := lt_use h
          refine zl_iinc (pc := 28) hO (L' := [some (zR 19 p), some (zI a1), some (zI x3), some (zI l3)]) nd_UQ_removeDriver_28 rfl e_x3.symm (by decide) rfl ?_
          exact zl_weak (J_31 (k_UQ_removeDriver_4 p a1 n) ih _ _ _ h) ⟨rfl, ⟨rfl, ⟨rfl, ⟨rfl, trivial⟩⟩⟩⟩
  unfold k_UQ_removeDriver at h
  refine zl_iconst (pc := 0) hO (v := 0) nd_UQ_removeDriver_0 (by decide) ?_
  refine zl_istore_n (pc := 1) hO 2 (L' := [some (zR 19 p), some (zI a1), some (zI 0), none]) nd_UQ_removeDriver_1 rfl (by decide) rfl ?_
  refine zl_iconst (pc := 2) hO (v := 0) nd_UQ_removeDriver_2 (by decide) ?_
  refine zl_istore_n (pc := 3) hO 3 (L' := [some (zR 19 p), some (zI a1), some (zI 0), some (zI 0)]) nd_UQ_removeDriver_3 rfl (by decide) rfl ?_
  exact zl_weak (J_4 FU _ _ _ h) ⟨rfl, ⟨rfl, ⟨rfl, ⟨rfl, trivial⟩⟩⟩⟩
set_option maxHeartbeats 4000000 in
set_option maxRecDepth 100000 in
theorem c_Ke_subscribe {l : Launch} {V : zG} (hJ : zJ0 (sC l V)) {s0 : zS} {a1 : Nat} {a2 : Int32} {a3 : Int32} {a4 : Int32} (b_a1 : a1 < 4) {s1 : zS} {v1 : Int32} (h : k_Ke_subscribe s0 a1 a2 a3 a4 = some (s1, v1)) : zM (sC l V) md_Ke_subscribe [zR 8 0, zR 13 a1, zI a2, zI a3, zI a4] s0 (s1, some (zI v1)) := by
  refine zMet [some (zR 8 0), some (zR 13 a1), some (zI a2), some (zI a3), some (zI a4)] hJ (by decide) rfl (Nat.le_of_ble_eq_true rfl) rfl ?_
  intro X hO
  unfold k_Ke_subscribe at h
  refine zl_aload_n (pc := 0) hO 1 nd_Ke_subscribe_0 rfl rfl ?_
  refine zl_getS (pc := 1) hO nd_Ke_subscribe_1 kf_Ke_147 rfl b_a1 rfl ?_
  refine zl_iload_n (pc := 4) hO 2 nd_Ke_subscribe_4 rfl rfl ?_
  refine zl_iload_n (pc := 5) hO 3 nd_Ke_subscribe_5 rfl rfl ?_
  obtain ⟨c_in6, h⟩ := ck_use h
  refine zl_iast (pc := 6) hO nd_Ke_subscribe_6 rfl rfl b_a1 c_in6 ?_
  obtain ⟨s1, e_s1, h⟩ := lt_use h
  refine zl_sg e_s1 ?_
  refine zl_aload_n (pc := 7) hO 1 nd_Ke_subscribe_7 rfl rfl ?_
  refine zl_getS (pc := 8) hO nd_Ke_subscribe_8 kf_Ke_150 rfl b_a1 rfl ?_
  refine zl_iload_n (pc := 11) hO 2 nd_Ke_subscribe_11 rfl rfl ?_
  refine zl_iload (pc := 12) hO nd_Ke_subscribe_12 rfl ?_
  obtain ⟨c_in14, h⟩ := ck_use h
  refine zl_iast (pc := 14) hO nd_Ke_subscribe_14 rfl rfl b_a1 c_in14 ?_
  obtain ⟨s2, e_s2, h⟩ := lt_use h
  refine zl_sg e_s2 ?_
  refine zl_aload_n (pc := 15) hO 1 nd_Ke_subscribe_15 rfl rfl ?_
  refine zl_getS (pc := 16) hO nd_Ke_subscribe_16 kf_Ke_71 rfl b_a1 rfl ?_
  refine zl_iload_n (pc := 19) hO 2 nd_Ke_subscribe_19 rfl rfl ?_
  obtain ⟨s3, h_20, h⟩ := bn_use h
  refine zl_callVv (pc := 20) hO [zI a2] [] (c_UQ_removeDriver hJ b_a1 h_20) nd_Ke_subscribe_20 kv_Ke_153 rfl b_a1 rfl rfl rfl (Nat.le_of_ble_eq_true rfl) ?_
  refine zl_iconst (pc := 23) hO (v := 0) nd_Ke_subscribe_23 (by decide) ?_
  exact zl_iret (pc := 24) hO nd_Ke_subscribe_24 rfl (zr_i h)
set_option maxHeartbeats 4000000 in
set_option maxRecDepth 100000 in
theorem c_Ke_allow {l : Launch} {V : zG} (hJ : zJ0 (sC l V)) {s0 : zS} {a1 : Nat} {a2 : Int32} {a3 : Int32} {a4 : Int32} (b_a1 : a1 < 4) {s1 : zS} {v1 : Int32} (h : k_Ke_allow s0 a1 a2 a3 a4 = some (s1, v1)) : zM (sC l V) md_Ke_allow [zR 8 0, zR 11 a1, zI a2, zI a3, zI a4] s0 (s1, some (zI v1)) := by
  refine zMet [some (zR 8 0), some (zR 11 a1), some (zI a2), some (zI a3), some (zI a4), none] hJ (by decide) rfl (Nat.le_of_ble_eq_true rfl) rfl ?_
  intro X hO
  have J_41 : ∀ (s0 : zS), k_Ke_allow_41 a1 a2 a3 a4 s0 = some (s1, v1) → ZW (sC l V) md_Ke_allow (s1, some (zI v1)) X 41 [none, some (zR 11 a1), some (zI a2), some (zI a3), some (zI a4), none] [] s0 := by
    intro s0 h
    unfold k_Ke_allow_41 at h
    refine zl_aload_n (pc := 41) hO 1 nd_Ke_allow_41 rfl rfl ?_
    refine zl_getS (pc := 42) hO nd_Ke_allow_42 kf_Ke_45 rfl b_a1 rfl ?_
    refine zl_getS (pc := 45) hO nd_Ke_allow_45 kf_Ke_161 rfl b_a1 rfl ?_
    refine zl_iload_n (pc := 48) hO 2 nd_Ke_allow_48 rfl rfl ?_
    refine zl_iload_n (pc := 49) hO 3 nd_Ke_allow_49 rfl rfl ?_
    obtain ⟨c_in50, h⟩ := ck_use h
    refine zl_iast (pc := 50) hO nd_Ke_allow_50 rfl rfl b_a1 c_in50 ?_
    obtain ⟨s3, e_s3, h⟩ := lt_use h
    refine zl_sg e_s3 ?_
    refine zl_aload_n (pc := 51) hO 1 nd_Ke_allow_51 rfl rfl ?_
    refine zl_getS (pc := 52) hO nd_Ke_allow_52 kf_Ke_45 rfl b_a1 rfl ?_
    refine zl_getS (pc := 55) hO nd_Ke_allow_55 kf_Ke_164 rfl b_a1 rfl ?_
    refine zl_iload_n (pc := 58) hO 2 nd_Ke_allow_58 rfl rfl ?_
    refine zl_iload (pc := 59) hO nd_Ke_allow_59 rfl ?_
    obtain ⟨c_in61, h⟩ := ck_use h
    refine zl_iast (pc := 61) hO nd_Ke_allow_61 rfl rfl b_a1 c_in61 ?_
    obtain ⟨s4, e_s4, h⟩ := lt_use h
    refine zl_sg e_s4 ?_
    refine zl_iconst (pc := 62) hO (v := 0) nd_Ke_allow_62 (by decide) ?_
    exact zl_iret (pc := 63) hO nd_Ke_allow_63 rfl (zr_i h)
  have J_11 : ∀ (s0 : zS) (t0 : Int32), k_Ke_allow_11 a1 a2 a3 a4 s0 t0 = some (s1, v1) → ZW (sC l V) md_Ke_allow (s1, some (zI v1)) X 11 [none, some (zR 11 a1), some (zI a2), some (zI a3), some (zI a4), none] [zI t0] s0 := by
    intro s0 t0 h
    unfold k_Ke_allow_11 at h
    refine zl_istore (pc := 11) hO (L' := [none, some (zR 11 a1), some (zI a2), some (zI a3), some (zI a4), some (zI t0)]) nd_Ke_allow_11 (by decide) rfl ?_
    refine zl_iload (pc := 13) hO nd_Ke_allow_13 rfl ?_
    refine zl_if_lt (pc := 15) hO 38 nd_Ke_allow_15 (by decide) (fun hc => ?_) (fun hc => ?_)
    · have h := ite_t hc h
      refine zl_bipush (pc := 38) hO (v := (-3)) nd_Ke_allow_38 (by decide) ?_
      exact zl_iret (pc := 40) hO nd_Ke_allow_40 rfl (zr_i h)
    · have h := ite_f hc h
      refine zl_iload (pc := 18) hO nd_Ke_allow_18 rfl ?_
      refine zl_if_le (pc := 20) hO 41 nd_Ke_allow_20 (by decide) (fun hc => ?_) (fun hc => ?_)
      · have h := ite_t hc h
        exact zl_weak (J_41 _ h) ⟨rfl, ⟨rfl, ⟨rfl, ⟨rfl, trivial⟩⟩⟩⟩
      · have h := ite_f hc h
        refine zl_iload (pc := 23) hO nd_Ke_allow_23 rfl ?_
        refine zl_if_eq (pc := 25) hO 38 nd_Ke_allow_25 (by decide) (fun hc => ?_) (fun hc => ?_)
        · have h := ite_t hc h
          refine zl_bipush (pc := 38) hO (v := (-3)) nd_Ke_allow_38 (by decide) ?_
          exact zl_iret (pc := 40) hO nd_Ke_allow_40 rfl (zr_i h)
        · have h := ite_f hc h
          refine zl_aload_n (pc := 28) hO 1 nd_Ke_allow_28 rfl rfl ?_
          refine zl_iload_n (pc := 29) hO 3 nd_Ke_allow_29 rfl rfl ?_
          refine zl_iload (pc := 30) hO nd_Ke_allow_30 rfl ?_
          obtain ⟨⟨s1, r2⟩, h_32, h⟩ := bn_use h
          refine zl_callVi (pc := 32) hO [zI a3, zI a4] [] (c_BP_areOpen hJ b_a1 h_32) nd_Ke_allow_32 kv_Ke_157 rfl b_a1 rfl rfl rfl (Nat.le_of_ble_eq_true rfl) ?_
          refine zl_if_ne (pc := 35) hO 41 nd_Ke_allow_35 (by decide) (fun hc => ?_) (fun hc => ?_)
          · have h := ite_f hc h
            exact zl_weak (J_41 _ h) ⟨rfl, ⟨rfl, ⟨rfl, ⟨rfl, trivial⟩⟩⟩⟩
          · have h := ite_t hc h
            refine zl_bipush (pc := 38) hO (v := (-3)) nd_Ke_allow_38 (by decide) ?_
            exact zl_iret (pc := 40) hO nd_Ke_allow_40 rfl (zr_i h)
  unfold k_Ke_allow at h
  refine zl_iload_n (pc := 0) hO 3 nd_Ke_allow_0 rfl rfl ?_
  refine zl_iconst (pc := 1) hO (v := 3) nd_Ke_allow_1 (by decide) ?_
  refine zl_iand (pc := 2) hO nd_Ke_allow_2 ?_
  refine zl_if_ne (pc := 3) hO 10 nd_Ke_allow_3 (by decide) (fun hc => ?_) (fun hc => ?_)
  · have h := ite_f hc h
    refine zl_iconst (pc := 10) hO (v := 0) nd_Ke_allow_10 (by decide) ?_
    exact zl_weak (J_11 _ _ h) ⟨rfl, ⟨rfl, ⟨rfl, ⟨rfl, trivial⟩⟩⟩⟩
  · have h := ite_t hc h
    refine zl_iconst (pc := 6) hO (v := 1) nd_Ke_allow_6 (by decide) ?_
    refine zl_goto (pc := 7) hO 11 nd_Ke_allow_7 (by decide) ?_
    exact zl_weak (J_11 _ _ h) ⟨rfl, ⟨rfl, ⟨rfl, ⟨rfl, trivial⟩⟩⟩⟩
set_option maxHeartbeats 4000000 in
set_option maxRecDepth 100000 in
theorem c_Ke_setAlarm {l : Launch} {V : zG} (hJ : zJ0 (sC l V)) {s0 : zS} {a1 : Int32} {a2 : Int32}  {s1 : zS} {v1 : Int32} (h : k_Ke_setAlarm s0 a1 a2 = some (s1, v1)) : zM (sC l V) md_Ke_setAlarm [zR 8 0, zI a1, zI a2] s0 (s1, some (zI v1)) := by
  refine zMet [some (zR 8 0), some (zI a1), some (zI a2)] hJ (by decide) rfl (Nat.le_of_ble_eq_true rfl) rfl ?_
  intro X hO
  unfold k_Ke_setAlarm at h
  refine zl_iload_n (pc := 0) hO 2 nd_Ke_setAlarm_0 rfl rfl ?_
  refine zl_iconst (pc := 1) hO (v := 1) nd_Ke_setAlarm_1 (by decide) ?_
  refine zl_icmp_lt (pc := 2) hO 12 nd_Ke_setAlarm_2 (by decide) (fun hc => ?_) (fun hc => ?_)
  · have h := ite_t hc h
    refine zl_bipush (pc := 12) hO (v := (-3)) nd_Ke_setAlarm_12 (by decide) ?_
    exact zl_iret (pc := 14) hO nd_Ke_setAlarm_14 rfl (zr_i h)
  · have h := ite_f hc h
    refine zl_iload_n (pc := 5) hO 2 nd_Ke_setAlarm_5 rfl rfl ?_
    refine zl_sipush (pc := 6) hO (v := 1000) nd_Ke_setAlarm_6 (by decide) ?_
    refine zl_icmp_le (pc := 9) hO 15 nd_Ke_setAlarm_9 (by decide) (fun hc => ?_) (fun hc => ?_)
    · have h := ite_t hc h
      refine zl_aload_n (pc := 15) hO 0 nd_Ke_setAlarm_15 rfl rfl ?_
      refine zl_get0 (pc := 16) hO nd_Ke_setAlarm_16 kf_Ke_9 rfl (Nat.le_of_ble_eq_true rfl) rfl ?_
      refine zl_iload_n (pc := 19) hO 1 nd_Ke_setAlarm_19 rfl rfl ?_
      refine zl_iconst (pc := 20) hO (v := 1) nd_Ke_setAlarm_20 (by decide) ?_
      obtain ⟨s1, h_21, h⟩ := bn_use h
      refine zl_callVv (pc := 21) hO [zI a1, zI 1] [] (c_Me_setRamWord hJ h_21) nd_Ke_setAlarm_21 kv_Ke_63 rfl (Nat.le_of_ble_eq_true rfl) rfl rfl rfl (Nat.le_of_ble_eq_true rfl) ?_
      refine zl_aload_n (pc := 24) hO 0 nd_Ke_setAlarm_24 rfl rfl ?_
      refine zl_get0 (pc := 25) hO nd_Ke_setAlarm_25 kf_Ke_9 rfl (Nat.le_of_ble_eq_true rfl) rfl ?_
      refine zl_iload_n (pc := 28) hO 1 nd_Ke_setAlarm_28 rfl rfl ?_
      refine zl_iconst (pc := 29) hO (v := 4) nd_Ke_setAlarm_29 (by decide) ?_
      refine zl_iadd (pc := 30) hO nd_Ke_setAlarm_30 ?_
      refine zl_aload_n (pc := 31) hO 0 nd_Ke_setAlarm_31 rfl rfl ?_
      refine zl_geti (pc := 32) hO nd_Ke_setAlarm_32 kf_Ke_23 rfl (Nat.le_of_ble_eq_true rfl) rfl ?_
      refine zl_iload_n (pc := 35) hO 2 nd_Ke_setAlarm_35 rfl rfl ?_
      refine zl_iadd (pc := 36) hO nd_Ke_setAlarm_36 ?_
      obtain ⟨s2, h_37, h⟩ := bn_use h
      refine zl_callVv (pc := 37) hO [zI (a1 + (4 : Int32)), zI ((s1 8 0 3) + a2)] [] (c_Me_setRamWord hJ h_37) nd_Ke_setAlarm_37 kv_Ke_63 rfl (Nat.le_of_ble_eq_true rfl) rfl rfl rfl (Nat.le_of_ble_eq_true rfl) ?_
      refine zl_iconst (pc := 40) hO (v := 0) nd_Ke_setAlarm_40 (by decide) ?_
      exact zl_iret (pc := 41) hO nd_Ke_setAlarm_41 rfl (zr_i h)
    · have h := ite_f hc h
      refine zl_bipush (pc := 12) hO (v := (-3)) nd_Ke_setAlarm_12 (by decide) ?_
      exact zl_iret (pc := 14) hO nd_Ke_setAlarm_14 rfl (zr_i h)
set_option maxHeartbeats 4000000 in
set_option maxRecDepth 100000 in
theorem c_Ke_cancelAlarm {l : Launch} {V : zG} (hJ : zJ0 (sC l V)) {s0 : zS} {a1 : Int32}  {s1 : zS} {v1 : Int32} (h : k_Ke_cancelAlarm s0 a1 = some (s1, v1)) : zM (sC l V) md_Ke_cancelAlarm [zR 8 0, zI a1] s0 (s1, some (zI v1)) := by
  refine zMet [some (zR 8 0), some (zI a1), none] hJ (by decide) rfl (Nat.le_of_ble_eq_true rfl) rfl ?_
  intro X hO
  unfold k_Ke_cancelAlarm at h
  refine zl_aload_n (pc := 0) hO 0 nd_Ke_cancelAlarm_0 rfl rfl ?_
  refine zl_get0 (pc := 1) hO nd_Ke_cancelAlarm_1 kf_Ke_9 rfl (Nat.le_of_ble_eq_true rfl) rfl ?_
  refine zl_iload_n (pc := 4) hO 1 nd_Ke_cancelAlarm_4 rfl rfl ?_
  obtain ⟨⟨s1, r2⟩, h_5, h⟩ := bn_use h
  refine zl_callVi (pc := 5) hO [zI a1] [] (c_Me_ramWord hJ h_5) nd_Ke_cancelAlarm_5 kv_Ke_57 rfl (Nat.le_of_ble_eq_true rfl) rfl rfl rfl (Nat.le_of_ble_eq_true rfl) ?_
  refine zl_istore_n (pc := 8) hO 2 (L' := [some (zR 8 0), some (zI a1), some (zI r2)]) nd_Ke_cancelAlarm_8 rfl (by decide) rfl ?_
  refine zl_aload_n (pc := 9) hO 0 nd_Ke_cancelAlarm_9 rfl rfl ?_
  refine zl_get0 (pc := 10) hO nd_Ke_cancelAlarm_10 kf_Ke_9 rfl (Nat.le_of_ble_eq_true rfl) rfl ?_
  refine zl_iload_n (pc := 13) hO 1 nd_Ke_cancelAlarm_13 rfl rfl ?_
  refine zl_iconst (pc := 14) hO (v := 0) nd_Ke_cancelAlarm_14 (by decide) ?_
  obtain ⟨s3, h_15, h⟩ := bn_use h
  refine zl_callVv (pc := 15) hO [zI a1, zI 0] [] (c_Me_setRamWord hJ h_15) nd_Ke_cancelAlarm_15 kv_Ke_63 rfl (Nat.le_of_ble_eq_true rfl) rfl rfl rfl (Nat.le_of_ble_eq_true rfl) ?_
  refine zl_iload_n (pc := 18) hO 2 nd_Ke_cancelAlarm_18 rfl rfl ?_
  exact zl_iret (pc := 19) hO nd_Ke_cancelAlarm_19 rfl (zr_i h)
set_option maxHeartbeats 4000000 in
set_option maxRecDepth 100000 in
theorem c_Ke_commandAlarm {l : Launch} {V : zG} (hJ : zJ0 (sC l V)) {s0 : zS} {a1 : Nat} {a2 : Int32} {a3 : Int32} (b_a1 : a1 < 4) {s1 : zS} {v1 : Int32} (h : k_Ke_commandAlarm s0 a1 a2 a3 = some (s1, v1)) : zM (sC l V) md_Ke_commandAlarm [zR 8 0, zR 11 a1, zI a2, zI a3] s0 (s1, some (zI v1)) := by
  refine zMet [some (zR 8 0), some (zR 11 a1), some (zI a2), some (zI a3), none] hJ (by decide) rfl (Nat.le_of_ble_eq_true rfl) rfl ?_
  intro X hO
  unfold k_Ke_commandAlarm at h
  refine zl_aload_n (pc := 0) hO 1 nd_Ke_commandAlarm_0 rfl rfl ?_
  refine zl_getS (pc := 1) hO nd_Ke_commandAlarm_1 kf_Ke_45 rfl b_a1 rfl ?_
  refine zl_getS (pc := 4) hO nd_Ke_commandAlarm_4 kf_Ke_51 rfl b_a1 rfl ?_
  refine zl_iconst (pc := 7) hO (v := 0) nd_Ke_commandAlarm_7 (by decide) ?_
  obtain ⟨c_in8, h⟩ := ck_use h
  refine zl_iald (pc := 8) hO nd_Ke_commandAlarm_8 rfl rfl b_a1 c_in8 ?_
  obtain ⟨x1, e_x1, h⟩ := lt_use h
  refine zl_top e_x1 ?_
  refine zl_istore (pc := 9) hO (L' := [some (zR 8 0), some (zR 11 a1), some (zI a2), some (zI a3), some (zI x1)]) nd_Ke_commandAlarm_9 (by decide) rfl ?_
  refine zl_iload_n (pc := 11) hO 2 nd_Ke_commandAlarm_11 rfl rfl ?_
  by_cases hc : a2 = 1
  · have h := ite_t hc h
    refine zl_tabIn (pc := 12) (off := 28) hO 1 40 hc nd_Ke_commandAlarm_12 (by decide) (by decide) (by decide) (by decide) ?_
    refine zl_aload_n (pc := 40) hO 0 nd_Ke_commandAlarm_40 rfl rfl ?_
    refine zl_iload (pc := 41) hO nd_Ke_commandAlarm_41 rfl ?_
    refine zl_iload_n (pc := 43) hO 3 nd_Ke_commandAlarm_43 rfl rfl ?_
    obtain ⟨⟨s2, r3⟩, h_44, h⟩ := bn_use h
    refine zl_callVi (pc := 44) hO [zI x1, zI a3] [] (c_Ke_setAlarm hJ h_44) nd_Ke_commandAlarm_44 kv_Ke_167 rfl (Nat.le_of_ble_eq_true rfl) rfl rfl rfl (Nat.le_of_ble_eq_true rfl) ?_
    exact zl_iret (pc := 47) hO nd_Ke_commandAlarm_47 rfl (zr_i h)
  have h := ite_f hc h
  have n_12_1 : ¬ a2.toInt = 1 := lv_neT (k := 1) hc (by decide)
  by_cases hc : a2 = 2
  · have h := ite_t hc h
    refine zl_tabIn (pc := 12) (off := 36) hO 2 48 hc nd_Ke_commandAlarm_12 (by decide) (by decide) (by decide) (by decide) ?_
    refine zl_aload_n (pc := 48) hO 0 nd_Ke_commandAlarm_48 rfl rfl ?_
    refine zl_iload (pc := 49) hO nd_Ke_commandAlarm_49 rfl ?_
    obtain ⟨⟨s4, r5⟩, h_51, h⟩ := bn_use h
    refine zl_callVi (pc := 51) hO [zI x1] [] (c_Ke_cancelAlarm hJ h_51) nd_Ke_commandAlarm_51 kv_Ke_171 rfl (Nat.le_of_ble_eq_true rfl) rfl rfl rfl (Nat.le_of_ble_eq_true rfl) ?_
    exact zl_iret (pc := 54) hO nd_Ke_commandAlarm_54 rfl (zr_i h)
  have h := ite_f hc h
  have n_12_2 : ¬ a2.toInt = 2 := lv_neT (k := 2) hc (by decide)
  by_cases hc : a2 = 3
  · have h := ite_t hc h
    refine zl_tabIn (pc := 12) (off := 43) hO 3 55 hc nd_Ke_commandAlarm_12 (by decide) (by decide) (by decide) (by decide) ?_
    refine zl_aload_n (pc := 55) hO 0 nd_Ke_commandAlarm_55 rfl rfl ?_
    refine zl_geti (pc := 56) hO nd_Ke_commandAlarm_56 kf_Ke_23 rfl (Nat.le_of_ble_eq_true rfl) rfl ?_
    exact zl_iret (pc := 59) hO nd_Ke_commandAlarm_59 rfl (zr_i h)
  have h := ite_f hc h
  have n_12_3 : ¬ a2.toInt = 3 := lv_neT (k := 3) hc (by decide)
  refine zl_tabOut (pc := 12) hO 60 nd_Ke_commandAlarm_12 (by omega) (by decide) ?_
  refine zl_iconst (pc := 60) hO (v := (-1)) nd_Ke_commandAlarm_60 (by decide) ?_
  exact zl_iret (pc := 61) hO nd_Ke_commandAlarm_61 rfl (zr_i h)
set_option maxHeartbeats 4000000 in
set_option maxRecDepth 100000 in
theorem c_Co_addOutput {l : Launch} {V : zG} (hJ : zJ0 (sC l V)) {s0 : zS} {a1 : Int32}  {s1 : zS} (h : k_Co_addOutput s0 a1 = some s1) : zM (sC l V) md_Co_addOutput [zR 5 0, zI a1] s0 (s1, none) := by
  refine zMet [some (zR 5 0), some (zI a1)] hJ (by decide) rfl (Nat.le_of_ble_eq_true rfl) rfl ?_
  intro X hO
  unfold k_Co_addOutput at h
  refine zl_aload_n (pc := 0) hO 0 nd_Co_addOutput_0 rfl rfl ?_
  refine zl_get0 (pc := 1) hO nd_Co_addOutput_1 kf_Co_13 rfl (Nat.le_of_ble_eq_true rfl) rfl ?_
  refine zl_aload_n (pc := 4) hO 0 nd_Co_addOutput_4 rfl rfl ?_
  refine zl_geti (pc := 5) hO nd_Co_addOutput_5 kf_Co_20 rfl (Nat.le_of_ble_eq_true rfl) rfl ?_
  refine zl_bipush (pc := 8) hO (v := 15) nd_Co_addOutput_8 (by decide) ?_
  refine zl_iand (pc := 10) hO nd_Co_addOutput_10 ?_
  refine zl_iload_n (pc := 11) hO 1 nd_Co_addOutput_11 rfl rfl ?_
  obtain ⟨c_in12, h⟩ := ck_use h
  refine zl_iast (pc := 12) hO nd_Co_addOutput_12 rfl rfl (Nat.le_of_ble_eq_true rfl) c_in12 ?_
  obtain ⟨s1, e_s1, h⟩ := lt_use h
  refine zl_sg e_s1 ?_
  refine zl_aload_n (pc := 13) hO 0 nd_Co_addOutput_13 rfl rfl ?_
  refine zl_dup (pc := 14) hO nd_Co_addOutput_14 rfl ?_
  refine zl_geti (pc := 15) hO nd_Co_addOutput_15 kf_Co_20 rfl (Nat.le_of_ble_eq_true rfl) rfl ?_
  refine zl_iconst (pc := 18) hO (v := 1) nd_Co_addOutput_18 (by decide) ?_
  refine zl_iadd (pc := 19) hO nd_Co_addOutput_19 ?_
  refine zl_puti (pc := 20) hO nd_Co_addOutput_20 kp_Co_20 rfl (Nat.le_of_ble_eq_true rfl) rfl ?_
  obtain ⟨s2, e_s2, h⟩ := lt_use h
  refine zl_sg e_s2 ?_
  exact zl_vret (pc := 23) hO nd_Co_addOutput_23 rfl (zr_v h)
set_option maxHeartbeats 4000000 in
set_option maxRecDepth 100000 in
theorem c_Ke_putOut {l : Launch} {V : zG} (hJ : zJ0 (sC l V)) {s0 : zS} {a1 : Nat} {a2 : Int32} (b_a1 : a1 < 4) {s1 : zS} {v1 : Int32} (h : k_Ke_putOut s0 a1 a2 = some (s1, v1)) : zM (sC l V) md_Ke_putOut [zR 8 0, zR 11 a1, zI a2] s0 (s1, some (zI v1)) := by
  refine zMet [some (zR 8 0), some (zR 11 a1), some (zI a2), none, none, none] hJ (by decide) rfl (Nat.le_of_ble_eq_true rfl) rfl ?_
  intro X hO
  have J_28 : ∀ (n : Nat), ∀ (s0 : zS) (l3 : Int32) (l4 : Int32) (l5 : Int32), k_Ke_putOut_28 a1 a2 n s0 l3 l4 l5 = some (s1, v1) → ZW (sC l V) md_Ke_putOut (s1, some (zI v1)) X 28 [some (zR 8 0), some (zR 11 a1), none, some (zI l3), some (zI l4), some (zI l5)] [] s0 := by
    intro n
    induction n with
    | zero => intro s0 l3 l4 l5 h; exact absurd h (by rw [k_Ke_putOut_28]; exact fun w => nomatch w)
    | succ n ih =>
      intro s0 l3 l4 l5 h
      rw [k_Ke_putOut_28]  at h
      refine zl_iload (pc := 28) hO nd_Ke_putOut_28 rfl ?_
      refine zl_iload_n (pc := 30) hO 3 nd_Ke_putOut_30 rfl rfl ?_
      refine zl_icmp_ge (pc := 31) hO 61 nd_Ke_putOut_31 (by decide) (fun hc => ?_) (fun hc => ?_)
      · have h := ite_t hc h
        refine zl_aload_n (pc := 61) hO 1 nd_Ke_putOut_61 rfl rfl ?_
        refine zl_getS (pc := 62) hO nd_Ke_putOut_62 kf_Ke_45 rfl b_a1 rfl ?_
        refine zl_getS (pc := 65) hO nd_Ke_putOut_65 kf_Ke_51 rfl b_a1 rfl ?_
        refine zl_iconst (pc := 68) hO (v := 1) nd_Ke_putOut_68 (by decide) ?_
        obtain ⟨c_in69, h⟩ := ck_use h
        refine zl_iald (pc := 69) hO nd_Ke_putOut_69 rfl rfl b_a1 c_in69 ?_
        refine zl_iconst (pc := 70) hO (v := 4) nd_Ke_putOut_70 (by decide) ?_
        refine zl_iadd (pc := 71) hO nd_Ke_putOut_71 ?_
        obtain ⟨x3, e_x3, h⟩ := lt_use h
        refine zl_top e_x3 ?_
        refine zl_istore (pc := 72) hO (L' := [some (zR 8 0), some (zR 11 a1), none, some (zI l3), some (zI l4), some (zI x3)]) nd_Ke_putOut_72 (by decide) rfl ?_
        refine zl_aload_n (pc := 74) hO 0 nd_Ke_putOut_74 rfl rfl ?_
        refine zl_get0 (pc := 75) hO nd_Ke_putOut_75 kf_Ke_9 rfl (Nat.le_of_ble_eq_true rfl) rfl ?_
        refine zl_iload (pc := 78) hO nd_Ke_putOut_78 rfl ?_
        refine zl_aload_n (pc := 80) hO 0 nd_Ke_putOut_80 rfl rfl ?_
        refine zl_get0 (pc := 81) hO nd_Ke_putOut_81 kf_Ke_9 rfl (Nat.le_of_ble_eq_true rfl) rfl ?_
        refine zl_iload (pc := 84) hO nd_Ke_putOut_84 rfl ?_
        obtain ⟨⟨s4, r5⟩, h_86, h⟩ := bn_use h
        refine zl_callVi (pc := 86) hO [zI x3] [zI x3, zR 1 0] (c_Me_ramWord hJ h_86) nd_Ke_putOut_86 kv_Ke_57 rfl (Nat.le_of_ble_eq_true rfl) rfl rfl rfl (Nat.le_of_ble_eq_true rfl) ?_
        refine zl_iload_n (pc := 89) hO 3 nd_Ke_putOut_89 rfl rfl ?_
        refine zl_iadd (pc := 90) hO nd_Ke_putOut_90 ?_
        obtain ⟨s6, h_91, h⟩ := bn_use h
        refine zl_callVv (pc := 91) hO [zI x3, zI (r5 + l3)] [] (c_Me_setRamWord hJ h_91) nd_Ke_putOut_91 kv_Ke_63 rfl (Nat.le_of_ble_eq_true rfl) rfl rfl rfl (Nat.le_of_ble_eq_true rfl) ?_
        refine zl_aload_n (pc := 94) hO 0 nd_Ke_putOut_94 rfl rfl ?_
        refine zl_aload_n (pc := 95) hO 1 nd_Ke_putOut_95 rfl rfl ?_
        refine zl_iconst (pc := 96) hO (v := 1) nd_Ke_putOut_96 (by decide) ?_
        refine zl_iload_n (pc := 97) hO 3 nd_Ke_putOut_97 rfl rfl ?_
        refine zl_iconst (pc := 98) hO (v := 0) nd_Ke_putOut_98 (by decide) ?_
        obtain ⟨s7, h_99, h⟩ := bn_use h
        refine zl_callVv (pc := 99) hO [zR 11 a1, zI 1, zI l3, zI 0] [] (c_Ke_upcall hJ b_a1 h_99) nd_Ke_putOut_99 kv_Ke_67 rfl (Nat.le_of_ble_eq_true rfl) rfl rfl rfl (Nat.le_of_ble_eq_true rfl) ?_
        refine zl_iconst (pc := 102) hO (v := 0) nd_Ke_putOut_102 (by decide) ?_
        exact zl_iret (pc := 103) hO nd_Ke_putOut_103 rfl (zr_i h)
      · have h := ite_f hc h
        refine zl_aload_n (pc := 34) hO 0 nd_Ke_putOut_34 rfl rfl ?_
        refine zl_get0 (pc := 35) hO nd_Ke_putOut_35 kf_Ke_19 rfl (Nat.le_of_ble_eq_true rfl) rfl ?_
        refine zl_aload_n (pc := 38) hO 0 nd_Ke_putOut_38 rfl rfl ?_
        refine zl_get0 (pc := 39) hO nd_Ke_putOut_39 kf_Ke_9 rfl (Nat.le_of_ble_eq_true rfl) rfl ?_
        refine zl_iload (pc := 42) hO nd_Ke_putOut_42 rfl ?_
        refine zl_iconst (pc := 44) hO (v := 4) nd_Ke_putOut_44 (by decide) ?_
        refine zl_iload (pc := 45) hO nd_Ke_putOut_45 rfl ?_
        refine zl_imul (pc := 47) hO nd_Ke_putOut_47 ?_
        refine zl_iadd (pc := 48) hO nd_Ke_putOut_48 ?_
        obtain ⟨⟨s8, r9⟩, h_49, h⟩ := bn_use h
        refine zl_callVi (pc := 49) hO [zI (l4 + ((4 : Int32) * l5))] [zR 5 0] (c_Me_ramWord hJ h_49) nd_Ke_putOut_49 kv_Ke_57 rfl (Nat.le_of_ble_eq_true rfl) rfl rfl rfl (Nat.le_of_ble_eq_true rfl) ?_
        obtain ⟨s10, h_52, h⟩ := bn_use h
        refine zl_callVv (pc := 52) hO [zI r9] [] (c_Co_addOutput hJ h_52) nd_Ke_putOut_52 kv_Ke_189 rfl (Nat.le_of_ble_eq_true rfl) rfl rfl rfl (Nat.le_of_ble_eq_true rfl) ?_
        obtain ⟨x11, e_x11, h⟩ := lt_use h
        refine zl_iinc (pc := 55) hO (L' := [some (zR 8 0), some (zR 11 a1), none, some (zI l3), some (zI l4), some (zI x11)]) nd_Ke_putOut_55 rfl e_x11.symm (by decide) rfl ?_
        refine zl_goto (pc := 58) hO 28 nd_Ke_putOut_58 (by decide) ?_
        exact zl_weak (ih _ _ _ _ h) ⟨rfl, ⟨rfl, ⟨rfl, ⟨rfl, ⟨rfl, trivial⟩⟩⟩⟩⟩
  unfold k_Ke_putOut at h
  refine zl_iload_n (pc := 0) hO 2 nd_Ke_putOut_0 rfl rfl ?_
  refine zl_aload_n (pc := 1) hO 1 nd_Ke_putOut_1 rfl rfl ?_
  refine zl_getS (pc := 2) hO nd_Ke_putOut_2 kf_Ke_45 rfl b_a1 rfl ?_
  refine zl_getS (pc := 5) hO nd_Ke_putOut_5 kf_Ke_164 rfl b_a1 rfl ?_
  refine zl_iconst (pc := 8) hO (v := 1) nd_Ke_putOut_8 (by decide) ?_
  obtain ⟨c_in9, h⟩ := ck_use h
  refine zl_iald (pc := 9) hO nd_Ke_putOut_9 rfl rfl b_a1 c_in9 ?_
  refine zl_mmin (pc := 10) hO nd_Ke_putOut_10 km_Ke_184 km_min_st km_ini km_min_code (by decide) (Nat.le_of_ble_eq_true rfl) ?_
  obtain ⟨x1, e_x1, h⟩ := lt_use h
  refine zl_top e_x1 ?_
  refine zl_istore_n (pc := 13) hO 3 (L' := [some (zR 8 0), some (zR 11 a1), some (zI a2), some (zI x1), none, none]) nd_Ke_putOut_13 rfl (by decide) rfl ?_
  refine zl_aload_n (pc := 14) hO 1 nd_Ke_putOut_14 rfl rfl ?_
  refine zl_getS (pc := 15) hO nd_Ke_putOut_15 kf_Ke_45 rfl b_a1 rfl ?_
  refine zl_getS (pc := 18) hO nd_Ke_putOut_18 kf_Ke_161 rfl b_a1 rfl ?_
  refine zl_iconst (pc := 21) hO (v := 1) nd_Ke_putOut_21 (by decide) ?_
  obtain ⟨c_in22, h⟩ := ck_use h
  refine zl_iald (pc := 22) hO nd_Ke_putOut_22 rfl rfl b_a1 c_in22 ?_
  obtain ⟨x2, e_x2, h⟩ := lt_use h
  refine zl_top e_x2 ?_
  refine zl_istore (pc := 23) hO (L' := [some (zR 8 0), some (zR 11 a1), some (zI a2), some (zI x1), some (zI x2), none]) nd_Ke_putOut_23 (by decide) rfl ?_
  refine zl_iconst (pc := 25) hO (v := 0) nd_Ke_putOut_25 (by decide) ?_
  refine zl_istore (pc := 26) hO (L' := [some (zR 8 0), some (zR 11 a1), some (zI a2), some (zI x1), some (zI x2), some (zI 0)]) nd_Ke_putOut_26 (by decide) rfl ?_
  exact zl_weak (J_28 FU _ _ _ _ h) ⟨rfl, ⟨rfl, ⟨rfl, ⟨rfl, ⟨rfl, trivial⟩⟩⟩⟩⟩
set_option maxHeartbeats 4000000 in
set_option maxRecDepth 100000 in
theorem c_Co_removeInput {l : Launch} {V : zG} (hJ : zJ0 (sC l V)) {s0 : zS}   {s1 : zS} {v1 : Int32} (h : k_Co_removeInput s0 = some (s1, v1)) : zM (sC l V) md_Co_removeInput [zR 5 0] s0 (s1, some (zI v1)) := by
  refine zMet [some (zR 5 0), none, none] hJ (by decide) rfl (Nat.le_of_ble_eq_true rfl) rfl ?_
  intro X hO
  have J_9 : ∀ (n : Nat), ∀ (s0 : zS) (l1 : Int32) (l2 : Int32), k_Co_removeInput_9 n s0 l1 l2 = some (s1, v1) → ZW (sC l V) md_Co_removeInput (s1, some (zI v1)) X 9 [some (zR 5 0), some (zI l1), some (zI l2)] [] s0 := by
    intro n
    induction n with
    | zero => intro s0 l1 l2 h; exact absurd h (by rw [k_Co_removeInput_9]; exact fun w => nomatch w)
    | succ n ih =>
      intro s0 l1 l2 h
      rw [k_Co_removeInput_9]  at h
      refine zl_iload_n (pc := 9) hO 2 nd_Co_removeInput_9 rfl rfl ?_
      refine zl_aload_n (pc := 10) hO 0 nd_Co_removeInput_10 rfl rfl ?_
      refine zl_geti (pc := 11) hO nd_Co_removeInput_11 kf_Co_16 rfl (Nat.le_of_ble_eq_true rfl) rfl ?_
      refine zl_icmp_ge (pc := 14) hO 37 nd_Co_removeInput_14 (by decide) (fun hc => ?_) (fun hc => ?_)
      · have h := ite_t hc h
        refine zl_aload_n (pc := 37) hO 0 nd_Co_removeInput_37 rfl rfl ?_
        refine zl_aload_n (pc := 38) hO 0 nd_Co_removeInput_38 rfl rfl ?_
        refine zl_geti (pc := 39) hO nd_Co_removeInput_39 kf_Co_16 rfl (Nat.le_of_ble_eq_true rfl) rfl ?_
        refine zl_iconst (pc := 42) hO (v := 1) nd_Co_removeInput_42 (by decide) ?_
        refine zl_isub (pc := 43) hO nd_Co_removeInput_43 ?_
        refine zl_iconst (pc := 44) hO (v := 0) nd_Co_removeInput_44 (by decide) ?_
        refine zl_mmax (pc := 45) hO nd_Co_removeInput_45 km_Co_23 km_max_st km_ini km_max_code (by decide) (Nat.le_of_ble_eq_true rfl) ?_
        refine zl_puti (pc := 48) hO nd_Co_removeInput_48 kp_Co_16 rfl (Nat.le_of_ble_eq_true rfl) rfl ?_
        obtain ⟨s2, e_s2, h⟩ := lt_use h
        refine zl_sg e_s2 ?_
        refine zl_iload_n (pc := 51) hO 1 nd_Co_removeInput_51 rfl rfl ?_
        exact zl_iret (pc := 52) hO nd_Co_removeInput_52 rfl (zr_i h)
      · have h := ite_f hc h
        refine zl_aload_n (pc := 17) hO 0 nd_Co_removeInput_17 rfl rfl ?_
        refine zl_get0 (pc := 18) hO nd_Co_removeInput_18 kf_Co_9 rfl (Nat.le_of_ble_eq_true rfl) rfl ?_
        refine zl_iload_n (pc := 21) hO 2 nd_Co_removeInput_21 rfl rfl ?_
        refine zl_iconst (pc := 22) hO (v := 1) nd_Co_removeInput_22 (by decide) ?_
        refine zl_isub (pc := 23) hO nd_Co_removeInput_23 ?_
        refine zl_aload_n (pc := 24) hO 0 nd_Co_removeInput_24 rfl rfl ?_
        refine zl_get0 (pc := 25) hO nd_Co_removeInput_25 kf_Co_9 rfl (Nat.le_of_ble_eq_true rfl) rfl ?_
        refine zl_iload_n (pc := 28) hO 2 nd_Co_removeInput_28 rfl rfl ?_
        obtain ⟨c_in29, h⟩ := ck_use h
        refine zl_iald (pc := 29) hO nd_Co_removeInput_29 rfl rfl (Nat.le_of_ble_eq_true rfl) c_in29 ?_
        obtain ⟨c_in30, h⟩ := ck_use h
        refine zl_iast (pc := 30) hO nd_Co_removeInput_30 rfl rfl (Nat.le_of_ble_eq_true rfl) c_in30 ?_
        obtain ⟨s3, e_s3, h⟩ := lt_use h
        refine zl_sg e_s3 ?_
        obtain ⟨x4, e_x4, h⟩ := lt_use h
        refine zl_iinc (pc := 31) hO (L' := [some (zR 5 0), some (zI l1), some (zI x4)]) nd_Co_removeInput_31 rfl e_x4.symm (by decide) rfl ?_
        refine zl_goto (pc := 34) hO 9 nd_Co_removeInput_34 (by decide) ?_
        exact zl_weak (ih _ _ _ h) ⟨rfl, ⟨rfl, ⟨rfl, trivial⟩⟩⟩
  unfold k_Co_removeInput at h
  refine zl_aload_n (pc := 0) hO 0 nd_Co_removeInput_0 rfl rfl ?_
  refine zl_get0 (pc := 1) hO nd_Co_removeInput_1 kf_Co_9 rfl (Nat.le_of_ble_eq_true rfl) rfl ?_
  refine zl_iconst (pc := 4) hO (v := 0) nd_Co_removeInput_4 (by decide) ?_
  obtain ⟨c_in5, h⟩ := ck_use h
  refine zl_iald (pc := 5) hO nd_Co_removeInput_5 rfl rfl (Nat.le_of_ble_eq_true rfl) c_in5 ?_
  obtain ⟨x1, e_x1, h⟩ := lt_use h
  refine zl_top e_x1 ?_
  refine zl_istore_n (pc := 6) hO 1 (L' := [some (zR 5 0), some (zI x1), none]) nd_Co_removeInput_6 rfl (by decide) rfl ?_
  refine zl_iconst (pc := 7) hO (v := 1) nd_Co_removeInput_7 (by decide) ?_
  refine zl_istore_n (pc := 8) hO 2 (L' := [some (zR 5 0), some (zI x1), some (zI 1)]) nd_Co_removeInput_8 rfl (by decide) rfl ?_
  exact zl_weak (J_9 FU _ _ _ h) ⟨rfl, ⟨rfl, ⟨rfl, trivial⟩⟩⟩
set_option maxHeartbeats 4000000 in
set_option maxRecDepth 100000 in
theorem c_Ke_receive {l : Launch} {V : zG} (hJ : zJ0 (sC l V)) {s0 : zS} {a1 : Nat} {a2 : Int32} (b_a1 : a1 < 4) {s1 : zS} (h : k_Ke_receive s0 a1 a2 = some s1) : zM (sC l V) md_Ke_receive [zR 8 0, zR 11 a1, zI a2] s0 (s1, none) := by
  refine zMet [some (zR 8 0), some (zR 11 a1), some (zI a2)] hJ (by decide) rfl (Nat.le_of_ble_eq_true rfl) rfl ?_
  intro X hO
  have J_29 : ∀ (s0 : zS), k_Ke_receive_29 a1 a2 s0 = some s1 → ZW (sC l V) md_Ke_receive (s1, none) X 29 [some (zR 8 0), some (zR 11 a1), some (zI a2)] [] s0 := by
    intro s0 h
    unfold k_Ke_receive_29 at h
    refine zl_aload_n (pc := 29) hO 0 nd_Ke_receive_29 rfl rfl ?_
    refine zl_get0 (pc := 30) hO nd_Ke_receive_30 kf_Ke_9 rfl (Nat.le_of_ble_eq_true rfl) rfl ?_
    refine zl_aload_n (pc := 33) hO 1 nd_Ke_receive_33 rfl rfl ?_
    refine zl_getS (pc := 34) hO nd_Ke_receive_34 kf_Ke_45 rfl b_a1 rfl ?_
    refine zl_getS (pc := 37) hO nd_Ke_receive_37 kf_Ke_51 rfl b_a1 rfl ?_
    refine zl_iconst (pc := 40) hO (v := 1) nd_Ke_receive_40 (by decide) ?_
    obtain ⟨c_in41, h⟩ := ck_use h
    refine zl_iald (pc := 41) hO nd_Ke_receive_41 rfl rfl b_a1 c_in41 ?_
    refine zl_iconst (pc := 42) hO (v := 0) nd_Ke_receive_42 (by decide) ?_
    obtain ⟨s2, h_43, h⟩ := bn_use h
    refine zl_callVv (pc := 43) hO [zI (s0 14 a1 (1 : Int32).toNatClampNeg), zI 0] [] (c_Me_setRamWord hJ h_43) nd_Ke_receive_43 kv_Ke_63 rfl (Nat.le_of_ble_eq_true rfl) rfl rfl rfl (Nat.le_of_ble_eq_true rfl) ?_
    refine zl_aload_n (pc := 46) hO 0 nd_Ke_receive_46 rfl rfl ?_
    refine zl_aload_n (pc := 47) hO 1 nd_Ke_receive_47 rfl rfl ?_
    refine zl_iconst (pc := 48) hO (v := 1) nd_Ke_receive_48 (by decide) ?_
    refine zl_iload_n (pc := 49) hO 2 nd_Ke_receive_49 rfl rfl ?_
    refine zl_iconst (pc := 50) hO (v := 1) nd_Ke_receive_50 (by decide) ?_
    obtain ⟨s3, h_51, h⟩ := bn_use h
    refine zl_callVv (pc := 51) hO [zR 11 a1, zI 1, zI a2, zI 1] [] (c_Ke_upcall hJ b_a1 h_51) nd_Ke_receive_51 kv_Ke_67 rfl (Nat.le_of_ble_eq_true rfl) rfl rfl rfl (Nat.le_of_ble_eq_true rfl) ?_
    exact zl_vret (pc := 54) hO nd_Ke_receive_54 rfl (zr_v h)
  unfold k_Ke_receive at h
  refine zl_aload_n (pc := 0) hO 1 nd_Ke_receive_0 rfl rfl ?_
  refine zl_getS (pc := 1) hO nd_Ke_receive_1 kf_Ke_45 rfl b_a1 rfl ?_
  refine zl_getS (pc := 4) hO nd_Ke_receive_4 kf_Ke_164 rfl b_a1 rfl ?_
  refine zl_iconst (pc := 7) hO (v := 1) nd_Ke_receive_7 (by decide) ?_
  obtain ⟨c_in8, h⟩ := ck_use h
  refine zl_iald (pc := 8) hO nd_Ke_receive_8 rfl rfl b_a1 c_in8 ?_
  refine zl_if_le (pc := 9) hO 29 nd_Ke_receive_9 (by decide) (fun hc => ?_) (fun hc => ?_)
  · have h := ite_t hc h
    exact zl_weak (J_29 _ h) ⟨rfl, ⟨rfl, ⟨rfl, trivial⟩⟩⟩
  · have h := ite_f hc h
    refine zl_aload_n (pc := 12) hO 0 nd_Ke_receive_12 rfl rfl ?_
    refine zl_get0 (pc := 13) hO nd_Ke_receive_13 kf_Ke_9 rfl (Nat.le_of_ble_eq_true rfl) rfl ?_
    refine zl_aload_n (pc := 16) hO 1 nd_Ke_receive_16 rfl rfl ?_
    refine zl_getS (pc := 17) hO nd_Ke_receive_17 kf_Ke_45 rfl b_a1 rfl ?_
    refine zl_getS (pc := 20) hO nd_Ke_receive_20 kf_Ke_161 rfl b_a1 rfl ?_
    refine zl_iconst (pc := 23) hO (v := 1) nd_Ke_receive_23 (by decide) ?_
    obtain ⟨c_in24, h⟩ := ck_use h
    refine zl_iald (pc := 24) hO nd_Ke_receive_24 rfl rfl b_a1 c_in24 ?_
    refine zl_iload_n (pc := 25) hO 2 nd_Ke_receive_25 rfl rfl ?_
    obtain ⟨s1, h_26, h⟩ := bn_use h
    refine zl_callVv (pc := 26) hO [zI (s0 17 a1 (1 : Int32).toNatClampNeg), zI a2] [] (c_Me_setRamWord hJ h_26) nd_Ke_receive_26 kv_Ke_63 rfl (Nat.le_of_ble_eq_true rfl) rfl rfl rfl (Nat.le_of_ble_eq_true rfl) ?_
    exact zl_weak (J_29 _ h) ⟨rfl, ⟨rfl, ⟨rfl, trivial⟩⟩⟩
set_option maxHeartbeats 4000000 in
set_option maxRecDepth 100000 in
theorem c_Ke_commandConsole {l : Launch} {V : zG} (hJ : zJ0 (sC l V)) {s0 : zS} {a1 : Nat} {a2 : Int32} {a3 : Int32} (b_a1 : a1 < 4) {s1 : zS} {v1 : Int32} (h : k_Ke_commandConsole s0 a1 a2 a3 = some (s1, v1)) : zM (sC l V) md_Ke_commandConsole [zR 8 0, zR 11 a1, zI a2, zI a3] s0 (s1, some (zI v1)) := by
  refine zMet [some (zR 8 0), some (zR 11 a1), some (zI a2), some (zI a3)] hJ (by decide) rfl (Nat.le_of_ble_eq_true rfl) rfl ?_
  intro X hO
  unfold k_Ke_commandConsole at h
  refine zl_iload_n (pc := 0) hO 2 nd_Ke_commandConsole_0 rfl rfl ?_
  by_cases hc : a2 = 1
  · have h := ite_t hc h
    refine zl_look (pc := 1) (off := 27) hO 28 nd_Ke_commandConsole_1 (by decide) (by rw [hc]; decide) (by decide) ?_
    refine zl_iload_n (pc := 28) hO 3 nd_Ke_commandConsole_28 rfl rfl ?_
    refine zl_if_ge (pc := 29) hO 37 nd_Ke_commandConsole_29 (by decide) (fun hc => ?_) (fun hc => ?_)
    · have h := ite_t hc h
      refine zl_aload_n (pc := 37) hO 0 nd_Ke_commandConsole_37 rfl rfl ?_
      refine zl_aload_n (pc := 38) hO 1 nd_Ke_commandConsole_38 rfl rfl ?_
      refine zl_iload_n (pc := 39) hO 3 nd_Ke_commandConsole_39 rfl rfl ?_
      obtain ⟨⟨s1, r2⟩, h_40, h⟩ := bn_use h
      refine zl_callVi (pc := 40) hO [zR 11 a1, zI a3] [] (c_Ke_putOut hJ b_a1 h_40) nd_Ke_commandConsole_40 kv_Ke_174 rfl (Nat.le_of_ble_eq_true rfl) rfl rfl rfl (Nat.le_of_ble_eq_true rfl) ?_
      exact zl_iret (pc := 43) hO nd_Ke_commandConsole_43 rfl (zr_i h)
    · have h := ite_f hc h
      refine zl_bipush (pc := 32) hO (v := (-3)) nd_Ke_commandConsole_32 (by decide) ?_
      refine zl_goto (pc := 34) hO 43 nd_Ke_commandConsole_34 (by decide) ?_
      exact zl_iret (pc := 43) hO nd_Ke_commandConsole_43 rfl (zr_i h)
  have h := ite_f hc h
  have n_1_1 := hc
  by_cases hc : a2 = 2
  · have h := ite_t hc h
    refine zl_look (pc := 1) (off := 43) hO 44 nd_Ke_commandConsole_1 (by decide) (by rw [hc]; decide) (by decide) ?_
    refine zl_aload_n (pc := 44) hO 0 nd_Ke_commandConsole_44 rfl rfl ?_
    refine zl_aload_n (pc := 45) hO 1 nd_Ke_commandConsole_45 rfl rfl ?_
    refine zl_iconst (pc := 46) hO (v := 1) nd_Ke_commandConsole_46 (by decide) ?_
    obtain ⟨⟨s3, r4⟩, h_47, h⟩ := bn_use h
    refine zl_callVi (pc := 47) hO [zR 11 a1, zI 1] [] (c_Ke_isPending hJ b_a1 h_47) nd_Ke_commandConsole_47 kv_Ke_27 rfl (Nat.le_of_ble_eq_true rfl) rfl rfl rfl (Nat.le_of_ble_eq_true rfl) ?_
    refine zl_if_eq (pc := 50) hO 56 nd_Ke_commandConsole_50 (by decide) (fun hc => ?_) (fun hc => ?_)
    · have h := ite_t hc h
      refine zl_aload_n (pc := 56) hO 0 nd_Ke_commandConsole_56 rfl rfl ?_
      refine zl_get0 (pc := 57) hO nd_Ke_commandConsole_57 kf_Ke_19 rfl (Nat.le_of_ble_eq_true rfl) rfl ?_
      refine zl_geti (pc := 60) hO nd_Ke_commandConsole_60 kf_Ke_177 rfl (Nat.le_of_ble_eq_true rfl) rfl ?_
      refine zl_if_le (pc := 63) hO 81 nd_Ke_commandConsole_63 (by decide) (fun hc => ?_) (fun hc => ?_)
      · have h := ite_t hc h
        refine zl_aload_n (pc := 81) hO 0 nd_Ke_commandConsole_81 rfl rfl ?_
        refine zl_get0 (pc := 82) hO nd_Ke_commandConsole_82 kf_Ke_9 rfl (Nat.le_of_ble_eq_true rfl) rfl ?_
        refine zl_aload_n (pc := 85) hO 1 nd_Ke_commandConsole_85 rfl rfl ?_
        refine zl_getS (pc := 86) hO nd_Ke_commandConsole_86 kf_Ke_45 rfl b_a1 rfl ?_
        refine zl_getS (pc := 89) hO nd_Ke_commandConsole_89 kf_Ke_51 rfl b_a1 rfl ?_
        refine zl_iconst (pc := 92) hO (v := 1) nd_Ke_commandConsole_92 (by decide) ?_
        obtain ⟨c_in93, h⟩ := ck_use h
        refine zl_iald (pc := 93) hO nd_Ke_commandConsole_93 rfl rfl b_a1 c_in93 ?_
        refine zl_iconst (pc := 94) hO (v := 1) nd_Ke_commandConsole_94 (by decide) ?_
        obtain ⟨s5, h_95, h⟩ := bn_use h
        refine zl_callVv (pc := 95) hO [zI (s3 14 a1 (1 : Int32).toNatClampNeg), zI 1] [] (c_Me_setRamWord hJ h_95) nd_Ke_commandConsole_95 kv_Ke_63 rfl (Nat.le_of_ble_eq_true rfl) rfl rfl rfl (Nat.le_of_ble_eq_true rfl) ?_
        refine zl_iconst (pc := 98) hO (v := 0) nd_Ke_commandConsole_98 (by decide) ?_
        exact zl_iret (pc := 99) hO nd_Ke_commandConsole_99 rfl (zr_i h)
      · have h := ite_f hc h
        refine zl_aload_n (pc := 66) hO 0 nd_Ke_commandConsole_66 rfl rfl ?_
        refine zl_aload_n (pc := 67) hO 1 nd_Ke_commandConsole_67 rfl rfl ?_
        refine zl_aload_n (pc := 68) hO 0 nd_Ke_commandConsole_68 rfl rfl ?_
        refine zl_get0 (pc := 69) hO nd_Ke_commandConsole_69 kf_Ke_19 rfl (Nat.le_of_ble_eq_true rfl) rfl ?_
        obtain ⟨⟨s6, r7⟩, h_72, h⟩ := bn_use h
        refine zl_callVi (pc := 72) hO [] [zR 11 a1, zR 8 0] (c_Co_removeInput hJ h_72) nd_Ke_commandConsole_72 kv_Ke_180 rfl (Nat.le_of_ble_eq_true rfl) rfl rfl rfl (Nat.le_of_ble_eq_true rfl) ?_
        obtain ⟨s8, h_75, h⟩ := bn_use h
        refine zl_callVv (pc := 75) hO [zR 11 a1, zI r7] [] (c_Ke_receive hJ b_a1 h_75) nd_Ke_commandConsole_75 kv_Ke_35 rfl (Nat.le_of_ble_eq_true rfl) rfl rfl rfl (Nat.le_of_ble_eq_true rfl) ?_
        refine zl_goto (pc := 78) hO 98 nd_Ke_commandConsole_78 (by decide) ?_
        refine zl_iconst (pc := 98) hO (v := 0) nd_Ke_commandConsole_98 (by decide) ?_
        exact zl_iret (pc := 99) hO nd_Ke_commandConsole_99 rfl (zr_i h)
    · have h := ite_f hc h
      refine zl_bipush (pc := 53) hO (v := (-5)) nd_Ke_commandConsole_53 (by decide) ?_
      exact zl_iret (pc := 55) hO nd_Ke_commandConsole_55 rfl (zr_i h)
  have h := ite_f hc h
  have n_1_2 := hc
  refine zl_look (pc := 1) (off := 99) hO 100 nd_Ke_commandConsole_1 (by decide) ((lv_osw n_1_1 (by decide)).trans <| (lv_osw n_1_2 (by decide)).trans <| rfl) (by decide) ?_
  refine zl_iconst (pc := 100) hO (v := (-1)) nd_Ke_commandConsole_100 (by decide) ?_
  exact zl_iret (pc := 101) hO nd_Ke_commandConsole_101 rfl (zr_i h)
set_option maxHeartbeats 4000000 in
set_option maxRecDepth 100000 in
theorem c_Ke_commandSensor {l : Launch} {V : zG} (hJ : zJ0 (sC l V)) {s0 : zS} {a1 : Nat} {a2 : Int32} (b_a1 : a1 < 4) {s1 : zS} {v1 : Int32} (h : k_Ke_commandSensor s0 a1 a2 = some (s1, v1)) : zM (sC l V) md_Ke_commandSensor [zR 8 0, zR 11 a1, zI a2] s0 (s1, some (zI v1)) := by
  refine zMet [some (zR 8 0), some (zR 11 a1), some (zI a2)] hJ (by decide) rfl (Nat.le_of_ble_eq_true rfl) rfl ?_
  intro X hO
  unfold k_Ke_commandSensor at h
  refine zl_iload_n (pc := 0) hO 2 nd_Ke_commandSensor_0 rfl rfl ?_
  refine zl_iconst (pc := 1) hO (v := 1) nd_Ke_commandSensor_1 (by decide) ?_
  refine zl_icmp_eq (pc := 2) hO 7 nd_Ke_commandSensor_2 (by decide) (fun hc => ?_) (fun hc => ?_)
  · have h := ite_t hc h
    refine zl_aload_n (pc := 7) hO 0 nd_Ke_commandSensor_7 rfl rfl ?_
    refine zl_aload_n (pc := 8) hO 1 nd_Ke_commandSensor_8 rfl rfl ?_
    refine zl_iconst (pc := 9) hO (v := 2) nd_Ke_commandSensor_9 (by decide) ?_
    obtain ⟨⟨s1, r2⟩, h_10, h⟩ := bn_use h
    refine zl_callVi (pc := 10) hO [zR 11 a1, zI 2] [] (c_Ke_isPending hJ b_a1 h_10) nd_Ke_commandSensor_10 kv_Ke_27 rfl (Nat.le_of_ble_eq_true rfl) rfl rfl rfl (Nat.le_of_ble_eq_true rfl) ?_
    refine zl_if_eq (pc := 13) hO 19 nd_Ke_commandSensor_13 (by decide) (fun hc => ?_) (fun hc => ?_)
    · have h := ite_t hc h
      refine zl_aload_n (pc := 19) hO 0 nd_Ke_commandSensor_19 rfl rfl ?_
      refine zl_get0 (pc := 20) hO nd_Ke_commandSensor_20 kf_Ke_9 rfl (Nat.le_of_ble_eq_true rfl) rfl ?_
      refine zl_aload_n (pc := 23) hO 1 nd_Ke_commandSensor_23 rfl rfl ?_
      refine zl_getS (pc := 24) hO nd_Ke_commandSensor_24 kf_Ke_45 rfl b_a1 rfl ?_
      refine zl_getS (pc := 27) hO nd_Ke_commandSensor_27 kf_Ke_51 rfl b_a1 rfl ?_
      refine zl_iconst (pc := 30) hO (v := 2) nd_Ke_commandSensor_30 (by decide) ?_
      obtain ⟨c_in31, h⟩ := ck_use h
      refine zl_iald (pc := 31) hO nd_Ke_commandSensor_31 rfl rfl b_a1 c_in31 ?_
      refine zl_iconst (pc := 32) hO (v := 1) nd_Ke_commandSensor_32 (by decide) ?_
      obtain ⟨s3, h_33, h⟩ := bn_use h
      refine zl_callVv (pc := 33) hO [zI (s1 14 a1 (2 : Int32).toNatClampNeg), zI 1] [] (c_Me_setRamWord hJ h_33) nd_Ke_commandSensor_33 kv_Ke_63 rfl (Nat.le_of_ble_eq_true rfl) rfl rfl rfl (Nat.le_of_ble_eq_true rfl) ?_
      refine zl_iconst (pc := 36) hO (v := 0) nd_Ke_commandSensor_36 (by decide) ?_
      exact zl_iret (pc := 37) hO nd_Ke_commandSensor_37 rfl (zr_i h)
    · have h := ite_f hc h
      refine zl_bipush (pc := 16) hO (v := (-5)) nd_Ke_commandSensor_16 (by decide) ?_
      exact zl_iret (pc := 18) hO nd_Ke_commandSensor_18 rfl (zr_i h)
  · have h := ite_f hc h
    refine zl_iconst (pc := 5) hO (v := (-1)) nd_Ke_commandSensor_5 (by decide) ?_
    exact zl_iret (pc := 6) hO nd_Ke_commandSensor_6 rfl (zr_i h)
set_option maxHeartbeats 4000000 in
set_option maxRecDepth 100000 in
theorem c_Ke_answer {l : Launch} {V : zG} (hJ : zJ0 (sC l V)) {s0 : zS} {a1 : Nat} {a2 : Int32} (b_a1 : a1 < 4) {s1 : zS} {v1 : Int32} (h : k_Ke_answer s0 a1 a2 = some (s1, v1)) : zM (sC l V) md_Ke_answer [zR 8 0, zR 11 a1, zI a2] s0 (s1, some (zI v1)) := by
  refine zMet [some (zR 8 0), some (zR 11 a1), some (zI a2), none, none, none] hJ (by decide) rfl (Nat.le_of_ble_eq_true rfl) rfl ?_
  intro X hO
  have J_70 : ∀ (s0 : zS) (l3 : Int32) (l4 : Int32) (l5 : Int32), k_Ke_answer_70 a1 a2 s0 l3 l4 l5 = some (s1, v1) → ZW (sC l V) md_Ke_answer (s1, some (zI v1)) X 70 [some (zR 8 0), some (zR 11 a1), some (zI a2), some (zI l3), some (zI l4), some (zI l5)] [] s0 := by
    intro s0 l3 l4 l5 h
    unfold k_Ke_answer_70 at h
    refine zl_iload_n (pc := 70) hO 2 nd_Ke_answer_70 rfl rfl ?_
    refine zl_iconst (pc := 71) hO (v := 1) nd_Ke_answer_71 (by decide) ?_
    refine zl_icmp_ne (pc := 72) hO 89 nd_Ke_answer_72 (by decide) (fun hc => ?_) (fun hc => ?_)
    · have h := ite_f hc h
      refine zl_iload_n (pc := 89) hO 2 nd_Ke_answer_89 rfl rfl ?_
      refine zl_iconst (pc := 90) hO (v := 3) nd_Ke_answer_90 (by decide) ?_
      refine zl_icmp_ne (pc := 91) hO 105 nd_Ke_answer_91 (by decide) (fun hc => ?_) (fun hc => ?_)
      · have h := ite_f hc h
        refine zl_iload (pc := 105) hO nd_Ke_answer_105 rfl ?_
        refine zl_if_ne (pc := 107) hO 112 nd_Ke_answer_107 (by decide) (fun hc => ?_) (fun hc => ?_)
        · have h := ite_f hc h
          refine zl_iload_n (pc := 112) hO 3 nd_Ke_answer_112 rfl rfl ?_
          by_cases hc : l3 = 0
          · have h := ite_t hc h
            refine zl_look (pc := 113) (off := 27) hO 140 nd_Ke_answer_113 (by decide) (by rw [hc]; decide) (by decide) ?_
            refine zl_aload_n (pc := 140) hO 0 nd_Ke_answer_140 rfl rfl ?_
            refine zl_aload_n (pc := 141) hO 1 nd_Ke_answer_141 rfl rfl ?_
            refine zl_iload (pc := 142) hO nd_Ke_answer_142 rfl ?_
            refine zl_iload (pc := 144) hO nd_Ke_answer_144 rfl ?_
            obtain ⟨⟨s8, r9⟩, h_146, h⟩ := bn_use h
            refine zl_callVi (pc := 146) hO [zR 11 a1, zI l4, zI l5] [] (c_Ke_commandAlarm hJ b_a1 h_146) nd_Ke_answer_146 kv_Ke_112 rfl (Nat.le_of_ble_eq_true rfl) rfl rfl rfl (Nat.le_of_ble_eq_true rfl) ?_
            exact zl_iret (pc := 149) hO nd_Ke_answer_149 rfl (zr_i h)
          have h := ite_f hc h
          have n_113_0 := hc
          by_cases hc : l3 = 1
          · have h := ite_t hc h
            refine zl_look (pc := 113) (off := 37) hO 150 nd_Ke_answer_113 (by decide) (by rw [hc]; decide) (by decide) ?_
            refine zl_aload_n (pc := 150) hO 0 nd_Ke_answer_150 rfl rfl ?_
            refine zl_aload_n (pc := 151) hO 1 nd_Ke_answer_151 rfl rfl ?_
            refine zl_iload (pc := 152) hO nd_Ke_answer_152 rfl ?_
            refine zl_iload (pc := 154) hO nd_Ke_answer_154 rfl ?_
            obtain ⟨⟨s10, r11⟩, h_156, h⟩ := bn_use h
            refine zl_callVi (pc := 156) hO [zR 11 a1, zI l4, zI l5] [] (c_Ke_commandConsole hJ b_a1 h_156) nd_Ke_answer_156 kv_Ke_116 rfl (Nat.le_of_ble_eq_true rfl) rfl rfl rfl (Nat.le_of_ble_eq_true rfl) ?_
            exact zl_iret (pc := 159) hO nd_Ke_answer_159 rfl (zr_i h)
          have h := ite_f hc h
          have n_113_1 := hc
          refine zl_look (pc := 113) (off := 47) hO 160 nd_Ke_answer_113 (by decide) ((lv_osw n_113_0 (by decide)).trans <| (lv_osw n_113_1 (by decide)).trans <| rfl) (by decide) ?_
          refine zl_aload_n (pc := 160) hO 0 nd_Ke_answer_160 rfl rfl ?_
          refine zl_aload_n (pc := 161) hO 1 nd_Ke_answer_161 rfl rfl ?_
          refine zl_iload (pc := 162) hO nd_Ke_answer_162 rfl ?_
          obtain ⟨⟨s12, r13⟩, h_164, h⟩ := bn_use h
          refine zl_callVi (pc := 164) hO [zR 11 a1, zI l4] [] (c_Ke_commandSensor hJ b_a1 h_164) nd_Ke_answer_164 kv_Ke_119 rfl (Nat.le_of_ble_eq_true rfl) rfl rfl rfl (Nat.le_of_ble_eq_true rfl) ?_
          exact zl_iret (pc := 167) hO nd_Ke_answer_167 rfl (zr_i h)
        · have h := ite_t hc h
          refine zl_iconst (pc := 110) hO (v := 0) nd_Ke_answer_110 (by decide) ?_
          exact zl_iret (pc := 111) hO nd_Ke_answer_111 rfl (zr_i h)
      · have h := ite_t hc h
        refine zl_aload_n (pc := 94) hO 0 nd_Ke_answer_94 rfl rfl ?_
        refine zl_aload_n (pc := 95) hO 1 nd_Ke_answer_95 rfl rfl ?_
        refine zl_iload_n (pc := 96) hO 3 nd_Ke_answer_96 rfl rfl ?_
        refine zl_iload (pc := 97) hO nd_Ke_answer_97 rfl ?_
        refine zl_iload (pc := 99) hO nd_Ke_answer_99 rfl ?_
        obtain ⟨⟨s14, r15⟩, h_101, h⟩ := bn_use h
        refine zl_callVi (pc := 101) hO [zR 11 a1, zI l3, zI l4, zI l5] [] (c_Ke_allow hJ b_a1 h_101) nd_Ke_answer_101 kv_Ke_108 rfl (Nat.le_of_ble_eq_true rfl) rfl rfl rfl (Nat.le_of_ble_eq_true rfl) ?_
        exact zl_iret (pc := 104) hO nd_Ke_answer_104 rfl (zr_i h)
    · have h := ite_t hc h
      refine zl_aload_n (pc := 75) hO 0 nd_Ke_answer_75 rfl rfl ?_
      refine zl_aload_n (pc := 76) hO 1 nd_Ke_answer_76 rfl rfl ?_
      refine zl_getS (pc := 77) hO nd_Ke_answer_77 kf_Ke_45 rfl b_a1 rfl ?_
      refine zl_iload_n (pc := 80) hO 3 nd_Ke_answer_80 rfl rfl ?_
      refine zl_iload (pc := 81) hO nd_Ke_answer_81 rfl ?_
      refine zl_iload (pc := 83) hO nd_Ke_answer_83 rfl ?_
      obtain ⟨⟨s16, r17⟩, h_85, h⟩ := bn_use h
      refine zl_callVi (pc := 85) hO [zR 13 a1, zI l3, zI l4, zI l5] [] (c_Ke_subscribe hJ b_a1 h_85) nd_Ke_answer_85 kv_Ke_104 rfl (Nat.le_of_ble_eq_true rfl) rfl rfl rfl (Nat.le_of_ble_eq_true rfl) ?_
      exact zl_iret (pc := 88) hO nd_Ke_answer_88 rfl (zr_i h)
  unfold k_Ke_answer at h
  refine zl_aload_n (pc := 0) hO 1 nd_Ke_answer_0 rfl rfl ?_
  refine zl_getS (pc := 1) hO nd_Ke_answer_1 kf_Ke_95 rfl b_a1 rfl ?_
  refine zl_iconst (pc := 4) hO (v := 0) nd_Ke_answer_4 (by decide) ?_
  obtain ⟨c_in5, h⟩ := ck_use h
  refine zl_iald (pc := 5) hO nd_Ke_answer_5 rfl rfl b_a1 c_in5 ?_
  obtain ⟨x1, e_x1, h⟩ := lt_use h
  refine zl_top e_x1 ?_
  refine zl_istore_n (pc := 6) hO 3 (L' := [some (zR 8 0), some (zR 11 a1), some (zI a2), some (zI x1), none, none]) nd_Ke_answer_6 rfl (by decide) rfl ?_
  refine zl_aload_n (pc := 7) hO 1 nd_Ke_answer_7 rfl rfl ?_
  refine zl_getS (pc := 8) hO nd_Ke_answer_8 kf_Ke_95 rfl b_a1 rfl ?_
  refine zl_iconst (pc := 11) hO (v := 1) nd_Ke_answer_11 (by decide) ?_
  obtain ⟨c_in12, h⟩ := ck_use h
  refine zl_iald (pc := 12) hO nd_Ke_answer_12 rfl rfl b_a1 c_in12 ?_
  obtain ⟨x2, e_x2, h⟩ := lt_use h
  refine zl_top e_x2 ?_
  refine zl_istore (pc := 13) hO (L' := [some (zR 8 0), some (zR 11 a1), some (zI a2), some (zI x1), some (zI x2), none]) nd_Ke_answer_13 (by decide) rfl ?_
  refine zl_aload_n (pc := 15) hO 1 nd_Ke_answer_15 rfl rfl ?_
  refine zl_getS (pc := 16) hO nd_Ke_answer_16 kf_Ke_95 rfl b_a1 rfl ?_
  refine zl_iconst (pc := 19) hO (v := 2) nd_Ke_answer_19 (by decide) ?_
  obtain ⟨c_in20, h⟩ := ck_use h
  refine zl_iald (pc := 20) hO nd_Ke_answer_20 rfl rfl b_a1 c_in20 ?_
  obtain ⟨x3, e_x3, h⟩ := lt_use h
  refine zl_top e_x3 ?_
  refine zl_istore (pc := 21) hO (L' := [some (zR 8 0), some (zR 11 a1), some (zI a2), some (zI x1), some (zI x2), some (zI x3)]) nd_Ke_answer_21 (by decide) rfl ?_
  refine zl_iload_n (pc := 23) hO 2 nd_Ke_answer_23 rfl rfl ?_
  refine zl_iconst (pc := 24) hO (v := 1) nd_Ke_answer_24 (by decide) ?_
  refine zl_icmp_lt (pc := 25) hO 33 nd_Ke_answer_25 (by decide) (fun hc => ?_) (fun hc => ?_)
  · have h := ite_t hc h
    refine zl_iconst (pc := 33) hO (v := (-1)) nd_Ke_answer_33 (by decide) ?_
    exact zl_iret (pc := 34) hO nd_Ke_answer_34 rfl (zr_i h)
  · have h := ite_f hc h
    refine zl_iload_n (pc := 28) hO 2 nd_Ke_answer_28 rfl rfl ?_
    refine zl_iconst (pc := 29) hO (v := 3) nd_Ke_answer_29 (by decide) ?_
    refine zl_icmp_le (pc := 30) hO 35 nd_Ke_answer_30 (by decide) (fun hc => ?_) (fun hc => ?_)
    · have h := ite_t hc h
      refine zl_iload_n (pc := 35) hO 3 nd_Ke_answer_35 rfl rfl ?_
      refine zl_if_lt (pc := 36) hO 44 nd_Ke_answer_36 (by decide) (fun hc => ?_) (fun hc => ?_)
      · have h := ite_t hc h
        refine zl_bipush (pc := 44) hO (v := (-2)) nd_Ke_answer_44 (by decide) ?_
        exact zl_iret (pc := 46) hO nd_Ke_answer_46 rfl (zr_i h)
      · have h := ite_f hc h
        refine zl_iload_n (pc := 39) hO 3 nd_Ke_answer_39 rfl rfl ?_
        refine zl_iconst (pc := 40) hO (v := 3) nd_Ke_answer_40 (by decide) ?_
        refine zl_icmp_lt (pc := 41) hO 47 nd_Ke_answer_41 (by decide) (fun hc => ?_) (fun hc => ?_)
        · have h := ite_t hc h
          refine zl_aload_n (pc := 47) hO 1 nd_Ke_answer_47 rfl rfl ?_
          refine zl_getS (pc := 48) hO nd_Ke_answer_48 kf_Ke_45 rfl b_a1 rfl ?_
          refine zl_iload_n (pc := 51) hO 3 nd_Ke_answer_51 rfl rfl ?_
          obtain ⟨⟨s4, r5⟩, h_52, h⟩ := bn_use h
          refine zl_callVi (pc := 52) hO [zI x1] [] (c_No_hasGrant hJ b_a1 h_52) nd_Ke_answer_52 kv_Ke_98 rfl b_a1 rfl rfl rfl (Nat.le_of_ble_eq_true rfl) ?_
          refine zl_if_ne (pc := 55) hO 70 nd_Ke_answer_55 (by decide) (fun hc => ?_) (fun hc => ?_)
          · have h := ite_f hc h
            exact zl_weak (J_70 _ _ _ _ h) ⟨rfl, ⟨rfl, ⟨rfl, ⟨rfl, ⟨rfl, ⟨rfl, trivial⟩⟩⟩⟩⟩⟩
          · have h := ite_t hc h
            refine zl_aload_n (pc := 58) hO 0 nd_Ke_answer_58 rfl rfl ?_
            refine zl_aload_n (pc := 59) hO 1 nd_Ke_answer_59 rfl rfl ?_
            refine zl_iload_n (pc := 60) hO 3 nd_Ke_answer_60 rfl rfl ?_
            obtain ⟨⟨s6, r7⟩, h_61, h⟩ := bn_use h
            refine zl_callVi (pc := 61) hO [zR 11 a1, zI x1] [] (c_Ke_makeGrant hJ b_a1 h_61) nd_Ke_answer_61 kv_Ke_101 rfl (Nat.le_of_ble_eq_true rfl) rfl rfl rfl (Nat.le_of_ble_eq_true rfl) ?_
            refine zl_if_ne (pc := 64) hO 70 nd_Ke_answer_64 (by decide) (fun hc => ?_) (fun hc => ?_)
            · have h := ite_f hc h
              exact zl_weak (J_70 _ _ _ _ h) ⟨rfl, ⟨rfl, ⟨rfl, ⟨rfl, ⟨rfl, ⟨rfl, trivial⟩⟩⟩⟩⟩⟩
            · have h := ite_t hc h
              refine zl_bipush (pc := 67) hO (v := (-4)) nd_Ke_answer_67 (by decide) ?_
              exact zl_iret (pc := 69) hO nd_Ke_answer_69 rfl (zr_i h)
        · have h := ite_f hc h
          refine zl_bipush (pc := 44) hO (v := (-2)) nd_Ke_answer_44 (by decide) ?_
          exact zl_iret (pc := 46) hO nd_Ke_answer_46 rfl (zr_i h)
    · have h := ite_f hc h
      refine zl_iconst (pc := 33) hO (v := (-1)) nd_Ke_answer_33 (by decide) ?_
      exact zl_iret (pc := 34) hO nd_Ke_answer_34 rfl (zr_i h)
