set_option maxHeartbeats 4000000 in
set_option maxRecDepth 100000 in
theorem c_GK_burn {l : Launch} {V : zG} (hJ : zJ0 (sC l V)) {s0 : zS} {a1 : Int32} {a2 : Int32}  {s1 : zS} {v1 : Int32} (h : k_GK_burn s0 a1 a2 = some (s1, v1)) : zM (sC l V) md_GK_burn [zR 0 0, zI a1, zI a2] s0 (s1, some (zI v1)) := by
  refine zMet [some (zR 0 0), some (zI a1), some (zI a2), none] hJ (by decide) rfl (Nat.le_of_ble_eq_true rfl) rfl ?_
  intro X hO
  unfold k_GK_burn at h
  refine zl_iload_n (pc := 0) hO 1 nd_GK_burn_0 rfl rfl ?_
  refine zl_if_lt (pc := 1) hO 21 nd_GK_burn_1 (by decide) (fun hc => ?_) (fun hc => ?_)
  · have h := ite_t hc h
    refine zl_iconst (pc := 21) hO (v := (-1)) nd_GK_burn_21 (by decide) ?_
    exact zl_iret (pc := 22) hO nd_GK_burn_22 rfl (zr_i h)
  · have h := ite_f hc h
    refine zl_iload_n (pc := 4) hO 1 nd_GK_burn_4 rfl rfl ?_
    refine zl_sipush (pc := 5) hO (v := 256) nd_GK_burn_5 (by decide) ?_
    refine zl_icmp_ge (pc := 8) hO 21 nd_GK_burn_8 (by decide) (fun hc => ?_) (fun hc => ?_)
    · have h := ite_t hc h
      refine zl_iconst (pc := 21) hO (v := (-1)) nd_GK_burn_21 (by decide) ?_
      exact zl_iret (pc := 22) hO nd_GK_burn_22 rfl (zr_i h)
    · have h := ite_f hc h
      refine zl_iload_n (pc := 11) hO 2 nd_GK_burn_11 rfl rfl ?_
      refine zl_if_lt (pc := 12) hO 21 nd_GK_burn_12 (by decide) (fun hc => ?_) (fun hc => ?_)
      · have h := ite_t hc h
        refine zl_iconst (pc := 21) hO (v := (-1)) nd_GK_burn_21 (by decide) ?_
        exact zl_iret (pc := 22) hO nd_GK_burn_22 rfl (zr_i h)
      · have h := ite_f hc h
        refine zl_iload_n (pc := 15) hO 2 nd_GK_burn_15 rfl rfl ?_
        refine zl_ldc (pc := 16) hO nd_GK_burn_16 kc_GK_61 ?_
        refine zl_icmp_le (pc := 18) hO 23 nd_GK_burn_18 (by decide) (fun hc => ?_) (fun hc => ?_)
        · have h := ite_t hc h
          refine zl_aload_n (pc := 23) hO 0 nd_GK_burn_23 rfl rfl ?_
          refine zl_get0 (pc := 24) hO nd_GK_burn_24 kf_GK_10 rfl (Nat.le_of_ble_eq_true rfl) rfl ?_
          refine zl_get0 (pc := 27) hO nd_GK_burn_27 kf_GK_62 rfl (Nat.le_of_ble_eq_true rfl) rfl ?_
          refine zl_iload_n (pc := 30) hO 1 nd_GK_burn_30 rfl rfl ?_
          obtain ⟨c_in31, h⟩ := ck_use h
          refine zl_iald (pc := 31) hO nd_GK_burn_31 rfl rfl (Nat.le_of_ble_eq_true rfl) c_in31 ?_
          obtain ⟨x1, e_x1, h⟩ := lt_use h
          refine zl_top e_x1 ?_
          refine zl_istore_n (pc := 32) hO 3 (L' := [some (zR 0 0), some (zI a1), some (zI a2), some (zI x1)]) nd_GK_burn_32 rfl (by decide) rfl ?_
          refine zl_aload_n (pc := 33) hO 0 nd_GK_burn_33 rfl rfl ?_
          refine zl_get0 (pc := 34) hO nd_GK_burn_34 kf_GK_10 rfl (Nat.le_of_ble_eq_true rfl) rfl ?_
          refine zl_get0 (pc := 37) hO nd_GK_burn_37 kf_GK_62 rfl (Nat.le_of_ble_eq_true rfl) rfl ?_
          refine zl_iload_n (pc := 40) hO 1 nd_GK_burn_40 rfl rfl ?_
          refine zl_iload_n (pc := 41) hO 2 nd_GK_burn_41 rfl rfl ?_
          obtain ⟨c_in42, h⟩ := ck_use h
          refine zl_iast (pc := 42) hO nd_GK_burn_42 rfl rfl (Nat.le_of_ble_eq_true rfl) c_in42 ?_
          obtain ⟨s2, e_s2, h⟩ := lt_use h
          refine zl_sg e_s2 ?_
          refine zl_iload_n (pc := 43) hO 3 nd_GK_burn_43 rfl rfl ?_
          exact zl_iret (pc := 44) hO nd_GK_burn_44 rfl (zr_i h)
        · have h := ite_f hc h
          refine zl_iconst (pc := 21) hO (v := (-1)) nd_GK_burn_21 (by decide) ?_
          exact zl_iret (pc := 22) hO nd_GK_burn_22 rfl (zr_i h)
set_option maxHeartbeats 4000000 in
set_option maxRecDepth 100000 in
theorem c_Me_setRamWord {l : Launch} {V : zG} (hJ : zJ0 (sC l V)) {s0 : zS} {a1 : Int32} {a2 : Int32}  {s1 : zS} (h : k_Me_setRamWord s0 a1 a2 = some s1) : zM (sC l V) md_Me_setRamWord [zR 1 0, zI a1, zI a2] s0 (s1, none) := by
  refine zMet [some (zR 1 0), some (zI a1), some (zI a2), none] hJ (by decide) rfl (Nat.le_of_ble_eq_true rfl) rfl ?_
  intro X hO
  unfold k_Me_setRamWord at h
  refine zl_iload_n (pc := 0) hO 1 nd_Me_setRamWord_0 rfl rfl ?_
  refine zl_sipush (pc := 1) hO (v := 4096) nd_Me_setRamWord_1 (by decide) ?_
  refine zl_isub (pc := 4) hO nd_Me_setRamWord_4 ?_
  refine zl_iconst (pc := 5) hO (v := 2) nd_Me_setRamWord_5 (by decide) ?_
  refine zl_ishr (pc := 6) hO nd_Me_setRamWord_6 ?_
  obtain ⟨x1, e_x1, h⟩ := lt_use h
  refine zl_top e_x1 ?_
  refine zl_istore_n (pc := 7) hO 3 (L' := [some (zR 1 0), some (zI a1), some (zI a2), some (zI x1)]) nd_Me_setRamWord_7 rfl (by decide) rfl ?_
  refine zl_iload_n (pc := 8) hO 3 nd_Me_setRamWord_8 rfl rfl ?_
  refine zl_if_lt (pc := 9) hO 26 nd_Me_setRamWord_9 (by decide) (fun hc => ?_) (fun hc => ?_)
  · have h := ite_t hc h
    exact zl_vret (pc := 26) hO nd_Me_setRamWord_26 rfl (zr_v h)
  · have h := ite_f hc h
    refine zl_iload_n (pc := 12) hO 3 nd_Me_setRamWord_12 rfl rfl ?_
    refine zl_sipush (pc := 13) hO (v := 128) nd_Me_setRamWord_13 (by decide) ?_
    refine zl_icmp_ge (pc := 16) hO 26 nd_Me_setRamWord_16 (by decide) (fun hc => ?_) (fun hc => ?_)
    · have h := ite_t hc h
      exact zl_vret (pc := 26) hO nd_Me_setRamWord_26 rfl (zr_v h)
    · have h := ite_f hc h
      refine zl_aload_n (pc := 19) hO 0 nd_Me_setRamWord_19 rfl rfl ?_
      refine zl_get0 (pc := 20) hO nd_Me_setRamWord_20 kf_Me_15 rfl (Nat.le_of_ble_eq_true rfl) rfl ?_
      refine zl_iload_n (pc := 23) hO 3 nd_Me_setRamWord_23 rfl rfl ?_
      refine zl_iload_n (pc := 24) hO 2 nd_Me_setRamWord_24 rfl rfl ?_
      obtain ⟨c_in25, h⟩ := ck_use h
      refine zl_iast (pc := 25) hO nd_Me_setRamWord_25 rfl rfl (Nat.le_of_ble_eq_true rfl) c_in25 ?_
      obtain ⟨s2, e_s2, h⟩ := lt_use h
      refine zl_sg e_s2 ?_
      exact zl_vret (pc := 26) hO nd_Me_setRamWord_26 rfl (zr_v h)
set_option maxHeartbeats 4000000 in
set_option maxRecDepth 100000 in
theorem c_Me_clearRam {l : Launch} {V : zG} (hJ : zJ0 (sC l V)) {s0 : zS} {a1 : Int32} {a2 : Int32}  {s1 : zS} (h : k_Me_clearRam s0 a1 a2 = some s1) : zM (sC l V) md_Me_clearRam [zR 1 0, zI a1, zI a2] s0 (s1, none) := by
  refine zMet [some (zR 1 0), some (zI a1), some (zI a2), none] hJ (by decide) rfl (Nat.le_of_ble_eq_true rfl) rfl ?_
  intro X hO
  have J_2 : ∀ (n : Nat), ∀ (s0 : zS) (l3 : Int32), k_Me_clearRam_2 a1 a2 n s0 l3 = some s1 → ZW (sC l V) md_Me_clearRam (s1, none) X 2 [some (zR 1 0), some (zI a1), some (zI a2), some (zI l3)] [] s0 := by
    intro n
    induction n with
    | zero => intro s0 l3 h; exact absurd h (by rw [k_Me_clearRam_2]; exact fun w => nomatch w)
    | succ n ih =>
      intro s0 l3 h
      rw [k_Me_clearRam_2]  at h
      refine zl_iload_n (pc := 2) hO 3 nd_Me_clearRam_2 rfl rfl ?_
      refine zl_iload_n (pc := 3) hO 2 nd_Me_clearRam_3 rfl rfl ?_
      refine zl_icmp_ge (pc := 4) hO 23 nd_Me_clearRam_4 (by decide) (fun hc => ?_) (fun hc => ?_)
      · have h := ite_t hc h
        exact zl_vret (pc := 23) hO nd_Me_clearRam_23 rfl (zr_v h)
      · have h := ite_f hc h
        refine zl_aload_n (pc := 7) hO 0 nd_Me_clearRam_7 rfl rfl ?_
        refine zl_iload_n (pc := 8) hO 1 nd_Me_clearRam_8 rfl rfl ?_
        refine zl_iconst (pc := 9) hO (v := 4) nd_Me_clearRam_9 (by decide) ?_
        refine zl_iload_n (pc := 10) hO 3 nd_Me_clearRam_10 rfl rfl ?_
        refine zl_imul (pc := 11) hO nd_Me_clearRam_11 ?_
        refine zl_iadd (pc := 12) hO nd_Me_clearRam_12 ?_
        refine zl_iconst (pc := 13) hO (v := 0) nd_Me_clearRam_13 (by decide) ?_
        obtain ⟨s1, h_14, h⟩ := bn_use h
        refine zl_callVv (pc := 14) hO [zI (a1 + ((4 : Int32) * l3)), zI 0] [] (c_Me_setRamWord hJ h_14) nd_Me_clearRam_14 kv_Me_18 rfl (Nat.le_of_ble_eq_true rfl) rfl rfl rfl (Nat.le_of_ble_eq_true rfl) ?_
        obtain ⟨x2, e_x2, h⟩ := lt_use h
        refine zl_iinc (pc := 17) hO (L' := [some (zR 1 0), some (zI a1), some (zI a2), some (zI x2)]) nd_Me_clearRam_17 rfl e_x2.symm (by decide) rfl ?_
        refine zl_goto (pc := 20) hO 2 nd_Me_clearRam_20 (by decide) ?_
        exact zl_weak (ih _ _ h) ⟨rfl, ⟨rfl, ⟨rfl, ⟨rfl, trivial⟩⟩⟩⟩
  unfold k_Me_clearRam at h
  refine zl_iconst (pc := 0) hO (v := 0) nd_Me_clearRam_0 (by decide) ?_
  refine zl_istore_n (pc := 1) hO 3 (L' := [some (zR 1 0), some (zI a1), some (zI a2), some (zI 0)]) nd_Me_clearRam_1 rfl (by decide) rfl ?_
  exact zl_weak (J_2 FU _ _ h) ⟨rfl, ⟨rfl, ⟨rfl, ⟨rfl, trivial⟩⟩⟩⟩
set_option maxHeartbeats 4000000 in
set_option maxRecDepth 100000 in
theorem c_Co_clear {l : Launch} {V : zG} (hJ : zJ0 (sC l V)) {s0 : zS}   {s1 : zS} (h : k_Co_clear s0 = some s1) : zM (sC l V) md_Co_clear [zR 5 0] s0 (s1, none) := by
  refine zMet [some (zR 5 0)] hJ (by decide) rfl (Nat.le_of_ble_eq_true rfl) rfl ?_
  intro X hO
  unfold k_Co_clear at h
  refine zl_aload_n (pc := 0) hO 0 nd_Co_clear_0 rfl rfl ?_
  refine zl_iconst (pc := 1) hO (v := 0) nd_Co_clear_1 (by decide) ?_
  refine zl_puti (pc := 2) hO nd_Co_clear_2 kp_Co_16 rfl (Nat.le_of_ble_eq_true rfl) rfl ?_
  obtain ⟨s1, e_s1, h⟩ := lt_use h
  refine zl_sg e_s1 ?_
  refine zl_aload_n (pc := 5) hO 0 nd_Co_clear_5 rfl rfl ?_
  refine zl_iconst (pc := 6) hO (v := 0) nd_Co_clear_6 (by decide) ?_
  refine zl_puti (pc := 7) hO nd_Co_clear_7 kp_Co_20 rfl (Nat.le_of_ble_eq_true rfl) rfl ?_
  obtain ⟨s2, e_s2, h⟩ := lt_use h
  refine zl_sg e_s2 ?_
  exact zl_vret (pc := 10) hO nd_Co_clear_10 rfl (zr_v h)
set_option maxHeartbeats 4000000 in
set_option maxRecDepth 100000 in
theorem c_No_clear {l : Launch} {V : zG} (hJ : zJ0 (sC l V)) {s0 : zS} {p : Nat} (b_p : p < 4) {s1 : zS} (h : k_No_clear s0 p = some s1) : zM (sC l V) md_No_clear [zR 13 p] s0 (s1, none) := by
  refine zMet [some (zR 13 p), none] hJ (by decide) rfl (Nat.le_of_ble_eq_true rfl) rfl ?_
  intro X hO
  have J_2 : ∀ (n : Nat), ∀ (s0 : zS) (l1 : Int32), k_No_clear_2 p n s0 l1 = some s1 → ZW (sC l V) md_No_clear (s1, none) X 2 [some (zR 13 p), some (zI l1)] [] s0 := by
    intro n
    induction n with
    | zero => intro s0 l1 h; exact absurd h (by rw [k_No_clear_2]; exact fun w => nomatch w)
    | succ n ih =>
      intro s0 l1 h
      rw [k_No_clear_2]  at h
      refine zl_iload_n (pc := 2) hO 1 nd_No_clear_2 rfl rfl ?_
      refine zl_iconst (pc := 3) hO (v := 3) nd_No_clear_3 (by decide) ?_
      refine zl_icmp_ge (pc := 4) hO 48 nd_No_clear_4 (by decide) (fun hc => ?_) (fun hc => ?_)
      · have h := ite_t hc h
        refine zl_aload_n (pc := 48) hO 0 nd_No_clear_48 rfl rfl ?_
        refine zl_iconst (pc := 49) hO (v := 0) nd_No_clear_49 (by decide) ?_
        refine zl_puti (pc := 50) hO nd_No_clear_50 kp_No_34 rfl b_p rfl ?_
        obtain ⟨s1, e_s1, h⟩ := lt_use h
        refine zl_sg e_s1 ?_
        refine zl_aload_n (pc := 53) hO 0 nd_No_clear_53 rfl rfl ?_
        refine zl_getS (pc := 54) hO nd_No_clear_54 kf_No_30 rfl b_p rfl ?_
        refine zl_iconst (pc := 57) hO (v := 0) nd_No_clear_57 (by decide) ?_
        refine zl_puti (pc := 58) hO nd_No_clear_58 kp_No_38 rfl b_p rfl ?_
        obtain ⟨s2, e_s2, h⟩ := lt_use h
        refine zl_sg e_s2 ?_
        exact zl_vret (pc := 61) hO nd_No_clear_61 rfl (zr_v h)
      · have h := ite_f hc h
        refine zl_aload_n (pc := 7) hO 0 nd_No_clear_7 rfl rfl ?_
        refine zl_getS (pc := 8) hO nd_No_clear_8 kf_No_9 rfl b_p rfl ?_
        refine zl_iload_n (pc := 11) hO 1 nd_No_clear_11 rfl rfl ?_
        refine zl_iconst (pc := 12) hO (v := 0) nd_No_clear_12 (by decide) ?_
        obtain ⟨c_in13, h⟩ := ck_use h
        refine zl_iast (pc := 13) hO nd_No_clear_13 rfl rfl b_p c_in13 ?_
        obtain ⟨s3, e_s3, h⟩ := lt_use h
        refine zl_sg e_s3 ?_
        refine zl_aload_n (pc := 14) hO 0 nd_No_clear_14 rfl rfl ?_
        refine zl_getS (pc := 15) hO nd_No_clear_15 kf_No_15 rfl b_p rfl ?_
        refine zl_iload_n (pc := 18) hO 1 nd_No_clear_18 rfl rfl ?_
        refine zl_iconst (pc := 19) hO (v := 0) nd_No_clear_19 (by decide) ?_
        obtain ⟨c_in20, h⟩ := ck_use h
        refine zl_iast (pc := 20) hO nd_No_clear_20 rfl rfl b_p c_in20 ?_
        obtain ⟨s4, e_s4, h⟩ := lt_use h
        refine zl_sg e_s4 ?_
        refine zl_aload_n (pc := 21) hO 0 nd_No_clear_21 rfl rfl ?_
        refine zl_getS (pc := 22) hO nd_No_clear_22 kf_No_18 rfl b_p rfl ?_
        refine zl_iload_n (pc := 25) hO 1 nd_No_clear_25 rfl rfl ?_
        refine zl_iconst (pc := 26) hO (v := 0) nd_No_clear_26 (by decide) ?_
        obtain ⟨c_in27, h⟩ := ck_use h
        refine zl_iast (pc := 27) hO nd_No_clear_27 rfl rfl b_p c_in27 ?_
        obtain ⟨s5, e_s5, h⟩ := lt_use h
        refine zl_sg e_s5 ?_
        refine zl_aload_n (pc := 28) hO 0 nd_No_clear_28 rfl rfl ?_
        refine zl_getS (pc := 29) hO nd_No_clear_29 kf_No_21 rfl b_p rfl ?_
        refine zl_iload_n (pc := 32) hO 1 nd_No_clear_32 rfl rfl ?_
        refine zl_iconst (pc := 33) hO (v := 0) nd_No_clear_33 (by decide) ?_
        obtain ⟨c_in34, h⟩ := ck_use h
        refine zl_iast (pc := 34) hO nd_No_clear_34 rfl rfl b_p c_in34 ?_
        obtain ⟨s6, e_s6, h⟩ := lt_use h
        refine zl_sg e_s6 ?_
        refine zl_aload_n (pc := 35) hO 0 nd_No_clear_35 rfl rfl ?_
        refine zl_getS (pc := 36) hO nd_No_clear_36 kf_No_24 rfl b_p rfl ?_
        refine zl_iload_n (pc := 39) hO 1 nd_No_clear_39 rfl rfl ?_
        refine zl_iconst (pc := 40) hO (v := 0) nd_No_clear_40 (by decide) ?_
        obtain ⟨c_in41, h⟩ := ck_use h
        refine zl_iast (pc := 41) hO nd_No_clear_41 rfl rfl b_p c_in41 ?_
        obtain ⟨s7, e_s7, h⟩ := lt_use h
        refine zl_sg e_s7 ?_
        obtain ⟨x8, e_x8, h⟩ := lt_use h
        refine zl_iinc (pc := 42) hO (L' := [some (zR 13 p), some (zI x8)]) nd_No_clear_42 rfl e_x8.symm (by decide) rfl ?_
        refine zl_goto (pc := 45) hO 2 nd_No_clear_45 (by decide) ?_
        exact zl_weak (ih _ _ h) ⟨rfl, ⟨rfl, trivial⟩⟩
  unfold k_No_clear at h
  refine zl_iconst (pc := 0) hO (v := 0) nd_No_clear_0 (by decide) ?_
  refine zl_istore_n (pc := 1) hO 1 (L' := [some (zR 13 p), some (zI 0)]) nd_No_clear_1 rfl (by decide) rfl ?_
  exact zl_weak (J_2 FU _ _ h) ⟨rfl, ⟨rfl, trivial⟩⟩
set_option maxHeartbeats 4000000 in
set_option maxRecDepth 100000 in
theorem c_BP_loseNotes {l : Launch} {V : zG} (hJ : zJ0 (sC l V)) {s0 : zS} {p : Nat} (b_p : p < 4) {s1 : zS} (h : k_BP_loseNotes s0 p = some s1) : zM (sC l V) md_BP_loseNotes [zR 11 p] s0 (s1, none) := by
  refine zMet [some (zR 11 p)] hJ (by decide) rfl (Nat.le_of_ble_eq_true rfl) rfl ?_
  intro X hO
  unfold k_BP_loseNotes at h
  refine zl_aload_n (pc := 0) hO 0 nd_BP_loseNotes_0 rfl rfl ?_
  refine zl_getS (pc := 1) hO nd_BP_loseNotes_1 kf_BP_18 rfl b_p rfl ?_
  obtain ⟨s1, h_4, h⟩ := bn_use h
  refine zl_callVv (pc := 4) hO [] [] (c_No_clear hJ b_p h_4) nd_BP_loseNotes_4 kv_BP_67 rfl b_p rfl rfl rfl (Nat.le_of_ble_eq_true rfl) ?_
  refine zl_aload_n (pc := 7) hO 0 nd_BP_loseNotes_7 rfl rfl ?_
  refine zl_aload_n (pc := 8) hO 0 nd_BP_loseNotes_8 rfl rfl ?_
  refine zl_geti (pc := 9) hO nd_BP_loseNotes_9 kf_BP_33 rfl b_p rfl ?_
  refine zl_puti (pc := 12) hO nd_BP_loseNotes_12 kp_BP_70 rfl b_p rfl ?_
  obtain ⟨s2, e_s2, h⟩ := lt_use h
  refine zl_sg e_s2 ?_
  exact zl_vret (pc := 15) hO nd_BP_loseNotes_15 rfl (zr_v h)
set_option maxHeartbeats 4000000 in
set_option maxRecDepth 100000 in
theorem c_BP_halt {l : Launch} {V : zG} (hJ : zJ0 (sC l V)) {s0 : zS} {p : Nat} (b_p : p < 4) {s1 : zS} (h : k_BP_halt s0 p = some s1) : zM (sC l V) md_BP_halt [zR 11 p] s0 (s1, none) := by
  refine zMet [some (zR 11 p)] hJ (by decide) rfl (Nat.le_of_ble_eq_true rfl) rfl ?_
  intro X hO
  unfold k_BP_halt at h
  refine zl_aload_n (pc := 0) hO 0 nd_BP_halt_0 rfl rfl ?_
  obtain ⟨s1, h_1, h⟩ := bn_use h
  refine zl_callVv (pc := 1) hO [] [] (c_BP_loseNotes hJ b_p h_1) nd_BP_halt_1 kv_BP_64 rfl b_p rfl rfl rfl (Nat.le_of_ble_eq_true rfl) ?_
  refine zl_aload_n (pc := 4) hO 0 nd_BP_halt_4 rfl rfl ?_
  refine zl_iconst (pc := 5) hO (v := 2) nd_BP_halt_5 (by decide) ?_
  refine zl_puti (pc := 6) hO nd_BP_halt_6 kp_BP_26 rfl b_p rfl ?_
  obtain ⟨s2, e_s2, h⟩ := lt_use h
  refine zl_sg e_s2 ?_
  exact zl_vret (pc := 9) hO nd_BP_halt_9 rfl (zr_v h)
set_option maxHeartbeats 4000000 in
set_option maxRecDepth 100000 in
theorem c_BP_forgetFaults {l : Launch} {V : zG} (hJ : zJ0 (sC l V)) {s0 : zS} {p : Nat} (b_p : p < 4) {s1 : zS} (h : k_BP_forgetFaults s0 p = some s1) : zM (sC l V) md_BP_forgetFaults [zR 11 p] s0 (s1, none) := by
  refine zMet [some (zR 11 p)] hJ (by decide) rfl (Nat.le_of_ble_eq_true rfl) rfl ?_
  intro X hO
  unfold k_BP_forgetFaults at h
  refine zl_aload_n (pc := 0) hO 0 nd_BP_forgetFaults_0 rfl rfl ?_
  refine zl_iconst (pc := 1) hO (v := 0) nd_BP_forgetFaults_1 (by decide) ?_
  refine zl_puti (pc := 2) hO nd_BP_forgetFaults_2 kp_BP_73 rfl b_p rfl ?_
  obtain ⟨s1, e_s1, h⟩ := lt_use h
  refine zl_sg e_s1 ?_
  refine zl_aload_n (pc := 5) hO 0 nd_BP_forgetFaults_5 rfl rfl ?_
  refine zl_iconst (pc := 6) hO (v := 0) nd_BP_forgetFaults_6 (by decide) ?_
  refine zl_puti (pc := 7) hO nd_BP_forgetFaults_7 kp_BP_76 rfl b_p rfl ?_
  obtain ⟨s2, e_s2, h⟩ := lt_use h
  refine zl_sg e_s2 ?_
  refine zl_aload_n (pc := 10) hO 0 nd_BP_forgetFaults_10 rfl rfl ?_
  refine zl_iconst (pc := 11) hO (v := 0) nd_BP_forgetFaults_11 (by decide) ?_
  refine zl_puti (pc := 12) hO nd_BP_forgetFaults_12 kp_BP_79 rfl b_p rfl ?_
  obtain ⟨s3, e_s3, h⟩ := lt_use h
  refine zl_sg e_s3 ?_
  exact zl_vret (pc := 15) hO nd_BP_forgetFaults_15 rfl (zr_v h)
set_option maxHeartbeats 4000000 in
set_option maxRecDepth 100000 in
theorem c_Lo_isHeader {l : Launch} {V : zG} (hJ : zJ0 (sC l V)) {s0 : zS} {a1 : Int32}  {s1 : zS} {v1 : Int32} (h : k_Lo_isHeader s0 a1 = some (s1, v1)) : zM (sC l V) md_Lo_isHeader [zR 9 0, zI a1] s0 (s1, some (zI v1)) := by
  refine zMet [some (zR 9 0), some (zI a1), none] hJ (by decide) rfl (Nat.le_of_ble_eq_true rfl) rfl ?_
  intro X hO
  unfold k_Lo_isHeader at h
  refine zl_iload_n (pc := 0) hO 1 nd_Lo_isHeader_0 rfl rfl ?_
  refine zl_bipush (pc := 1) hO (v := 6) nd_Lo_isHeader_1 (by decide) ?_
  refine zl_iadd (pc := 3) hO nd_Lo_isHeader_3 ?_
  refine zl_sipush (pc := 4) hO (v := 256) nd_Lo_isHeader_4 (by decide) ?_
  refine zl_icmp_gt (pc := 7) hO 25 nd_Lo_isHeader_7 (by decide) (fun hc => ?_) (fun hc => ?_)
  · have h := ite_t hc h
    refine zl_iconst (pc := 25) hO (v := 0) nd_Lo_isHeader_25 (by decide) ?_
    exact zl_zret (pc := 26) hO nd_Lo_isHeader_26 rfl (by decide) (zr_i h)
  · have h := ite_f hc h
    refine zl_aload_n (pc := 10) hO 0 nd_Lo_isHeader_10 rfl rfl ?_
    refine zl_get0 (pc := 11) hO nd_Lo_isHeader_11 kf_Lo_11 rfl (Nat.le_of_ble_eq_true rfl) rfl ?_
    refine zl_get0 (pc := 14) hO nd_Lo_isHeader_14 kf_Lo_42 rfl (Nat.le_of_ble_eq_true rfl) rfl ?_
    refine zl_iload_n (pc := 17) hO 1 nd_Lo_isHeader_17 rfl rfl ?_
    obtain ⟨c_in18, h⟩ := ck_use h
    refine zl_iald (pc := 18) hO nd_Lo_isHeader_18 rfl rfl (Nat.le_of_ble_eq_true rfl) c_in18 ?_
    refine zl_sipush (pc := 19) hO (v := 21570) nd_Lo_isHeader_19 (by decide) ?_
    refine zl_icmp_eq (pc := 22) hO 27 nd_Lo_isHeader_22 (by decide) (fun hc => ?_) (fun hc => ?_)
    · have h := ite_t hc h
      refine zl_aload_n (pc := 27) hO 0 nd_Lo_isHeader_27 rfl rfl ?_
      refine zl_get0 (pc := 28) hO nd_Lo_isHeader_28 kf_Lo_11 rfl (Nat.le_of_ble_eq_true rfl) rfl ?_
      refine zl_get0 (pc := 31) hO nd_Lo_isHeader_31 kf_Lo_42 rfl (Nat.le_of_ble_eq_true rfl) rfl ?_
      refine zl_iload_n (pc := 34) hO 1 nd_Lo_isHeader_34 rfl rfl ?_
      refine zl_iconst (pc := 35) hO (v := 1) nd_Lo_isHeader_35 (by decide) ?_
      refine zl_iadd (pc := 36) hO nd_Lo_isHeader_36 ?_
      obtain ⟨c_in37, h⟩ := ck_use h
      refine zl_iald (pc := 37) hO nd_Lo_isHeader_37 rfl rfl (Nat.le_of_ble_eq_true rfl) c_in37 ?_
      obtain ⟨x1, e_x1, h⟩ := lt_use h
      refine zl_top e_x1 ?_
      refine zl_istore_n (pc := 38) hO 2 (L' := [some (zR 9 0), some (zI a1), some (zI x1)]) nd_Lo_isHeader_38 rfl (by decide) rfl ?_
      refine zl_iload_n (pc := 39) hO 2 nd_Lo_isHeader_39 rfl rfl ?_
      refine zl_bipush (pc := 40) hO (v := 8) nd_Lo_isHeader_40 (by decide) ?_
      refine zl_icmp_lt (pc := 42) hO 64 nd_Lo_isHeader_42 (by decide) (fun hc => ?_) (fun hc => ?_)
      · have h := ite_t hc h
        refine zl_iconst (pc := 64) hO (v := 0) nd_Lo_isHeader_64 (by decide) ?_
        exact zl_zret (pc := 65) hO nd_Lo_isHeader_65 rfl (by decide) (zr_i h)
      · have h := ite_f hc h
        refine zl_iload_n (pc := 45) hO 2 nd_Lo_isHeader_45 rfl rfl ?_
        refine zl_iconst (pc := 46) hO (v := 1) nd_Lo_isHeader_46 (by decide) ?_
        refine zl_iand (pc := 47) hO nd_Lo_isHeader_47 ?_
        refine zl_if_ne (pc := 48) hO 64 nd_Lo_isHeader_48 (by decide) (fun hc => ?_) (fun hc => ?_)
        · have h := ite_f hc h
          refine zl_iconst (pc := 64) hO (v := 0) nd_Lo_isHeader_64 (by decide) ?_
          exact zl_zret (pc := 65) hO nd_Lo_isHeader_65 rfl (by decide) (zr_i h)
        · have h := ite_t hc h
          refine zl_iload_n (pc := 51) hO 1 nd_Lo_isHeader_51 rfl rfl ?_
          refine zl_iload_n (pc := 52) hO 2 nd_Lo_isHeader_52 rfl rfl ?_
          refine zl_iadd (pc := 53) hO nd_Lo_isHeader_53 ?_
          refine zl_sipush (pc := 54) hO (v := 256) nd_Lo_isHeader_54 (by decide) ?_
          refine zl_icmp_gt (pc := 57) hO 64 nd_Lo_isHeader_57 (by decide) (fun hc => ?_) (fun hc => ?_)
          · have h := ite_t hc h
            refine zl_iconst (pc := 64) hO (v := 0) nd_Lo_isHeader_64 (by decide) ?_
            exact zl_zret (pc := 65) hO nd_Lo_isHeader_65 rfl (by decide) (zr_i h)
          · have h := ite_f hc h
            refine zl_iconst (pc := 60) hO (v := 1) nd_Lo_isHeader_60 (by decide) ?_
            refine zl_goto (pc := 61) hO 65 nd_Lo_isHeader_61 (by decide) ?_
            exact zl_zret (pc := 65) hO nd_Lo_isHeader_65 rfl (by decide) (zr_i h)
    · have h := ite_f hc h
      refine zl_iconst (pc := 25) hO (v := 0) nd_Lo_isHeader_25 (by decide) ?_
      exact zl_zret (pc := 26) hO nd_Lo_isHeader_26 rfl (by decide) (zr_i h)
set_option maxHeartbeats 4000000 in
set_option maxRecDepth 100000 in
theorem c_BP_begin {l : Launch} {V : zG} (hJ : zJ0 (sC l V)) {s0 : zS} {p : Nat} (b_p : p < 4) {s1 : zS} (h : k_BP_begin s0 p = some s1) : zM (sC l V) md_BP_begin [zR 11 p] s0 (s1, none) := by
  refine zMet [some (zR 11 p), none] hJ (by decide) rfl (Nat.le_of_ble_eq_true rfl) rfl ?_
  intro X hO
  have J_17 : ∀ (n : Nat), ∀ (s0 : zS) (l1 : Int32), k_BP_begin_17 p n s0 l1 = some s1 → ZW (sC l V) md_BP_begin (s1, none) X 17 [some (zR 11 p), some (zI l1)] [] s0 := by
    intro n
    induction n with
    | zero => intro s0 l1 h; exact absurd h (by rw [k_BP_begin_17]; exact fun w => nomatch w)
    | succ n ih =>
      intro s0 l1 h
      rw [k_BP_begin_17]  at h
      refine zl_iload_n (pc := 17) hO 1 nd_BP_begin_17 rfl rfl ?_
      refine zl_aload_n (pc := 18) hO 0 nd_BP_begin_18 rfl rfl ?_
      refine zl_getS (pc := 19) hO nd_BP_begin_19 kf_BP_22 rfl b_p rfl ?_
      refine zl_alen (pc := 22) hO (v := 8) nd_BP_begin_22 rfl rfl b_p (by decide) ?_
      refine zl_icmp_ge (pc := 23) hO 39 nd_BP_begin_23 (by decide) (fun hc => ?_) (fun hc => ?_)
      · have h := ite_t hc h
        refine zl_aload_n (pc := 39) hO 0 nd_BP_begin_39 rfl rfl ?_
        refine zl_aload_n (pc := 40) hO 0 nd_BP_begin_40 rfl rfl ?_
        refine zl_geti (pc := 41) hO nd_BP_begin_41 kf_BP_30 rfl b_p rfl ?_
        refine zl_iconst (pc := 44) hO (v := 4) nd_BP_begin_44 (by decide) ?_
        refine zl_aload_n (pc := 45) hO 0 nd_BP_begin_45 rfl rfl ?_
        refine zl_geti (pc := 46) hO nd_BP_begin_46 kf_BP_42 rfl b_p rfl ?_
        refine zl_imul (pc := 49) hO nd_BP_begin_49 ?_
        refine zl_iadd (pc := 50) hO nd_BP_begin_50 ?_
        refine zl_puti (pc := 51) hO nd_BP_begin_51 kp_BP_45 rfl b_p rfl ?_
        obtain ⟨s2, e_s2, h⟩ := lt_use h
        refine zl_sg e_s2 ?_
        refine zl_aload_n (pc := 54) hO 0 nd_BP_begin_54 rfl rfl ?_
        refine zl_iconst (pc := 55) hO (v := 0) nd_BP_begin_55 (by decide) ?_
        refine zl_puti (pc := 56) hO nd_BP_begin_56 kp_BP_48 rfl b_p rfl ?_
        obtain ⟨s3, e_s3, h⟩ := lt_use h
        refine zl_sg e_s3 ?_
        refine zl_aload_n (pc := 59) hO 0 nd_BP_begin_59 rfl rfl ?_
        refine zl_aload_n (pc := 60) hO 0 nd_BP_begin_60 rfl rfl ?_
        refine zl_geti (pc := 61) hO nd_BP_begin_61 kf_BP_51 rfl b_p rfl ?_
        refine zl_puti (pc := 64) hO nd_BP_begin_64 kp_BP_54 rfl b_p rfl ?_
        obtain ⟨s4, e_s4, h⟩ := lt_use h
        refine zl_sg e_s4 ?_
        refine zl_aload_n (pc := 67) hO 0 nd_BP_begin_67 rfl rfl ?_
        refine zl_iconst (pc := 68) hO (v := 0) nd_BP_begin_68 (by decide) ?_
        refine zl_puti (pc := 69) hO nd_BP_begin_69 kp_BP_57 rfl b_p rfl ?_
        obtain ⟨s5, e_s5, h⟩ := lt_use h
        refine zl_sg e_s5 ?_
        refine zl_aload_n (pc := 72) hO 0 nd_BP_begin_72 rfl rfl ?_
        refine zl_iconst (pc := 73) hO (v := 0) nd_BP_begin_73 (by decide) ?_
        refine zl_putz (pc := 74) hO nd_BP_begin_74 rfl kp_BP_60 rfl b_p rfl ?_
        obtain ⟨s6, e_s6, h⟩ := lt_use h
        refine zl_sg e_s6 ?_
        refine zl_aload_n (pc := 77) hO 0 nd_BP_begin_77 rfl rfl ?_
        obtain ⟨s7, h_78, h⟩ := bn_use h
        refine zl_callVv (pc := 78) hO [] [] (c_BP_loseNotes hJ b_p h_78) nd_BP_begin_78 kv_BP_64 rfl b_p rfl rfl rfl (Nat.le_of_ble_eq_true rfl) ?_
        refine zl_aload_n (pc := 81) hO 0 nd_BP_begin_81 rfl rfl ?_
        refine zl_iconst (pc := 82) hO (v := 0) nd_BP_begin_82 (by decide) ?_
        refine zl_puti (pc := 83) hO nd_BP_begin_83 kp_BP_26 rfl b_p rfl ?_
        obtain ⟨s8, e_s8, h⟩ := lt_use h
        refine zl_sg e_s8 ?_
        exact zl_vret (pc := 86) hO nd_BP_begin_86 rfl (zr_v h)
      · have h := ite_f hc h
        refine zl_aload_n (pc := 26) hO 0 nd_BP_begin_26 rfl rfl ?_
        refine zl_getS (pc := 27) hO nd_BP_begin_27 kf_BP_22 rfl b_p rfl ?_
        refine zl_iload_n (pc := 30) hO 1 nd_BP_begin_30 rfl rfl ?_
        refine zl_iconst (pc := 31) hO (v := 0) nd_BP_begin_31 (by decide) ?_
        obtain ⟨c_in32, h⟩ := ck_use h
        refine zl_iast (pc := 32) hO nd_BP_begin_32 rfl rfl b_p c_in32 ?_
        obtain ⟨s9, e_s9, h⟩ := lt_use h
        refine zl_sg e_s9 ?_
        obtain ⟨x10, e_x10, h⟩ := lt_use h
        refine zl_iinc (pc := 33) hO (L' := [some (zR 11 p), some (zI x10)]) nd_BP_begin_33 rfl e_x10.symm (by decide) rfl ?_
        refine zl_goto (pc := 36) hO 17 nd_BP_begin_36 (by decide) ?_
        exact zl_weak (ih _ _ h) ⟨rfl, ⟨rfl, trivial⟩⟩
  unfold k_BP_begin at h
  refine zl_aload_n (pc := 0) hO 0 nd_BP_begin_0 rfl rfl ?_
  refine zl_get0 (pc := 1) hO nd_BP_begin_1 kf_BP_9 rfl b_p rfl ?_
  refine zl_aload_n (pc := 4) hO 0 nd_BP_begin_4 rfl rfl ?_
  refine zl_geti (pc := 5) hO nd_BP_begin_5 kf_BP_30 rfl b_p rfl ?_
  refine zl_aload_n (pc := 8) hO 0 nd_BP_begin_8 rfl rfl ?_
  refine zl_geti (pc := 9) hO nd_BP_begin_9 kf_BP_33 rfl b_p rfl ?_
  obtain ⟨s1, h_12, h⟩ := bn_use h
  refine zl_callVv (pc := 12) hO [zI (s0 11 p 5), zI (s0 11 p 6)] [] (c_Me_clearRam hJ h_12) nd_BP_begin_12 kv_BP_36 rfl (Nat.le_of_ble_eq_true rfl) rfl rfl rfl (Nat.le_of_ble_eq_true rfl) ?_
  refine zl_iconst (pc := 15) hO (v := 0) nd_BP_begin_15 (by decide) ?_
  refine zl_istore_n (pc := 16) hO 1 (L' := [some (zR 11 p), some (zI 0)]) nd_BP_begin_16 rfl (by decide) rfl ?_
  exact zl_weak (J_17 FU _ _ h) ⟨rfl, ⟨rfl, trivial⟩⟩
set_option maxHeartbeats 4000000 in
set_option maxRecDepth 100000 in
theorem c_Lo_loadAt {l : Launch} {V : zG} (hJ : zJ0 (sC l V)) {s0 : zS} {a1 : Int32}  {s1 : zS} (h : k_Lo_loadAt s0 a1 = some s1) : zM (sC l V) md_Lo_loadAt [zR 9 0, zI a1] s0 (s1, none) := by
  refine zMet [some (zR 9 0), some (zI a1), none, none, none, none, none, none, none, none, none] hJ (by decide) rfl (Nat.le_of_ble_eq_true rfl) rfl ?_
  intro X hO
  unfold k_Lo_loadAt at h
  refine zl_aload_n (pc := 0) hO 0 nd_Lo_loadAt_0 rfl rfl ?_
  refine zl_get0 (pc := 1) hO nd_Lo_loadAt_1 kf_Lo_11 rfl (Nat.le_of_ble_eq_true rfl) rfl ?_
  refine zl_get0 (pc := 4) hO nd_Lo_loadAt_4 kf_Lo_42 rfl (Nat.le_of_ble_eq_true rfl) rfl ?_
  refine zl_astore_n (pc := 7) hO 2 (L' := [some (zR 9 0), some (zI a1), some (zR 2 0), none, none, none, none, none, none, none, none]) nd_Lo_loadAt_7 rfl (by decide) rfl ?_
  refine zl_aload_n (pc := 8) hO 2 nd_Lo_loadAt_8 rfl rfl ?_
  refine zl_iload_n (pc := 9) hO 1 nd_Lo_loadAt_9 rfl rfl ?_
  refine zl_iconst (pc := 10) hO (v := 1) nd_Lo_loadAt_10 (by decide) ?_
  refine zl_iadd (pc := 11) hO nd_Lo_loadAt_11 ?_
  obtain ⟨c_in12, h⟩ := ck_use h
  refine zl_iald (pc := 12) hO nd_Lo_loadAt_12 rfl rfl (Nat.le_of_ble_eq_true rfl) c_in12 ?_
  obtain ⟨x1, e_x1, h⟩ := lt_use h
  refine zl_top e_x1 ?_
  refine zl_istore_n (pc := 13) hO 3 (L' := [some (zR 9 0), some (zI a1), some (zR 2 0), some (zI x1), none, none, none, none, none, none, none]) nd_Lo_loadAt_13 rfl (by decide) rfl ?_
  refine zl_aload_n (pc := 14) hO 2 nd_Lo_loadAt_14 rfl rfl ?_
  refine zl_iload_n (pc := 15) hO 1 nd_Lo_loadAt_15 rfl rfl ?_
  refine zl_iconst (pc := 16) hO (v := 2) nd_Lo_loadAt_16 (by decide) ?_
  refine zl_iadd (pc := 17) hO nd_Lo_loadAt_17 ?_
  obtain ⟨c_in18, h⟩ := ck_use h
  refine zl_iald (pc := 18) hO nd_Lo_loadAt_18 rfl rfl (Nat.le_of_ble_eq_true rfl) c_in18 ?_
  obtain ⟨x2, e_x2, h⟩ := lt_use h
  refine zl_top e_x2 ?_
  refine zl_istore (pc := 19) hO (L' := [some (zR 9 0), some (zI a1), some (zR 2 0), some (zI x1), some (zI x2), none, none, none, none, none, none]) nd_Lo_loadAt_19 (by decide) rfl ?_
  refine zl_aload_n (pc := 21) hO 2 nd_Lo_loadAt_21 rfl rfl ?_
  refine zl_iload_n (pc := 22) hO 1 nd_Lo_loadAt_22 rfl rfl ?_
  refine zl_iconst (pc := 23) hO (v := 3) nd_Lo_loadAt_23 (by decide) ?_
  refine zl_iadd (pc := 24) hO nd_Lo_loadAt_24 ?_
  obtain ⟨c_in25, h⟩ := ck_use h
  refine zl_iald (pc := 25) hO nd_Lo_loadAt_25 rfl rfl (Nat.le_of_ble_eq_true rfl) c_in25 ?_
  obtain ⟨x3, e_x3, h⟩ := lt_use h
  refine zl_top e_x3 ?_
  refine zl_istore (pc := 26) hO (L' := [some (zR 9 0), some (zI a1), some (zR 2 0), some (zI x1), some (zI x2), some (zI x3), none, none, none, none, none]) nd_Lo_loadAt_26 (by decide) rfl ?_
  refine zl_aload_n (pc := 28) hO 2 nd_Lo_loadAt_28 rfl rfl ?_
  refine zl_iload_n (pc := 29) hO 1 nd_Lo_loadAt_29 rfl rfl ?_
  refine zl_iconst (pc := 30) hO (v := 4) nd_Lo_loadAt_30 (by decide) ?_
  refine zl_iadd (pc := 31) hO nd_Lo_loadAt_31 ?_
  obtain ⟨c_in32, h⟩ := ck_use h
  refine zl_iald (pc := 32) hO nd_Lo_loadAt_32 rfl rfl (Nat.le_of_ble_eq_true rfl) c_in32 ?_
  obtain ⟨x4, e_x4, h⟩ := lt_use h
  refine zl_top e_x4 ?_
  refine zl_istore (pc := 33) hO (L' := [some (zR 9 0), some (zI a1), some (zR 2 0), some (zI x1), some (zI x2), some (zI x3), some (zI x4), none, none, none, none]) nd_Lo_loadAt_33 (by decide) rfl ?_
  refine zl_aload_n (pc := 35) hO 2 nd_Lo_loadAt_35 rfl rfl ?_
  refine zl_iload_n (pc := 36) hO 1 nd_Lo_loadAt_36 rfl rfl ?_
  refine zl_iconst (pc := 37) hO (v := 5) nd_Lo_loadAt_37 (by decide) ?_
  refine zl_iadd (pc := 38) hO nd_Lo_loadAt_38 ?_
  obtain ⟨c_in39, h⟩ := ck_use h
  refine zl_iald (pc := 39) hO nd_Lo_loadAt_39 rfl rfl (Nat.le_of_ble_eq_true rfl) c_in39 ?_
  obtain ⟨x5, e_x5, h⟩ := lt_use h
  refine zl_top e_x5 ?_
  refine zl_istore (pc := 40) hO (L' := [some (zR 9 0), some (zI a1), some (zR 2 0), some (zI x1), some (zI x2), some (zI x3), some (zI x4), some (zI x5), none, none, none]) nd_Lo_loadAt_40 (by decide) rfl ?_
  refine zl_aload_n (pc := 42) hO 0 nd_Lo_loadAt_42 rfl rfl ?_
  refine zl_geti (pc := 43) hO nd_Lo_loadAt_43 kf_Lo_27 rfl (Nat.le_of_ble_eq_true rfl) rfl ?_
  refine zl_iconst (pc := 46) hO (v := 4) nd_Lo_loadAt_46 (by decide) ?_
  refine zl_icmp_ge (pc := 47) hO 63 nd_Lo_loadAt_47 (by decide) (fun hc => ?_) (fun hc => ?_)
  · have h := ite_t hc h
    exact zl_vret (pc := 63) hO nd_Lo_loadAt_63 rfl (zr_v h)
  · have h := ite_f hc h
    refine zl_iload (pc := 50) hO nd_Lo_loadAt_50 rfl ?_
    refine zl_iconst (pc := 52) hO (v := 2) nd_Lo_loadAt_52 (by decide) ?_
    refine zl_icmp_gt (pc := 53) hO 63 nd_Lo_loadAt_53 (by decide) (fun hc => ?_) (fun hc => ?_)
    · have h := ite_t hc h
      exact zl_vret (pc := 63) hO nd_Lo_loadAt_63 rfl (zr_v h)
    · have h := ite_f hc h
      refine zl_iload (pc := 56) hO nd_Lo_loadAt_56 rfl ?_
      refine zl_bipush (pc := 58) hO (v := 15) nd_Lo_loadAt_58 (by decide) ?_
      refine zl_icmp_le (pc := 60) hO 64 nd_Lo_loadAt_60 (by decide) (fun hc => ?_) (fun hc => ?_)
      · have h := ite_t hc h
        refine zl_bipush (pc := 64) hO (v := 16) nd_Lo_loadAt_64 (by decide) ?_
        refine zl_iload (pc := 66) hO nd_Lo_loadAt_66 rfl ?_
        refine zl_ishl (pc := 68) hO nd_Lo_loadAt_68 ?_
        obtain ⟨x6, e_x6, h⟩ := lt_use h
        refine zl_top e_x6 ?_
        refine zl_istore (pc := 69) hO (L' := [some (zR 9 0), some (zI a1), some (zR 2 0), some (zI x1), some (zI x2), some (zI x3), some (zI x4), some (zI x5), some (zI x6), none, none]) nd_Lo_loadAt_69 (by decide) rfl ?_
        refine zl_iload (pc := 71) hO nd_Lo_loadAt_71 rfl ?_
        refine zl_bipush (pc := 73) hO (v := 8) nd_Lo_loadAt_73 (by decide) ?_
        refine zl_icmp_lt (pc := 75) hO 98 nd_Lo_loadAt_75 (by decide) (fun hc => ?_) (fun hc => ?_)
        · have h := ite_t hc h
          exact zl_vret (pc := 98) hO nd_Lo_loadAt_98 rfl (zr_v h)
        · have h := ite_f hc h
          refine zl_iload (pc := 78) hO nd_Lo_loadAt_78 rfl ?_
          refine zl_iload (pc := 80) hO nd_Lo_loadAt_80 rfl ?_
          refine zl_icmp_gt (pc := 82) hO 98 nd_Lo_loadAt_82 (by decide) (fun hc => ?_) (fun hc => ?_)
          · have h := ite_t hc h
            exact zl_vret (pc := 98) hO nd_Lo_loadAt_98 rfl (zr_v h)
          · have h := ite_f hc h
            refine zl_iload (pc := 85) hO nd_Lo_loadAt_85 rfl ?_
            refine zl_bipush (pc := 87) hO (v := 6) nd_Lo_loadAt_87 (by decide) ?_
            refine zl_icmp_lt (pc := 89) hO 98 nd_Lo_loadAt_89 (by decide) (fun hc => ?_) (fun hc => ?_)
            · have h := ite_t hc h
              exact zl_vret (pc := 98) hO nd_Lo_loadAt_98 rfl (zr_v h)
            · have h := ite_f hc h
              refine zl_iload (pc := 92) hO nd_Lo_loadAt_92 rfl ?_
              refine zl_iload_n (pc := 94) hO 3 nd_Lo_loadAt_94 rfl rfl ?_
              refine zl_icmp_lt (pc := 95) hO 99 nd_Lo_loadAt_95 (by decide) (fun hc => ?_) (fun hc => ?_)
              · have h := ite_t hc h
                refine zl_aload_n (pc := 99) hO 0 nd_Lo_loadAt_99 rfl rfl ?_
                refine zl_geti (pc := 100) hO nd_Lo_loadAt_100 kf_Lo_31 rfl (Nat.le_of_ble_eq_true rfl) rfl ?_
                refine zl_iload (pc := 103) hO nd_Lo_loadAt_103 rfl ?_
                refine zl_iadd (pc := 105) hO nd_Lo_loadAt_105 ?_
                refine zl_iconst (pc := 106) hO (v := 1) nd_Lo_loadAt_106 (by decide) ?_
                refine zl_isub (pc := 107) hO nd_Lo_loadAt_107 ?_
                refine zl_iload (pc := 108) hO nd_Lo_loadAt_108 rfl ?_
                refine zl_ineg (pc := 110) hO nd_Lo_loadAt_110 ?_
                refine zl_iand (pc := 111) hO nd_Lo_loadAt_111 ?_
                obtain ⟨x7, e_x7, h⟩ := lt_use h
                refine zl_top e_x7 ?_
                refine zl_istore (pc := 112) hO (L' := [some (zR 9 0), some (zI a1), some (zR 2 0), some (zI x1), some (zI x2), some (zI x3), some (zI x4), some (zI x5), some (zI x6), some (zI x7), none]) nd_Lo_loadAt_112 (by decide) rfl ?_
                refine zl_iload (pc := 114) hO nd_Lo_loadAt_114 rfl ?_
                refine zl_iload (pc := 116) hO nd_Lo_loadAt_116 rfl ?_
                refine zl_iadd (pc := 118) hO nd_Lo_loadAt_118 ?_
                refine zl_sipush (pc := 119) hO (v := 128) nd_Lo_loadAt_119 (by decide) ?_
                refine zl_icmp_le (pc := 122) hO 126 nd_Lo_loadAt_122 (by decide) (fun hc => ?_) (fun hc => ?_)
                · have h := ite_t hc h
                  refine zl_aload_n (pc := 126) hO 0 nd_Lo_loadAt_126 rfl rfl ?_
                  refine zl_get0 (pc := 127) hO nd_Lo_loadAt_127 kf_Lo_15 rfl (Nat.le_of_ble_eq_true rfl) rfl ?_
                  refine zl_aload_n (pc := 130) hO 0 nd_Lo_loadAt_130 rfl rfl ?_
                  refine zl_geti (pc := 131) hO nd_Lo_loadAt_131 kf_Lo_27 rfl (Nat.le_of_ble_eq_true rfl) rfl ?_
                  obtain ⟨c_in134, h⟩ := ck_use h
                  have p_134 := zi_lt c_in134
                  refine zl_aald (pc := 134) hO nd_Lo_loadAt_134 rfl rfl (Nat.le_of_ble_eq_true rfl) c_in134 ?_
                  refine zl_astore (pc := 135) hO (L' := [some (zR 9 0), some (zI a1), some (zR 2 0), some (zI x1), some (zI x2), some (zI x3), some (zI x4), some (zI x5), some (zI x6), some (zI x7), some (zR 11 ((s0 9 0 2).toNatClampNeg))]) nd_Lo_loadAt_135 (by decide) rfl ?_
                  refine zl_aload (pc := 137) hO nd_Lo_loadAt_137 rfl ?_
                  refine zl_iconst (pc := 139) hO (v := 2) nd_Lo_loadAt_139 (by decide) ?_
                  refine zl_iload_n (pc := 140) hO 1 nd_Lo_loadAt_140 rfl rfl ?_
                  refine zl_imul (pc := 141) hO nd_Lo_loadAt_141 ?_
                  refine zl_puti (pc := 142) hO nd_Lo_loadAt_142 kp_Lo_48 rfl p_134 rfl ?_
                  obtain ⟨s8, e_s8, h⟩ := lt_use h
                  refine zl_sg e_s8 ?_
                  refine zl_aload (pc := 145) hO nd_Lo_loadAt_145 rfl ?_
                  refine zl_iconst (pc := 147) hO (v := 2) nd_Lo_loadAt_147 (by decide) ?_
                  refine zl_iload_n (pc := 148) hO 1 nd_Lo_loadAt_148 rfl rfl ?_
                  refine zl_iload_n (pc := 149) hO 3 nd_Lo_loadAt_149 rfl rfl ?_
                  refine zl_iadd (pc := 150) hO nd_Lo_loadAt_150 ?_
                  refine zl_imul (pc := 151) hO nd_Lo_loadAt_151 ?_
                  refine zl_puti (pc := 152) hO nd_Lo_loadAt_152 kp_Lo_51 rfl p_134 rfl ?_
                  obtain ⟨s9, e_s9, h⟩ := lt_use h
                  refine zl_sg e_s9 ?_
                  refine zl_aload (pc := 155) hO nd_Lo_loadAt_155 rfl ?_
                  refine zl_iconst (pc := 157) hO (v := 2) nd_Lo_loadAt_157 (by decide) ?_
                  refine zl_iload_n (pc := 158) hO 1 nd_Lo_loadAt_158 rfl rfl ?_
                  refine zl_iload (pc := 159) hO nd_Lo_loadAt_159 rfl ?_
                  refine zl_iadd (pc := 161) hO nd_Lo_loadAt_161 ?_
                  refine zl_imul (pc := 162) hO nd_Lo_loadAt_162 ?_
                  refine zl_puti (pc := 163) hO nd_Lo_loadAt_163 kp_Lo_54 rfl p_134 rfl ?_
                  obtain ⟨s10, e_s10, h⟩ := lt_use h
                  refine zl_sg e_s10 ?_
                  refine zl_aload (pc := 166) hO nd_Lo_loadAt_166 rfl ?_
                  refine zl_sipush (pc := 168) hO (v := 4096) nd_Lo_loadAt_168 (by decide) ?_
                  refine zl_iconst (pc := 171) hO (v := 4) nd_Lo_loadAt_171 (by decide) ?_
                  refine zl_iload (pc := 172) hO nd_Lo_loadAt_172 rfl ?_
                  refine zl_imul (pc := 174) hO nd_Lo_loadAt_174 ?_
                  refine zl_iadd (pc := 175) hO nd_Lo_loadAt_175 ?_
                  refine zl_puti (pc := 176) hO nd_Lo_loadAt_176 kp_Lo_57 rfl p_134 rfl ?_
                  obtain ⟨s11, e_s11, h⟩ := lt_use h
                  refine zl_sg e_s11 ?_
                  refine zl_aload (pc := 179) hO nd_Lo_loadAt_179 rfl ?_
                  refine zl_iload (pc := 181) hO nd_Lo_loadAt_181 rfl ?_
                  refine zl_puti (pc := 183) hO nd_Lo_loadAt_183 kp_Lo_60 rfl p_134 rfl ?_
                  obtain ⟨s12, e_s12, h⟩ := lt_use h
                  refine zl_sg e_s12 ?_
                  refine zl_aload (pc := 186) hO nd_Lo_loadAt_186 rfl ?_
                  refine zl_iload (pc := 188) hO nd_Lo_loadAt_188 rfl ?_
                  refine zl_puti (pc := 190) hO nd_Lo_loadAt_190 kp_Lo_63 rfl p_134 rfl ?_
                  obtain ⟨s13, e_s13, h⟩ := lt_use h
                  refine zl_sg e_s13 ?_
                  refine zl_aload (pc := 193) hO nd_Lo_loadAt_193 rfl ?_
                  refine zl_iload (pc := 195) hO nd_Lo_loadAt_195 rfl ?_
                  refine zl_puti (pc := 197) hO nd_Lo_loadAt_197 kp_Lo_66 rfl p_134 rfl ?_
                  obtain ⟨s14, e_s14, h⟩ := lt_use h
                  refine zl_sg e_s14 ?_
                  refine zl_aload (pc := 200) hO nd_Lo_loadAt_200 rfl ?_
                  obtain ⟨s15, h_202, h⟩ := bn_use h
                  refine zl_callVv (pc := 202) hO [] [] (c_BP_begin hJ p_134 h_202) nd_Lo_loadAt_202 kv_Lo_69 rfl p_134 rfl rfl rfl (Nat.le_of_ble_eq_true rfl) ?_
                  refine zl_aload_n (pc := 205) hO 0 nd_Lo_loadAt_205 rfl rfl ?_
                  refine zl_dup (pc := 206) hO nd_Lo_loadAt_206 rfl ?_
                  refine zl_geti (pc := 207) hO nd_Lo_loadAt_207 kf_Lo_27 rfl (Nat.le_of_ble_eq_true rfl) rfl ?_
                  refine zl_iconst (pc := 210) hO (v := 1) nd_Lo_loadAt_210 (by decide) ?_
                  refine zl_iadd (pc := 211) hO nd_Lo_loadAt_211 ?_
                  refine zl_puti (pc := 212) hO nd_Lo_loadAt_212 kp_Lo_27 rfl (Nat.le_of_ble_eq_true rfl) rfl ?_
                  obtain ⟨s16, e_s16, h⟩ := lt_use h
                  refine zl_sg e_s16 ?_
                  refine zl_aload_n (pc := 215) hO 0 nd_Lo_loadAt_215 rfl rfl ?_
                  refine zl_iload (pc := 216) hO nd_Lo_loadAt_216 rfl ?_
                  refine zl_iload (pc := 218) hO nd_Lo_loadAt_218 rfl ?_
                  refine zl_iadd (pc := 220) hO nd_Lo_loadAt_220 ?_
                  refine zl_puti (pc := 221) hO nd_Lo_loadAt_221 kp_Lo_31 rfl (Nat.le_of_ble_eq_true rfl) rfl ?_
                  obtain ⟨s17, e_s17, h⟩ := lt_use h
                  refine zl_sg e_s17 ?_
                  exact zl_vret (pc := 224) hO nd_Lo_loadAt_224 rfl (zr_v h)
                · have h := ite_f hc h
                  exact zl_vret (pc := 125) hO nd_Lo_loadAt_125 rfl (zr_v h)
              · have h := ite_f hc h
                exact zl_vret (pc := 98) hO nd_Lo_loadAt_98 rfl (zr_v h)
      · have h := ite_f hc h
        exact zl_vret (pc := 63) hO nd_Lo_loadAt_63 rfl (zr_v h)
set_option maxHeartbeats 4000000 in
set_option maxRecDepth 100000 in
theorem c_Lo_loadAll {l : Launch} {V : zG} (hJ : zJ0 (sC l V)) {s0 : zS}   {s1 : zS} {v1 : Int32} (h : k_Lo_loadAll s0 = some (s1, v1)) : zM (sC l V) md_Lo_loadAll [zR 9 0] s0 (s1, some (zI v1)) := by
  refine zMet [some (zR 9 0), none, none] hJ (by decide) rfl (Nat.le_of_ble_eq_true rfl) rfl ?_
  intro X hO
  have J_45 : ∀ (n : Nat), ∀ (s0 : zS) (l1 : Int32) (l2 : Int32), k_Lo_loadAll_45 n s0 l1 l2 = some (s1, v1) → ZW (sC l V) md_Lo_loadAll (s1, some (zI v1)) X 45 [some (zR 9 0), some (zI l1), some (zI l2)] [] s0 := by
    intro n
    induction n with
    | zero => intro s0 l1 l2 h; exact absurd h (by rw [k_Lo_loadAll_45]; exact fun w => nomatch w)
    | succ n ih =>
      intro s0 l1 l2 h
      rw [k_Lo_loadAll_45]  at h
      refine zl_iload_n (pc := 45) hO 2 nd_Lo_loadAll_45 rfl rfl ?_
      refine zl_bipush (pc := 46) hO (v := 32) nd_Lo_loadAll_46 (by decide) ?_
      refine zl_icmp_ge (pc := 48) hO 84 nd_Lo_loadAll_48 (by decide) (fun hc => ?_) (fun hc => ?_)
      · have h := ite_t hc h
        refine zl_aload_n (pc := 84) hO 0 nd_Lo_loadAll_84 rfl rfl ?_
        refine zl_geti (pc := 85) hO nd_Lo_loadAll_85 kf_Lo_27 rfl (Nat.le_of_ble_eq_true rfl) rfl ?_
        exact zl_iret (pc := 88) hO nd_Lo_loadAll_88 rfl (zr_i h)
      · have h := ite_f hc h
        refine zl_aload_n (pc := 51) hO 0 nd_Lo_loadAll_51 rfl rfl ?_
        refine zl_iload_n (pc := 52) hO 1 nd_Lo_loadAll_52 rfl rfl ?_
        obtain ⟨⟨s6, r7⟩, h_53, h⟩ := bn_use h
        refine zl_callVi (pc := 53) hO [zI l1] [] (c_Lo_isHeader hJ h_53) nd_Lo_loadAll_53 kv_Lo_34 rfl (Nat.le_of_ble_eq_true rfl) rfl rfl rfl (Nat.le_of_ble_eq_true rfl) ?_
        refine zl_if_eq (pc := 56) hO 84 nd_Lo_loadAll_56 (by decide) (fun hc => ?_) (fun hc => ?_)
        · have h := ite_t hc h
          refine zl_aload_n (pc := 84) hO 0 nd_Lo_loadAll_84 rfl rfl ?_
          refine zl_geti (pc := 85) hO nd_Lo_loadAll_85 kf_Lo_27 rfl (Nat.le_of_ble_eq_true rfl) rfl ?_
          exact zl_iret (pc := 88) hO nd_Lo_loadAll_88 rfl (zr_i h)
        · have h := ite_f hc h
          refine zl_aload_n (pc := 59) hO 0 nd_Lo_loadAll_59 rfl rfl ?_
          refine zl_iload_n (pc := 60) hO 1 nd_Lo_loadAll_60 rfl rfl ?_
          obtain ⟨s8, h_61, h⟩ := bn_use h
          refine zl_callVv (pc := 61) hO [zI l1] [] (c_Lo_loadAt hJ h_61) nd_Lo_loadAll_61 kv_Lo_38 rfl (Nat.le_of_ble_eq_true rfl) rfl rfl rfl (Nat.le_of_ble_eq_true rfl) ?_
          refine zl_iload_n (pc := 64) hO 1 nd_Lo_loadAll_64 rfl rfl ?_
          refine zl_aload_n (pc := 65) hO 0 nd_Lo_loadAll_65 rfl rfl ?_
          refine zl_get0 (pc := 66) hO nd_Lo_loadAll_66 kf_Lo_11 rfl (Nat.le_of_ble_eq_true rfl) rfl ?_
          refine zl_get0 (pc := 69) hO nd_Lo_loadAll_69 kf_Lo_42 rfl (Nat.le_of_ble_eq_true rfl) rfl ?_
          refine zl_iload_n (pc := 72) hO 1 nd_Lo_loadAll_72 rfl rfl ?_
          refine zl_iconst (pc := 73) hO (v := 1) nd_Lo_loadAll_73 (by decide) ?_
          refine zl_iadd (pc := 74) hO nd_Lo_loadAll_74 ?_
          obtain ⟨c_in75, h⟩ := ck_use h
          refine zl_iald (pc := 75) hO nd_Lo_loadAll_75 rfl rfl (Nat.le_of_ble_eq_true rfl) c_in75 ?_
          refine zl_iadd (pc := 76) hO nd_Lo_loadAll_76 ?_
          obtain ⟨x9, e_x9, h⟩ := lt_use h
          refine zl_top e_x9 ?_
          refine zl_istore_n (pc := 77) hO 1 (L' := [some (zR 9 0), some (zI x9), some (zI l2)]) nd_Lo_loadAll_77 rfl (by decide) rfl ?_
          obtain ⟨x10, e_x10, h⟩ := lt_use h
          refine zl_iinc (pc := 78) hO (L' := [some (zR 9 0), some (zI x9), some (zI x10)]) nd_Lo_loadAll_78 rfl e_x10.symm (by decide) rfl ?_
          refine zl_goto (pc := 81) hO 45 nd_Lo_loadAll_81 (by decide) ?_
          exact zl_weak (ih _ _ _ h) ⟨rfl, ⟨rfl, ⟨rfl, trivial⟩⟩⟩
  have J_2 : ∀ (n : Nat), ∀ (s0 : zS) (l1 : Int32), k_Lo_loadAll_2 n s0 l1 = some (s1, v1) → ZW (sC l V) md_Lo_loadAll (s1, some (zI v1)) X 2 [some (zR 9 0), some (zI l1), none] [] s0 := by
    intro n
    induction n with
    | zero => intro s0 l1 h; exact absurd h (by rw [k_Lo_loadAll_2]; exact fun w => nomatch w)
    | succ n ih =>
      intro s0 l1 h
      rw [k_Lo_loadAll_2]  at h
      refine zl_iload_n (pc := 2) hO 1 nd_Lo_loadAll_2 rfl rfl ?_
      refine zl_iconst (pc := 3) hO (v := 4) nd_Lo_loadAll_3 (by decide) ?_
      refine zl_icmp_ge (pc := 4) hO 31 nd_Lo_loadAll_4 (by decide) (fun hc => ?_) (fun hc => ?_)
      · have h := ite_t hc h
        refine zl_aload_n (pc := 31) hO 0 nd_Lo_loadAll_31 rfl rfl ?_
        refine zl_iconst (pc := 32) hO (v := 0) nd_Lo_loadAll_32 (by decide) ?_
        refine zl_puti (pc := 33) hO nd_Lo_loadAll_33 kp_Lo_27 rfl (Nat.le_of_ble_eq_true rfl) rfl ?_
        obtain ⟨s1, e_s1, h⟩ := lt_use h
        refine zl_sg e_s1 ?_
        refine zl_aload_n (pc := 36) hO 0 nd_Lo_loadAll_36 rfl rfl ?_
        refine zl_iconst (pc := 37) hO (v := 0) nd_Lo_loadAll_37 (by decide) ?_
        refine zl_puti (pc := 38) hO nd_Lo_loadAll_38 kp_Lo_31 rfl (Nat.le_of_ble_eq_true rfl) rfl ?_
        obtain ⟨s2, e_s2, h⟩ := lt_use h
        refine zl_sg e_s2 ?_
        refine zl_iconst (pc := 41) hO (v := 0) nd_Lo_loadAll_41 (by decide) ?_
        refine zl_istore_n (pc := 42) hO 1 (L' := [some (zR 9 0), some (zI 0), none]) nd_Lo_loadAll_42 rfl (by decide) rfl ?_
        refine zl_iconst (pc := 43) hO (v := 0) nd_Lo_loadAll_43 (by decide) ?_
        refine zl_istore_n (pc := 44) hO 2 (L' := [some (zR 9 0), some (zI 0), some (zI 0)]) nd_Lo_loadAll_44 rfl (by decide) rfl ?_
        exact zl_weak (J_45 FU _ _ _ h) ⟨rfl, ⟨rfl, ⟨rfl, trivial⟩⟩⟩
      · have h := ite_f hc h
        refine zl_aload_n (pc := 7) hO 0 nd_Lo_loadAll_7 rfl rfl ?_
        refine zl_get0 (pc := 8) hO nd_Lo_loadAll_8 kf_Lo_15 rfl (Nat.le_of_ble_eq_true rfl) rfl ?_
        refine zl_iload_n (pc := 11) hO 1 nd_Lo_loadAll_11 rfl rfl ?_
        obtain ⟨c_in12, h⟩ := ck_use h
        have p_12 := zi_lt c_in12
        refine zl_aald (pc := 12) hO nd_Lo_loadAll_12 rfl rfl (Nat.le_of_ble_eq_true rfl) c_in12 ?_
        obtain ⟨s3, h_13, h⟩ := bn_use h
        refine zl_callVv (pc := 13) hO [] [] (c_BP_halt hJ p_12 h_13) nd_Lo_loadAll_13 kv_Lo_19 rfl p_12 rfl rfl rfl (Nat.le_of_ble_eq_true rfl) ?_
        refine zl_aload_n (pc := 16) hO 0 nd_Lo_loadAll_16 rfl rfl ?_
        refine zl_get0 (pc := 17) hO nd_Lo_loadAll_17 kf_Lo_15 rfl (Nat.le_of_ble_eq_true rfl) rfl ?_
        refine zl_iload_n (pc := 20) hO 1 nd_Lo_loadAll_20 rfl rfl ?_
        obtain ⟨c_in21, h⟩ := ck_use h
        have p_21 := zi_lt c_in21
        refine zl_aald (pc := 21) hO nd_Lo_loadAll_21 rfl rfl (Nat.le_of_ble_eq_true rfl) c_in21 ?_
        obtain ⟨s4, h_22, h⟩ := bn_use h
        refine zl_callVv (pc := 22) hO [] [] (c_BP_forgetFaults hJ p_21 h_22) nd_Lo_loadAll_22 kv_Lo_24 rfl p_21 rfl rfl rfl (Nat.le_of_ble_eq_true rfl) ?_
        obtain ⟨x5, e_x5, h⟩ := lt_use h
        refine zl_iinc (pc := 25) hO (L' := [some (zR 9 0), some (zI x5), none]) nd_Lo_loadAll_25 rfl e_x5.symm (by decide) rfl ?_
        refine zl_goto (pc := 28) hO 2 nd_Lo_loadAll_28 (by decide) ?_
        exact zl_weak (ih _ _ h) ⟨rfl, ⟨rfl, trivial⟩⟩
  unfold k_Lo_loadAll at h
  refine zl_iconst (pc := 0) hO (v := 0) nd_Lo_loadAll_0 (by decide) ?_
  refine zl_istore_n (pc := 1) hO 1 (L' := [some (zR 9 0), some (zI 0), none]) nd_Lo_loadAll_1 rfl (by decide) rfl ?_
  exact zl_weak (J_2 FU _ _ h) ⟨rfl, ⟨rfl, trivial⟩⟩
set_option maxHeartbeats 4000000 in
set_option maxRecDepth 100000 in
theorem c_GK_boot {l : Launch} {V : zG} (hJ : zJ0 (sC l V)) {s0 : zS}   {s1 : zS} {v1 : Int32} (h : k_GK_boot s0 = some (s1, v1)) : zM (sC l V) md_GK_boot [zR 0 0] s0 (s1, some (zI v1)) := by
  refine zMet [some (zR 0 0)] hJ (by decide) rfl (Nat.le_of_ble_eq_true rfl) rfl ?_
  intro X hO
  unfold k_GK_boot at h
  refine zl_aload_n (pc := 0) hO 0 nd_GK_boot_0 rfl rfl ?_
  refine zl_get0 (pc := 1) hO nd_GK_boot_1 kf_GK_10 rfl (Nat.le_of_ble_eq_true rfl) rfl ?_
  refine zl_sipush (pc := 4) hO (v := 4096) nd_GK_boot_4 (by decide) ?_
  refine zl_sipush (pc := 7) hO (v := 128) nd_GK_boot_7 (by decide) ?_
  obtain ⟨s1, h_10, h⟩ := bn_use h
  refine zl_callVv (pc := 10) hO [zI 4096, zI 128] [] (c_Me_clearRam hJ h_10) nd_GK_boot_10 kv_GK_66 rfl (Nat.le_of_ble_eq_true rfl) rfl rfl rfl (Nat.le_of_ble_eq_true rfl) ?_
  refine zl_aload_n (pc := 13) hO 0 nd_GK_boot_13 rfl rfl ?_
  refine zl_get0 (pc := 14) hO nd_GK_boot_14 kf_GK_28 rfl (Nat.le_of_ble_eq_true rfl) rfl ?_
  obtain ⟨s2, h_17, h⟩ := bn_use h
  refine zl_callVv (pc := 17) hO [] [] (c_Co_clear hJ h_17) nd_GK_boot_17 kv_GK_70 rfl (Nat.le_of_ble_eq_true rfl) rfl rfl rfl (Nat.le_of_ble_eq_true rfl) ?_
  refine zl_aload_n (pc := 20) hO 0 nd_GK_boot_20 rfl rfl ?_
  refine zl_get0 (pc := 21) hO nd_GK_boot_21 kf_GK_37 rfl (Nat.le_of_ble_eq_true rfl) rfl ?_
  refine zl_iconst (pc := 24) hO (v := 0) nd_GK_boot_24 (by decide) ?_
  refine zl_puti (pc := 25) hO nd_GK_boot_25 kp_GK_73 rfl (Nat.le_of_ble_eq_true rfl) rfl ?_
  obtain ⟨s3, e_s3, h⟩ := lt_use h
  refine zl_sg e_s3 ?_
  refine zl_aload_n (pc := 28) hO 0 nd_GK_boot_28 rfl rfl ?_
  refine zl_iconst (pc := 29) hO (v := (-1)) nd_GK_boot_29 (by decide) ?_
  refine zl_puti (pc := 30) hO nd_GK_boot_30 kp_GK_57 rfl (Nat.le_of_ble_eq_true rfl) rfl ?_
  obtain ⟨s4, e_s4, h⟩ := lt_use h
  refine zl_sg e_s4 ?_
  refine zl_aload_n (pc := 33) hO 0 nd_GK_boot_33 rfl rfl ?_
  refine zl_iconst (pc := 34) hO (v := 0) nd_GK_boot_34 (by decide) ?_
  refine zl_puti (pc := 35) hO nd_GK_boot_35 kp_GK_76 rfl (Nat.le_of_ble_eq_true rfl) rfl ?_
  obtain ⟨s5, e_s5, h⟩ := lt_use h
  refine zl_sg e_s5 ?_
  refine zl_aload_n (pc := 38) hO 0 nd_GK_boot_38 rfl rfl ?_
  refine zl_aload_n (pc := 39) hO 0 nd_GK_boot_39 rfl rfl ?_
  refine zl_get0 (pc := 40) hO nd_GK_boot_40 kf_GK_46 rfl (Nat.le_of_ble_eq_true rfl) rfl ?_
  obtain ⟨⟨s6, r7⟩, h_43, h⟩ := bn_use h
  refine zl_callVi (pc := 43) hO [] [zR 0 0] (c_Lo_loadAll hJ h_43) nd_GK_boot_43 kv_GK_79 rfl (Nat.le_of_ble_eq_true rfl) rfl rfl rfl (Nat.le_of_ble_eq_true rfl) ?_
  refine zl_puti (pc := 46) hO nd_GK_boot_46 kp_GK_83 rfl (Nat.le_of_ble_eq_true rfl) rfl ?_
  obtain ⟨s8, e_s8, h⟩ := lt_use h
  refine zl_sg e_s8 ?_
  refine zl_aload_n (pc := 49) hO 0 nd_GK_boot_49 rfl rfl ?_
  refine zl_geti (pc := 50) hO nd_GK_boot_50 kf_GK_83 rfl (Nat.le_of_ble_eq_true rfl) rfl ?_
  exact zl_iret (pc := 53) hO nd_GK_boot_53 rfl (zr_i h)
set_option maxHeartbeats 4000000 in
set_option maxRecDepth 100000 in
theorem c_No_hasGrant {l : Launch} {V : zG} (hJ : zJ0 (sC l V)) {s0 : zS} {p : Nat} {a1 : Int32} (b_p : p < 4) {s1 : zS} {v1 : Int32} (h : k_No_hasGrant s0 p a1 = some (s1, v1)) : zM (sC l V) md_No_hasGrant [zR 13 p, zI a1] s0 (s1, some (zI v1)) := by
  refine zMet [some (zR 13 p), some (zI a1)] hJ (by decide) rfl (Nat.le_of_ble_eq_true rfl) rfl ?_
  intro X hO
  unfold k_No_hasGrant at h
  refine zl_aload_n (pc := 0) hO 0 nd_No_hasGrant_0 rfl rfl ?_
  refine zl_getS (pc := 1) hO nd_No_hasGrant_1 kf_No_9 rfl b_p rfl ?_
  refine zl_iload_n (pc := 4) hO 1 nd_No_hasGrant_4 rfl rfl ?_
  obtain ⟨c_in5, h⟩ := ck_use h
  refine zl_iald (pc := 5) hO nd_No_hasGrant_5 rfl rfl b_p c_in5 ?_
  refine zl_if_eq (pc := 6) hO 13 nd_No_hasGrant_6 (by decide) (fun hc => ?_) (fun hc => ?_)
  · have h := ite_t hc h
    refine zl_iconst (pc := 13) hO (v := 0) nd_No_hasGrant_13 (by decide) ?_
    exact zl_zret (pc := 14) hO nd_No_hasGrant_14 rfl (by decide) (zr_i h)
  · have h := ite_f hc h
    refine zl_iconst (pc := 9) hO (v := 1) nd_No_hasGrant_9 (by decide) ?_
    refine zl_goto (pc := 10) hO 14 nd_No_hasGrant_10 (by decide) ?_
    exact zl_zret (pc := 14) hO nd_No_hasGrant_14 rfl (by decide) (zr_i h)
set_option maxHeartbeats 4000000 in
set_option maxRecDepth 100000 in
theorem c_Me_ramWord {l : Launch} {V : zG} (hJ : zJ0 (sC l V)) {s0 : zS} {a1 : Int32}  {s1 : zS} {v1 : Int32} (h : k_Me_ramWord s0 a1 = some (s1, v1)) : zM (sC l V) md_Me_ramWord [zR 1 0, zI a1] s0 (s1, some (zI v1)) := by
  refine zMet [some (zR 1 0), some (zI a1), none] hJ (by decide) rfl (Nat.le_of_ble_eq_true rfl) rfl ?_
  intro X hO
  have J_19 : ∀ (s0 : zS), k_Me_ramWord_19 a1 s0 = some (s1, v1) → ZW (sC l V) md_Me_ramWord (s1, some (zI v1)) X 19 [none, none, none] [] s0 := by
    intro s0 h
    unfold k_Me_ramWord_19 at h
    refine zl_iconst (pc := 19) hO (v := 0) nd_Me_ramWord_19 (by decide) ?_
    refine zl_goto (pc := 20) hO 29 nd_Me_ramWord_20 (by decide) ?_
    exact zl_iret (pc := 29) hO nd_Me_ramWord_29 rfl (zr_i h)
  unfold k_Me_ramWord at h
  refine zl_iload_n (pc := 0) hO 1 nd_Me_ramWord_0 rfl rfl ?_
  refine zl_sipush (pc := 1) hO (v := 4096) nd_Me_ramWord_1 (by decide) ?_
  refine zl_isub (pc := 4) hO nd_Me_ramWord_4 ?_
  refine zl_iconst (pc := 5) hO (v := 2) nd_Me_ramWord_5 (by decide) ?_
  refine zl_ishr (pc := 6) hO nd_Me_ramWord_6 ?_
  obtain ⟨x1, e_x1, h⟩ := lt_use h
  refine zl_top e_x1 ?_
  refine zl_istore_n (pc := 7) hO 2 (L' := [some (zR 1 0), some (zI a1), some (zI x1)]) nd_Me_ramWord_7 rfl (by decide) rfl ?_
  refine zl_iload_n (pc := 8) hO 2 nd_Me_ramWord_8 rfl rfl ?_
  refine zl_if_lt (pc := 9) hO 19 nd_Me_ramWord_9 (by decide) (fun hc => ?_) (fun hc => ?_)
  · have h := ite_t hc h
    exact zl_weak (J_19 _ h) trivial
  · have h := ite_f hc h
    refine zl_iload_n (pc := 12) hO 2 nd_Me_ramWord_12 rfl rfl ?_
    refine zl_sipush (pc := 13) hO (v := 128) nd_Me_ramWord_13 (by decide) ?_
    refine zl_icmp_lt (pc := 16) hO 23 nd_Me_ramWord_16 (by decide) (fun hc => ?_) (fun hc => ?_)
    · have h := ite_t hc h
      refine zl_aload_n (pc := 23) hO 0 nd_Me_ramWord_23 rfl rfl ?_
      refine zl_get0 (pc := 24) hO nd_Me_ramWord_24 kf_Me_15 rfl (Nat.le_of_ble_eq_true rfl) rfl ?_
      refine zl_iload_n (pc := 27) hO 2 nd_Me_ramWord_27 rfl rfl ?_
      obtain ⟨c_in28, h⟩ := ck_use h
      refine zl_iald (pc := 28) hO nd_Me_ramWord_28 rfl rfl (Nat.le_of_ble_eq_true rfl) c_in28 ?_
      exact zl_iret (pc := 29) hO nd_Me_ramWord_29 rfl (zr_i h)
    · have h := ite_f hc h
      exact zl_weak (J_19 _ h) trivial
set_option maxHeartbeats 4000000 in
set_option maxRecDepth 100000 in
theorem c_Ke_isPending {l : Launch} {V : zG} (hJ : zJ0 (sC l V)) {s0 : zS} {a1 : Nat} {a2 : Int32} (b_a1 : a1 < 4) {s1 : zS} {v1 : Int32} (h : k_Ke_isPending s0 a1 a2 = some (s1, v1)) : zM (sC l V) md_Ke_isPending [zR 8 0, zR 11 a1, zI a2] s0 (s1, some (zI v1)) := by
  refine zMet [some (zR 8 0), some (zR 11 a1), some (zI a2)] hJ (by decide) rfl (Nat.le_of_ble_eq_true rfl) rfl ?_
  intro X hO
  unfold k_Ke_isPending at h
  refine zl_aload_n (pc := 0) hO 1 nd_Ke_isPending_0 rfl rfl ?_
  refine zl_getS (pc := 1) hO nd_Ke_isPending_1 kf_Ke_45 rfl b_a1 rfl ?_
  refine zl_iload_n (pc := 4) hO 2 nd_Ke_isPending_4 rfl rfl ?_
  obtain ⟨⟨s1, r2⟩, h_5, h⟩ := bn_use h
  refine zl_callVi (pc := 5) hO [zI a2] [] (c_No_hasGrant hJ b_a1 h_5) nd_Ke_isPending_5 kv_Ke_98 rfl b_a1 rfl rfl rfl (Nat.le_of_ble_eq_true rfl) ?_
  refine zl_if_eq (pc := 8) hO 35 nd_Ke_isPending_8 (by decide) (fun hc => ?_) (fun hc => ?_)
  · have h := ite_t hc h
    refine zl_iconst (pc := 35) hO (v := 0) nd_Ke_isPending_35 (by decide) ?_
    exact zl_zret (pc := 36) hO nd_Ke_isPending_36 rfl (by decide) (zr_i h)
  · have h := ite_f hc h
    refine zl_aload_n (pc := 11) hO 0 nd_Ke_isPending_11 rfl rfl ?_
    refine zl_get0 (pc := 12) hO nd_Ke_isPending_12 kf_Ke_9 rfl (Nat.le_of_ble_eq_true rfl) rfl ?_
    refine zl_aload_n (pc := 15) hO 1 nd_Ke_isPending_15 rfl rfl ?_
    refine zl_getS (pc := 16) hO nd_Ke_isPending_16 kf_Ke_45 rfl b_a1 rfl ?_
    refine zl_getS (pc := 19) hO nd_Ke_isPending_19 kf_Ke_51 rfl b_a1 rfl ?_
    refine zl_iload_n (pc := 22) hO 2 nd_Ke_isPending_22 rfl rfl ?_
    obtain ⟨c_in23, h⟩ := ck_use h
    refine zl_iald (pc := 23) hO nd_Ke_isPending_23 rfl rfl b_a1 c_in23 ?_
    obtain ⟨⟨s3, r4⟩, h_24, h⟩ := bn_use h
    refine zl_callVi (pc := 24) hO [zI (s1 14 a1 a2.toNatClampNeg)] [] (c_Me_ramWord hJ h_24) nd_Ke_isPending_24 kv_Ke_57 rfl (Nat.le_of_ble_eq_true rfl) rfl rfl rfl (Nat.le_of_ble_eq_true rfl) ?_
    refine zl_iconst (pc := 27) hO (v := 1) nd_Ke_isPending_27 (by decide) ?_
    refine zl_icmp_ne (pc := 28) hO 35 nd_Ke_isPending_28 (by decide) (fun hc => ?_) (fun hc => ?_)
    · have h := ite_f hc h
      refine zl_iconst (pc := 35) hO (v := 0) nd_Ke_isPending_35 (by decide) ?_
      exact zl_zret (pc := 36) hO nd_Ke_isPending_36 rfl (by decide) (zr_i h)
    · have h := ite_t hc h
      refine zl_iconst (pc := 31) hO (v := 1) nd_Ke_isPending_31 (by decide) ?_
      refine zl_goto (pc := 32) hO 36 nd_Ke_isPending_32 (by decide) ?_
      exact zl_zret (pc := 36) hO nd_Ke_isPending_36 rfl (by decide) (zr_i h)
set_option maxHeartbeats 4000000 in
set_option maxRecDepth 100000 in
theorem c_UQ_enqueue {l : Launch} {V : zG} (hJ : zJ0 (sC l V)) {s0 : zS} {p : Nat} {a1 : Int32} {a2 : Int32} {a3 : Int32} (b_p : p < 4) {s1 : zS} (h : k_UQ_enqueue s0 p a1 a2 a3 = some s1) : zM (sC l V) md_UQ_enqueue [zR 19 p, zI a1, zI a2, zI a3] s0 (s1, none) := by
  refine zMet [some (zR 19 p), some (zI a1), some (zI a2), some (zI a3)] hJ (by decide) rfl (Nat.le_of_ble_eq_true rfl) rfl ?_
  intro X hO
  unfold k_UQ_enqueue at h
  refine zl_aload_n (pc := 0) hO 0 nd_UQ_enqueue_0 rfl rfl ?_
  refine zl_geti (pc := 1) hO nd_UQ_enqueue_1 kf_UQ_19 rfl b_p rfl ?_
  refine zl_iconst (pc := 4) hO (v := 4) nd_UQ_enqueue_4 (by decide) ?_
  refine zl_icmp_ge (pc := 5) hO 48 nd_UQ_enqueue_5 (by decide) (fun hc => ?_) (fun hc => ?_)
  · have h := ite_t hc h
    exact zl_vret (pc := 48) hO nd_UQ_enqueue_48 rfl (zr_v h)
  · have h := ite_f hc h
    refine zl_aload_n (pc := 8) hO 0 nd_UQ_enqueue_8 rfl rfl ?_
    refine zl_getS (pc := 9) hO nd_UQ_enqueue_9 kf_UQ_9 rfl b_p rfl ?_
    refine zl_aload_n (pc := 12) hO 0 nd_UQ_enqueue_12 rfl rfl ?_
    refine zl_geti (pc := 13) hO nd_UQ_enqueue_13 kf_UQ_19 rfl b_p rfl ?_
    refine zl_iload_n (pc := 16) hO 1 nd_UQ_enqueue_16 rfl rfl ?_
    obtain ⟨c_in17, h⟩ := ck_use h
    refine zl_iast (pc := 17) hO nd_UQ_enqueue_17 rfl rfl b_p c_in17 ?_
    obtain ⟨s1, e_s1, h⟩ := lt_use h
    refine zl_sg e_s1 ?_
    refine zl_aload_n (pc := 18) hO 0 nd_UQ_enqueue_18 rfl rfl ?_
    refine zl_getS (pc := 19) hO nd_UQ_enqueue_19 kf_UQ_13 rfl b_p rfl ?_
    refine zl_aload_n (pc := 22) hO 0 nd_UQ_enqueue_22 rfl rfl ?_
    refine zl_geti (pc := 23) hO nd_UQ_enqueue_23 kf_UQ_19 rfl b_p rfl ?_
    refine zl_iload_n (pc := 26) hO 2 nd_UQ_enqueue_26 rfl rfl ?_
    obtain ⟨c_in27, h⟩ := ck_use h
    refine zl_iast (pc := 27) hO nd_UQ_enqueue_27 rfl rfl b_p c_in27 ?_
    obtain ⟨s2, e_s2, h⟩ := lt_use h
    refine zl_sg e_s2 ?_
    refine zl_aload_n (pc := 28) hO 0 nd_UQ_enqueue_28 rfl rfl ?_
    refine zl_getS (pc := 29) hO nd_UQ_enqueue_29 kf_UQ_16 rfl b_p rfl ?_
    refine zl_aload_n (pc := 32) hO 0 nd_UQ_enqueue_32 rfl rfl ?_
    refine zl_geti (pc := 33) hO nd_UQ_enqueue_33 kf_UQ_19 rfl b_p rfl ?_
    refine zl_iload_n (pc := 36) hO 3 nd_UQ_enqueue_36 rfl rfl ?_
    obtain ⟨c_in37, h⟩ := ck_use h
    refine zl_iast (pc := 37) hO nd_UQ_enqueue_37 rfl rfl b_p c_in37 ?_
    obtain ⟨s3, e_s3, h⟩ := lt_use h
    refine zl_sg e_s3 ?_
    refine zl_aload_n (pc := 38) hO 0 nd_UQ_enqueue_38 rfl rfl ?_
    refine zl_dup (pc := 39) hO nd_UQ_enqueue_39 rfl ?_
    refine zl_geti (pc := 40) hO nd_UQ_enqueue_40 kf_UQ_19 rfl b_p rfl ?_
    refine zl_iconst (pc := 43) hO (v := 1) nd_UQ_enqueue_43 (by decide) ?_
    refine zl_iadd (pc := 44) hO nd_UQ_enqueue_44 ?_
    refine zl_puti (pc := 45) hO nd_UQ_enqueue_45 kp_UQ_19 rfl b_p rfl ?_
    obtain ⟨s4, e_s4, h⟩ := lt_use h
    refine zl_sg e_s4 ?_
    exact zl_vret (pc := 48) hO nd_UQ_enqueue_48 rfl (zr_v h)
set_option maxHeartbeats 4000000 in
set_option maxRecDepth 100000 in
theorem c_Ke_upcall {l : Launch} {V : zG} (hJ : zJ0 (sC l V)) {s0 : zS} {a1 : Nat} {a2 : Int32} {a3 : Int32} {a4 : Int32} (b_a1 : a1 < 4) {s1 : zS} (h : k_Ke_upcall s0 a1 a2 a3 a4 = some s1) : zM (sC l V) md_Ke_upcall [zR 8 0, zR 11 a1, zI a2, zI a3, zI a4] s0 (s1, none) := by
  refine zMet [some (zR 8 0), some (zR 11 a1), some (zI a2), some (zI a3), some (zI a4), none, none, none, none] hJ (by decide) rfl (Nat.le_of_ble_eq_true rfl) rfl ?_
  intro X hO
  unfold k_Ke_upcall at h
  refine zl_aload_n (pc := 0) hO 1 nd_Ke_upcall_0 rfl rfl ?_
  refine zl_getS (pc := 1) hO nd_Ke_upcall_1 kf_Ke_45 rfl b_a1 rfl ?_
  refine zl_astore (pc := 4) hO (L' := [some (zR 8 0), some (zR 11 a1), some (zI a2), some (zI a3), some (zI a4), some (zR 13 a1), none, none, none]) nd_Ke_upcall_4 (by decide) rfl ?_
  refine zl_aload (pc := 6) hO nd_Ke_upcall_6 rfl ?_
  refine zl_getS (pc := 8) hO nd_Ke_upcall_8 kf_Ke_147 rfl b_a1 rfl ?_
  refine zl_iload_n (pc := 11) hO 2 nd_Ke_upcall_11 rfl rfl ?_
  obtain ⟨c_in12, h⟩ := ck_use h
  refine zl_iald (pc := 12) hO nd_Ke_upcall_12 rfl rfl b_a1 c_in12 ?_
  obtain ⟨x1, e_x1, h⟩ := lt_use h
  refine zl_top e_x1 ?_
  refine zl_istore (pc := 13) hO (L' := [some (zR 8 0), some (zR 11 a1), some (zI a2), some (zI a3), some (zI a4), some (zR 13 a1), some (zI x1), none, none]) nd_Ke_upcall_13 (by decide) rfl ?_
  refine zl_iload (pc := 15) hO nd_Ke_upcall_15 rfl ?_
  refine zl_if_ne (pc := 17) hO 21 nd_Ke_upcall_17 (by decide) (fun hc => ?_) (fun hc => ?_)
  · have h := ite_f hc h
    refine zl_aload_n (pc := 21) hO 1 nd_Ke_upcall_21 rfl rfl ?_
    refine zl_geti (pc := 22) hO nd_Ke_upcall_22 kf_Ke_75 rfl b_a1 rfl ?_
    refine zl_iconst (pc := 25) hO (v := 1) nd_Ke_upcall_25 (by decide) ?_
    refine zl_icmp_eq (pc := 26) hO 42 nd_Ke_upcall_26 (by decide) (fun hc => ?_) (fun hc => ?_)
    · have h := ite_t hc h
      refine zl_aload_n (pc := 42) hO 1 nd_Ke_upcall_42 rfl rfl ?_
      refine zl_geti (pc := 43) hO nd_Ke_upcall_43 kf_Ke_196 rfl b_a1 rfl ?_
      obtain ⟨x2, e_x2, h⟩ := lt_use h
      refine zl_top e_x2 ?_
      refine zl_istore (pc := 46) hO (L' := [some (zR 8 0), some (zR 11 a1), some (zI a2), some (zI a3), some (zI a4), some (zR 13 a1), some (zI x1), some (zI x2), none]) nd_Ke_upcall_46 (by decide) rfl ?_
      refine zl_iload (pc := 48) hO nd_Ke_upcall_48 rfl ?_
      refine zl_bipush (pc := 50) hO (v := 24) nd_Ke_upcall_50 (by decide) ?_
      refine zl_iadd (pc := 52) hO nd_Ke_upcall_52 ?_
      obtain ⟨x3, e_x3, h⟩ := lt_use h
      refine zl_top e_x3 ?_
      refine zl_istore (pc := 53) hO (L' := [some (zR 8 0), some (zR 11 a1), some (zI a2), some (zI a3), some (zI a4), some (zR 13 a1), some (zI x1), some (zI x2), some (zI x3)]) nd_Ke_upcall_53 (by decide) rfl ?_
      refine zl_aload_n (pc := 55) hO 0 nd_Ke_upcall_55 rfl rfl ?_
      refine zl_get0 (pc := 56) hO nd_Ke_upcall_56 kf_Ke_9 rfl (Nat.le_of_ble_eq_true rfl) rfl ?_
      refine zl_iload (pc := 59) hO nd_Ke_upcall_59 rfl ?_
      refine zl_iload_n (pc := 61) hO 3 nd_Ke_upcall_61 rfl rfl ?_
      obtain ⟨s4, h_62, h⟩ := bn_use h
      refine zl_callVv (pc := 62) hO [zI x2, zI a3] [] (c_Me_setRamWord hJ h_62) nd_Ke_upcall_62 kv_Ke_63 rfl (Nat.le_of_ble_eq_true rfl) rfl rfl rfl (Nat.le_of_ble_eq_true rfl) ?_
      refine zl_aload_n (pc := 65) hO 0 nd_Ke_upcall_65 rfl rfl ?_
      refine zl_get0 (pc := 66) hO nd_Ke_upcall_66 kf_Ke_9 rfl (Nat.le_of_ble_eq_true rfl) rfl ?_
      refine zl_iload (pc := 69) hO nd_Ke_upcall_69 rfl ?_
      refine zl_iconst (pc := 71) hO (v := 4) nd_Ke_upcall_71 (by decide) ?_
      refine zl_iadd (pc := 72) hO nd_Ke_upcall_72 ?_
      refine zl_iload (pc := 73) hO nd_Ke_upcall_73 rfl ?_
      obtain ⟨s5, h_75, h⟩ := bn_use h
      refine zl_callVv (pc := 75) hO [zI (x2 + (4 : Int32)), zI a4] [] (c_Me_setRamWord hJ h_75) nd_Ke_upcall_75 kv_Ke_63 rfl (Nat.le_of_ble_eq_true rfl) rfl rfl rfl (Nat.le_of_ble_eq_true rfl) ?_
      refine zl_aload_n (pc := 78) hO 0 nd_Ke_upcall_78 rfl rfl ?_
      refine zl_get0 (pc := 79) hO nd_Ke_upcall_79 kf_Ke_9 rfl (Nat.le_of_ble_eq_true rfl) rfl ?_
      refine zl_iload (pc := 82) hO nd_Ke_upcall_82 rfl ?_
      refine zl_bipush (pc := 84) hO (v := 8) nd_Ke_upcall_84 (by decide) ?_
      refine zl_iadd (pc := 86) hO nd_Ke_upcall_86 ?_
      refine zl_iload_n (pc := 87) hO 2 nd_Ke_upcall_87 rfl rfl ?_
      obtain ⟨s6, h_88, h⟩ := bn_use h
      refine zl_callVv (pc := 88) hO [zI (x2 + (8 : Int32)), zI a2] [] (c_Me_setRamWord hJ h_88) nd_Ke_upcall_88 kv_Ke_63 rfl (Nat.le_of_ble_eq_true rfl) rfl rfl rfl (Nat.le_of_ble_eq_true rfl) ?_
      refine zl_aload_n (pc := 91) hO 0 nd_Ke_upcall_91 rfl rfl ?_
      refine zl_get0 (pc := 92) hO nd_Ke_upcall_92 kf_Ke_9 rfl (Nat.le_of_ble_eq_true rfl) rfl ?_
      refine zl_iload (pc := 95) hO nd_Ke_upcall_95 rfl ?_
      refine zl_bipush (pc := 97) hO (v := 12) nd_Ke_upcall_97 (by decide) ?_
      refine zl_iadd (pc := 99) hO nd_Ke_upcall_99 ?_
      refine zl_aload (pc := 100) hO nd_Ke_upcall_100 rfl ?_
      refine zl_getS (pc := 102) hO nd_Ke_upcall_102 kf_Ke_150 rfl b_a1 rfl ?_
      refine zl_iload_n (pc := 105) hO 2 nd_Ke_upcall_105 rfl rfl ?_
      obtain ⟨c_in106, h⟩ := ck_use h
      refine zl_iald (pc := 106) hO nd_Ke_upcall_106 rfl rfl b_a1 c_in106 ?_
      obtain ⟨s7, h_107, h⟩ := bn_use h
      refine zl_callVv (pc := 107) hO [zI (x2 + (12 : Int32)), zI (s6 16 a1 a2.toNatClampNeg)] [] (c_Me_setRamWord hJ h_107) nd_Ke_upcall_107 kv_Ke_63 rfl (Nat.le_of_ble_eq_true rfl) rfl rfl rfl (Nat.le_of_ble_eq_true rfl) ?_
      refine zl_aload_n (pc := 110) hO 0 nd_Ke_upcall_110 rfl rfl ?_
      refine zl_get0 (pc := 111) hO nd_Ke_upcall_111 kf_Ke_9 rfl (Nat.le_of_ble_eq_true rfl) rfl ?_
      refine zl_iload (pc := 114) hO nd_Ke_upcall_114 rfl ?_
      refine zl_bipush (pc := 116) hO (v := 20) nd_Ke_upcall_116 (by decide) ?_
      refine zl_iadd (pc := 118) hO nd_Ke_upcall_118 ?_
      refine zl_aload_n (pc := 119) hO 0 nd_Ke_upcall_119 rfl rfl ?_
      refine zl_get0 (pc := 120) hO nd_Ke_upcall_120 kf_Ke_9 rfl (Nat.le_of_ble_eq_true rfl) rfl ?_
      refine zl_iload (pc := 123) hO nd_Ke_upcall_123 rfl ?_
      obtain ⟨⟨s8, r9⟩, h_125, h⟩ := bn_use h
      refine zl_callVi (pc := 125) hO [zI x3] [zI (x2 + (20 : Int32)), zR 1 0] (c_Me_ramWord hJ h_125) nd_Ke_upcall_125 kv_Ke_57 rfl (Nat.le_of_ble_eq_true rfl) rfl rfl rfl (Nat.le_of_ble_eq_true rfl) ?_
      refine zl_iconst (pc := 128) hO (v := 1) nd_Ke_upcall_128 (by decide) ?_
      refine zl_iadd (pc := 129) hO nd_Ke_upcall_129 ?_
      obtain ⟨s10, h_130, h⟩ := bn_use h
      refine zl_callVv (pc := 130) hO [zI (x2 + (20 : Int32)), zI (r9 + (1 : Int32))] [] (c_Me_setRamWord hJ h_130) nd_Ke_upcall_130 kv_Ke_63 rfl (Nat.le_of_ble_eq_true rfl) rfl rfl rfl (Nat.le_of_ble_eq_true rfl) ?_
      refine zl_aload_n (pc := 133) hO 0 nd_Ke_upcall_133 rfl rfl ?_
      refine zl_get0 (pc := 134) hO nd_Ke_upcall_134 kf_Ke_9 rfl (Nat.le_of_ble_eq_true rfl) rfl ?_
      refine zl_iload (pc := 137) hO nd_Ke_upcall_137 rfl ?_
      refine zl_iload (pc := 139) hO nd_Ke_upcall_139 rfl ?_
      refine zl_bipush (pc := 141) hO (v := (-2)) nd_Ke_upcall_141 (by decide) ?_
      refine zl_iand (pc := 143) hO nd_Ke_upcall_143 ?_
      obtain ⟨s11, h_144, h⟩ := bn_use h
      refine zl_callVv (pc := 144) hO [zI x3, zI (x1 &&& (-2 : Int32))] [] (c_Me_setRamWord hJ h_144) nd_Ke_upcall_144 kv_Ke_63 rfl (Nat.le_of_ble_eq_true rfl) rfl rfl rfl (Nat.le_of_ble_eq_true rfl) ?_
      refine zl_aload_n (pc := 147) hO 1 nd_Ke_upcall_147 rfl rfl ?_
      refine zl_iconst (pc := 148) hO (v := 0) nd_Ke_upcall_148 (by decide) ?_
      refine zl_puti (pc := 149) hO nd_Ke_upcall_149 kp_Ke_75 rfl b_a1 rfl ?_
      obtain ⟨s12, e_s12, h⟩ := lt_use h
      refine zl_sg e_s12 ?_
      exact zl_vret (pc := 152) hO nd_Ke_upcall_152 rfl (zr_v h)
    · have h := ite_f hc h
      refine zl_aload (pc := 29) hO nd_Ke_upcall_29 rfl ?_
      refine zl_getS (pc := 31) hO nd_Ke_upcall_31 kf_Ke_71 rfl b_a1 rfl ?_
      refine zl_iload_n (pc := 34) hO 2 nd_Ke_upcall_34 rfl rfl ?_
      refine zl_iload_n (pc := 35) hO 3 nd_Ke_upcall_35 rfl rfl ?_
      refine zl_iload (pc := 36) hO nd_Ke_upcall_36 rfl ?_
      obtain ⟨s13, h_38, h⟩ := bn_use h
      refine zl_callVv (pc := 38) hO [zI a2, zI a3, zI a4] [] (c_UQ_enqueue hJ b_a1 h_38) nd_Ke_upcall_38 kv_Ke_192 rfl b_a1 rfl rfl rfl (Nat.le_of_ble_eq_true rfl) ?_
      exact zl_vret (pc := 41) hO nd_Ke_upcall_41 rfl (zr_v h)
  · have h := ite_t hc h
    exact zl_vret (pc := 20) hO nd_Ke_upcall_20 rfl (zr_v h)
