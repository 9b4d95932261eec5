set_option maxHeartbeats 4000000 in
set_option maxRecDepth 100000 in
theorem c_GM_granted {l : Launch} {V : zG} (hJ : zJ0 (sM l V)) {s0 : zS} {a1 : Int32}  {s1 : zS} {v1 : Int32} (h : k_GM_granted s0 a1 = some (s1, v1)) : zM (sM l V) md_GM_granted [zR 0 0, zI a1] s0 (s1, some (zI v1)) := by
  refine zMet [some (zR 0 0), some (zI a1), none, none] hJ (by decide) rfl (Nat.le_of_ble_eq_true rfl) rfl ?_
  intro X hO
  have J_28 : ∀ (K4 : zS → Int32 → Int32 → Option (zS × Int32)) (hK4 : ∀ (s0 : zS) (l2 : Int32) (l3 : Int32), K4 s0 l2 l3 = some (s1, v1) → ZW (sM l V) md_GM_granted (s1, some (zI v1)) X 4 [some (zR 0 0), some (zI a1), some (zI l2), some (zI l3)] [] s0), ∀ (s0 : zS) (l3 : Int32) (t0 : Int32) (t1 : Int32), k_GM_granted_28 a1 K4 s0 l3 t0 t1 = some (s1, v1) → ZW (sM l V) md_GM_granted (s1, some (zI v1)) X 28 [some (zR 0 0), some (zI a1), none, some (zI l3)] [zI t0, zI t1] s0 := by
    intro K4 hK4
    intro s0 l3 t0 t1 h
    unfold k_GM_granted_28 at h
    refine zl_iadd (pc := 28) hO nd_GM_granted_28 ?_
    obtain ⟨x1, e_x1, h⟩ := lt_use h
    refine zl_top e_x1 ?_
    refine zl_istore_n (pc := 29) hO 2 (L' := [some (zR 0 0), some (zI a1), some (zI x1), some (zI l3)]) nd_GM_granted_29 rfl (by decide) rfl ?_
    obtain ⟨x2, e_x2, h⟩ := lt_use h
    refine zl_iinc (pc := 30) hO (L' := [some (zR 0 0), some (zI a1), some (zI x1), some (zI x2)]) nd_GM_granted_30 rfl e_x2.symm (by decide) rfl ?_
    refine zl_goto (pc := 33) hO 4 nd_GM_granted_33 (by decide) ?_
    exact zl_weak (hK4 _ _ _ h) ⟨rfl, ⟨rfl, ⟨rfl, ⟨rfl, trivial⟩⟩⟩⟩
  have J_4 : ∀ (n : Nat), ∀ (s0 : zS) (l2 : Int32) (l3 : Int32), k_GM_granted_4 a1 n s0 l2 l3 = some (s1, v1) → ZW (sM l V) md_GM_granted (s1, some (zI v1)) X 4 [some (zR 0 0), some (zI a1), some (zI l2), some (zI l3)] [] s0 := by
    intro n
    induction n with
    | zero => intro s0 l2 l3 h; exact absurd h (by rw [k_GM_granted_4]; exact fun w => nomatch w)
    | succ n ih =>
      intro s0 l2 l3 h
      rw [k_GM_granted_4]  at h
      refine zl_iload_n (pc := 4) hO 3 nd_GM_granted_4 rfl rfl ?_
      refine zl_iconst (pc := 5) hO (v := 3) nd_GM_granted_5 (by decide) ?_
      refine zl_icmp_ge (pc := 6) hO 36 nd_GM_granted_6 (by decide) (fun hc => ?_) (fun hc => ?_)
      · have h := ite_t hc h
        refine zl_iload_n (pc := 36) hO 2 nd_GM_granted_36 rfl rfl ?_
        exact zl_iret (pc := 37) hO nd_GM_granted_37 rfl (zr_i h)
      · have h := ite_f hc h
        refine zl_iload_n (pc := 9) hO 2 nd_GM_granted_9 rfl rfl ?_
        refine zl_aload_n (pc := 10) hO 0 nd_GM_granted_10 rfl rfl ?_
        refine zl_get0 (pc := 11) hO nd_GM_granted_11 kf_GM_72 rfl (Nat.le_of_ble_eq_true rfl) rfl ?_
        refine zl_iconst (pc := 14) hO (v := 3) nd_GM_granted_14 (by decide) ?_
        refine zl_iload_n (pc := 15) hO 1 nd_GM_granted_15 rfl rfl ?_
        refine zl_imul (pc := 16) hO nd_GM_granted_16 ?_
        refine zl_iload_n (pc := 17) hO 3 nd_GM_granted_17 rfl rfl ?_
        refine zl_iadd (pc := 18) hO nd_GM_granted_18 ?_
        obtain ⟨c_in19, h⟩ := ck_use h
        refine zl_iald (pc := 19) hO nd_GM_granted_19 rfl rfl (Nat.le_of_ble_eq_true rfl) c_in19 ?_
        refine zl_if_le (pc := 20) hO 27 nd_GM_granted_20 (by decide) (fun hc => ?_) (fun hc => ?_)
        · have h := ite_t hc h
          refine zl_iconst (pc := 27) hO (v := 0) nd_GM_granted_27 (by decide) ?_
          exact zl_weak (J_28 (k_GM_granted_4 a1 n) ih _ _ _ _ h) ⟨rfl, ⟨rfl, ⟨rfl, trivial⟩⟩⟩
        · have h := ite_f hc h
          refine zl_iconst (pc := 23) hO (v := 2) nd_GM_granted_23 (by decide) ?_
          refine zl_goto (pc := 24) hO 28 nd_GM_granted_24 (by decide) ?_
          exact zl_weak (J_28 (k_GM_granted_4 a1 n) ih _ _ _ _ h) ⟨rfl, ⟨rfl, ⟨rfl, trivial⟩⟩⟩
  unfold k_GM_granted at h
  refine zl_iconst (pc := 0) hO (v := 0) nd_GM_granted_0 (by decide) ?_
  refine zl_istore_n (pc := 1) hO 2 (L' := [some (zR 0 0), some (zI a1), some (zI 0), none]) nd_GM_granted_1 rfl (by decide) rfl ?_
  refine zl_iconst (pc := 2) hO (v := 0) nd_GM_granted_2 (by decide) ?_
  refine zl_istore_n (pc := 3) hO 3 (L' := [some (zR 0 0), some (zI a1), some (zI 0), some (zI 0)]) nd_GM_granted_3 rfl (by decide) rfl ?_
  exact zl_weak (J_4 FU _ _ _ h) ⟨rfl, ⟨rfl, ⟨rfl, ⟨rfl, trivial⟩⟩⟩⟩
set_option maxHeartbeats 4000000 in
set_option maxRecDepth 100000 in
theorem c_GM_within {l : Launch} {V : zG} (hJ : zJ0 (sM l V)) {s0 : zS} {a1 : Int32} {a2 : Int32} {a3 : Int32}  {s1 : zS} {v1 : Int32} (h : k_GM_within s0 a1 a2 a3 = some (s1, v1)) : zM (sM l V) md_GM_within [zR 0 0, zI a1, zI a2, zI a3] s0 (s1, some (zI v1)) := by
  refine zMet [some (zR 0 0), some (zI a1), some (zI a2), some (zI a3), none] hJ (by decide) rfl (Nat.le_of_ble_eq_true rfl) rfl ?_
  intro X hO
  unfold k_GM_within at h
  refine zl_sipush (pc := 0) hO (v := 4096) nd_GM_within_0 (by decide) ?_
  refine zl_iconst (pc := 3) hO (v := 4) nd_GM_within_3 (by decide) ?_
  refine zl_aload_n (pc := 4) hO 0 nd_GM_within_4 rfl rfl ?_
  refine zl_get0 (pc := 5) hO nd_GM_within_5 kf_GM_26 rfl (Nat.le_of_ble_eq_true rfl) rfl ?_
  refine zl_iload_n (pc := 8) hO 1 nd_GM_within_8 rfl rfl ?_
  obtain ⟨c_in9, h⟩ := ck_use h
  refine zl_iald (pc := 9) hO nd_GM_within_9 rfl rfl (Nat.le_of_ble_eq_true rfl) c_in9 ?_
  refine zl_imul (pc := 10) hO nd_GM_within_10 ?_
  refine zl_iadd (pc := 11) hO nd_GM_within_11 ?_
  obtain ⟨x1, e_x1, h⟩ := lt_use h
  refine zl_top e_x1 ?_
  refine zl_istore (pc := 12) hO (L' := [some (zR 0 0), some (zI a1), some (zI a2), some (zI a3), some (zI x1)]) nd_GM_within_12 (by decide) rfl ?_
  refine zl_iload_n (pc := 14) hO 2 nd_GM_within_14 rfl rfl ?_
  refine zl_iconst (pc := 15) hO (v := 3) nd_GM_within_15 (by decide) ?_
  refine zl_iand (pc := 16) hO nd_GM_within_16 ?_
  refine zl_if_ne (pc := 17) hO 40 nd_GM_within_17 (by decide) (fun hc => ?_) (fun hc => ?_)
  · have h := ite_f hc h
    refine zl_iconst (pc := 40) hO (v := 0) nd_GM_within_40 (by decide) ?_
    exact zl_zret (pc := 41) hO nd_GM_within_41 rfl (by decide) (zr_i h)
  · have h := ite_t hc h
    refine zl_iload_n (pc := 20) hO 2 nd_GM_within_20 rfl rfl ?_
    refine zl_iload (pc := 21) hO nd_GM_within_21 rfl ?_
    refine zl_icmp_lt (pc := 23) hO 40 nd_GM_within_23 (by decide) (fun hc => ?_) (fun hc => ?_)
    · have h := ite_t hc h
      refine zl_iconst (pc := 40) hO (v := 0) nd_GM_within_40 (by decide) ?_
      exact zl_zret (pc := 41) hO nd_GM_within_41 rfl (by decide) (zr_i h)
    · have h := ite_f hc h
      refine zl_iload_n (pc := 26) hO 2 nd_GM_within_26 rfl rfl ?_
      refine zl_iload (pc := 27) hO nd_GM_within_27 rfl ?_
      refine zl_iconst (pc := 29) hO (v := 4) nd_GM_within_29 (by decide) ?_
      refine zl_iload_n (pc := 30) hO 3 nd_GM_within_30 rfl rfl ?_
      refine zl_imul (pc := 31) hO nd_GM_within_31 ?_
      refine zl_iadd (pc := 32) hO nd_GM_within_32 ?_
      refine zl_icmp_ge (pc := 33) hO 40 nd_GM_within_33 (by decide) (fun hc => ?_) (fun hc => ?_)
      · have h := ite_t hc h
        refine zl_iconst (pc := 40) hO (v := 0) nd_GM_within_40 (by decide) ?_
        exact zl_zret (pc := 41) hO nd_GM_within_41 rfl (by decide) (zr_i h)
      · have h := ite_f hc h
        refine zl_iconst (pc := 36) hO (v := 1) nd_GM_within_36 (by decide) ?_
        refine zl_goto (pc := 37) hO 41 nd_GM_within_37 (by decide) ?_
        exact zl_zret (pc := 41) hO nd_GM_within_41 rfl (by decide) (zr_i h)
set_option maxHeartbeats 4000000 in
set_option maxRecDepth 100000 in
theorem c_GM_isOpen {l : Launch} {V : zG} (hJ : zJ0 (sM l V)) {s0 : zS} {a1 : Int32} {a2 : Int32}  {s1 : zS} {v1 : Int32} (h : k_GM_isOpen s0 a1 a2 = some (s1, v1)) : zM (sM l V) md_GM_isOpen [zR 0 0, zI a1, zI a2] s0 (s1, some (zI v1)) := by
  refine zMet [some (zR 0 0), some (zI a1), some (zI a2), none] hJ (by decide) rfl (Nat.le_of_ble_eq_true rfl) rfl ?_
  intro X hO
  unfold k_GM_isOpen at h
  refine zl_aload_n (pc := 0) hO 0 nd_GM_isOpen_0 rfl rfl ?_
  refine zl_iload_n (pc := 1) hO 1 nd_GM_isOpen_1 rfl rfl ?_
  refine zl_aload_n (pc := 2) hO 0 nd_GM_isOpen_2 rfl rfl ?_
  refine zl_iload_n (pc := 3) hO 1 nd_GM_isOpen_3 rfl rfl ?_
  obtain ⟨⟨s1, r2⟩, h_4, h⟩ := bn_use h
  refine zl_callVi (pc := 4) hO [zI a1] [zI a1, zR 0 0] (c_GM_granted hJ h_4) nd_GM_isOpen_4 kv_GM_142 rfl (Nat.le_of_ble_eq_true rfl) rfl rfl rfl (Nat.le_of_ble_eq_true rfl) ?_
  obtain ⟨⟨s3, r4⟩, h_7, h⟩ := bn_use h
  refine zl_callVi (pc := 7) hO [zI a1, zI r2] [] (c_GM_openWords hJ h_7) nd_GM_isOpen_7 kv_GM_146 rfl (Nat.le_of_ble_eq_true rfl) rfl rfl rfl (Nat.le_of_ble_eq_true rfl) ?_
  refine zl_istore_n (pc := 10) hO 3 (L' := [some (zR 0 0), some (zI a1), some (zI a2), some (zI r4)]) nd_GM_isOpen_10 rfl (by decide) rfl ?_
  refine zl_aload_n (pc := 11) hO 0 nd_GM_isOpen_11 rfl rfl ?_
  refine zl_iload_n (pc := 12) hO 1 nd_GM_isOpen_12 rfl rfl ?_
  refine zl_iload_n (pc := 13) hO 2 nd_GM_isOpen_13 rfl rfl ?_
  refine zl_iload_n (pc := 14) hO 3 nd_GM_isOpen_14 rfl rfl ?_
  obtain ⟨⟨s5, r6⟩, h_15, h⟩ := bn_use h
  refine zl_callVi (pc := 15) hO [zI a1, zI a2, zI r4] [] (c_GM_within hJ h_15) nd_GM_isOpen_15 kv_GM_150 rfl (Nat.le_of_ble_eq_true rfl) rfl rfl rfl (Nat.le_of_ble_eq_true rfl) ?_
  obtain ⟨c_bool18, h⟩ := ck_use h
  exact zl_zret (pc := 18) hO nd_GM_isOpen_18 rfl c_bool18 (zr_i h)
set_option maxHeartbeats 4000000 in
set_option maxRecDepth 100000 in
theorem c_GM_inCode {l : Launch} {V : zG} (hJ : zJ0 (sM l V)) {s0 : zS} {a1 : Int32} {a2 : Int32}  {s1 : zS} {v1 : Int32} (h : k_GM_inCode s0 a1 a2 = some (s1, v1)) : zM (sM l V) md_GM_inCode [zR 0 0, zI a1, zI a2] s0 (s1, some (zI v1)) := by
  refine zMet [some (zR 0 0), some (zI a1), some (zI a2)] hJ (by decide) rfl (Nat.le_of_ble_eq_true rfl) rfl ?_
  intro X hO
  unfold k_GM_inCode at h
  refine zl_iload_n (pc := 0) hO 2 nd_GM_inCode_0 rfl rfl ?_
  refine zl_iconst (pc := 1) hO (v := 2) nd_GM_inCode_1 (by decide) ?_
  refine zl_aload_n (pc := 2) hO 0 nd_GM_inCode_2 rfl rfl ?_
  refine zl_get0 (pc := 3) hO nd_GM_inCode_3 kf_GM_20 rfl (Nat.le_of_ble_eq_true rfl) rfl ?_
  refine zl_iload_n (pc := 6) hO 1 nd_GM_inCode_6 rfl rfl ?_
  obtain ⟨c_in7, h⟩ := ck_use h
  refine zl_iald (pc := 7) hO nd_GM_inCode_7 rfl rfl (Nat.le_of_ble_eq_true rfl) c_in7 ?_
  refine zl_imul (pc := 8) hO nd_GM_inCode_8 ?_
  refine zl_icmp_lt (pc := 9) hO 35 nd_GM_inCode_9 (by decide) (fun hc => ?_) (fun hc => ?_)
  · have h := ite_t hc h
    refine zl_iconst (pc := 35) hO (v := 0) nd_GM_inCode_35 (by decide) ?_
    exact zl_zret (pc := 36) hO nd_GM_inCode_36 rfl (by decide) (zr_i h)
  · have h := ite_f hc h
    refine zl_iload_n (pc := 12) hO 2 nd_GM_inCode_12 rfl rfl ?_
    refine zl_iconst (pc := 13) hO (v := 2) nd_GM_inCode_13 (by decide) ?_
    refine zl_aload_n (pc := 14) hO 0 nd_GM_inCode_14 rfl rfl ?_
    refine zl_get0 (pc := 15) hO nd_GM_inCode_15 kf_GM_20 rfl (Nat.le_of_ble_eq_true rfl) rfl ?_
    refine zl_iload_n (pc := 18) hO 1 nd_GM_inCode_18 rfl rfl ?_
    obtain ⟨c_in19, h⟩ := ck_use h
    refine zl_iald (pc := 19) hO nd_GM_inCode_19 rfl rfl (Nat.le_of_ble_eq_true rfl) c_in19 ?_
    refine zl_aload_n (pc := 20) hO 0 nd_GM_inCode_20 rfl rfl ?_
    refine zl_get0 (pc := 21) hO nd_GM_inCode_21 kf_GM_23 rfl (Nat.le_of_ble_eq_true rfl) rfl ?_
    refine zl_iload_n (pc := 24) hO 1 nd_GM_inCode_24 rfl rfl ?_
    obtain ⟨c_in25, h⟩ := ck_use h
    refine zl_iald (pc := 25) hO nd_GM_inCode_25 rfl rfl (Nat.le_of_ble_eq_true rfl) c_in25 ?_
    refine zl_iadd (pc := 26) hO nd_GM_inCode_26 ?_
    refine zl_imul (pc := 27) hO nd_GM_inCode_27 ?_
    refine zl_icmp_ge (pc := 28) hO 35 nd_GM_inCode_28 (by decide) (fun hc => ?_) (fun hc => ?_)
    · have h := ite_t hc h
      refine zl_iconst (pc := 35) hO (v := 0) nd_GM_inCode_35 (by decide) ?_
      exact zl_zret (pc := 36) hO nd_GM_inCode_36 rfl (by decide) (zr_i h)
    · have h := ite_f hc h
      refine zl_iconst (pc := 31) hO (v := 1) nd_GM_inCode_31 (by decide) ?_
      refine zl_goto (pc := 32) hO 36 nd_GM_inCode_32 (by decide) ?_
      exact zl_zret (pc := 36) hO nd_GM_inCode_36 rfl (by decide) (zr_i h)
set_option maxHeartbeats 4000000 in
set_option maxRecDepth 100000 in
theorem c_GM_may {l : Launch} {V : zG} (hJ : zJ0 (sM l V)) {s0 : zS} {a1 : Int32} {a2 : Int32} {a3 : Int32}  {s1 : zS} {v1 : Int32} (h : k_GM_may s0 a1 a2 a3 = some (s1, v1)) : zM (sM l V) md_GM_may [zR 0 0, zI a1, zI a2, zI a3] s0 (s1, some (zI v1)) := by
  refine zMet [some (zR 0 0), some (zI a1), some (zI a2), some (zI a3), none] hJ (by decide) rfl (Nat.le_of_ble_eq_true rfl) rfl ?_
  intro X hO
  have J_70 : ∀ (s0 : zS) (l4 : Int32) (t0 : Int32), k_GM_may_70 a1 a2 a3 s0 l4 t0 = some (s1, v1) → ZW (sM l V) md_GM_may (s1, some (zI v1)) X 70 [none, none, none, none, some (zI l4)] [zI t0, zR 0 0] s0 := by
    intro s0 l4 t0 h
    unfold k_GM_may_70 at h
    refine zl_puti (pc := 70) hO nd_GM_may_70 kp_GM_161 rfl (Nat.le_of_ble_eq_true rfl) rfl ?_
    obtain ⟨s5, e_s5, h⟩ := lt_use h
    refine zl_sg e_s5 ?_
    refine zl_iload (pc := 73) hO nd_GM_may_73 rfl ?_
    refine zl_if_ne (pc := 75) hO 82 nd_GM_may_75 (by decide) (fun hc => ?_) (fun hc => ?_)
    · have h := ite_f hc h
      refine zl_iconst (pc := 82) hO (v := 0) nd_GM_may_82 (by decide) ?_
      exact zl_zret (pc := 83) hO nd_GM_may_83 rfl (by decide) (zr_i h)
    · have h := ite_t hc h
      refine zl_iconst (pc := 78) hO (v := 1) nd_GM_may_78 (by decide) ?_
      refine zl_goto (pc := 79) hO 83 nd_GM_may_79 (by decide) ?_
      exact zl_zret (pc := 83) hO nd_GM_may_83 rfl (by decide) (zr_i h)
  have J_61 : ∀ (s0 : zS) (l4 : Int32), k_GM_may_61 a1 a2 a3 s0 l4 = some (s1, v1) → ZW (sM l V) md_GM_may (s1, some (zI v1)) X 61 [none, none, none, none, some (zI l4)] [zR 0 0] s0 := by
    intro s0 l4 h
    unfold k_GM_may_61 at h
    refine zl_iload (pc := 61) hO nd_GM_may_61 rfl ?_
    refine zl_goto (pc := 63) hO 70 nd_GM_may_63 (by decide) ?_
    exact zl_weak (J_70 _ _ _ h) ⟨rfl, trivial⟩
  have J_66 : ∀ (s0 : zS) (l4 : Int32), k_GM_may_66 a1 a2 a3 s0 l4 = some (s1, v1) → ZW (sM l V) md_GM_may (s1, some (zI v1)) X 66 [some (zR 0 0), none, none, none, some (zI l4)] [zR 0 0] s0 := by
    intro s0 l4 h
    unfold k_GM_may_66 at h
    refine zl_aload_n (pc := 66) hO 0 nd_GM_may_66 rfl rfl ?_
    refine zl_geti (pc := 67) hO nd_GM_may_67 kf_GM_161 rfl (Nat.le_of_ble_eq_true rfl) rfl ?_
    exact zl_weak (J_70 _ _ _ h) ⟨rfl, trivial⟩
  have J_37 : ∀ (s0 : zS) (t0 : Int32), k_GM_may_37 a1 a2 a3 s0 t0 = some (s1, v1) → ZW (sM l V) md_GM_may (s1, some (zI v1)) X 37 [some (zR 0 0), none, none, none, none] [zI t0] s0 := by
    intro s0 t0 h
    unfold k_GM_may_37 at h
    refine zl_istore (pc := 37) hO (L' := [some (zR 0 0), none, none, none, some (zI t0)]) nd_GM_may_37 (by decide) rfl ?_
    refine zl_aload_n (pc := 39) hO 0 nd_GM_may_39 rfl rfl ?_
    refine zl_iload (pc := 40) hO nd_GM_may_40 rfl ?_
    refine zl_if_le (pc := 42) hO 66 nd_GM_may_42 (by decide) (fun hc => ?_) (fun hc => ?_)
    · have h := ite_t hc h
      exact zl_weak (J_66 _ _ h) ⟨rfl, ⟨rfl, trivial⟩⟩
    · have h := ite_f hc h
      refine zl_aload_n (pc := 45) hO 0 nd_GM_may_45 rfl rfl ?_
      refine zl_geti (pc := 46) hO nd_GM_may_46 kf_GM_161 rfl (Nat.le_of_ble_eq_true rfl) rfl ?_
      refine zl_if_eq (pc := 49) hO 61 nd_GM_may_49 (by decide) (fun hc => ?_) (fun hc => ?_)
      · have h := ite_t hc h
        exact zl_weak (J_61 _ _ h) ⟨rfl, trivial⟩
      · have h := ite_f hc h
        refine zl_iload (pc := 52) hO nd_GM_may_52 rfl ?_
        refine zl_aload_n (pc := 54) hO 0 nd_GM_may_54 rfl rfl ?_
        refine zl_geti (pc := 55) hO nd_GM_may_55 kf_GM_161 rfl (Nat.le_of_ble_eq_true rfl) rfl ?_
        refine zl_icmp_ge (pc := 58) hO 66 nd_GM_may_58 (by decide) (fun hc => ?_) (fun hc => ?_)
        · have h := ite_t hc h
          exact zl_weak (J_66 _ _ h) ⟨rfl, ⟨rfl, trivial⟩⟩
        · have h := ite_f hc h
          exact zl_weak (J_61 _ _ h) ⟨rfl, trivial⟩
  have J_32 : ∀ (s0 : zS), k_GM_may_32 a1 a2 a3 s0 = some (s1, v1) → ZW (sM l V) md_GM_may (s1, some (zI v1)) X 32 [some (zR 0 0), none, none, none, none] [] s0 := by
    intro s0 h
    unfold k_GM_may_32 at h
    refine zl_iconst (pc := 32) hO (v := 0) nd_GM_may_32 (by decide) ?_
    refine zl_goto (pc := 33) hO 37 nd_GM_may_33 (by decide) ?_
    exact zl_weak (J_37 _ _ h) ⟨rfl, trivial⟩
  have J_36 : ∀ (s0 : zS), k_GM_may_36 a1 a2 a3 s0 = some (s1, v1) → ZW (sM l V) md_GM_may (s1, some (zI v1)) X 36 [some (zR 0 0), none, none, none, none] [] s0 := by
    intro s0 h
    unfold k_GM_may_36 at h
    refine zl_iconst (pc := 36) hO (v := 4) nd_GM_may_36 (by decide) ?_
    exact zl_weak (J_37 _ _ h) ⟨rfl, trivial⟩
  unfold k_GM_may at h
  refine zl_iload_n (pc := 0) hO 2 nd_GM_may_0 rfl rfl ?_
  refine zl_iconst (pc := 1) hO (v := 3) nd_GM_may_1 (by decide) ?_
  refine zl_iand (pc := 2) hO nd_GM_may_2 ?_
  refine zl_if_eq (pc := 3) hO 10 nd_GM_may_3 (by decide) (fun hc => ?_) (fun hc => ?_)
  · have h := ite_t hc h
    refine zl_aload_n (pc := 10) hO 0 nd_GM_may_10 rfl rfl ?_
    refine zl_iload_n (pc := 11) hO 1 nd_GM_may_11 rfl rfl ?_
    refine zl_iload_n (pc := 12) hO 2 nd_GM_may_12 rfl rfl ?_
    obtain ⟨⟨s1, r2⟩, h_13, h⟩ := bn_use h
    refine zl_callVi (pc := 13) hO [zI a1, zI a2] [] (c_GM_isOpen hJ h_13) nd_GM_may_13 kv_GM_154 rfl (Nat.le_of_ble_eq_true rfl) rfl rfl rfl (Nat.le_of_ble_eq_true rfl) ?_
    refine zl_if_ne (pc := 16) hO 32 nd_GM_may_16 (by decide) (fun hc => ?_) (fun hc => ?_)
    · have h := ite_f hc h
      exact zl_weak (J_32 _ h) ⟨rfl, trivial⟩
    · have h := ite_t hc h
      refine zl_iload_n (pc := 19) hO 3 nd_GM_may_19 rfl rfl ?_
      refine zl_if_ne (pc := 20) hO 36 nd_GM_may_20 (by decide) (fun hc => ?_) (fun hc => ?_)
      · have h := ite_f hc h
        exact zl_weak (J_36 _ h) ⟨rfl, trivial⟩
      · have h := ite_t hc h
        refine zl_aload_n (pc := 23) hO 0 nd_GM_may_23 rfl rfl ?_
        refine zl_iload_n (pc := 24) hO 1 nd_GM_may_24 rfl rfl ?_
        refine zl_iload_n (pc := 25) hO 2 nd_GM_may_25 rfl rfl ?_
        obtain ⟨⟨s3, r4⟩, h_26, h⟩ := bn_use h
        refine zl_callVi (pc := 26) hO [zI a1, zI a2] [] (c_GM_inCode hJ h_26) nd_GM_may_26 kv_GM_158 rfl (Nat.le_of_ble_eq_true rfl) rfl rfl rfl (Nat.le_of_ble_eq_true rfl) ?_
        refine zl_if_eq (pc := 29) hO 36 nd_GM_may_29 (by decide) (fun hc => ?_) (fun hc => ?_)
        · have h := ite_t hc h
          exact zl_weak (J_36 _ h) ⟨rfl, trivial⟩
        · have h := ite_f hc h
          exact zl_weak (J_32 _ h) ⟨rfl, trivial⟩
  · have h := ite_f hc h
    refine zl_iconst (pc := 6) hO (v := 3) nd_GM_may_6 (by decide) ?_
    refine zl_goto (pc := 7) hO 37 nd_GM_may_7 (by decide) ?_
    exact zl_weak (J_37 _ _ h) ⟨rfl, trivial⟩
set_option maxHeartbeats 4000000 in
set_option maxRecDepth 100000 in
theorem c_GM_get {l : Launch} {V : zG} (hJ : zJ0 (sM l V)) {s0 : zS} {a1 : Int32}  {s1 : zS} {v1 : Int32} (h : k_GM_get s0 a1 = some (s1, v1)) : zM (sM l V) md_GM_get [zR 0 0, zI a1] s0 (s1, some (zI v1)) := by
  refine zMet [some (zR 0 0), some (zI a1)] hJ (by decide) rfl (Nat.le_of_ble_eq_true rfl) rfl ?_
  intro X hO
  unfold k_GM_get at h
  refine zl_iload_n (pc := 0) hO 1 nd_GM_get_0 rfl rfl ?_
  refine zl_sipush (pc := 1) hO (v := 4096) nd_GM_get_1 (by decide) ?_
  refine zl_icmp_lt (pc := 4) hO 22 nd_GM_get_4 (by decide) (fun hc => ?_) (fun hc => ?_)
  · have h := ite_t hc h
    refine zl_aload_n (pc := 22) hO 0 nd_GM_get_22 rfl rfl ?_
    refine zl_get0 (pc := 23) hO nd_GM_get_23 kf_GM_7 rfl (Nat.le_of_ble_eq_true rfl) rfl ?_
    refine zl_iload_n (pc := 26) hO 1 nd_GM_get_26 rfl rfl ?_
    refine zl_iconst (pc := 27) hO (v := 2) nd_GM_get_27 (by decide) ?_
    obtain ⟨c_div28, h⟩ := ck_use h
    refine zl_idiv (pc := 28) hO nd_GM_get_28 c_div28 ?_
    obtain ⟨c_in29, h⟩ := ck_use h
    refine zl_iald (pc := 29) hO nd_GM_get_29 rfl rfl (Nat.le_of_ble_eq_true rfl) c_in29 ?_
    refine zl_aload_n (pc := 30) hO 0 nd_GM_get_30 rfl rfl ?_
    refine zl_get0 (pc := 31) hO nd_GM_get_31 kf_GM_7 rfl (Nat.le_of_ble_eq_true rfl) rfl ?_
    refine zl_iload_n (pc := 34) hO 1 nd_GM_get_34 rfl rfl ?_
    refine zl_iconst (pc := 35) hO (v := 2) nd_GM_get_35 (by decide) ?_
    obtain ⟨c_div36, h⟩ := ck_use h
    refine zl_idiv (pc := 36) hO nd_GM_get_36 c_div36 ?_
    refine zl_iconst (pc := 37) hO (v := 1) nd_GM_get_37 (by decide) ?_
    refine zl_iadd (pc := 38) hO nd_GM_get_38 ?_
    obtain ⟨c_in39, h⟩ := ck_use h
    refine zl_iald (pc := 39) hO nd_GM_get_39 rfl rfl (Nat.le_of_ble_eq_true rfl) c_in39 ?_
    refine zl_bipush (pc := 40) hO (v := 16) nd_GM_get_40 (by decide) ?_
    refine zl_ishl (pc := 42) hO nd_GM_get_42 ?_
    refine zl_ior (pc := 43) hO nd_GM_get_43 ?_
    exact zl_iret (pc := 44) hO nd_GM_get_44 rfl (zr_i h)
  · have h := ite_f hc h
    refine zl_aload_n (pc := 7) hO 0 nd_GM_get_7 rfl rfl ?_
    refine zl_get0 (pc := 8) hO nd_GM_get_8 kf_GM_13 rfl (Nat.le_of_ble_eq_true rfl) rfl ?_
    refine zl_iload_n (pc := 11) hO 1 nd_GM_get_11 rfl rfl ?_
    refine zl_sipush (pc := 12) hO (v := 4096) nd_GM_get_12 (by decide) ?_
    refine zl_isub (pc := 15) hO nd_GM_get_15 ?_
    refine zl_iconst (pc := 16) hO (v := 4) nd_GM_get_16 (by decide) ?_
    obtain ⟨c_div17, h⟩ := ck_use h
    refine zl_idiv (pc := 17) hO nd_GM_get_17 c_div17 ?_
    obtain ⟨c_in18, h⟩ := ck_use h
    refine zl_iald (pc := 18) hO nd_GM_get_18 rfl rfl (Nat.le_of_ble_eq_true rfl) c_in18 ?_
    refine zl_goto (pc := 19) hO 44 nd_GM_get_19 (by decide) ?_
    exact zl_iret (pc := 44) hO nd_GM_get_44 rfl (zr_i h)
set_option maxHeartbeats 4000000 in
set_option maxRecDepth 100000 in
theorem c_GM_set {l : Launch} {V : zG} (hJ : zJ0 (sM l V)) {s0 : zS} {a1 : Int32} {a2 : Int32}  {s1 : zS} (h : k_GM_set s0 a1 a2 = some s1) : zM (sM l V) md_GM_set [zR 0 0, zI a1, zI a2] s0 (s1, none) := by
  refine zMet [some (zR 0 0), some (zI a1), some (zI a2)] hJ (by decide) rfl (Nat.le_of_ble_eq_true rfl) rfl ?_
  intro X hO
  unfold k_GM_set at h
  refine zl_aload_n (pc := 0) hO 0 nd_GM_set_0 rfl rfl ?_
  refine zl_get0 (pc := 1) hO nd_GM_set_1 kf_GM_13 rfl (Nat.le_of_ble_eq_true rfl) rfl ?_
  refine zl_iload_n (pc := 4) hO 1 nd_GM_set_4 rfl rfl ?_
  refine zl_sipush (pc := 5) hO (v := 4096) nd_GM_set_5 (by decide) ?_
  refine zl_isub (pc := 8) hO nd_GM_set_8 ?_
  refine zl_iconst (pc := 9) hO (v := 4) nd_GM_set_9 (by decide) ?_
  obtain ⟨c_div10, h⟩ := ck_use h
  refine zl_idiv (pc := 10) hO nd_GM_set_10 c_div10 ?_
  refine zl_iload_n (pc := 11) hO 2 nd_GM_set_11 rfl rfl ?_
  obtain ⟨c_in12, h⟩ := ck_use h
  refine zl_iast (pc := 12) hO nd_GM_set_12 rfl rfl (Nat.le_of_ble_eq_true rfl) c_in12 ?_
  obtain ⟨s1, e_s1, h⟩ := lt_use h
  refine zl_sg e_s1 ?_
  exact zl_vret (pc := 13) hO nd_GM_set_13 rfl (zr_v h)
set_option maxHeartbeats 4000000 in
set_option maxRecDepth 100000 in
theorem c_GM_eight {l : Launch} {V : zG} (hJ : zJ0 (sM l V)) {s0 : zS} {a1 : Int32} {a2 : Int32}  {s1 : zS} {v1 : Int32} (h : k_GM_eight s0 a1 a2 = some (s1, v1)) : zM (sM l V) md_GM_eight [zR 0 0, zI a1, zI a2] s0 (s1, some (zI v1)) := by
  refine zMet [some (zR 0 0), some (zI a1), some (zI a2), none, none] hJ (by decide) rfl (Nat.le_of_ble_eq_true rfl) rfl ?_
  intro X hO
  have J_35 : ∀ (K5 : zS → Int32 → Int32 → Option (zS × Int32)) (hK5 : ∀ (s0 : zS) (l3 : Int32) (l4 : Int32), K5 s0 l3 l4 = some (s1, v1) → ZW (sM l V) md_GM_eight (s1, some (zI v1)) X 5 [some (zR 0 0), some (zI a1), some (zI a2), some (zI l3), some (zI l4)] [] s0), ∀ (s0 : zS) (l4 : Int32) (t0 : Int32), k_GM_eight_35 a1 a2 K5 s0 l4 t0 = some (s1, v1) → ZW (sM l V) md_GM_eight (s1, some (zI v1)) X 35 [some (zR 0 0), some (zI a1), some (zI a2), none, some (zI l4)] [zI t0] s0 := by
    intro K5 hK5
    intro s0 l4 t0 h
    unfold k_GM_eight_35 at h
    refine zl_istore_n (pc := 35) hO 3 (L' := [some (zR 0 0), some (zI a1), some (zI a2), some (zI t0), some (zI l4)]) nd_GM_eight_35 rfl (by decide) rfl ?_
    obtain ⟨x3, e_x3, h⟩ := lt_use h
    refine zl_iinc (pc := 36) hO (L' := [some (zR 0 0), some (zI a1), some (zI a2), some (zI t0), some (zI x3)]) nd_GM_eight_36 rfl e_x3.symm (by decide) rfl ?_
    refine zl_goto (pc := 39) hO 5 nd_GM_eight_39 (by decide) ?_
    exact zl_weak (hK5 _ _ _ h) ⟨rfl, ⟨rfl, ⟨rfl, ⟨rfl, ⟨rfl, trivial⟩⟩⟩⟩⟩
  have J_34 : ∀ (K5 : zS → Int32 → Int32 → Option (zS × Int32)) (hK5 : ∀ (s0 : zS) (l3 : Int32) (l4 : Int32), K5 s0 l3 l4 = some (s1, v1) → ZW (sM l V) md_GM_eight (s1, some (zI v1)) X 5 [some (zR 0 0), some (zI a1), some (zI a2), some (zI l3), some (zI l4)] [] s0), ∀ (s0 : zS) (l4 : Int32), k_GM_eight_34 a1 a2 K5 s0 l4 = some (s1, v1) → ZW (sM l V) md_GM_eight (s1, some (zI v1)) X 34 [some (zR 0 0), some (zI a1), some (zI a2), none, some (zI l4)] [] s0 := by
    intro K5 hK5
    intro s0 l4 h
    unfold k_GM_eight_34 at h
    refine zl_iconst (pc := 34) hO (v := 0) nd_GM_eight_34 (by decide) ?_
    exact zl_weak (J_35 K5 hK5 _ _ _ h) ⟨rfl, ⟨rfl, ⟨rfl, ⟨rfl, trivial⟩⟩⟩⟩
  have J_5 : ∀ (n : Nat), ∀ (s0 : zS) (l3 : Int32) (l4 : Int32), k_GM_eight_5 a1 a2 n s0 l3 l4 = some (s1, v1) → ZW (sM l V) md_GM_eight (s1, some (zI v1)) X 5 [some (zR 0 0), some (zI a1), some (zI a2), some (zI l3), some (zI l4)] [] s0 := by
    intro n
    induction n with
    | zero => intro s0 l3 l4 h; exact absurd h (by rw [k_GM_eight_5]; exact fun w => nomatch w)
    | succ n ih =>
      intro s0 l3 l4 h
      rw [k_GM_eight_5]  at h
      refine zl_iload (pc := 5) hO nd_GM_eight_5 rfl ?_
      refine zl_bipush (pc := 7) hO (v := 8) nd_GM_eight_7 (by decide) ?_
      refine zl_icmp_ge (pc := 9) hO 42 nd_GM_eight_9 (by decide) (fun hc => ?_) (fun hc => ?_)
      · have h := ite_t hc h
        refine zl_iload_n (pc := 42) hO 3 nd_GM_eight_42 rfl rfl ?_
        obtain ⟨c_bool43, h⟩ := ck_use h
        exact zl_zret (pc := 43) hO nd_GM_eight_43 rfl c_bool43 (zr_i h)
      · have h := ite_f hc h
        refine zl_iload_n (pc := 12) hO 3 nd_GM_eight_12 rfl rfl ?_
        refine zl_if_eq (pc := 13) hO 34 nd_GM_eight_13 (by decide) (fun hc => ?_) (fun hc => ?_)
        · have h := ite_t hc h
          exact zl_weak (J_34 (k_GM_eight_5 a1 a2 n) ih _ _ h) ⟨rfl, ⟨rfl, ⟨rfl, ⟨rfl, trivial⟩⟩⟩⟩
        · have h := ite_f hc h
          refine zl_aload_n (pc := 16) hO 0 nd_GM_eight_16 rfl rfl ?_
          refine zl_iload_n (pc := 17) hO 1 nd_GM_eight_17 rfl rfl ?_
          refine zl_iload_n (pc := 18) hO 2 nd_GM_eight_18 rfl rfl ?_
          refine zl_iconst (pc := 19) hO (v := 4) nd_GM_eight_19 (by decide) ?_
          refine zl_iload (pc := 20) hO nd_GM_eight_20 rfl ?_
          refine zl_imul (pc := 22) hO nd_GM_eight_22 ?_
          refine zl_iadd (pc := 23) hO nd_GM_eight_23 ?_
          obtain ⟨⟨s1, r2⟩, h_24, h⟩ := bn_use h
          refine zl_callVi (pc := 24) hO [zI a1, zI (a2 + ((4 : Int32) * l4))] [] (c_GM_isOpen hJ h_24) nd_GM_eight_24 kv_GM_154 rfl (Nat.le_of_ble_eq_true rfl) rfl rfl rfl (Nat.le_of_ble_eq_true rfl) ?_
          refine zl_if_eq (pc := 27) hO 34 nd_GM_eight_27 (by decide) (fun hc => ?_) (fun hc => ?_)
          · have h := ite_t hc h
            exact zl_weak (J_34 (k_GM_eight_5 a1 a2 n) ih _ _ h) ⟨rfl, ⟨rfl, ⟨rfl, ⟨rfl, trivial⟩⟩⟩⟩
          · have h := ite_f hc h
            refine zl_iconst (pc := 30) hO (v := 1) nd_GM_eight_30 (by decide) ?_
            refine zl_goto (pc := 31) hO 35 nd_GM_eight_31 (by decide) ?_
            exact zl_weak (J_35 (k_GM_eight_5 a1 a2 n) ih _ _ _ h) ⟨rfl, ⟨rfl, ⟨rfl, ⟨rfl, trivial⟩⟩⟩⟩
  unfold k_GM_eight at h
  refine zl_iconst (pc := 0) hO (v := 1) nd_GM_eight_0 (by decide) ?_
  refine zl_istore_n (pc := 1) hO 3 (L' := [some (zR 0 0), some (zI a1), some (zI a2), some (zI 1), none]) nd_GM_eight_1 rfl (by decide) rfl ?_
  refine zl_iconst (pc := 2) hO (v := 0) nd_GM_eight_2 (by decide) ?_
  refine zl_istore (pc := 3) hO (L' := [some (zR 0 0), some (zI a1), some (zI a2), some (zI 1), some (zI 0)]) nd_GM_eight_3 (by decide) rfl ?_
  exact zl_weak (J_5 FU _ _ _ h) ⟨rfl, ⟨rfl, ⟨rfl, ⟨rfl, ⟨rfl, trivial⟩⟩⟩⟩⟩
set_option maxHeartbeats 4000000 in
set_option maxRecDepth 100000 in
theorem c_GM_stack {l : Launch} {V : zG} (hJ : zJ0 (sM l V)) {s0 : zS} {a1 : Int32} {a2 : Int32}  {s1 : zS} (h : k_GM_stack s0 a1 a2 = some s1) : zM (sM l V) md_GM_stack [zR 0 0, zI a1, zI a2] s0 (s1, none) := by
  refine zMet [some (zR 0 0), some (zI a1), some (zI a2), none, none, none] hJ (by decide) rfl (Nat.le_of_ble_eq_true rfl) rfl ?_
  intro X hO
  have J_151 : ∀ (s0 : zS) (l3 : Int32) (t0 : Int32) (t1 : Int32) (t2 : Int32), k_GM_stack_151 a1 a2 s0 l3 t0 t1 t2 = some s1 → ZW (sM l V) md_GM_stack (s1, none) X 151 [some (zR 0 0), some (zI a1), none, some (zI l3), none, none] [zI t0, zI t1, zI t2, zR 0 0] s0 := by
    intro s0 l3 t0 t1 t2 h
    unfold k_GM_stack_151 at h
    refine zl_iadd (pc := 151) hO nd_GM_stack_151 ?_
    obtain ⟨s10, h_152, h⟩ := bn_use h
    refine zl_callVv (pc := 152) hO [zI t2, zI (t1 + t0)] [] (c_GM_set hJ h_152) nd_GM_stack_152 kv_GM_167 rfl (Nat.le_of_ble_eq_true rfl) rfl rfl rfl (Nat.le_of_ble_eq_true rfl) ?_
    refine zl_aload_n (pc := 155) hO 0 nd_GM_stack_155 rfl rfl ?_
    refine zl_get0 (pc := 156) hO nd_GM_stack_156 kf_GM_47 rfl (Nat.le_of_ble_eq_true rfl) rfl ?_
    refine zl_iload_n (pc := 159) hO 1 nd_GM_stack_159 rfl rfl ?_
    refine zl_iload_n (pc := 160) hO 3 nd_GM_stack_160 rfl rfl ?_
    obtain ⟨c_in161, h⟩ := ck_use h
    refine zl_iast (pc := 161) hO nd_GM_stack_161 rfl rfl (Nat.le_of_ble_eq_true rfl) c_in161 ?_
    obtain ⟨s11, e_s11, h⟩ := lt_use h
    refine zl_sg e_s11 ?_
    refine zl_aload_n (pc := 162) hO 0 nd_GM_stack_162 rfl rfl ?_
    refine zl_get0 (pc := 163) hO nd_GM_stack_163 kf_GM_59 rfl (Nat.le_of_ble_eq_true rfl) rfl ?_
    refine zl_iload_n (pc := 166) hO 1 nd_GM_stack_166 rfl rfl ?_
    refine zl_iconst (pc := 167) hO (v := 1) nd_GM_stack_167 (by decide) ?_
    obtain ⟨c_in168, h⟩ := ck_use h
    refine zl_zast (pc := 168) hO nd_GM_stack_168 rfl rfl rfl (Nat.le_of_ble_eq_true rfl) c_in168 ?_
    obtain ⟨s12, e_s12, h⟩ := lt_use h
    refine zl_sg e_s12 ?_
    exact zl_vret (pc := 169) hO nd_GM_stack_169 rfl (zr_v h)
  have J_56 : ∀ (n : Nat), ∀ (s0 : zS) (l3 : Int32) (l4 : Int32) (l5 : Int32), k_GM_stack_56 a1 a2 n s0 l3 l4 l5 = some s1 → ZW (sM l V) md_GM_stack (s1, none) X 56 [some (zR 0 0), some (zI a1), some (zI a2), some (zI l3), some (zI l4), some (zI l5)] [] s0 := by
    intro n
    induction n with
    | zero => intro s0 l3 l4 l5 h; exact absurd h (by rw [k_GM_stack_56]; exact fun w => nomatch w)
    | succ n ih =>
      intro s0 l3 l4 l5 h
      rw [k_GM_stack_56]  at h
      refine zl_iload (pc := 56) hO nd_GM_stack_56 rfl ?_
      refine zl_iconst (pc := 58) hO (v := 4) nd_GM_stack_58 (by decide) ?_
      refine zl_icmp_ge (pc := 59) hO 90 nd_GM_stack_59 (by decide) (fun hc => ?_) (fun hc => ?_)
      · have h := ite_t hc h
        refine zl_aload_n (pc := 90) hO 0 nd_GM_stack_90 rfl rfl ?_
        refine zl_iload_n (pc := 91) hO 3 nd_GM_stack_91 rfl rfl ?_
        refine zl_bipush (pc := 92) hO (v := 16) nd_GM_stack_92 (by decide) ?_
        refine zl_iadd (pc := 94) hO nd_GM_stack_94 ?_
        refine zl_iconst (pc := 95) hO (v := 0) nd_GM_stack_95 (by decide) ?_
        obtain ⟨s5, h_96, h⟩ := bn_use h
        refine zl_callVv (pc := 96) hO [zI (l3 + (16 : Int32)), zI 0] [] (c_GM_set hJ h_96) nd_GM_stack_96 kv_GM_167 rfl (Nat.le_of_ble_eq_true rfl) rfl rfl rfl (Nat.le_of_ble_eq_true rfl) ?_
        refine zl_aload_n (pc := 99) hO 0 nd_GM_stack_99 rfl rfl ?_
        refine zl_iload_n (pc := 100) hO 3 nd_GM_stack_100 rfl rfl ?_
        refine zl_bipush (pc := 101) hO (v := 20) nd_GM_stack_101 (by decide) ?_
        refine zl_iadd (pc := 103) hO nd_GM_stack_103 ?_
        refine zl_aload_n (pc := 104) hO 0 nd_GM_stack_104 rfl rfl ?_
        refine zl_get0 (pc := 105) hO nd_GM_stack_105 kf_GM_50 rfl (Nat.le_of_ble_eq_true rfl) rfl ?_
        refine zl_iload_n (pc := 108) hO 1 nd_GM_stack_108 rfl rfl ?_
        obtain ⟨c_in109, h⟩ := ck_use h
        refine zl_iald (pc := 109) hO nd_GM_stack_109 rfl rfl (Nat.le_of_ble_eq_true rfl) c_in109 ?_
        obtain ⟨s6, h_110, h⟩ := bn_use h
        refine zl_callVv (pc := 110) hO [zI (l3 + (20 : Int32)), zI (s5 13 0 a1.toNatClampNeg)] [] (c_GM_set hJ h_110) nd_GM_stack_110 kv_GM_167 rfl (Nat.le_of_ble_eq_true rfl) rfl rfl rfl (Nat.le_of_ble_eq_true rfl) ?_
        refine zl_aload_n (pc := 113) hO 0 nd_GM_stack_113 rfl rfl ?_
        refine zl_iload_n (pc := 114) hO 3 nd_GM_stack_114 rfl rfl ?_
        refine zl_bipush (pc := 115) hO (v := 24) nd_GM_stack_115 (by decide) ?_
        refine zl_iadd (pc := 117) hO nd_GM_stack_117 ?_
        refine zl_iload_n (pc := 118) hO 2 nd_GM_stack_118 rfl rfl ?_
        obtain ⟨s7, h_119, h⟩ := bn_use h
        refine zl_callVv (pc := 119) hO [zI (l3 + (24 : Int32)), zI a2] [] (c_GM_set hJ h_119) nd_GM_stack_119 kv_GM_167 rfl (Nat.le_of_ble_eq_true rfl) rfl rfl rfl (Nat.le_of_ble_eq_true rfl) ?_
        refine zl_aload_n (pc := 122) hO 0 nd_GM_stack_122 rfl rfl ?_
        refine zl_iload_n (pc := 123) hO 3 nd_GM_stack_123 rfl rfl ?_
        refine zl_bipush (pc := 124) hO (v := 28) nd_GM_stack_124 (by decide) ?_
        refine zl_iadd (pc := 126) hO nd_GM_stack_126 ?_
        refine zl_aload_n (pc := 127) hO 0 nd_GM_stack_127 rfl rfl ?_
        refine zl_get0 (pc := 128) hO nd_GM_stack_128 kf_GM_56 rfl (Nat.le_of_ble_eq_true rfl) rfl ?_
        refine zl_iload_n (pc := 131) hO 1 nd_GM_stack_131 rfl rfl ?_
        obtain ⟨c_in132, h⟩ := ck_use h
        refine zl_iald (pc := 132) hO nd_GM_stack_132 rfl rfl (Nat.le_of_ble_eq_true rfl) c_in132 ?_
        refine zl_ldc (pc := 133) hO nd_GM_stack_133 kc_GM_170 ?_
        refine zl_imul (pc := 135) hO nd_GM_stack_135 ?_
        refine zl_ldc (pc := 136) hO nd_GM_stack_136 kc_GM_171 ?_
        refine zl_iadd (pc := 138) hO nd_GM_stack_138 ?_
        refine zl_iload (pc := 139) hO nd_GM_stack_139 rfl ?_
        refine zl_if_eq (pc := 141) hO 150 nd_GM_stack_141 (by decide) (fun hc => ?_) (fun hc => ?_)
        · have h := ite_t hc h
          refine zl_iconst (pc := 150) hO (v := 0) nd_GM_stack_150 (by decide) ?_
          exact zl_weak (J_151 _ _ _ _ _ h) ⟨rfl, ⟨rfl, ⟨rfl, trivial⟩⟩⟩
        · have h := ite_f hc h
          refine zl_sipush (pc := 144) hO (v := 512) nd_GM_stack_144 (by decide) ?_
          refine zl_goto (pc := 147) hO 151 nd_GM_stack_147 (by decide) ?_
          exact zl_weak (J_151 _ _ _ _ _ h) ⟨rfl, ⟨rfl, ⟨rfl, trivial⟩⟩⟩
      · have h := ite_f hc h
        refine zl_aload_n (pc := 62) hO 0 nd_GM_stack_62 rfl rfl ?_
        refine zl_iload_n (pc := 63) hO 3 nd_GM_stack_63 rfl rfl ?_
        refine zl_iconst (pc := 64) hO (v := 4) nd_GM_stack_64 (by decide) ?_
        refine zl_iload (pc := 65) hO nd_GM_stack_65 rfl ?_
        refine zl_imul (pc := 67) hO nd_GM_stack_67 ?_
        refine zl_iadd (pc := 68) hO nd_GM_stack_68 ?_
        refine zl_aload_n (pc := 69) hO 0 nd_GM_stack_69 rfl rfl ?_
        refine zl_get0 (pc := 70) hO nd_GM_stack_70 kf_GM_44 rfl (Nat.le_of_ble_eq_true rfl) rfl ?_
        refine zl_bipush (pc := 73) hO (v := 8) nd_GM_stack_73 (by decide) ?_
        refine zl_iload_n (pc := 75) hO 1 nd_GM_stack_75 rfl rfl ?_
        refine zl_imul (pc := 76) hO nd_GM_stack_76 ?_
        refine zl_iload (pc := 77) hO nd_GM_stack_77 rfl ?_
        refine zl_iadd (pc := 79) hO nd_GM_stack_79 ?_
        obtain ⟨c_in80, h⟩ := ck_use h
        refine zl_iald (pc := 80) hO nd_GM_stack_80 rfl rfl (Nat.le_of_ble_eq_true rfl) c_in80 ?_
        obtain ⟨s8, h_81, h⟩ := bn_use h
        refine zl_callVv (pc := 81) hO [zI (l3 + ((4 : Int32) * l5)), zI (s0 11 0 (((8 : Int32) * a1) + l5).toNatClampNeg)] [] (c_GM_set hJ h_81) nd_GM_stack_81 kv_GM_167 rfl (Nat.le_of_ble_eq_true rfl) rfl rfl rfl (Nat.le_of_ble_eq_true rfl) ?_
        obtain ⟨x9, e_x9, h⟩ := lt_use h
        refine zl_iinc (pc := 84) hO (L' := [some (zR 0 0), some (zI a1), some (zI a2), some (zI l3), some (zI l4), some (zI x9)]) nd_GM_stack_84 rfl e_x9.symm (by decide) rfl ?_
        refine zl_goto (pc := 87) hO 56 nd_GM_stack_87 (by decide) ?_
        exact zl_weak (ih _ _ _ _ h) ⟨rfl, ⟨rfl, ⟨rfl, ⟨rfl, ⟨rfl, ⟨rfl, trivial⟩⟩⟩⟩⟩⟩
  have J_36 : ∀ (s0 : zS) (l4 : Int32) (t0 : Int32), k_GM_stack_36 a1 a2 s0 l4 t0 = some s1 → ZW (sM l V) md_GM_stack (s1, none) X 36 [some (zR 0 0), some (zI a1), some (zI a2), none, some (zI l4), none] [zI t0] s0 := by
    intro s0 l4 t0 h
    unfold k_GM_stack_36 at h
    refine zl_istore_n (pc := 36) hO 3 (L' := [some (zR 0 0), some (zI a1), some (zI a2), some (zI t0), some (zI l4), none]) nd_GM_stack_36 rfl (by decide) rfl ?_
    refine zl_aload_n (pc := 37) hO 0 nd_GM_stack_37 rfl rfl ?_
    refine zl_iload_n (pc := 38) hO 1 nd_GM_stack_38 rfl rfl ?_
    refine zl_iload_n (pc := 39) hO 3 nd_GM_stack_39 rfl rfl ?_
    obtain ⟨⟨s2, r3⟩, h_40, h⟩ := bn_use h
    refine zl_callVi (pc := 40) hO [zI a1, zI t0] [] (c_GM_eight hJ h_40) nd_GM_stack_40 kv_GM_164 rfl (Nat.le_of_ble_eq_true rfl) rfl rfl rfl (Nat.le_of_ble_eq_true rfl) ?_
    refine zl_if_ne (pc := 43) hO 53 nd_GM_stack_43 (by decide) (fun hc => ?_) (fun hc => ?_)
    · have h := ite_f hc h
      refine zl_iconst (pc := 53) hO (v := 0) nd_GM_stack_53 (by decide) ?_
      refine zl_istore (pc := 54) hO (L' := [some (zR 0 0), some (zI a1), some (zI a2), some (zI t0), some (zI l4), some (zI 0)]) nd_GM_stack_54 (by decide) rfl ?_
      exact zl_weak (J_56 FU _ _ _ _ h) ⟨rfl, ⟨rfl, ⟨rfl, ⟨rfl, ⟨rfl, ⟨rfl, trivial⟩⟩⟩⟩⟩⟩
    · have h := ite_t hc h
      refine zl_aload_n (pc := 46) hO 0 nd_GM_stack_46 rfl rfl ?_
      refine zl_bipush (pc := 47) hO (v := 6) nd_GM_stack_47 (by decide) ?_
      refine zl_puti (pc := 49) hO nd_GM_stack_49 kp_GM_161 rfl (Nat.le_of_ble_eq_true rfl) rfl ?_
      obtain ⟨s4, e_s4, h⟩ := lt_use h
      refine zl_sg e_s4 ?_
      exact zl_vret (pc := 52) hO nd_GM_stack_52 rfl (zr_v h)
  have J_22 : ∀ (s0 : zS) (l3 : Int32) (t0 : Int32), k_GM_stack_22 a1 a2 s0 l3 t0 = some s1 → ZW (sM l V) md_GM_stack (s1, none) X 22 [some (zR 0 0), some (zI a1), some (zI a2), some (zI l3), none, none] [zI t0] s0 := by
    intro s0 l3 t0 h
    unfold k_GM_stack_22 at h
    refine zl_istore (pc := 22) hO (L' := [some (zR 0 0), some (zI a1), some (zI a2), some (zI l3), some (zI t0), none]) nd_GM_stack_22 (by decide) rfl ?_
    refine zl_iload (pc := 24) hO nd_GM_stack_24 rfl ?_
    refine zl_if_eq (pc := 26) hO 35 nd_GM_stack_26 (by decide) (fun hc => ?_) (fun hc => ?_)
    · have h := ite_t hc h
      refine zl_iload_n (pc := 35) hO 3 nd_GM_stack_35 rfl rfl ?_
      exact zl_weak (J_36 _ _ _ h) ⟨rfl, ⟨rfl, ⟨rfl, ⟨rfl, trivial⟩⟩⟩⟩
    · have h := ite_f hc h
      refine zl_iload_n (pc := 29) hO 3 nd_GM_stack_29 rfl rfl ?_
      refine zl_iconst (pc := 30) hO (v := 4) nd_GM_stack_30 (by decide) ?_
      refine zl_isub (pc := 31) hO nd_GM_stack_31 ?_
      refine zl_goto (pc := 32) hO 36 nd_GM_stack_32 (by decide) ?_
      exact zl_weak (J_36 _ _ _ h) ⟨rfl, ⟨rfl, ⟨rfl, ⟨rfl, trivial⟩⟩⟩⟩
  unfold k_GM_stack at h
  refine zl_aload_n (pc := 0) hO 0 nd_GM_stack_0 rfl rfl ?_
  refine zl_get0 (pc := 1) hO nd_GM_stack_1 kf_GM_47 rfl (Nat.le_of_ble_eq_true rfl) rfl ?_
  refine zl_iload_n (pc := 4) hO 1 nd_GM_stack_4 rfl rfl ?_
  obtain ⟨c_in5, h⟩ := ck_use h
  refine zl_iald (pc := 5) hO nd_GM_stack_5 rfl rfl (Nat.le_of_ble_eq_true rfl) c_in5 ?_
  refine zl_bipush (pc := 6) hO (v := 32) nd_GM_stack_6 (by decide) ?_
  refine zl_isub (pc := 8) hO nd_GM_stack_8 ?_
  obtain ⟨x1, e_x1, h⟩ := lt_use h
  refine zl_top e_x1 ?_
  refine zl_istore_n (pc := 9) hO 3 (L' := [some (zR 0 0), some (zI a1), some (zI a2), some (zI x1), none, none]) nd_GM_stack_9 rfl (by decide) rfl ?_
  refine zl_iload_n (pc := 10) hO 3 nd_GM_stack_10 rfl rfl ?_
  refine zl_bipush (pc := 11) hO (v := 7) nd_GM_stack_11 (by decide) ?_
  refine zl_iand (pc := 13) hO nd_GM_stack_13 ?_
  refine zl_if_eq (pc := 14) hO 21 nd_GM_stack_14 (by decide) (fun hc => ?_) (fun hc => ?_)
  · have h := ite_t hc h
    refine zl_iconst (pc := 21) hO (v := 0) nd_GM_stack_21 (by decide) ?_
    exact zl_weak (J_22 _ _ _ h) ⟨rfl, ⟨rfl, ⟨rfl, ⟨rfl, trivial⟩⟩⟩⟩
  · have h := ite_f hc h
    refine zl_iconst (pc := 17) hO (v := 1) nd_GM_stack_17 (by decide) ?_
    refine zl_goto (pc := 18) hO 22 nd_GM_stack_18 (by decide) ?_
    exact zl_weak (J_22 _ _ _ h) ⟨rfl, ⟨rfl, ⟨rfl, ⟨rfl, trivial⟩⟩⟩⟩
set_option maxHeartbeats 4000000 in
set_option maxRecDepth 100000 in
theorem c_GM_unstack {l : Launch} {V : zG} (hJ : zJ0 (sM l V)) {s0 : zS} {a1 : Int32}  {s1 : zS} (h : k_GM_unstack s0 a1 = some s1) : zM (sM l V) md_GM_unstack [zR 0 0, zI a1] s0 (s1, none) := by
  refine zMet [some (zR 0 0), some (zI a1), none, none] hJ (by decide) rfl (Nat.le_of_ble_eq_true rfl) rfl ?_
  intro X hO
  have J_128 : ∀ (s0 : zS) (t0 : Int32) (t1 : Int32) (t2 : Int32), k_GM_unstack_128 a1 s0 t0 t1 t2 = some s1 → ZW (sM l V) md_GM_unstack (s1, none) X 128 [some (zR 0 0), some (zI a1), none, none] [zI t0, zI t1, zI t2, zR 12 0] s0 := by
    intro s0 t0 t1 t2 h
    unfold k_GM_unstack_128 at h
    refine zl_iadd (pc := 128) hO nd_GM_unstack_128 ?_
    obtain ⟨c_in129, h⟩ := ck_use h
    refine zl_iast (pc := 129) hO nd_GM_unstack_129 rfl rfl (Nat.le_of_ble_eq_true rfl) c_in129 ?_
    obtain ⟨s18, e_s18, h⟩ := lt_use h
    refine zl_sg e_s18 ?_
    refine zl_aload_n (pc := 130) hO 0 nd_GM_unstack_130 rfl rfl ?_
    refine zl_get0 (pc := 131) hO nd_GM_unstack_131 kf_GM_59 rfl (Nat.le_of_ble_eq_true rfl) rfl ?_
    refine zl_iload_n (pc := 134) hO 1 nd_GM_unstack_134 rfl rfl ?_
    refine zl_iconst (pc := 135) hO (v := 0) nd_GM_unstack_135 (by decide) ?_
    obtain ⟨c_in136, h⟩ := ck_use h
    refine zl_zast (pc := 136) hO nd_GM_unstack_136 rfl rfl rfl (Nat.le_of_ble_eq_true rfl) c_in136 ?_
    obtain ⟨s19, e_s19, h⟩ := lt_use h
    refine zl_sg e_s19 ?_
    exact zl_vret (pc := 137) hO nd_GM_unstack_137 rfl (zr_v h)
  have J_25 : ∀ (n : Nat), ∀ (s0 : zS) (l2 : Int32) (l3 : Int32), k_GM_unstack_25 a1 n s0 l2 l3 = some s1 → ZW (sM l V) md_GM_unstack (s1, none) X 25 [some (zR 0 0), some (zI a1), some (zI l2), some (zI l3)] [] s0 := by
    intro n
    induction n with
    | zero => intro s0 l2 l3 h; exact absurd h (by rw [k_GM_unstack_25]; exact fun w => nomatch w)
    | succ n ih =>
      intro s0 l2 l3 h
      rw [k_GM_unstack_25]  at h
      refine zl_iload_n (pc := 25) hO 3 nd_GM_unstack_25 rfl rfl ?_
      refine zl_iconst (pc := 26) hO (v := 4) nd_GM_unstack_26 (by decide) ?_
      refine zl_icmp_ge (pc := 27) hO 56 nd_GM_unstack_27 (by decide) (fun hc => ?_) (fun hc => ?_)
      · have h := ite_t hc h
        refine zl_aload_n (pc := 56) hO 0 nd_GM_unstack_56 rfl rfl ?_
        refine zl_get0 (pc := 57) hO nd_GM_unstack_57 kf_GM_50 rfl (Nat.le_of_ble_eq_true rfl) rfl ?_
        refine zl_iload_n (pc := 60) hO 1 nd_GM_unstack_60 rfl rfl ?_
        refine zl_aload_n (pc := 61) hO 0 nd_GM_unstack_61 rfl rfl ?_
        refine zl_iload_n (pc := 62) hO 2 nd_GM_unstack_62 rfl rfl ?_
        refine zl_bipush (pc := 63) hO (v := 20) nd_GM_unstack_63 (by decide) ?_
        refine zl_iadd (pc := 65) hO nd_GM_unstack_65 ?_
        obtain ⟨⟨s5, r6⟩, h_66, h⟩ := bn_use h
        refine zl_callVi (pc := 66) hO [zI (l2 + (20 : Int32))] [zI a1, zR 13 0] (c_GM_get hJ h_66) nd_GM_unstack_66 kv_GM_172 rfl (Nat.le_of_ble_eq_true rfl) rfl rfl rfl (Nat.le_of_ble_eq_true rfl) ?_
        obtain ⟨c_in69, h⟩ := ck_use h
        refine zl_iast (pc := 69) hO nd_GM_unstack_69 rfl rfl (Nat.le_of_ble_eq_true rfl) c_in69 ?_
        obtain ⟨s7, e_s7, h⟩ := lt_use h
        refine zl_sg e_s7 ?_
        refine zl_aload_n (pc := 70) hO 0 nd_GM_unstack_70 rfl rfl ?_
        refine zl_get0 (pc := 71) hO nd_GM_unstack_71 kf_GM_53 rfl (Nat.le_of_ble_eq_true rfl) rfl ?_
        refine zl_iload_n (pc := 74) hO 1 nd_GM_unstack_74 rfl rfl ?_
        refine zl_aload_n (pc := 75) hO 0 nd_GM_unstack_75 rfl rfl ?_
        refine zl_iload_n (pc := 76) hO 2 nd_GM_unstack_76 rfl rfl ?_
        refine zl_bipush (pc := 77) hO (v := 24) nd_GM_unstack_77 (by decide) ?_
        refine zl_iadd (pc := 79) hO nd_GM_unstack_79 ?_
        obtain ⟨⟨s8, r9⟩, h_80, h⟩ := bn_use h
        refine zl_callVi (pc := 80) hO [zI (l2 + (24 : Int32))] [zI a1, zR 14 0] (c_GM_get hJ h_80) nd_GM_unstack_80 kv_GM_172 rfl (Nat.le_of_ble_eq_true rfl) rfl rfl rfl (Nat.le_of_ble_eq_true rfl) ?_
        refine zl_bipush (pc := 83) hO (v := (-2)) nd_GM_unstack_83 (by decide) ?_
        refine zl_iand (pc := 85) hO nd_GM_unstack_85 ?_
        obtain ⟨c_in86, h⟩ := ck_use h
        refine zl_iast (pc := 86) hO nd_GM_unstack_86 rfl rfl (Nat.le_of_ble_eq_true rfl) c_in86 ?_
        obtain ⟨s10, e_s10, h⟩ := lt_use h
        refine zl_sg e_s10 ?_
        refine zl_aload_n (pc := 87) hO 0 nd_GM_unstack_87 rfl rfl ?_
        refine zl_iload_n (pc := 88) hO 2 nd_GM_unstack_88 rfl rfl ?_
        refine zl_bipush (pc := 89) hO (v := 28) nd_GM_unstack_89 (by decide) ?_
        refine zl_iadd (pc := 91) hO nd_GM_unstack_91 ?_
        obtain ⟨⟨s11, r12⟩, h_92, h⟩ := bn_use h
        refine zl_callVi (pc := 92) hO [zI (l2 + (28 : Int32))] [] (c_GM_get hJ h_92) nd_GM_unstack_92 kv_GM_172 rfl (Nat.le_of_ble_eq_true rfl) rfl rfl rfl (Nat.le_of_ble_eq_true rfl) ?_
        refine zl_istore_n (pc := 95) hO 3 (L' := [some (zR 0 0), some (zI a1), some (zI l2), some (zI r12)]) nd_GM_unstack_95 rfl (by decide) rfl ?_
        refine zl_aload_n (pc := 96) hO 0 nd_GM_unstack_96 rfl rfl ?_
        refine zl_get0 (pc := 97) hO nd_GM_unstack_97 kf_GM_56 rfl (Nat.le_of_ble_eq_true rfl) rfl ?_
        refine zl_iload_n (pc := 100) hO 1 nd_GM_unstack_100 rfl rfl ?_
        refine zl_iload_n (pc := 101) hO 3 nd_GM_unstack_101 rfl rfl ?_
        refine zl_bipush (pc := 102) hO (v := 28) nd_GM_unstack_102 (by decide) ?_
        refine zl_iushr (pc := 104) hO nd_GM_unstack_104 ?_
        obtain ⟨c_in105, h⟩ := ck_use h
        refine zl_iast (pc := 105) hO nd_GM_unstack_105 rfl rfl (Nat.le_of_ble_eq_true rfl) c_in105 ?_
        obtain ⟨s13, e_s13, h⟩ := lt_use h
        refine zl_sg e_s13 ?_
        refine zl_aload_n (pc := 106) hO 0 nd_GM_unstack_106 rfl rfl ?_
        refine zl_get0 (pc := 107) hO nd_GM_unstack_107 kf_GM_47 rfl (Nat.le_of_ble_eq_true rfl) rfl ?_
        refine zl_iload_n (pc := 110) hO 1 nd_GM_unstack_110 rfl rfl ?_
        refine zl_iload_n (pc := 111) hO 2 nd_GM_unstack_111 rfl rfl ?_
        refine zl_bipush (pc := 112) hO (v := 32) nd_GM_unstack_112 (by decide) ?_
        refine zl_iadd (pc := 114) hO nd_GM_unstack_114 ?_
        refine zl_iload_n (pc := 115) hO 3 nd_GM_unstack_115 rfl rfl ?_
        refine zl_sipush (pc := 116) hO (v := 512) nd_GM_unstack_116 (by decide) ?_
        refine zl_iand (pc := 119) hO nd_GM_unstack_119 ?_
        refine zl_if_eq (pc := 120) hO 127 nd_GM_unstack_120 (by decide) (fun hc => ?_) (fun hc => ?_)
        · have h := ite_t hc h
          refine zl_iconst (pc := 127) hO (v := 0) nd_GM_unstack_127 (by decide) ?_
          exact zl_weak (J_128 _ _ _ _ h) ⟨rfl, ⟨rfl, trivial⟩⟩
        · have h := ite_f hc h
          refine zl_iconst (pc := 123) hO (v := 4) nd_GM_unstack_123 (by decide) ?_
          refine zl_goto (pc := 124) hO 128 nd_GM_unstack_124 (by decide) ?_
          exact zl_weak (J_128 _ _ _ _ h) ⟨rfl, ⟨rfl, trivial⟩⟩
      · have h := ite_f hc h
        refine zl_aload_n (pc := 30) hO 0 nd_GM_unstack_30 rfl rfl ?_
        refine zl_get0 (pc := 31) hO nd_GM_unstack_31 kf_GM_44 rfl (Nat.le_of_ble_eq_true rfl) rfl ?_
        refine zl_bipush (pc := 34) hO (v := 8) nd_GM_unstack_34 (by decide) ?_
        refine zl_iload_n (pc := 36) hO 1 nd_GM_unstack_36 rfl rfl ?_
        refine zl_imul (pc := 37) hO nd_GM_unstack_37 ?_
        refine zl_iload_n (pc := 38) hO 3 nd_GM_unstack_38 rfl rfl ?_
        refine zl_iadd (pc := 39) hO nd_GM_unstack_39 ?_
        refine zl_aload_n (pc := 40) hO 0 nd_GM_unstack_40 rfl rfl ?_
        refine zl_iload_n (pc := 41) hO 2 nd_GM_unstack_41 rfl rfl ?_
        refine zl_iconst (pc := 42) hO (v := 4) nd_GM_unstack_42 (by decide) ?_
        refine zl_iload_n (pc := 43) hO 3 nd_GM_unstack_43 rfl rfl ?_
        refine zl_imul (pc := 44) hO nd_GM_unstack_44 ?_
        refine zl_iadd (pc := 45) hO nd_GM_unstack_45 ?_
        obtain ⟨⟨s14, r15⟩, h_46, h⟩ := bn_use h
        refine zl_callVi (pc := 46) hO [zI (l2 + ((4 : Int32) * l3))] [zI (((8 : Int32) * a1) + l3), zR 11 0] (c_GM_get hJ h_46) nd_GM_unstack_46 kv_GM_172 rfl (Nat.le_of_ble_eq_true rfl) rfl rfl rfl (Nat.le_of_ble_eq_true rfl) ?_
        obtain ⟨c_in49, h⟩ := ck_use h
        refine zl_iast (pc := 49) hO nd_GM_unstack_49 rfl rfl (Nat.le_of_ble_eq_true rfl) c_in49 ?_
        obtain ⟨s16, e_s16, h⟩ := lt_use h
        refine zl_sg e_s16 ?_
        obtain ⟨x17, e_x17, h⟩ := lt_use h
        refine zl_iinc (pc := 50) hO (L' := [some (zR 0 0), some (zI a1), some (zI l2), some (zI x17)]) nd_GM_unstack_50 rfl e_x17.symm (by decide) rfl ?_
        refine zl_goto (pc := 53) hO 25 nd_GM_unstack_53 (by decide) ?_
        exact zl_weak (ih _ _ _ h) ⟨rfl, ⟨rfl, ⟨rfl, ⟨rfl, trivial⟩⟩⟩⟩
  unfold k_GM_unstack at h
  refine zl_aload_n (pc := 0) hO 0 nd_GM_unstack_0 rfl rfl ?_
  refine zl_get0 (pc := 1) hO nd_GM_unstack_1 kf_GM_47 rfl (Nat.le_of_ble_eq_true rfl) rfl ?_
  refine zl_iload_n (pc := 4) hO 1 nd_GM_unstack_4 rfl rfl ?_
  obtain ⟨c_in5, h⟩ := ck_use h
  refine zl_iald (pc := 5) hO nd_GM_unstack_5 rfl rfl (Nat.le_of_ble_eq_true rfl) c_in5 ?_
  obtain ⟨x1, e_x1, h⟩ := lt_use h
  refine zl_top e_x1 ?_
  refine zl_istore_n (pc := 6) hO 2 (L' := [some (zR 0 0), some (zI a1), some (zI x1), none]) nd_GM_unstack_6 rfl (by decide) rfl ?_
  refine zl_aload_n (pc := 7) hO 0 nd_GM_unstack_7 rfl rfl ?_
  refine zl_iload_n (pc := 8) hO 1 nd_GM_unstack_8 rfl rfl ?_
  refine zl_iload_n (pc := 9) hO 2 nd_GM_unstack_9 rfl rfl ?_
  obtain ⟨⟨s2, r3⟩, h_10, h⟩ := bn_use h
  refine zl_callVi (pc := 10) hO [zI a1, zI x1] [] (c_GM_eight hJ h_10) nd_GM_unstack_10 kv_GM_164 rfl (Nat.le_of_ble_eq_true rfl) rfl rfl rfl (Nat.le_of_ble_eq_true rfl) ?_
  refine zl_if_ne (pc := 13) hO 23 nd_GM_unstack_13 (by decide) (fun hc => ?_) (fun hc => ?_)
  · have h := ite_f hc h
    refine zl_iconst (pc := 23) hO (v := 0) nd_GM_unstack_23 (by decide) ?_
    refine zl_istore_n (pc := 24) hO 3 (L' := [some (zR 0 0), some (zI a1), some (zI x1), some (zI 0)]) nd_GM_unstack_24 rfl (by decide) rfl ?_
    exact zl_weak (J_25 FU _ _ _ h) ⟨rfl, ⟨rfl, ⟨rfl, ⟨rfl, trivial⟩⟩⟩⟩
  · have h := ite_t hc h
    refine zl_aload_n (pc := 16) hO 0 nd_GM_unstack_16 rfl rfl ?_
    refine zl_bipush (pc := 17) hO (v := 6) nd_GM_unstack_17 (by decide) ?_
    refine zl_puti (pc := 19) hO nd_GM_unstack_19 kp_GM_161 rfl (Nat.le_of_ble_eq_true rfl) rfl ?_
    obtain ⟨s4, e_s4, h⟩ := lt_use h
    refine zl_sg e_s4 ?_
    exact zl_vret (pc := 22) hO nd_GM_unstack_22 rfl (zr_v h)
set_option maxHeartbeats 4000000 in
set_option maxRecDepth 100000 in
theorem c_GM_nz {l : Launch} {V : zG} (hJ : zJ0 (sM l V)) {s0 : zS} {a1 : Int32} {a2 : Int32}  {s1 : zS} (h : k_GM_nz s0 a1 a2 = some s1) : zM (sM l V) md_GM_nz [zR 0 0, zI a1, zI a2] s0 (s1, none) := by
  refine zMet [some (zR 0 0), some (zI a1), some (zI a2)] hJ (by decide) rfl (Nat.le_of_ble_eq_true rfl) rfl ?_
  intro X hO
  have J_33 : ∀ (s0 : zS) (t0 : Int32) (t1 : Int32) (t2 : Int32), k_GM_nz_33 a1 a2 s0 t0 t1 t2 = some s1 → ZW (sM l V) md_GM_nz (s1, none) X 33 [none, none, none] [zI t0, zI t1, zI t2, zR 15 0] s0 := by
    intro s0 t0 t1 t2 h
    unfold k_GM_nz_33 at h
    refine zl_ior (pc := 33) hO nd_GM_nz_33 ?_
    obtain ⟨c_in34, h⟩ := ck_use h
    refine zl_iast (pc := 34) hO nd_GM_nz_34 rfl rfl (Nat.le_of_ble_eq_true rfl) c_in34 ?_
    obtain ⟨s1, e_s1, h⟩ := lt_use h
    refine zl_sg e_s1 ?_
    exact zl_vret (pc := 35) hO nd_GM_nz_35 rfl (zr_v h)
  have J_23 : ∀ (s0 : zS) (t0 : Int32) (t1 : Int32) (t2 : Int32), k_GM_nz_23 a1 a2 s0 t0 t1 t2 = some s1 → ZW (sM l V) md_GM_nz (s1, none) X 23 [none, none, some (zI a2)] [zI t0, zI t1, zI t2, zR 15 0] s0 := by
    intro s0 t0 t1 t2 h
    unfold k_GM_nz_23 at h
    refine zl_ior (pc := 23) hO nd_GM_nz_23 ?_
    refine zl_iload_n (pc := 24) hO 2 nd_GM_nz_24 rfl rfl ?_
    refine zl_if_ne (pc := 25) hO 32 nd_GM_nz_25 (by decide) (fun hc => ?_) (fun hc => ?_)
    · have h := ite_f hc h
      refine zl_iconst (pc := 32) hO (v := 0) nd_GM_nz_32 (by decide) ?_
      exact zl_weak (J_33 _ _ _ _ h) trivial
    · have h := ite_t hc h
      refine zl_iconst (pc := 28) hO (v := 4) nd_GM_nz_28 (by decide) ?_
      refine zl_goto (pc := 29) hO 33 nd_GM_nz_29 (by decide) ?_
      exact zl_weak (J_33 _ _ _ _ h) trivial
  unfold k_GM_nz at h
  refine zl_aload_n (pc := 0) hO 0 nd_GM_nz_0 rfl rfl ?_
  refine zl_get0 (pc := 1) hO nd_GM_nz_1 kf_GM_56 rfl (Nat.le_of_ble_eq_true rfl) rfl ?_
  refine zl_iload_n (pc := 4) hO 1 nd_GM_nz_4 rfl rfl ?_
  refine zl_aload_n (pc := 5) hO 0 nd_GM_nz_5 rfl rfl ?_
  refine zl_get0 (pc := 6) hO nd_GM_nz_6 kf_GM_56 rfl (Nat.le_of_ble_eq_true rfl) rfl ?_
  refine zl_iload_n (pc := 9) hO 1 nd_GM_nz_9 rfl rfl ?_
  obtain ⟨c_in10, h⟩ := ck_use h
  refine zl_iald (pc := 10) hO nd_GM_nz_10 rfl rfl (Nat.le_of_ble_eq_true rfl) c_in10 ?_
  refine zl_iconst (pc := 11) hO (v := 3) nd_GM_nz_11 (by decide) ?_
  refine zl_iand (pc := 12) hO nd_GM_nz_12 ?_
  refine zl_iload_n (pc := 13) hO 2 nd_GM_nz_13 rfl rfl ?_
  refine zl_if_ge (pc := 14) hO 22 nd_GM_nz_14 (by decide) (fun hc => ?_) (fun hc => ?_)
  · have h := ite_t hc h
    refine zl_iconst (pc := 22) hO (v := 0) nd_GM_nz_22 (by decide) ?_
    exact zl_weak (J_23 _ _ _ _ h) ⟨rfl, trivial⟩
  · have h := ite_f hc h
    refine zl_bipush (pc := 17) hO (v := 8) nd_GM_nz_17 (by decide) ?_
    refine zl_goto (pc := 19) hO 23 nd_GM_nz_19 (by decide) ?_
    exact zl_weak (J_23 _ _ _ _ h) ⟨rfl, trivial⟩
set_option maxHeartbeats 4000000 in
set_option maxRecDepth 100000 in
theorem c_GM_sum {l : Launch} {V : zG} (hJ : zJ0 (sM l V)) {s0 : zS} {a1 : Int32} {a2 : Int32} {a3 : Int32} {a4 : Int32}  {s1 : zS} {v1 : Int32} (h : k_GM_sum s0 a1 a2 a3 a4 = some (s1, v1)) : zM (sM l V) md_GM_sum [zR 0 0, zI a1, zI a2, zI a3, zI a4] s0 (s1, some (zI v1)) := by
  refine zMet [some (zR 0 0), some (zI a1), some (zI a2), some (zI a3), some (zI a4), none, none, none, none, none] hJ (by decide) rfl (Nat.le_of_ble_eq_true rfl) rfl ?_
  intro X hO
  have J_91 : ∀ (s0 : zS) (l9 : Int32) (t0 : Int32) (t1 : Int32) (t2 : Int32), k_GM_sum_91 a1 a2 a3 a4 s0 l9 t0 t1 t2 = some (s1, v1) → ZW (sM l V) md_GM_sum (s1, some (zI v1)) X 91 [none, none, none, none, none, none, none, none, none, some (zI l9)] [zI t0, zI t1, zI t2, zR 15 0] s0 := by
    intro s0 l9 t0 t1 t2 h
    unfold k_GM_sum_91 at h
    refine zl_ior (pc := 91) hO nd_GM_sum_91 ?_
    obtain ⟨c_in92, h⟩ := ck_use h
    refine zl_iast (pc := 92) hO nd_GM_sum_92 rfl rfl (Nat.le_of_ble_eq_true rfl) c_in92 ?_
    obtain ⟨s4, e_s4, h⟩ := lt_use h
    refine zl_sg e_s4 ?_
    refine zl_iload (pc := 93) hO nd_GM_sum_93 rfl ?_
    exact zl_iret (pc := 95) hO nd_GM_sum_95 rfl (zr_i h)
  have J_76 : ∀ (s0 : zS) (l7 : Int64) (l9 : Int32) (t0 : Int32) (t1 : Int32) (t2 : Int32), k_GM_sum_76 a1 a2 a3 a4 s0 l7 l9 t0 t1 t2 = some (s1, v1) → ZW (sM l V) md_GM_sum (s1, some (zI v1)) X 76 [none, none, none, none, none, none, none, some (zJ l7), none, some (zI l9)] [zI t0, zI t1, zI t2, zR 15 0] s0 := by
    intro s0 l7 l9 t0 t1 t2 h
    unfold k_GM_sum_76 at h
    refine zl_ior (pc := 76) hO nd_GM_sum_76 ?_
    refine zl_lload (pc := 77) hO nd_GM_sum_77 rfl ?_
    refine zl_iload (pc := 79) hO nd_GM_sum_79 rfl ?_
    refine zl_i2l (pc := 81) hO nd_GM_sum_81 ?_
    refine zl_lcmp (pc := 82) hO nd_GM_sum_82 ?_
    refine zl_if_eq (pc := 83) hO 90 nd_GM_sum_83 (by decide) (fun hc => ?_) (fun hc => ?_)
    · have h := ite_t hc h
      refine zl_iconst (pc := 90) hO (v := 0) nd_GM_sum_90 (by decide) ?_
      exact zl_weak (J_91 _ _ _ _ _ h) ⟨rfl, trivial⟩
    · have h := ite_f hc h
      refine zl_iconst (pc := 86) hO (v := 1) nd_GM_sum_86 (by decide) ?_
      refine zl_goto (pc := 87) hO 91 nd_GM_sum_87 (by decide) ?_
      exact zl_weak (J_91 _ _ _ _ _ h) ⟨rfl, trivial⟩
  have J_61 : ∀ (s0 : zS) (l5 : Int64) (l7 : Int64) (l9 : Int32) (t0 : Int32) (t1 : Int32) (t2 : Int32), k_GM_sum_61 a1 a2 a3 a4 s0 l5 l7 l9 t0 t1 t2 = some (s1, v1) → ZW (sM l V) md_GM_sum (s1, some (zI v1)) X 61 [none, none, none, none, none, some (zJ l5), none, some (zJ l7), none, some (zI l9)] [zI t0, zI t1, zI t2, zR 15 0] s0 := by
    intro s0 l5 l7 l9 t0 t1 t2 h
    unfold k_GM_sum_61 at h
    refine zl_ior (pc := 61) hO nd_GM_sum_61 ?_
    refine zl_lload (pc := 62) hO nd_GM_sum_62 rfl ?_
    refine zl_ldc2 (pc := 64) hO nd_GM_sum_64 kc_GM_177 ?_
    refine zl_lcmp (pc := 67) hO nd_GM_sum_67 ?_
    refine zl_if_lt (pc := 68) hO 75 nd_GM_sum_68 (by decide) (fun hc => ?_) (fun hc => ?_)
    · have h := ite_t hc h
      refine zl_iconst (pc := 75) hO (v := 0) nd_GM_sum_75 (by decide) ?_
      exact zl_weak (J_76 _ _ _ _ _ _ h) ⟨rfl, ⟨rfl, trivial⟩⟩
    · have h := ite_f hc h
      refine zl_iconst (pc := 71) hO (v := 2) nd_GM_sum_71 (by decide) ?_
      refine zl_goto (pc := 72) hO 76 nd_GM_sum_72 (by decide) ?_
      exact zl_weak (J_76 _ _ _ _ _ _ h) ⟨rfl, ⟨rfl, trivial⟩⟩
  have J_51 : ∀ (s0 : zS) (l5 : Int64) (l7 : Int64) (l9 : Int32) (t0 : Int32) (t1 : Int32), k_GM_sum_51 a1 a2 a3 a4 s0 l5 l7 l9 t0 t1 = some (s1, v1) → ZW (sM l V) md_GM_sum (s1, some (zI v1)) X 51 [none, none, none, none, none, some (zJ l5), none, some (zJ l7), none, some (zI l9)] [zI t0, zI t1, zR 15 0] s0 := by
    intro s0 l5 l7 l9 t0 t1 h
    unfold k_GM_sum_51 at h
    refine zl_iload (pc := 51) hO nd_GM_sum_51 rfl ?_
    refine zl_if_ne (pc := 53) hO 60 nd_GM_sum_53 (by decide) (fun hc => ?_) (fun hc => ?_)
    · have h := ite_f hc h
      refine zl_iconst (pc := 60) hO (v := 0) nd_GM_sum_60 (by decide) ?_
      exact zl_weak (J_61 _ _ _ _ _ _ _ h) ⟨rfl, ⟨rfl, ⟨rfl, trivial⟩⟩⟩
    · have h := ite_t hc h
      refine zl_iconst (pc := 56) hO (v := 4) nd_GM_sum_56 (by decide) ?_
      refine zl_goto (pc := 57) hO 61 nd_GM_sum_57 (by decide) ?_
      exact zl_weak (J_61 _ _ _ _ _ _ _ h) ⟨rfl, ⟨rfl, ⟨rfl, trivial⟩⟩⟩
  unfold k_GM_sum at h
  refine zl_iload_n (pc := 0) hO 2 nd_GM_sum_0 rfl rfl ?_
  refine zl_i2l (pc := 1) hO nd_GM_sum_1 ?_
  refine zl_ldc2 (pc := 2) hO nd_GM_sum_2 kc_GM_175 ?_
  refine zl_land (pc := 5) hO nd_GM_sum_5 ?_
  refine zl_iload_n (pc := 6) hO 3 nd_GM_sum_6 rfl rfl ?_
  refine zl_i2l (pc := 7) hO nd_GM_sum_7 ?_
  refine zl_ldc2 (pc := 8) hO nd_GM_sum_8 kc_GM_175 ?_
  refine zl_land (pc := 11) hO nd_GM_sum_11 ?_
  refine zl_ladd (pc := 12) hO nd_GM_sum_12 ?_
  refine zl_iload (pc := 13) hO nd_GM_sum_13 rfl ?_
  refine zl_i2l (pc := 15) hO nd_GM_sum_15 ?_
  refine zl_ladd (pc := 16) hO nd_GM_sum_16 ?_
  obtain ⟨x1, e_x1, h⟩ := lt_use h
  refine zl_topJ e_x1 ?_
  refine zl_lstore (pc := 17) hO (L' := [some (zR 0 0), some (zI a1), some (zI a2), some (zI a3), some (zI a4), some (zJ x1), none, none, none, none]) nd_GM_sum_17 (by decide) rfl ?_
  refine zl_iload_n (pc := 19) hO 2 nd_GM_sum_19 rfl rfl ?_
  refine zl_i2l (pc := 20) hO nd_GM_sum_20 ?_
  refine zl_iload_n (pc := 21) hO 3 nd_GM_sum_21 rfl rfl ?_
  refine zl_i2l (pc := 22) hO nd_GM_sum_22 ?_
  refine zl_ladd (pc := 23) hO nd_GM_sum_23 ?_
  refine zl_iload (pc := 24) hO nd_GM_sum_24 rfl ?_
  refine zl_i2l (pc := 26) hO nd_GM_sum_26 ?_
  refine zl_ladd (pc := 27) hO nd_GM_sum_27 ?_
  obtain ⟨x2, e_x2, h⟩ := lt_use h
  refine zl_topJ e_x2 ?_
  refine zl_lstore (pc := 28) hO (L' := [some (zR 0 0), some (zI a1), some (zI a2), some (zI a3), some (zI a4), some (zJ x1), none, some (zJ x2), none, none]) nd_GM_sum_28 (by decide) rfl ?_
  refine zl_lload (pc := 30) hO nd_GM_sum_30 rfl ?_
  refine zl_l2i (pc := 32) hO nd_GM_sum_32 ?_
  obtain ⟨x3, e_x3, h⟩ := lt_use h
  refine zl_top e_x3 ?_
  refine zl_istore (pc := 33) hO (L' := [some (zR 0 0), some (zI a1), some (zI a2), some (zI a3), some (zI a4), some (zJ x1), none, some (zJ x2), none, some (zI x3)]) nd_GM_sum_33 (by decide) rfl ?_
  refine zl_aload_n (pc := 35) hO 0 nd_GM_sum_35 rfl rfl ?_
  refine zl_get0 (pc := 36) hO nd_GM_sum_36 kf_GM_56 rfl (Nat.le_of_ble_eq_true rfl) rfl ?_
  refine zl_iload_n (pc := 39) hO 1 nd_GM_sum_39 rfl rfl ?_
  refine zl_iload (pc := 40) hO nd_GM_sum_40 rfl ?_
  refine zl_if_ge (pc := 42) hO 50 nd_GM_sum_42 (by decide) (fun hc => ?_) (fun hc => ?_)
  · have h := ite_t hc h
    refine zl_iconst (pc := 50) hO (v := 0) nd_GM_sum_50 (by decide) ?_
    exact zl_weak (J_51 _ _ _ _ _ _ h) ⟨rfl, ⟨rfl, ⟨rfl, trivial⟩⟩⟩
  · have h := ite_f hc h
    refine zl_bipush (pc := 45) hO (v := 8) nd_GM_sum_45 (by decide) ?_
    refine zl_goto (pc := 47) hO 51 nd_GM_sum_47 (by decide) ?_
    exact zl_weak (J_51 _ _ _ _ _ _ h) ⟨rfl, ⟨rfl, ⟨rfl, trivial⟩⟩⟩
set_option maxHeartbeats 4000000 in
set_option maxRecDepth 100000 in
theorem c_GM_setCarry {l : Launch} {V : zG} (hJ : zJ0 (sM l V)) {s0 : zS} {a1 : Int32} {a2 : Int32}  {s1 : zS} (h : k_GM_setCarry s0 a1 a2 = some s1) : zM (sM l V) md_GM_setCarry [zR 0 0, zI a1, zI a2] s0 (s1, none) := by
  refine zMet [some (zR 0 0), some (zI a1), some (zI a2)] hJ (by decide) rfl (Nat.le_of_ble_eq_true rfl) rfl ?_
  intro X hO
  unfold k_GM_setCarry at h
  refine zl_aload_n (pc := 0) hO 0 nd_GM_setCarry_0 rfl rfl ?_
  refine zl_get0 (pc := 1) hO nd_GM_setCarry_1 kf_GM_56 rfl (Nat.le_of_ble_eq_true rfl) rfl ?_
  refine zl_iload_n (pc := 4) hO 1 nd_GM_setCarry_4 rfl rfl ?_
  refine zl_aload_n (pc := 5) hO 0 nd_GM_setCarry_5 rfl rfl ?_
  refine zl_get0 (pc := 6) hO nd_GM_setCarry_6 kf_GM_56 rfl (Nat.le_of_ble_eq_true rfl) rfl ?_
  refine zl_iload_n (pc := 9) hO 1 nd_GM_setCarry_9 rfl rfl ?_
  obtain ⟨c_in10, h⟩ := ck_use h
  refine zl_iald (pc := 10) hO nd_GM_setCarry_10 rfl rfl (Nat.le_of_ble_eq_true rfl) c_in10 ?_
  refine zl_bipush (pc := 11) hO (v := 13) nd_GM_setCarry_11 (by decide) ?_
  refine zl_iand (pc := 13) hO nd_GM_setCarry_13 ?_
  refine zl_iload_n (pc := 14) hO 2 nd_GM_setCarry_14 rfl rfl ?_
  refine zl_iconst (pc := 15) hO (v := 1) nd_GM_setCarry_15 (by decide) ?_
  refine zl_ishl (pc := 16) hO nd_GM_setCarry_16 ?_
  refine zl_ior (pc := 17) hO nd_GM_setCarry_17 ?_
  obtain ⟨c_in18, h⟩ := ck_use h
  refine zl_iast (pc := 18) hO nd_GM_setCarry_18 rfl rfl (Nat.le_of_ble_eq_true rfl) c_in18 ?_
  obtain ⟨s1, e_s1, h⟩ := lt_use h
  refine zl_sg e_s1 ?_
  exact zl_vret (pc := 19) hO nd_GM_setCarry_19 rfl (zr_v h)
set_option maxHeartbeats 4000000 in
set_option maxRecDepth 100000 in
theorem c_GM_shifted {l : Launch} {V : zG} (hJ : zJ0 (sM l V)) {s0 : zS} {a1 : Int32} {a2 : Int32} {a3 : Int32} {a4 : Int32}  {s1 : zS} {v1 : Int32} (h : k_GM_shifted s0 a1 a2 a3 a4 = some (s1, v1)) : zM (sM l V) md_GM_shifted [zR 0 0, zI a1, zI a2, zI a3, zI a4] s0 (s1, some (zI v1)) := by
  refine zMet [some (zR 0 0), some (zI a1), some (zI a2), some (zI a3), some (zI a4), none, none] hJ (by decide) rfl (Nat.le_of_ble_eq_true rfl) rfl ?_
  intro X hO
  have J_95 : ∀ (K20 : zS → Int32 → Int32 → Option (zS × Int32)) (hK20 : ∀ (s0 : zS) (l5 : Int32) (l6 : Int32), K20 s0 l5 l6 = some (s1, v1) → ZW (sM l V) md_GM_shifted (s1, some (zI v1)) X 20 [some (zR 0 0), some (zI a1), none, some (zI a3), some (zI a4), some (zI l5), some (zI l6)] [] s0), ∀ (s0 : zS) (l6 : Int32) (t0 : Int32), k_GM_shifted_95 a1 a2 a3 a4 K20 s0 l6 t0 = some (s1, v1) → ZW (sM l V) md_GM_shifted (s1, some (zI v1)) X 95 [some (zR 0 0), some (zI a1), none, some (zI a3), some (zI a4), none, some (zI l6)] [zI t0] s0 := by
    intro K20 hK20
    intro s0 l6 t0 h
    unfold k_GM_shifted_95 at h
    refine zl_istore (pc := 95) hO (L' := [some (zR 0 0), some (zI a1), none, some (zI a3), some (zI a4), some (zI t0), some (zI l6)]) nd_GM_shifted_95 (by decide) rfl ?_
    obtain ⟨x5, e_x5, h⟩ := lt_use h
    refine zl_iinc (pc := 97) hO (L' := [some (zR 0 0), some (zI a1), none, some (zI a3), some (zI a4), some (zI t0), some (zI x5)]) nd_GM_shifted_97 rfl e_x5.symm (by decide) rfl ?_
    refine zl_goto (pc := 100) hO 20 nd_GM_shifted_100 (by decide) ?_
    exact zl_weak (hK20 _ _ _ h) ⟨rfl, ⟨rfl, ⟨rfl, ⟨rfl, ⟨rfl, ⟨rfl, trivial⟩⟩⟩⟩⟩⟩
  have J_44 : ∀ (K20 : zS → Int32 → Int32 → Option (zS × Int32)) (hK20 : ∀ (s0 : zS) (l5 : Int32) (l6 : Int32), K20 s0 l5 l6 = some (s1, v1) → ZW (sM l V) md_GM_shifted (s1, some (zI v1)) X 20 [some (zR 0 0), some (zI a1), none, some (zI a3), some (zI a4), some (zI l5), some (zI l6)] [] s0), ∀ (s0 : zS) (l5 : Int32) (l6 : Int32) (t0 : Int32), k_GM_shifted_44 a1 a2 a3 a4 K20 s0 l5 l6 t0 = some (s1, v1) → ZW (sM l V) md_GM_shifted (s1, some (zI v1)) X 44 [some (zR 0 0), some (zI a1), none, some (zI a3), some (zI a4), some (zI l5), some (zI l6)] [zI t0, zR 0 0] s0 := by
    intro K20 hK20
    intro s0 l5 l6 t0 h
    unfold k_GM_shifted_44 at h
    refine zl_puti (pc := 44) hO nd_GM_shifted_44 kp_GM_179 rfl (Nat.le_of_ble_eq_true rfl) rfl ?_
    obtain ⟨s4, e_s4, h⟩ := lt_use h
    refine zl_sg e_s4 ?_
    refine zl_iload (pc := 47) hO nd_GM_shifted_47 rfl ?_
    refine zl_if_ne (pc := 49) hO 59 nd_GM_shifted_49 (by decide) (fun hc => ?_) (fun hc => ?_)
    · have h := ite_f hc h
      refine zl_iload (pc := 59) hO nd_GM_shifted_59 rfl ?_
      refine zl_iconst (pc := 61) hO (v := 1) nd_GM_shifted_61 (by decide) ?_
      refine zl_icmp_ne (pc := 62) hO 72 nd_GM_shifted_62 (by decide) (fun hc => ?_) (fun hc => ?_)
      · have h := ite_f hc h
        refine zl_iload (pc := 72) hO nd_GM_shifted_72 rfl ?_
        refine zl_iconst (pc := 74) hO (v := 2) nd_GM_shifted_74 (by decide) ?_
        refine zl_icmp_ne (pc := 75) hO 85 nd_GM_shifted_75 (by decide) (fun hc => ?_) (fun hc => ?_)
        · have h := ite_f hc h
          refine zl_iload (pc := 85) hO nd_GM_shifted_85 rfl ?_
          refine zl_iconst (pc := 87) hO (v := 1) nd_GM_shifted_87 (by decide) ?_
          refine zl_iushr (pc := 88) hO nd_GM_shifted_88 ?_
          refine zl_iload (pc := 89) hO nd_GM_shifted_89 rfl ?_
          refine zl_bipush (pc := 91) hO (v := 31) nd_GM_shifted_91 (by decide) ?_
          refine zl_ishl (pc := 93) hO nd_GM_shifted_93 ?_
          refine zl_ior (pc := 94) hO nd_GM_shifted_94 ?_
          exact zl_weak (J_95 K20 hK20 _ _ _ h) ⟨rfl, ⟨rfl, ⟨rfl, ⟨rfl, ⟨rfl, trivial⟩⟩⟩⟩⟩
        · have h := ite_t hc h
          refine zl_iload (pc := 78) hO nd_GM_shifted_78 rfl ?_
          refine zl_iconst (pc := 80) hO (v := 1) nd_GM_shifted_80 (by decide) ?_
          refine zl_ishr (pc := 81) hO nd_GM_shifted_81 ?_
          refine zl_goto (pc := 82) hO 95 nd_GM_shifted_82 (by decide) ?_
          exact zl_weak (J_95 K20 hK20 _ _ _ h) ⟨rfl, ⟨rfl, ⟨rfl, ⟨rfl, ⟨rfl, trivial⟩⟩⟩⟩⟩
      · have h := ite_t hc h
        refine zl_iload (pc := 65) hO nd_GM_shifted_65 rfl ?_
        refine zl_iconst (pc := 67) hO (v := 1) nd_GM_shifted_67 (by decide) ?_
        refine zl_iushr (pc := 68) hO nd_GM_shifted_68 ?_
        refine zl_goto (pc := 69) hO 95 nd_GM_shifted_69 (by decide) ?_
        exact zl_weak (J_95 K20 hK20 _ _ _ h) ⟨rfl, ⟨rfl, ⟨rfl, ⟨rfl, ⟨rfl, trivial⟩⟩⟩⟩⟩
    · have h := ite_t hc h
      refine zl_iload (pc := 52) hO nd_GM_shifted_52 rfl ?_
      refine zl_iconst (pc := 54) hO (v := 1) nd_GM_shifted_54 (by decide) ?_
      refine zl_ishl (pc := 55) hO nd_GM_shifted_55 ?_
      refine zl_goto (pc := 56) hO 95 nd_GM_shifted_56 (by decide) ?_
      exact zl_weak (J_95 K20 hK20 _ _ _ h) ⟨rfl, ⟨rfl, ⟨rfl, ⟨rfl, ⟨rfl, trivial⟩⟩⟩⟩⟩
  have J_20 : ∀ (n : Nat), ∀ (s0 : zS) (l5 : Int32) (l6 : Int32), k_GM_shifted_20 a1 a2 a3 a4 n s0 l5 l6 = some (s1, v1) → ZW (sM l V) md_GM_shifted (s1, some (zI v1)) X 20 [some (zR 0 0), some (zI a1), none, some (zI a3), some (zI a4), some (zI l5), some (zI l6)] [] s0 := by
    intro n
    induction n with
    | zero => intro s0 l5 l6 h; exact absurd h (by rw [k_GM_shifted_20]; exact fun w => nomatch w)
    | succ n ih =>
      intro s0 l5 l6 h
      rw [k_GM_shifted_20]  at h
      refine zl_iload (pc := 20) hO nd_GM_shifted_20 rfl ?_
      refine zl_iload_n (pc := 22) hO 3 nd_GM_shifted_22 rfl rfl ?_
      refine zl_icmp_ge (pc := 23) hO 103 nd_GM_shifted_23 (by decide) (fun hc => ?_) (fun hc => ?_)
      · have h := ite_t hc h
        refine zl_aload_n (pc := 103) hO 0 nd_GM_shifted_103 rfl rfl ?_
        refine zl_iload_n (pc := 104) hO 1 nd_GM_shifted_104 rfl rfl ?_
        refine zl_iload (pc := 105) hO nd_GM_shifted_105 rfl ?_
        obtain ⟨s2, h_107, h⟩ := bn_use h
        refine zl_callVv (pc := 107) hO [zI a1, zI l5] [] (c_GM_nz hJ h_107) nd_GM_shifted_107 kv_GM_182 rfl (Nat.le_of_ble_eq_true rfl) rfl rfl rfl (Nat.le_of_ble_eq_true rfl) ?_
        refine zl_aload_n (pc := 110) hO 0 nd_GM_shifted_110 rfl rfl ?_
        refine zl_iload_n (pc := 111) hO 1 nd_GM_shifted_111 rfl rfl ?_
        refine zl_aload_n (pc := 112) hO 0 nd_GM_shifted_112 rfl rfl ?_
        refine zl_geti (pc := 113) hO nd_GM_shifted_113 kf_GM_179 rfl (Nat.le_of_ble_eq_true rfl) rfl ?_
        obtain ⟨s3, h_116, h⟩ := bn_use h
        refine zl_callVv (pc := 116) hO [zI a1, zI (s2 0 0 38)] [] (c_GM_setCarry hJ h_116) nd_GM_shifted_116 kv_GM_185 rfl (Nat.le_of_ble_eq_true rfl) rfl rfl rfl (Nat.le_of_ble_eq_true rfl) ?_
        refine zl_iload (pc := 119) hO nd_GM_shifted_119 rfl ?_
        exact zl_iret (pc := 121) hO nd_GM_shifted_121 rfl (zr_i h)
      · have h := ite_f hc h
        refine zl_aload_n (pc := 26) hO 0 nd_GM_shifted_26 rfl rfl ?_
        refine zl_iload (pc := 27) hO nd_GM_shifted_27 rfl ?_
        refine zl_if_ne (pc := 29) hO 40 nd_GM_shifted_29 (by decide) (fun hc => ?_) (fun hc => ?_)
        · have h := ite_f hc h
          refine zl_iload (pc := 40) hO nd_GM_shifted_40 rfl ?_
          refine zl_iconst (pc := 42) hO (v := 1) nd_GM_shifted_42 (by decide) ?_
          refine zl_iand (pc := 43) hO nd_GM_shifted_43 ?_
          exact zl_weak (J_44 (k_GM_shifted_20 a1 a2 a3 a4 n) ih _ _ _ _ h) ⟨rfl, ⟨rfl, ⟨rfl, ⟨rfl, ⟨rfl, ⟨rfl, trivial⟩⟩⟩⟩⟩⟩
        · have h := ite_t hc h
          refine zl_iload (pc := 32) hO nd_GM_shifted_32 rfl ?_
          refine zl_bipush (pc := 34) hO (v := 31) nd_GM_shifted_34 (by decide) ?_
          refine zl_iushr (pc := 36) hO nd_GM_shifted_36 ?_
          refine zl_goto (pc := 37) hO 44 nd_GM_shifted_37 (by decide) ?_
          exact zl_weak (J_44 (k_GM_shifted_20 a1 a2 a3 a4 n) ih _ _ _ _ h) ⟨rfl, ⟨rfl, ⟨rfl, ⟨rfl, ⟨rfl, ⟨rfl, trivial⟩⟩⟩⟩⟩⟩
  unfold k_GM_shifted at h
  refine zl_iload_n (pc := 0) hO 2 nd_GM_shifted_0 rfl rfl ?_
  refine zl_istore (pc := 1) hO (L' := [some (zR 0 0), some (zI a1), some (zI a2), some (zI a3), some (zI a4), some (zI a2), none]) nd_GM_shifted_1 (by decide) rfl ?_
  refine zl_aload_n (pc := 3) hO 0 nd_GM_shifted_3 rfl rfl ?_
  refine zl_aload_n (pc := 4) hO 0 nd_GM_shifted_4 rfl rfl ?_
  refine zl_get0 (pc := 5) hO nd_GM_shifted_5 kf_GM_56 rfl (Nat.le_of_ble_eq_true rfl) rfl ?_
  refine zl_iload_n (pc := 8) hO 1 nd_GM_shifted_8 rfl rfl ?_
  obtain ⟨c_in9, h⟩ := ck_use h
  refine zl_iald (pc := 9) hO nd_GM_shifted_9 rfl rfl (Nat.le_of_ble_eq_true rfl) c_in9 ?_
  refine zl_iconst (pc := 10) hO (v := 1) nd_GM_shifted_10 (by decide) ?_
  refine zl_ishr (pc := 11) hO nd_GM_shifted_11 ?_
  refine zl_iconst (pc := 12) hO (v := 1) nd_GM_shifted_12 (by decide) ?_
  refine zl_iand (pc := 13) hO nd_GM_shifted_13 ?_
  refine zl_puti (pc := 14) hO nd_GM_shifted_14 kp_GM_179 rfl (Nat.le_of_ble_eq_true rfl) rfl ?_
  obtain ⟨s1, e_s1, h⟩ := lt_use h
  refine zl_sg e_s1 ?_
  refine zl_iconst (pc := 17) hO (v := 0) nd_GM_shifted_17 (by decide) ?_
  refine zl_istore (pc := 18) hO (L' := [some (zR 0 0), some (zI a1), some (zI a2), some (zI a3), some (zI a4), some (zI a2), some (zI 0)]) nd_GM_shifted_18 (by decide) rfl ?_
  exact zl_weak (J_20 FU _ _ _ h) ⟨rfl, ⟨rfl, ⟨rfl, ⟨rfl, ⟨rfl, ⟨rfl, trivial⟩⟩⟩⟩⟩⟩
