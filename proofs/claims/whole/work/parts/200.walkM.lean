set_option maxHeartbeats 4000000 in
set_option maxRecDepth 100000 in
theorem c_GM_there {l : Launch} {V : zG} (hJ : zJ0 (sM l V)) {s0 : zS} {a1 : Int32}  {s1 : zS} {v1 : Int32} (h : k_GM_there s0 a1 = some (s1, v1)) : zM (sM l V) md_GM_there [zR 0 0, zI a1] s0 (s1, some (zI v1)) := by
  refine zMet [some (zR 0 0), some (zI a1)] hJ (by decide) rfl (Nat.le_of_ble_eq_true rfl) rfl ?_
  intro X hO
  unfold k_GM_there at h
  refine zl_iload_n (pc := 0) hO 1 nd_GM_there_0 rfl rfl ?_
  refine zl_if_lt (pc := 1) hO 16 nd_GM_there_1 (by decide) (fun hc => ?_) (fun hc => ?_)
  · have h := ite_t hc h
    refine zl_iconst (pc := 16) hO (v := 0) nd_GM_there_16 (by decide) ?_
    exact zl_zret (pc := 17) hO nd_GM_there_17 rfl (by decide) (zr_i h)
  · have h := ite_f hc h
    refine zl_iload_n (pc := 4) hO 1 nd_GM_there_4 rfl rfl ?_
    refine zl_aload_n (pc := 5) hO 0 nd_GM_there_5 rfl rfl ?_
    refine zl_geti (pc := 6) hO nd_GM_there_6 kf_GM_105 rfl (Nat.le_of_ble_eq_true rfl) rfl ?_
    refine zl_icmp_ge (pc := 9) hO 16 nd_GM_there_9 (by decide) (fun hc => ?_) (fun hc => ?_)
    · have h := ite_t hc h
      refine zl_iconst (pc := 16) hO (v := 0) nd_GM_there_16 (by decide) ?_
      exact zl_zret (pc := 17) hO nd_GM_there_17 rfl (by decide) (zr_i h)
    · have h := ite_f hc h
      refine zl_iconst (pc := 12) hO (v := 1) nd_GM_there_12 (by decide) ?_
      refine zl_goto (pc := 13) hO 17 nd_GM_there_13 (by decide) ?_
      exact zl_zret (pc := 17) hO nd_GM_there_17 rfl (by decide) (zr_i h)
set_option maxHeartbeats 4000000 in
set_option maxRecDepth 100000 in
theorem c_GM_burn {l : Launch} {V : zG} (hJ : zJ0 (sM l V)) {s0 : zS} {a1 : Int32} {a2 : Int32}  {s1 : zS} {v1 : Int32} (h : k_GM_burn s0 a1 a2 = some (s1, v1)) : zM (sM l V) md_GM_burn [zR 0 0, zI a1, zI a2] s0 (s1, some (zI v1)) := by
  refine zMet [some (zR 0 0), some (zI a1), some (zI a2), none] hJ (by decide) rfl (Nat.le_of_ble_eq_true rfl) rfl ?_
  intro X hO
  unfold k_GM_burn at h
  refine zl_iload_n (pc := 0) hO 1 nd_GM_burn_0 rfl rfl ?_
  refine zl_if_lt (pc := 1) hO 21 nd_GM_burn_1 (by decide) (fun hc => ?_) (fun hc => ?_)
  · have h := ite_t hc h
    refine zl_iconst (pc := 21) hO (v := (-1)) nd_GM_burn_21 (by decide) ?_
    exact zl_iret (pc := 22) hO nd_GM_burn_22 rfl (zr_i h)
  · have h := ite_f hc h
    refine zl_iload_n (pc := 4) hO 1 nd_GM_burn_4 rfl rfl ?_
    refine zl_sipush (pc := 5) hO (v := 255) nd_GM_burn_5 (by decide) ?_
    refine zl_icmp_gt (pc := 8) hO 21 nd_GM_burn_8 (by decide) (fun hc => ?_) (fun hc => ?_)
    · have h := ite_t hc h
      refine zl_iconst (pc := 21) hO (v := (-1)) nd_GM_burn_21 (by decide) ?_
      exact zl_iret (pc := 22) hO nd_GM_burn_22 rfl (zr_i h)
    · have h := ite_f hc h
      refine zl_iload_n (pc := 11) hO 2 nd_GM_burn_11 rfl rfl ?_
      refine zl_if_lt (pc := 12) hO 21 nd_GM_burn_12 (by decide) (fun hc => ?_) (fun hc => ?_)
      · have h := ite_t hc h
        refine zl_iconst (pc := 21) hO (v := (-1)) nd_GM_burn_21 (by decide) ?_
        exact zl_iret (pc := 22) hO nd_GM_burn_22 rfl (zr_i h)
      · have h := ite_f hc h
        refine zl_iload_n (pc := 15) hO 2 nd_GM_burn_15 rfl rfl ?_
        refine zl_ldc (pc := 16) hO nd_GM_burn_16 kc_GM_108 ?_
        refine zl_icmp_le (pc := 18) hO 23 nd_GM_burn_18 (by decide) (fun hc => ?_) (fun hc => ?_)
        · have h := ite_t hc h
          refine zl_aload_n (pc := 23) hO 0 nd_GM_burn_23 rfl rfl ?_
          refine zl_get0 (pc := 24) hO nd_GM_burn_24 kf_GM_7 rfl (Nat.le_of_ble_eq_true rfl) rfl ?_
          refine zl_iload_n (pc := 27) hO 1 nd_GM_burn_27 rfl rfl ?_
          obtain ⟨c_in28, h⟩ := ck_use h
          refine zl_iald (pc := 28) hO nd_GM_burn_28 rfl rfl (Nat.le_of_ble_eq_true rfl) c_in28 ?_
          obtain ⟨x1, e_x1, h⟩ := lt_use h
          refine zl_top e_x1 ?_
          refine zl_istore_n (pc := 29) hO 3 (L' := [some (zR 0 0), some (zI a1), some (zI a2), some (zI x1)]) nd_GM_burn_29 rfl (by decide) rfl ?_
          refine zl_aload_n (pc := 30) hO 0 nd_GM_burn_30 rfl rfl ?_
          refine zl_get0 (pc := 31) hO nd_GM_burn_31 kf_GM_7 rfl (Nat.le_of_ble_eq_true rfl) rfl ?_
          refine zl_iload_n (pc := 34) hO 1 nd_GM_burn_34 rfl rfl ?_
          refine zl_iload_n (pc := 35) hO 2 nd_GM_burn_35 rfl rfl ?_
          obtain ⟨c_in36, h⟩ := ck_use h
          refine zl_iast (pc := 36) hO nd_GM_burn_36 rfl rfl (Nat.le_of_ble_eq_true rfl) c_in36 ?_
          obtain ⟨s2, e_s2, h⟩ := lt_use h
          refine zl_sg e_s2 ?_
          refine zl_iload_n (pc := 37) hO 3 nd_GM_burn_37 rfl rfl ?_
          exact zl_iret (pc := 38) hO nd_GM_burn_38 rfl (zr_i h)
        · have h := ite_f hc h
          refine zl_iconst (pc := 21) hO (v := (-1)) nd_GM_burn_21 (by decide) ?_
          exact zl_iret (pc := 22) hO nd_GM_burn_22 rfl (zr_i h)
set_option maxHeartbeats 4000000 in
set_option maxRecDepth 100000 in
theorem c_GM_move {l : Launch} {V : zG} (hJ : zJ0 (sM l V)) {s0 : zS} {a1 : Int32} {a2 : Int32}  {s1 : zS} (h : k_GM_move s0 a1 a2 = some s1) : zM (sM l V) md_GM_move [zR 0 0, zI a1, zI a2] s0 (s1, none) := by
  refine zMet [some (zR 0 0), some (zI a1), some (zI a2)] hJ (by decide) rfl (Nat.le_of_ble_eq_true rfl) rfl ?_
  intro X hO
  unfold k_GM_move at h
  refine zl_aload_n (pc := 0) hO 0 nd_GM_move_0 rfl rfl ?_
  refine zl_get0 (pc := 1) hO nd_GM_move_1 kf_GM_87 rfl (Nat.le_of_ble_eq_true rfl) rfl ?_
  refine zl_iload_n (pc := 4) hO 2 nd_GM_move_4 rfl rfl ?_
  refine zl_aload_n (pc := 5) hO 0 nd_GM_move_5 rfl rfl ?_
  refine zl_get0 (pc := 6) hO nd_GM_move_6 kf_GM_87 rfl (Nat.le_of_ble_eq_true rfl) rfl ?_
  refine zl_iload_n (pc := 9) hO 1 nd_GM_move_9 rfl rfl ?_
  obtain ⟨c_in10, h⟩ := ck_use h
  refine zl_iald (pc := 10) hO nd_GM_move_10 rfl rfl (Nat.le_of_ble_eq_true rfl) c_in10 ?_
  obtain ⟨c_in11, h⟩ := ck_use h
  refine zl_iast (pc := 11) hO nd_GM_move_11 rfl rfl (Nat.le_of_ble_eq_true rfl) c_in11 ?_
  obtain ⟨s1, e_s1, h⟩ := lt_use h
  refine zl_sg e_s1 ?_
  refine zl_aload_n (pc := 12) hO 0 nd_GM_move_12 rfl rfl ?_
  refine zl_get0 (pc := 13) hO nd_GM_move_13 kf_GM_90 rfl (Nat.le_of_ble_eq_true rfl) rfl ?_
  refine zl_iload_n (pc := 16) hO 2 nd_GM_move_16 rfl rfl ?_
  refine zl_aload_n (pc := 17) hO 0 nd_GM_move_17 rfl rfl ?_
  refine zl_get0 (pc := 18) hO nd_GM_move_18 kf_GM_90 rfl (Nat.le_of_ble_eq_true rfl) rfl ?_
  refine zl_iload_n (pc := 21) hO 1 nd_GM_move_21 rfl rfl ?_
  obtain ⟨c_in22, h⟩ := ck_use h
  refine zl_iald (pc := 22) hO nd_GM_move_22 rfl rfl (Nat.le_of_ble_eq_true rfl) c_in22 ?_
  obtain ⟨c_in23, h⟩ := ck_use h
  refine zl_iast (pc := 23) hO nd_GM_move_23 rfl rfl (Nat.le_of_ble_eq_true rfl) c_in23 ?_
  obtain ⟨s2, e_s2, h⟩ := lt_use h
  refine zl_sg e_s2 ?_
  refine zl_aload_n (pc := 24) hO 0 nd_GM_move_24 rfl rfl ?_
  refine zl_get0 (pc := 25) hO nd_GM_move_25 kf_GM_93 rfl (Nat.le_of_ble_eq_true rfl) rfl ?_
  refine zl_iload_n (pc := 28) hO 2 nd_GM_move_28 rfl rfl ?_
  refine zl_aload_n (pc := 29) hO 0 nd_GM_move_29 rfl rfl ?_
  refine zl_get0 (pc := 30) hO nd_GM_move_30 kf_GM_93 rfl (Nat.le_of_ble_eq_true rfl) rfl ?_
  refine zl_iload_n (pc := 33) hO 1 nd_GM_move_33 rfl rfl ?_
  obtain ⟨c_in34, h⟩ := ck_use h
  refine zl_iald (pc := 34) hO nd_GM_move_34 rfl rfl (Nat.le_of_ble_eq_true rfl) c_in34 ?_
  obtain ⟨c_in35, h⟩ := ck_use h
  refine zl_iast (pc := 35) hO nd_GM_move_35 rfl rfl (Nat.le_of_ble_eq_true rfl) c_in35 ?_
  obtain ⟨s3, e_s3, h⟩ := lt_use h
  refine zl_sg e_s3 ?_
  refine zl_aload_n (pc := 36) hO 0 nd_GM_move_36 rfl rfl ?_
  refine zl_get0 (pc := 37) hO nd_GM_move_37 kf_GM_96 rfl (Nat.le_of_ble_eq_true rfl) rfl ?_
  refine zl_iload_n (pc := 40) hO 2 nd_GM_move_40 rfl rfl ?_
  refine zl_aload_n (pc := 41) hO 0 nd_GM_move_41 rfl rfl ?_
  refine zl_get0 (pc := 42) hO nd_GM_move_42 kf_GM_96 rfl (Nat.le_of_ble_eq_true rfl) rfl ?_
  refine zl_iload_n (pc := 45) hO 1 nd_GM_move_45 rfl rfl ?_
  obtain ⟨c_in46, h⟩ := ck_use h
  refine zl_iald (pc := 46) hO nd_GM_move_46 rfl rfl (Nat.le_of_ble_eq_true rfl) c_in46 ?_
  obtain ⟨c_in47, h⟩ := ck_use h
  refine zl_iast (pc := 47) hO nd_GM_move_47 rfl rfl (Nat.le_of_ble_eq_true rfl) c_in47 ?_
  obtain ⟨s4, e_s4, h⟩ := lt_use h
  refine zl_sg e_s4 ?_
  exact zl_vret (pc := 48) hO nd_GM_move_48 rfl (zr_v h)
set_option maxHeartbeats 4000000 in
set_option maxRecDepth 100000 in
theorem c_GM_drop {l : Launch} {V : zG} (hJ : zJ0 (sM l V)) {s0 : zS} {a1 : Int32} {a2 : Int32}  {s1 : zS} (h : k_GM_drop s0 a1 a2 = some s1) : zM (sM l V) md_GM_drop [zR 0 0, zI a1, zI a2] s0 (s1, none) := by
  refine zMet [some (zR 0 0), some (zI a1), some (zI a2), none, none] hJ (by decide) rfl (Nat.le_of_ble_eq_true rfl) rfl ?_
  intro X hO
  have J_46 : ∀ (K5 : zS → Int32 → Int32 → Option (zS)) (hK5 : ∀ (s0 : zS) (l3 : Int32) (l4 : Int32), K5 s0 l3 l4 = some s1 → ZW (sM l V) md_GM_drop (s1, none) X 5 [some (zR 0 0), some (zI a1), some (zI a2), some (zI l3), some (zI l4)] [] s0), ∀ (s0 : zS) (l3 : Int32) (l4 : Int32), k_GM_drop_46 a1 a2 K5 s0 l3 l4 = some s1 → ZW (sM l V) md_GM_drop (s1, none) X 46 [some (zR 0 0), some (zI a1), some (zI a2), some (zI l3), some (zI l4)] [] s0 := by
    intro K5 hK5
    intro s0 l3 l4 h
    unfold k_GM_drop_46 at h
    obtain ⟨x4, e_x4, h⟩ := lt_use h
    refine zl_iinc (pc := 46) hO (L' := [some (zR 0 0), some (zI a1), some (zI a2), some (zI l3), some (zI x4)]) nd_GM_drop_46 rfl e_x4.symm (by decide) rfl ?_
    refine zl_goto (pc := 49) hO 5 nd_GM_drop_49 (by decide) ?_
    exact zl_weak (hK5 _ _ _ h) ⟨rfl, ⟨rfl, ⟨rfl, ⟨rfl, ⟨rfl, trivial⟩⟩⟩⟩⟩
  have J_36 : ∀ (K5 : zS → Int32 → Int32 → Option (zS)) (hK5 : ∀ (s0 : zS) (l3 : Int32) (l4 : Int32), K5 s0 l3 l4 = some s1 → ZW (sM l V) md_GM_drop (s1, none) X 5 [some (zR 0 0), some (zI a1), some (zI a2), some (zI l3), some (zI l4)] [] s0), ∀ (s0 : zS) (l3 : Int32) (l4 : Int32), k_GM_drop_36 a1 a2 K5 s0 l3 l4 = some s1 → ZW (sM l V) md_GM_drop (s1, none) X 36 [some (zR 0 0), some (zI a1), some (zI a2), some (zI l3), some (zI l4)] [] s0 := by
    intro K5 hK5
    intro s0 l3 l4 h
    unfold k_GM_drop_36 at h
    refine zl_aload_n (pc := 36) hO 0 nd_GM_drop_36 rfl rfl ?_
    refine zl_iload (pc := 37) hO nd_GM_drop_37 rfl ?_
    refine zl_iload_n (pc := 39) hO 3 nd_GM_drop_39 rfl rfl ?_
    obtain ⟨s2, h_40, h⟩ := bn_use h
    refine zl_callVv (pc := 40) hO [zI l4, zI l3] [] (c_GM_move hJ h_40) nd_GM_drop_40 kv_GM_139 rfl (Nat.le_of_ble_eq_true rfl) rfl rfl rfl (Nat.le_of_ble_eq_true rfl) ?_
    obtain ⟨x3, e_x3, h⟩ := lt_use h
    refine zl_iinc (pc := 43) hO (L' := [some (zR 0 0), some (zI a1), some (zI a2), some (zI x3), some (zI l4)]) nd_GM_drop_43 rfl e_x3.symm (by decide) rfl ?_
    exact zl_weak (J_46 K5 hK5 _ _ _ h) ⟨rfl, ⟨rfl, ⟨rfl, ⟨rfl, ⟨rfl, trivial⟩⟩⟩⟩⟩
  have J_5 : ∀ (n : Nat), ∀ (s0 : zS) (l3 : Int32) (l4 : Int32), k_GM_drop_5 a1 a2 n s0 l3 l4 = some s1 → ZW (sM l V) md_GM_drop (s1, none) X 5 [some (zR 0 0), some (zI a1), some (zI a2), some (zI l3), some (zI l4)] [] s0 := by
    intro n
    induction n with
    | zero => intro s0 l3 l4 h; exact absurd h (by rw [k_GM_drop_5]; exact fun w => nomatch w)
    | succ n ih =>
      intro s0 l3 l4 h
      rw [k_GM_drop_5]  at h
      refine zl_iload (pc := 5) hO nd_GM_drop_5 rfl ?_
      refine zl_aload_n (pc := 7) hO 0 nd_GM_drop_7 rfl rfl ?_
      refine zl_geti (pc := 8) hO nd_GM_drop_8 kf_GM_121 rfl (Nat.le_of_ble_eq_true rfl) rfl ?_
      refine zl_icmp_ge (pc := 11) hO 52 nd_GM_drop_11 (by decide) (fun hc => ?_) (fun hc => ?_)
      · have h := ite_t hc h
        refine zl_aload_n (pc := 52) hO 0 nd_GM_drop_52 rfl rfl ?_
        refine zl_iload_n (pc := 53) hO 3 nd_GM_drop_53 rfl rfl ?_
        refine zl_puti (pc := 54) hO nd_GM_drop_54 kp_GM_121 rfl (Nat.le_of_ble_eq_true rfl) rfl ?_
        obtain ⟨s1, e_s1, h⟩ := lt_use h
        refine zl_sg e_s1 ?_
        exact zl_vret (pc := 57) hO nd_GM_drop_57 rfl (zr_v h)
      · have h := ite_f hc h
        refine zl_aload_n (pc := 14) hO 0 nd_GM_drop_14 rfl rfl ?_
        refine zl_get0 (pc := 15) hO nd_GM_drop_15 kf_GM_87 rfl (Nat.le_of_ble_eq_true rfl) rfl ?_
        refine zl_iload (pc := 18) hO nd_GM_drop_18 rfl ?_
        obtain ⟨c_in20, h⟩ := ck_use h
        refine zl_iald (pc := 20) hO nd_GM_drop_20 rfl rfl (Nat.le_of_ble_eq_true rfl) c_in20 ?_
        refine zl_iload_n (pc := 21) hO 1 nd_GM_drop_21 rfl rfl ?_
        refine zl_icmp_ne (pc := 22) hO 36 nd_GM_drop_22 (by decide) (fun hc => ?_) (fun hc => ?_)
        · have h := ite_f hc h
          exact zl_weak (J_36 (k_GM_drop_5 a1 a2 n) ih _ _ _ h) ⟨rfl, ⟨rfl, ⟨rfl, ⟨rfl, ⟨rfl, trivial⟩⟩⟩⟩⟩
        · have h := ite_t hc h
          refine zl_aload_n (pc := 25) hO 0 nd_GM_drop_25 rfl rfl ?_
          refine zl_get0 (pc := 26) hO nd_GM_drop_26 kf_GM_90 rfl (Nat.le_of_ble_eq_true rfl) rfl ?_
          refine zl_iload (pc := 29) hO nd_GM_drop_29 rfl ?_
          obtain ⟨c_in31, h⟩ := ck_use h
          refine zl_iald (pc := 31) hO nd_GM_drop_31 rfl rfl (Nat.le_of_ble_eq_true rfl) c_in31 ?_
          refine zl_iload_n (pc := 32) hO 2 nd_GM_drop_32 rfl rfl ?_
          refine zl_icmp_eq (pc := 33) hO 46 nd_GM_drop_33 (by decide) (fun hc => ?_) (fun hc => ?_)
          · have h := ite_t hc h
            exact zl_weak (J_46 (k_GM_drop_5 a1 a2 n) ih _ _ _ h) ⟨rfl, ⟨rfl, ⟨rfl, ⟨rfl, ⟨rfl, trivial⟩⟩⟩⟩⟩
          · have h := ite_f hc h
            exact zl_weak (J_36 (k_GM_drop_5 a1 a2 n) ih _ _ _ h) ⟨rfl, ⟨rfl, ⟨rfl, ⟨rfl, ⟨rfl, trivial⟩⟩⟩⟩⟩
  unfold k_GM_drop at h
  refine zl_iconst (pc := 0) hO (v := 0) nd_GM_drop_0 (by decide) ?_
  refine zl_istore_n (pc := 1) hO 3 (L' := [some (zR 0 0), some (zI a1), some (zI a2), some (zI 0), none]) nd_GM_drop_1 rfl (by decide) rfl ?_
  refine zl_iconst (pc := 2) hO (v := 0) nd_GM_drop_2 (by decide) ?_
  refine zl_istore (pc := 3) hO (L' := [some (zR 0 0), some (zI a1), some (zI a2), some (zI 0), some (zI 0)]) nd_GM_drop_3 (by decide) rfl ?_
  exact zl_weak (J_5 FU _ _ _ h) ⟨rfl, ⟨rfl, ⟨rfl, ⟨rfl, ⟨rfl, trivial⟩⟩⟩⟩⟩
set_option maxHeartbeats 4000000 in
set_option maxRecDepth 100000 in
theorem c_GM_forget {l : Launch} {V : zG} (hJ : zJ0 (sM l V)) {s0 : zS} {a1 : Int32}  {s1 : zS} (h : k_GM_forget s0 a1 = some s1) : zM (sM l V) md_GM_forget [zR 0 0, zI a1] s0 (s1, none) := by
  refine zMet [some (zR 0 0), some (zI a1), none] hJ (by decide) rfl (Nat.le_of_ble_eq_true rfl) rfl ?_
  intro X hO
  have J_2 : ∀ (n : Nat), ∀ (s0 : zS) (l2 : Int32), k_GM_forget_2 a1 n s0 l2 = some s1 → ZW (sM l V) md_GM_forget (s1, none) X 2 [some (zR 0 0), some (zI a1), some (zI l2)] [] s0 := by
    intro n
    induction n with
    | zero => intro s0 l2 h; exact absurd h (by rw [k_GM_forget_2]; exact fun w => nomatch w)
    | succ n ih =>
      intro s0 l2 h
      rw [k_GM_forget_2]  at h
      refine zl_iload_n (pc := 2) hO 2 nd_GM_forget_2 rfl rfl ?_
      refine zl_iconst (pc := 3) hO (v := 3) nd_GM_forget_3 (by decide) ?_
      refine zl_icmp_ge (pc := 4) hO 52 nd_GM_forget_4 (by decide) (fun hc => ?_) (fun hc => ?_)
      · have h := ite_t hc h
        exact zl_vret (pc := 52) hO nd_GM_forget_52 rfl (zr_v h)
      · have h := ite_f hc h
        refine zl_aload_n (pc := 7) hO 0 nd_GM_forget_7 rfl rfl ?_
        refine zl_get0 (pc := 8) hO nd_GM_forget_8 kf_GM_72 rfl (Nat.le_of_ble_eq_true rfl) rfl ?_
        refine zl_iconst (pc := 11) hO (v := 3) nd_GM_forget_11 (by decide) ?_
        refine zl_iload_n (pc := 12) hO 1 nd_GM_forget_12 rfl rfl ?_
        refine zl_imul (pc := 13) hO nd_GM_forget_13 ?_
        refine zl_iload_n (pc := 14) hO 2 nd_GM_forget_14 rfl rfl ?_
        refine zl_iadd (pc := 15) hO nd_GM_forget_15 ?_
        refine zl_iconst (pc := 16) hO (v := 0) nd_GM_forget_16 (by decide) ?_
        obtain ⟨c_in17, h⟩ := ck_use h
        refine zl_iast (pc := 17) hO nd_GM_forget_17 rfl rfl (Nat.le_of_ble_eq_true rfl) c_in17 ?_
        obtain ⟨s1, e_s1, h⟩ := lt_use h
        refine zl_sg e_s1 ?_
        refine zl_aload_n (pc := 18) hO 0 nd_GM_forget_18 rfl rfl ?_
        refine zl_get0 (pc := 19) hO nd_GM_forget_19 kf_GM_75 rfl (Nat.le_of_ble_eq_true rfl) rfl ?_
        refine zl_iconst (pc := 22) hO (v := 3) nd_GM_forget_22 (by decide) ?_
        refine zl_iload_n (pc := 23) hO 1 nd_GM_forget_23 rfl rfl ?_
        refine zl_imul (pc := 24) hO nd_GM_forget_24 ?_
        refine zl_iload_n (pc := 25) hO 2 nd_GM_forget_25 rfl rfl ?_
        refine zl_iadd (pc := 26) hO nd_GM_forget_26 ?_
        refine zl_iconst (pc := 27) hO (v := 0) nd_GM_forget_27 (by decide) ?_
        obtain ⟨c_in28, h⟩ := ck_use h
        refine zl_iast (pc := 28) hO nd_GM_forget_28 rfl rfl (Nat.le_of_ble_eq_true rfl) c_in28 ?_
        obtain ⟨s2, e_s2, h⟩ := lt_use h
        refine zl_sg e_s2 ?_
        refine zl_aload_n (pc := 29) hO 0 nd_GM_forget_29 rfl rfl ?_
        refine zl_get0 (pc := 30) hO nd_GM_forget_30 kf_GM_84 rfl (Nat.le_of_ble_eq_true rfl) rfl ?_
        refine zl_iconst (pc := 33) hO (v := 3) nd_GM_forget_33 (by decide) ?_
        refine zl_iload_n (pc := 34) hO 1 nd_GM_forget_34 rfl rfl ?_
        refine zl_imul (pc := 35) hO nd_GM_forget_35 ?_
        refine zl_iload_n (pc := 36) hO 2 nd_GM_forget_36 rfl rfl ?_
        refine zl_iadd (pc := 37) hO nd_GM_forget_37 ?_
        refine zl_iconst (pc := 38) hO (v := 0) nd_GM_forget_38 (by decide) ?_
        obtain ⟨c_in39, h⟩ := ck_use h
        refine zl_iast (pc := 39) hO nd_GM_forget_39 rfl rfl (Nat.le_of_ble_eq_true rfl) c_in39 ?_
        obtain ⟨s3, e_s3, h⟩ := lt_use h
        refine zl_sg e_s3 ?_
        refine zl_aload_n (pc := 40) hO 0 nd_GM_forget_40 rfl rfl ?_
        refine zl_iload_n (pc := 41) hO 1 nd_GM_forget_41 rfl rfl ?_
        refine zl_iload_n (pc := 42) hO 2 nd_GM_forget_42 rfl rfl ?_
        obtain ⟨s4, h_43, h⟩ := bn_use h
        refine zl_callVv (pc := 43) hO [zI a1, zI l2] [] (c_GM_drop hJ h_43) nd_GM_forget_43 kv_GM_135 rfl (Nat.le_of_ble_eq_true rfl) rfl rfl rfl (Nat.le_of_ble_eq_true rfl) ?_
        obtain ⟨x5, e_x5, h⟩ := lt_use h
        refine zl_iinc (pc := 46) hO (L' := [some (zR 0 0), some (zI a1), some (zI x5)]) nd_GM_forget_46 rfl e_x5.symm (by decide) rfl ?_
        refine zl_goto (pc := 49) hO 2 nd_GM_forget_49 (by decide) ?_
        exact zl_weak (ih _ _ h) ⟨rfl, ⟨rfl, ⟨rfl, trivial⟩⟩⟩
  unfold k_GM_forget at h
  refine zl_iconst (pc := 0) hO (v := 0) nd_GM_forget_0 (by decide) ?_
  refine zl_istore_n (pc := 1) hO 2 (L' := [some (zR 0 0), some (zI a1), some (zI 0)]) nd_GM_forget_1 rfl (by decide) rfl ?_
  exact zl_weak (J_2 FU _ _ h) ⟨rfl, ⟨rfl, ⟨rfl, trivial⟩⟩⟩
set_option maxHeartbeats 4000000 in
set_option maxRecDepth 100000 in
theorem c_GM_begin {l : Launch} {V : zG} (hJ : zJ0 (sM l V)) {s0 : zS} {a1 : Int32}  {s1 : zS} (h : k_GM_begin s0 a1 = some s1) : zM (sM l V) md_GM_begin [zR 0 0, zI a1] s0 (s1, none) := by
  refine zMet [some (zR 0 0), some (zI a1), none] hJ (by decide) rfl (Nat.le_of_ble_eq_true rfl) rfl ?_
  intro X hO
  have J_34 : ∀ (n : Nat), ∀ (s0 : zS) (l2 : Int32), k_GM_begin_34 a1 n s0 l2 = some s1 → ZW (sM l V) md_GM_begin (s1, none) X 34 [some (zR 0 0), some (zI a1), some (zI l2)] [] s0 := by
    intro n
    induction n with
    | zero => intro s0 l2 h; exact absurd h (by rw [k_GM_begin_34]; exact fun w => nomatch w)
    | succ n ih =>
      intro s0 l2 h
      rw [k_GM_begin_34]  at h
      refine zl_iload_n (pc := 34) hO 2 nd_GM_begin_34 rfl rfl ?_
      refine zl_bipush (pc := 35) hO (v := 8) nd_GM_begin_35 (by decide) ?_
      refine zl_icmp_ge (pc := 37) hO 58 nd_GM_begin_37 (by decide) (fun hc => ?_) (fun hc => ?_)
      · have h := ite_t hc h
        refine zl_aload_n (pc := 58) hO 0 nd_GM_begin_58 rfl rfl ?_
        refine zl_get0 (pc := 59) hO nd_GM_begin_59 kf_GM_56 rfl (Nat.le_of_ble_eq_true rfl) rfl ?_
        refine zl_iload_n (pc := 62) hO 1 nd_GM_begin_62 rfl rfl ?_
        refine zl_iconst (pc := 63) hO (v := 0) nd_GM_begin_63 (by decide) ?_
        obtain ⟨c_in64, h⟩ := ck_use h
        refine zl_iast (pc := 64) hO nd_GM_begin_64 rfl rfl (Nat.le_of_ble_eq_true rfl) c_in64 ?_
        obtain ⟨s3, e_s3, h⟩ := lt_use h
        refine zl_sg e_s3 ?_
        refine zl_aload_n (pc := 65) hO 0 nd_GM_begin_65 rfl rfl ?_
        refine zl_get0 (pc := 66) hO nd_GM_begin_66 kf_GM_47 rfl (Nat.le_of_ble_eq_true rfl) rfl ?_
        refine zl_iload_n (pc := 69) hO 1 nd_GM_begin_69 rfl rfl ?_
        refine zl_sipush (pc := 70) hO (v := 4096) nd_GM_begin_70 (by decide) ?_
        refine zl_iconst (pc := 73) hO (v := 4) nd_GM_begin_73 (by decide) ?_
        refine zl_aload_n (pc := 74) hO 0 nd_GM_begin_74 rfl rfl ?_
        refine zl_get0 (pc := 75) hO nd_GM_begin_75 kf_GM_26 rfl (Nat.le_of_ble_eq_true rfl) rfl ?_
        refine zl_iload_n (pc := 78) hO 1 nd_GM_begin_78 rfl rfl ?_
        obtain ⟨c_in79, h⟩ := ck_use h
        refine zl_iald (pc := 79) hO nd_GM_begin_79 rfl rfl (Nat.le_of_ble_eq_true rfl) c_in79 ?_
        refine zl_aload_n (pc := 80) hO 0 nd_GM_begin_80 rfl rfl ?_
        refine zl_get0 (pc := 81) hO nd_GM_begin_81 kf_GM_32 rfl (Nat.le_of_ble_eq_true rfl) rfl ?_
        refine zl_iload_n (pc := 84) hO 1 nd_GM_begin_84 rfl rfl ?_
        obtain ⟨c_in85, h⟩ := ck_use h
        refine zl_iald (pc := 85) hO nd_GM_begin_85 rfl rfl (Nat.le_of_ble_eq_true rfl) c_in85 ?_
        refine zl_iadd (pc := 86) hO nd_GM_begin_86 ?_
        refine zl_imul (pc := 87) hO nd_GM_begin_87 ?_
        refine zl_iadd (pc := 88) hO nd_GM_begin_88 ?_
        obtain ⟨c_in89, h⟩ := ck_use h
        refine zl_iast (pc := 89) hO nd_GM_begin_89 rfl rfl (Nat.le_of_ble_eq_true rfl) c_in89 ?_
        obtain ⟨s4, e_s4, h⟩ := lt_use h
        refine zl_sg e_s4 ?_
        refine zl_aload_n (pc := 90) hO 0 nd_GM_begin_90 rfl rfl ?_
        refine zl_get0 (pc := 91) hO nd_GM_begin_91 kf_GM_50 rfl (Nat.le_of_ble_eq_true rfl) rfl ?_
        refine zl_iload_n (pc := 94) hO 1 nd_GM_begin_94 rfl rfl ?_
        refine zl_iconst (pc := 95) hO (v := 0) nd_GM_begin_95 (by decide) ?_
        obtain ⟨c_in96, h⟩ := ck_use h
        refine zl_iast (pc := 96) hO nd_GM_begin_96 rfl rfl (Nat.le_of_ble_eq_true rfl) c_in96 ?_
        obtain ⟨s5, e_s5, h⟩ := lt_use h
        refine zl_sg e_s5 ?_
        refine zl_aload_n (pc := 97) hO 0 nd_GM_begin_97 rfl rfl ?_
        refine zl_get0 (pc := 98) hO nd_GM_begin_98 kf_GM_53 rfl (Nat.le_of_ble_eq_true rfl) rfl ?_
        refine zl_iload_n (pc := 101) hO 1 nd_GM_begin_101 rfl rfl ?_
        refine zl_aload_n (pc := 102) hO 0 nd_GM_begin_102 rfl rfl ?_
        refine zl_get0 (pc := 103) hO nd_GM_begin_103 kf_GM_35 rfl (Nat.le_of_ble_eq_true rfl) rfl ?_
        refine zl_iload_n (pc := 106) hO 1 nd_GM_begin_106 rfl rfl ?_
        obtain ⟨c_in107, h⟩ := ck_use h
        refine zl_iald (pc := 107) hO nd_GM_begin_107 rfl rfl (Nat.le_of_ble_eq_true rfl) c_in107 ?_
        obtain ⟨c_in108, h⟩ := ck_use h
        refine zl_iast (pc := 108) hO nd_GM_begin_108 rfl rfl (Nat.le_of_ble_eq_true rfl) c_in108 ?_
        obtain ⟨s6, e_s6, h⟩ := lt_use h
        refine zl_sg e_s6 ?_
        refine zl_aload_n (pc := 109) hO 0 nd_GM_begin_109 rfl rfl ?_
        refine zl_get0 (pc := 110) hO nd_GM_begin_110 kf_GM_59 rfl (Nat.le_of_ble_eq_true rfl) rfl ?_
        refine zl_iload_n (pc := 113) hO 1 nd_GM_begin_113 rfl rfl ?_
        refine zl_iconst (pc := 114) hO (v := 0) nd_GM_begin_114 (by decide) ?_
        obtain ⟨c_in115, h⟩ := ck_use h
        refine zl_zast (pc := 115) hO nd_GM_begin_115 rfl rfl rfl (Nat.le_of_ble_eq_true rfl) c_in115 ?_
        obtain ⟨s7, e_s7, h⟩ := lt_use h
        refine zl_sg e_s7 ?_
        refine zl_aload_n (pc := 116) hO 0 nd_GM_begin_116 rfl rfl ?_
        refine zl_iload_n (pc := 117) hO 1 nd_GM_begin_117 rfl rfl ?_
        obtain ⟨s8, h_118, h⟩ := bn_use h
        refine zl_callVv (pc := 118) hO [zI a1] [] (c_GM_forget hJ h_118) nd_GM_begin_118 kv_GM_132 rfl (Nat.le_of_ble_eq_true rfl) rfl rfl rfl (Nat.le_of_ble_eq_true rfl) ?_
        refine zl_aload_n (pc := 121) hO 0 nd_GM_begin_121 rfl rfl ?_
        refine zl_get0 (pc := 122) hO nd_GM_begin_122 kf_GM_41 rfl (Nat.le_of_ble_eq_true rfl) rfl ?_
        refine zl_iload_n (pc := 125) hO 1 nd_GM_begin_125 rfl rfl ?_
        refine zl_iconst (pc := 126) hO (v := 0) nd_GM_begin_126 (by decide) ?_
        obtain ⟨c_in127, h⟩ := ck_use h
        refine zl_iast (pc := 127) hO nd_GM_begin_127 rfl rfl (Nat.le_of_ble_eq_true rfl) c_in127 ?_
        obtain ⟨s9, e_s9, h⟩ := lt_use h
        refine zl_sg e_s9 ?_
        exact zl_vret (pc := 128) hO nd_GM_begin_128 rfl (zr_v h)
      · have h := ite_f hc h
        refine zl_aload_n (pc := 40) hO 0 nd_GM_begin_40 rfl rfl ?_
        refine zl_get0 (pc := 41) hO nd_GM_begin_41 kf_GM_44 rfl (Nat.le_of_ble_eq_true rfl) rfl ?_
        refine zl_bipush (pc := 44) hO (v := 8) nd_GM_begin_44 (by decide) ?_
        refine zl_iload_n (pc := 46) hO 1 nd_GM_begin_46 rfl rfl ?_
        refine zl_imul (pc := 47) hO nd_GM_begin_47 ?_
        refine zl_iload_n (pc := 48) hO 2 nd_GM_begin_48 rfl rfl ?_
        refine zl_iadd (pc := 49) hO nd_GM_begin_49 ?_
        refine zl_iconst (pc := 50) hO (v := 0) nd_GM_begin_50 (by decide) ?_
        obtain ⟨c_in51, h⟩ := ck_use h
        refine zl_iast (pc := 51) hO nd_GM_begin_51 rfl rfl (Nat.le_of_ble_eq_true rfl) c_in51 ?_
        obtain ⟨s10, e_s10, h⟩ := lt_use h
        refine zl_sg e_s10 ?_
        obtain ⟨x11, e_x11, h⟩ := lt_use h
        refine zl_iinc (pc := 52) hO (L' := [some (zR 0 0), some (zI a1), some (zI x11)]) nd_GM_begin_52 rfl e_x11.symm (by decide) rfl ?_
        refine zl_goto (pc := 55) hO 34 nd_GM_begin_55 (by decide) ?_
        exact zl_weak (ih _ _ h) ⟨rfl, ⟨rfl, ⟨rfl, trivial⟩⟩⟩
  have J_2 : ∀ (n : Nat), ∀ (s0 : zS) (l2 : Int32), k_GM_begin_2 a1 n s0 l2 = some s1 → ZW (sM l V) md_GM_begin (s1, none) X 2 [some (zR 0 0), some (zI a1), some (zI l2)] [] s0 := by
    intro n
    induction n with
    | zero => intro s0 l2 h; exact absurd h (by rw [k_GM_begin_2]; exact fun w => nomatch w)
    | succ n ih =>
      intro s0 l2 h
      rw [k_GM_begin_2]  at h
      refine zl_iload_n (pc := 2) hO 2 nd_GM_begin_2 rfl rfl ?_
      refine zl_aload_n (pc := 3) hO 0 nd_GM_begin_3 rfl rfl ?_
      refine zl_get0 (pc := 4) hO nd_GM_begin_4 kf_GM_29 rfl (Nat.le_of_ble_eq_true rfl) rfl ?_
      refine zl_iload_n (pc := 7) hO 1 nd_GM_begin_7 rfl rfl ?_
      obtain ⟨c_in8, h⟩ := ck_use h
      refine zl_iald (pc := 8) hO nd_GM_begin_8 rfl rfl (Nat.le_of_ble_eq_true rfl) c_in8 ?_
      refine zl_icmp_ge (pc := 9) hO 32 nd_GM_begin_9 (by decide) (fun hc => ?_) (fun hc => ?_)
      · have h := ite_t hc h
        refine zl_iconst (pc := 32) hO (v := 0) nd_GM_begin_32 (by decide) ?_
        refine zl_istore_n (pc := 33) hO 2 (L' := [some (zR 0 0), some (zI a1), some (zI 0)]) nd_GM_begin_33 rfl (by decide) rfl ?_
        exact zl_weak (J_34 FU _ _ h) ⟨rfl, ⟨rfl, ⟨rfl, trivial⟩⟩⟩
      · have h := ite_f hc h
        refine zl_aload_n (pc := 12) hO 0 nd_GM_begin_12 rfl rfl ?_
        refine zl_get0 (pc := 13) hO nd_GM_begin_13 kf_GM_13 rfl (Nat.le_of_ble_eq_true rfl) rfl ?_
        refine zl_aload_n (pc := 16) hO 0 nd_GM_begin_16 rfl rfl ?_
        refine zl_get0 (pc := 17) hO nd_GM_begin_17 kf_GM_26 rfl (Nat.le_of_ble_eq_true rfl) rfl ?_
        refine zl_iload_n (pc := 20) hO 1 nd_GM_begin_20 rfl rfl ?_
        obtain ⟨c_in21, h⟩ := ck_use h
        refine zl_iald (pc := 21) hO nd_GM_begin_21 rfl rfl (Nat.le_of_ble_eq_true rfl) c_in21 ?_
        refine zl_iload_n (pc := 22) hO 2 nd_GM_begin_22 rfl rfl ?_
        refine zl_iadd (pc := 23) hO nd_GM_begin_23 ?_
        refine zl_iconst (pc := 24) hO (v := 0) nd_GM_begin_24 (by decide) ?_
        obtain ⟨c_in25, h⟩ := ck_use h
        refine zl_iast (pc := 25) hO nd_GM_begin_25 rfl rfl (Nat.le_of_ble_eq_true rfl) c_in25 ?_
        obtain ⟨s1, e_s1, h⟩ := lt_use h
        refine zl_sg e_s1 ?_
        obtain ⟨x2, e_x2, h⟩ := lt_use h
        refine zl_iinc (pc := 26) hO (L' := [some (zR 0 0), some (zI a1), some (zI x2)]) nd_GM_begin_26 rfl e_x2.symm (by decide) rfl ?_
        refine zl_goto (pc := 29) hO 2 nd_GM_begin_29 (by decide) ?_
        exact zl_weak (ih _ _ h) ⟨rfl, ⟨rfl, ⟨rfl, trivial⟩⟩⟩
  unfold k_GM_begin at h
  refine zl_iconst (pc := 0) hO (v := 0) nd_GM_begin_0 (by decide) ?_
  refine zl_istore_n (pc := 1) hO 2 (L' := [some (zR 0 0), some (zI a1), some (zI 0)]) nd_GM_begin_1 rfl (by decide) rfl ?_
  exact zl_weak (J_2 FU _ _ h) ⟨rfl, ⟨rfl, ⟨rfl, trivial⟩⟩⟩
set_option maxHeartbeats 4000000 in
set_option maxRecDepth 100000 in
theorem c_GM_load {l : Launch} {V : zG} (hJ : zJ0 (sM l V)) {s0 : zS} {a1 : Int32} {a2 : Int32} {a3 : Int32}  {s1 : zS} (h : k_GM_load s0 a1 a2 a3 = some s1) : zM (sM l V) md_GM_load [zR 0 0, zI a1, zI a2, zI a3] s0 (s1, none) := by
  refine zMet [some (zR 0 0), some (zI a1), some (zI a2), some (zI a3), none] hJ (by decide) rfl (Nat.le_of_ble_eq_true rfl) rfl ?_
  intro X hO
  unfold k_GM_load at h
  refine zl_aload_n (pc := 0) hO 0 nd_GM_load_0 rfl rfl ?_
  refine zl_geti (pc := 1) hO nd_GM_load_1 kf_GM_105 rfl (Nat.le_of_ble_eq_true rfl) rfl ?_
  obtain ⟨x1, e_x1, h⟩ := lt_use h
  refine zl_top e_x1 ?_
  refine zl_istore (pc := 4) hO (L' := [some (zR 0 0), some (zI a1), some (zI a2), some (zI a3), some (zI x1)]) nd_GM_load_4 (by decide) rfl ?_
  refine zl_aload_n (pc := 6) hO 0 nd_GM_load_6 rfl rfl ?_
  refine zl_dup (pc := 7) hO nd_GM_load_7 rfl ?_
  refine zl_geti (pc := 8) hO nd_GM_load_8 kf_GM_105 rfl (Nat.le_of_ble_eq_true rfl) rfl ?_
  refine zl_iconst (pc := 11) hO (v := 1) nd_GM_load_11 (by decide) ?_
  refine zl_iadd (pc := 12) hO nd_GM_load_12 ?_
  refine zl_puti (pc := 13) hO nd_GM_load_13 kp_GM_105 rfl (Nat.le_of_ble_eq_true rfl) rfl ?_
  obtain ⟨s2, e_s2, h⟩ := lt_use h
  refine zl_sg e_s2 ?_
  refine zl_aload_n (pc := 16) hO 0 nd_GM_load_16 rfl rfl ?_
  refine zl_get0 (pc := 17) hO nd_GM_load_17 kf_GM_20 rfl (Nat.le_of_ble_eq_true rfl) rfl ?_
  refine zl_iload (pc := 20) hO nd_GM_load_20 rfl ?_
  refine zl_iload_n (pc := 22) hO 1 nd_GM_load_22 rfl rfl ?_
  obtain ⟨c_in23, h⟩ := ck_use h
  refine zl_iast (pc := 23) hO nd_GM_load_23 rfl rfl (Nat.le_of_ble_eq_true rfl) c_in23 ?_
  obtain ⟨s3, e_s3, h⟩ := lt_use h
  refine zl_sg e_s3 ?_
  refine zl_aload_n (pc := 24) hO 0 nd_GM_load_24 rfl rfl ?_
  refine zl_get0 (pc := 25) hO nd_GM_load_25 kf_GM_23 rfl (Nat.le_of_ble_eq_true rfl) rfl ?_
  refine zl_iload (pc := 28) hO nd_GM_load_28 rfl ?_
  refine zl_aload_n (pc := 30) hO 0 nd_GM_load_30 rfl rfl ?_
  refine zl_get0 (pc := 31) hO nd_GM_load_31 kf_GM_7 rfl (Nat.le_of_ble_eq_true rfl) rfl ?_
  refine zl_iload_n (pc := 34) hO 1 nd_GM_load_34 rfl rfl ?_
  refine zl_iconst (pc := 35) hO (v := 1) nd_GM_load_35 (by decide) ?_
  refine zl_iadd (pc := 36) hO nd_GM_load_36 ?_
  obtain ⟨c_in37, h⟩ := ck_use h
  refine zl_iald (pc := 37) hO nd_GM_load_37 rfl rfl (Nat.le_of_ble_eq_true rfl) c_in37 ?_
  obtain ⟨c_in38, h⟩ := ck_use h
  refine zl_iast (pc := 38) hO nd_GM_load_38 rfl rfl (Nat.le_of_ble_eq_true rfl) c_in38 ?_
  obtain ⟨s4, e_s4, h⟩ := lt_use h
  refine zl_sg e_s4 ?_
  refine zl_aload_n (pc := 39) hO 0 nd_GM_load_39 rfl rfl ?_
  refine zl_get0 (pc := 40) hO nd_GM_load_40 kf_GM_26 rfl (Nat.le_of_ble_eq_true rfl) rfl ?_
  refine zl_iload (pc := 43) hO nd_GM_load_43 rfl ?_
  refine zl_iload_n (pc := 45) hO 2 nd_GM_load_45 rfl rfl ?_
  obtain ⟨c_in46, h⟩ := ck_use h
  refine zl_iast (pc := 46) hO nd_GM_load_46 rfl rfl (Nat.le_of_ble_eq_true rfl) c_in46 ?_
  obtain ⟨s5, e_s5, h⟩ := lt_use h
  refine zl_sg e_s5 ?_
  refine zl_aload_n (pc := 47) hO 0 nd_GM_load_47 rfl rfl ?_
  refine zl_get0 (pc := 48) hO nd_GM_load_48 kf_GM_29 rfl (Nat.le_of_ble_eq_true rfl) rfl ?_
  refine zl_iload (pc := 51) hO nd_GM_load_51 rfl ?_
  refine zl_iload_n (pc := 53) hO 3 nd_GM_load_53 rfl rfl ?_
  obtain ⟨c_in54, h⟩ := ck_use h
  refine zl_iast (pc := 54) hO nd_GM_load_54 rfl rfl (Nat.le_of_ble_eq_true rfl) c_in54 ?_
  obtain ⟨s6, e_s6, h⟩ := lt_use h
  refine zl_sg e_s6 ?_
  refine zl_aload_n (pc := 55) hO 0 nd_GM_load_55 rfl rfl ?_
  refine zl_get0 (pc := 56) hO nd_GM_load_56 kf_GM_32 rfl (Nat.le_of_ble_eq_true rfl) rfl ?_
  refine zl_iload (pc := 59) hO nd_GM_load_59 rfl ?_
  refine zl_aload_n (pc := 61) hO 0 nd_GM_load_61 rfl rfl ?_
  refine zl_get0 (pc := 62) hO nd_GM_load_62 kf_GM_7 rfl (Nat.le_of_ble_eq_true rfl) rfl ?_
  refine zl_iload_n (pc := 65) hO 1 nd_GM_load_65 rfl rfl ?_
  refine zl_iconst (pc := 66) hO (v := 3) nd_GM_load_66 (by decide) ?_
  refine zl_iadd (pc := 67) hO nd_GM_load_67 ?_
  obtain ⟨c_in68, h⟩ := ck_use h
  refine zl_iald (pc := 68) hO nd_GM_load_68 rfl rfl (Nat.le_of_ble_eq_true rfl) c_in68 ?_
  obtain ⟨c_in69, h⟩ := ck_use h
  refine zl_iast (pc := 69) hO nd_GM_load_69 rfl rfl (Nat.le_of_ble_eq_true rfl) c_in69 ?_
  obtain ⟨s7, e_s7, h⟩ := lt_use h
  refine zl_sg e_s7 ?_
  refine zl_aload_n (pc := 70) hO 0 nd_GM_load_70 rfl rfl ?_
  refine zl_get0 (pc := 71) hO nd_GM_load_71 kf_GM_35 rfl (Nat.le_of_ble_eq_true rfl) rfl ?_
  refine zl_iload (pc := 74) hO nd_GM_load_74 rfl ?_
  refine zl_iconst (pc := 76) hO (v := 2) nd_GM_load_76 (by decide) ?_
  refine zl_iload_n (pc := 77) hO 1 nd_GM_load_77 rfl rfl ?_
  refine zl_aload_n (pc := 78) hO 0 nd_GM_load_78 rfl rfl ?_
  refine zl_get0 (pc := 79) hO nd_GM_load_79 kf_GM_7 rfl (Nat.le_of_ble_eq_true rfl) rfl ?_
  refine zl_iload_n (pc := 82) hO 1 nd_GM_load_82 rfl rfl ?_
  refine zl_iconst (pc := 83) hO (v := 4) nd_GM_load_83 (by decide) ?_
  refine zl_iadd (pc := 84) hO nd_GM_load_84 ?_
  obtain ⟨c_in85, h⟩ := ck_use h
  refine zl_iald (pc := 85) hO nd_GM_load_85 rfl rfl (Nat.le_of_ble_eq_true rfl) c_in85 ?_
  refine zl_iadd (pc := 86) hO nd_GM_load_86 ?_
  refine zl_imul (pc := 87) hO nd_GM_load_87 ?_
  obtain ⟨c_in88, h⟩ := ck_use h
  refine zl_iast (pc := 88) hO nd_GM_load_88 rfl rfl (Nat.le_of_ble_eq_true rfl) c_in88 ?_
  obtain ⟨s8, e_s8, h⟩ := lt_use h
  refine zl_sg e_s8 ?_
  refine zl_aload_n (pc := 89) hO 0 nd_GM_load_89 rfl rfl ?_
  refine zl_get0 (pc := 90) hO nd_GM_load_90 kf_GM_38 rfl (Nat.le_of_ble_eq_true rfl) rfl ?_
  refine zl_iload (pc := 93) hO nd_GM_load_93 rfl ?_
  refine zl_aload_n (pc := 95) hO 0 nd_GM_load_95 rfl rfl ?_
  refine zl_get0 (pc := 96) hO nd_GM_load_96 kf_GM_7 rfl (Nat.le_of_ble_eq_true rfl) rfl ?_
  refine zl_iload_n (pc := 99) hO 1 nd_GM_load_99 rfl rfl ?_
  refine zl_iconst (pc := 100) hO (v := 5) nd_GM_load_100 (by decide) ?_
  refine zl_iadd (pc := 101) hO nd_GM_load_101 ?_
  obtain ⟨c_in102, h⟩ := ck_use h
  refine zl_iald (pc := 102) hO nd_GM_load_102 rfl rfl (Nat.le_of_ble_eq_true rfl) c_in102 ?_
  obtain ⟨c_in103, h⟩ := ck_use h
  refine zl_iast (pc := 103) hO nd_GM_load_103 rfl rfl (Nat.le_of_ble_eq_true rfl) c_in103 ?_
  obtain ⟨s9, e_s9, h⟩ := lt_use h
  refine zl_sg e_s9 ?_
  refine zl_aload_n (pc := 104) hO 0 nd_GM_load_104 rfl rfl ?_
  refine zl_get0 (pc := 105) hO nd_GM_load_105 kf_GM_63 rfl (Nat.le_of_ble_eq_true rfl) rfl ?_
  refine zl_iload (pc := 108) hO nd_GM_load_108 rfl ?_
  refine zl_iconst (pc := 110) hO (v := 0) nd_GM_load_110 (by decide) ?_
  obtain ⟨c_in111, h⟩ := ck_use h
  refine zl_iast (pc := 111) hO nd_GM_load_111 rfl rfl (Nat.le_of_ble_eq_true rfl) c_in111 ?_
  obtain ⟨s10, e_s10, h⟩ := lt_use h
  refine zl_sg e_s10 ?_
  refine zl_aload_n (pc := 112) hO 0 nd_GM_load_112 rfl rfl ?_
  refine zl_get0 (pc := 113) hO nd_GM_load_113 kf_GM_66 rfl (Nat.le_of_ble_eq_true rfl) rfl ?_
  refine zl_iload (pc := 116) hO nd_GM_load_116 rfl ?_
  refine zl_iconst (pc := 118) hO (v := 0) nd_GM_load_118 (by decide) ?_
  obtain ⟨c_in119, h⟩ := ck_use h
  refine zl_iast (pc := 119) hO nd_GM_load_119 rfl rfl (Nat.le_of_ble_eq_true rfl) c_in119 ?_
  obtain ⟨s11, e_s11, h⟩ := lt_use h
  refine zl_sg e_s11 ?_
  refine zl_aload_n (pc := 120) hO 0 nd_GM_load_120 rfl rfl ?_
  refine zl_get0 (pc := 121) hO nd_GM_load_121 kf_GM_69 rfl (Nat.le_of_ble_eq_true rfl) rfl ?_
  refine zl_iload (pc := 124) hO nd_GM_load_124 rfl ?_
  refine zl_iconst (pc := 126) hO (v := 0) nd_GM_load_126 (by decide) ?_
  obtain ⟨c_in127, h⟩ := ck_use h
  refine zl_iast (pc := 127) hO nd_GM_load_127 rfl rfl (Nat.le_of_ble_eq_true rfl) c_in127 ?_
  obtain ⟨s12, e_s12, h⟩ := lt_use h
  refine zl_sg e_s12 ?_
  refine zl_aload_n (pc := 128) hO 0 nd_GM_load_128 rfl rfl ?_
  refine zl_iload (pc := 129) hO nd_GM_load_129 rfl ?_
  obtain ⟨s13, h_131, h⟩ := bn_use h
  refine zl_callVv (pc := 131) hO [zI x1] [] (c_GM_begin hJ h_131) nd_GM_load_131 kv_GM_128 rfl (Nat.le_of_ble_eq_true rfl) rfl rfl rfl (Nat.le_of_ble_eq_true rfl) ?_
  exact zl_vret (pc := 134) hO nd_GM_load_134 rfl (zr_v h)
set_option maxHeartbeats 4000000 in
set_option maxRecDepth 100000 in
theorem c_GM_boot {l : Launch} {V : zG} (hJ : zJ0 (sM l V)) {s0 : zS}   {s1 : zS} {v1 : Int32} (h : k_GM_boot s0 = some (s1, v1)) : zM (sM l V) md_GM_boot [zR 0 0] s0 (s1, some (zI v1)) := by
  refine zMet [some (zR 0 0), none, none, none, none, none, none] hJ (by decide) rfl (Nat.le_of_ble_eq_true rfl) rfl ?_
  intro X hO
  have J_293 : ∀ (K61 : zS → Int32 → Int32 → Option (zS × Int32)) (hK61 : ∀ (s0 : zS) (l1 : Int32) (l2 : Int32), K61 s0 l1 l2 = some (s1, v1) → ZW (sM l V) md_GM_boot (s1, some (zI v1)) X 61 [some (zR 0 0), some (zI l1), some (zI l2), none, none, none, none] [] s0), ∀ (s0 : zS) (l1 : Int32) (l2 : Int32), k_GM_boot_293 K61 s0 l1 l2 = some (s1, v1) → ZW (sM l V) md_GM_boot (s1, some (zI v1)) X 293 [some (zR 0 0), some (zI l1), some (zI l2), none, none, none, none] [] s0 := by
    intro K61 hK61
    intro s0 l1 l2 h
    unfold k_GM_boot_293 at h
    refine zl_iload_n (pc := 293) hO 1 nd_GM_boot_293 rfl rfl ?_
    refine zl_aload_n (pc := 294) hO 0 nd_GM_boot_294 rfl rfl ?_
    refine zl_get0 (pc := 295) hO nd_GM_boot_295 kf_GM_7 rfl (Nat.le_of_ble_eq_true rfl) rfl ?_
    refine zl_iload_n (pc := 298) hO 1 nd_GM_boot_298 rfl rfl ?_
    refine zl_iconst (pc := 299) hO (v := 1) nd_GM_boot_299 (by decide) ?_
    refine zl_iadd (pc := 300) hO nd_GM_boot_300 ?_
    obtain ⟨c_in301, h⟩ := ck_use h
    refine zl_iald (pc := 301) hO nd_GM_boot_301 rfl rfl (Nat.le_of_ble_eq_true rfl) c_in301 ?_
    refine zl_iadd (pc := 302) hO nd_GM_boot_302 ?_
    obtain ⟨x14, e_x14, h⟩ := lt_use h
    refine zl_top e_x14 ?_
    refine zl_istore_n (pc := 303) hO 1 (L' := [some (zR 0 0), some (zI x14), some (zI l2), none, none, none, none]) nd_GM_boot_303 rfl (by decide) rfl ?_
    refine zl_goto (pc := 304) hO 61 nd_GM_boot_304 (by decide) ?_
    exact zl_weak (hK61 _ _ _ h) ⟨rfl, ⟨rfl, ⟨rfl, trivial⟩⟩⟩
  have J_252 : ∀ (K61 : zS → Int32 → Int32 → Option (zS × Int32)) (hK61 : ∀ (s0 : zS) (l1 : Int32) (l2 : Int32), K61 s0 l1 l2 = some (s1, v1) → ZW (sM l V) md_GM_boot (s1, some (zI v1)) X 61 [some (zR 0 0), some (zI l1), some (zI l2), none, none, none, none] [] s0), ∀ (s0 : zS) (l1 : Int32) (l2 : Int32) (l4 : Int32) (l5 : Int32) (t0 : Int32), k_GM_boot_252 K61 s0 l1 l2 l4 l5 t0 = some (s1, v1) → ZW (sM l V) md_GM_boot (s1, some (zI v1)) X 252 [some (zR 0 0), some (zI l1), some (zI l2), none, some (zI l4), some (zI l5), none] [zI t0] s0 := by
    intro K61 hK61
    intro s0 l1 l2 l4 l5 t0 h
    unfold k_GM_boot_252 at h
    refine zl_istore (pc := 252) hO (L' := [some (zR 0 0), some (zI l1), some (zI l2), none, some (zI l4), some (zI l5), some (zI t0)]) nd_GM_boot_252 (by decide) rfl ?_
    refine zl_iload (pc := 254) hO nd_GM_boot_254 rfl ?_
    refine zl_if_eq (pc := 256) hO 293 nd_GM_boot_256 (by decide) (fun hc => ?_) (fun hc => ?_)
    · have h := ite_t hc h
      exact zl_weak (J_293 K61 hK61 _ _ _ h) ⟨rfl, ⟨rfl, ⟨rfl, trivial⟩⟩⟩
    · have h := ite_f hc h
      refine zl_aload_n (pc := 259) hO 0 nd_GM_boot_259 rfl rfl ?_
      refine zl_geti (pc := 260) hO nd_GM_boot_260 kf_GM_105 rfl (Nat.le_of_ble_eq_true rfl) rfl ?_
      refine zl_iconst (pc := 263) hO (v := 4) nd_GM_boot_263 (by decide) ?_
      refine zl_icmp_ge (pc := 264) hO 293 nd_GM_boot_264 (by decide) (fun hc => ?_) (fun hc => ?_)
      · have h := ite_t hc h
        exact zl_weak (J_293 K61 hK61 _ _ _ h) ⟨rfl, ⟨rfl, ⟨rfl, trivial⟩⟩⟩
      · have h := ite_f hc h
        refine zl_iload (pc := 267) hO nd_GM_boot_267 rfl ?_
        refine zl_iload (pc := 269) hO nd_GM_boot_269 rfl ?_
        refine zl_iadd (pc := 271) hO nd_GM_boot_271 ?_
        refine zl_sipush (pc := 272) hO (v := 128) nd_GM_boot_272 (by decide) ?_
        refine zl_icmp_gt (pc := 275) hO 293 nd_GM_boot_275 (by decide) (fun hc => ?_) (fun hc => ?_)
        · have h := ite_t hc h
          exact zl_weak (J_293 K61 hK61 _ _ _ h) ⟨rfl, ⟨rfl, ⟨rfl, trivial⟩⟩⟩
        · have h := ite_f hc h
          refine zl_aload_n (pc := 278) hO 0 nd_GM_boot_278 rfl rfl ?_
          refine zl_iload_n (pc := 279) hO 1 nd_GM_boot_279 rfl rfl ?_
          refine zl_iload (pc := 280) hO nd_GM_boot_280 rfl ?_
          refine zl_iload (pc := 282) hO nd_GM_boot_282 rfl ?_
          obtain ⟨s12, h_284, h⟩ := bn_use h
          refine zl_callVv (pc := 284) hO [zI l1, zI l5, zI l4] [] (c_GM_load hJ h_284) nd_GM_boot_284 kv_GM_124 rfl (Nat.le_of_ble_eq_true rfl) rfl rfl rfl (Nat.le_of_ble_eq_true rfl) ?_
          refine zl_iload (pc := 287) hO nd_GM_boot_287 rfl ?_
          refine zl_iload (pc := 289) hO nd_GM_boot_289 rfl ?_
          refine zl_iadd (pc := 291) hO nd_GM_boot_291 ?_
          obtain ⟨x13, e_x13, h⟩ := lt_use h
          refine zl_top e_x13 ?_
          refine zl_istore_n (pc := 292) hO 2 (L' := [some (zR 0 0), some (zI l1), some (zI x13), none, some (zI l4), some (zI l5), some (zI t0)]) nd_GM_boot_292 rfl (by decide) rfl ?_
          exact zl_weak (J_293 K61 hK61 _ _ _ h) ⟨rfl, ⟨rfl, ⟨rfl, trivial⟩⟩⟩
  have J_251 : ∀ (K61 : zS → Int32 → Int32 → Option (zS × Int32)) (hK61 : ∀ (s0 : zS) (l1 : Int32) (l2 : Int32), K61 s0 l1 l2 = some (s1, v1) → ZW (sM l V) md_GM_boot (s1, some (zI v1)) X 61 [some (zR 0 0), some (zI l1), some (zI l2), none, none, none, none] [] s0), ∀ (s0 : zS) (l1 : Int32) (l2 : Int32) (l4 : Int32) (l5 : Int32), k_GM_boot_251 K61 s0 l1 l2 l4 l5 = some (s1, v1) → ZW (sM l V) md_GM_boot (s1, some (zI v1)) X 251 [some (zR 0 0), some (zI l1), some (zI l2), none, some (zI l4), some (zI l5), none] [] s0 := by
    intro K61 hK61
    intro s0 l1 l2 l4 l5 h
    unfold k_GM_boot_251 at h
    refine zl_iconst (pc := 251) hO (v := 0) nd_GM_boot_251 (by decide) ?_
    exact zl_weak (J_252 K61 hK61 _ _ _ _ _ _ h) ⟨rfl, ⟨rfl, ⟨rfl, ⟨rfl, ⟨rfl, trivial⟩⟩⟩⟩⟩
  have J_155 : ∀ (K61 : zS → Int32 → Int32 → Option (zS × Int32)) (hK61 : ∀ (s0 : zS) (l1 : Int32) (l2 : Int32), K61 s0 l1 l2 = some (s1, v1) → ZW (sM l V) md_GM_boot (s1, some (zI v1)) X 61 [some (zR 0 0), some (zI l1), some (zI l2), none, none, none, none] [] s0), ∀ (s0 : zS) (l1 : Int32) (l2 : Int32) (l3 : Int32) (t0 : Int32), k_GM_boot_155 K61 s0 l1 l2 l3 t0 = some (s1, v1) → ZW (sM l V) md_GM_boot (s1, some (zI v1)) X 155 [some (zR 0 0), some (zI l1), some (zI l2), some (zI l3), none, none, none] [zI t0] s0 := by
    intro K61 hK61
    intro s0 l1 l2 l3 t0 h
    unfold k_GM_boot_155 at h
    refine zl_istore (pc := 155) hO (L' := [some (zR 0 0), some (zI l1), some (zI l2), some (zI l3), some (zI t0), none, none]) nd_GM_boot_155 (by decide) rfl ?_
    refine zl_iload_n (pc := 157) hO 2 nd_GM_boot_157 rfl rfl ?_
    refine zl_iload (pc := 158) hO nd_GM_boot_158 rfl ?_
    refine zl_iadd (pc := 160) hO nd_GM_boot_160 ?_
    refine zl_iconst (pc := 161) hO (v := 1) nd_GM_boot_161 (by decide) ?_
    refine zl_isub (pc := 162) hO nd_GM_boot_162 ?_
    refine zl_iload (pc := 163) hO nd_GM_boot_163 rfl ?_
    obtain ⟨c_div165, h⟩ := ck_use h
    refine zl_idiv (pc := 165) hO nd_GM_boot_165 c_div165 ?_
    refine zl_iload (pc := 166) hO nd_GM_boot_166 rfl ?_
    refine zl_imul (pc := 168) hO nd_GM_boot_168 ?_
    obtain ⟨x11, e_x11, h⟩ := lt_use h
    refine zl_top e_x11 ?_
    refine zl_istore (pc := 169) hO (L' := [some (zR 0 0), some (zI l1), some (zI l2), some (zI l3), some (zI t0), some (zI x11), none]) nd_GM_boot_169 (by decide) rfl ?_
    refine zl_iload_n (pc := 171) hO 3 nd_GM_boot_171 rfl rfl ?_
    refine zl_iconst (pc := 172) hO (v := 2) nd_GM_boot_172 (by decide) ?_
    refine zl_icmp_gt (pc := 173) hO 251 nd_GM_boot_173 (by decide) (fun hc => ?_) (fun hc => ?_)
    · have h := ite_t hc h
      exact zl_weak (J_251 K61 hK61 _ _ _ _ _ h) ⟨rfl, ⟨rfl, ⟨rfl, ⟨rfl, ⟨rfl, trivial⟩⟩⟩⟩⟩
    · have h := ite_f hc h
      refine zl_aload_n (pc := 176) hO 0 nd_GM_boot_176 rfl rfl ?_
      refine zl_get0 (pc := 177) hO nd_GM_boot_177 kf_GM_7 rfl (Nat.le_of_ble_eq_true rfl) rfl ?_
      refine zl_iload_n (pc := 180) hO 1 nd_GM_boot_180 rfl rfl ?_
      refine zl_iconst (pc := 181) hO (v := 3) nd_GM_boot_181 (by decide) ?_
      refine zl_iadd (pc := 182) hO nd_GM_boot_182 ?_
      obtain ⟨c_in183, h⟩ := ck_use h
      refine zl_iald (pc := 183) hO nd_GM_boot_183 rfl rfl (Nat.le_of_ble_eq_true rfl) c_in183 ?_
      refine zl_bipush (pc := 184) hO (v := 8) nd_GM_boot_184 (by decide) ?_
      refine zl_icmp_lt (pc := 186) hO 251 nd_GM_boot_186 (by decide) (fun hc => ?_) (fun hc => ?_)
      · have h := ite_t hc h
        exact zl_weak (J_251 K61 hK61 _ _ _ _ _ h) ⟨rfl, ⟨rfl, ⟨rfl, ⟨rfl, ⟨rfl, trivial⟩⟩⟩⟩⟩
      · have h := ite_f hc h
        refine zl_aload_n (pc := 189) hO 0 nd_GM_boot_189 rfl rfl ?_
        refine zl_get0 (pc := 190) hO nd_GM_boot_190 kf_GM_7 rfl (Nat.le_of_ble_eq_true rfl) rfl ?_
        refine zl_iload_n (pc := 193) hO 1 nd_GM_boot_193 rfl rfl ?_
        refine zl_iconst (pc := 194) hO (v := 3) nd_GM_boot_194 (by decide) ?_
        refine zl_iadd (pc := 195) hO nd_GM_boot_195 ?_
        obtain ⟨c_in196, h⟩ := ck_use h
        refine zl_iald (pc := 196) hO nd_GM_boot_196 rfl rfl (Nat.le_of_ble_eq_true rfl) c_in196 ?_
        refine zl_iload (pc := 197) hO nd_GM_boot_197 rfl ?_
        refine zl_icmp_gt (pc := 199) hO 251 nd_GM_boot_199 (by decide) (fun hc => ?_) (fun hc => ?_)
        · have h := ite_t hc h
          exact zl_weak (J_251 K61 hK61 _ _ _ _ _ h) ⟨rfl, ⟨rfl, ⟨rfl, ⟨rfl, ⟨rfl, trivial⟩⟩⟩⟩⟩
        · have h := ite_f hc h
          refine zl_aload_n (pc := 202) hO 0 nd_GM_boot_202 rfl rfl ?_
          refine zl_get0 (pc := 203) hO nd_GM_boot_203 kf_GM_7 rfl (Nat.le_of_ble_eq_true rfl) rfl ?_
          refine zl_iload_n (pc := 206) hO 1 nd_GM_boot_206 rfl rfl ?_
          refine zl_iconst (pc := 207) hO (v := 4) nd_GM_boot_207 (by decide) ?_
          refine zl_iadd (pc := 208) hO nd_GM_boot_208 ?_
          obtain ⟨c_in209, h⟩ := ck_use h
          refine zl_iald (pc := 209) hO nd_GM_boot_209 rfl rfl (Nat.le_of_ble_eq_true rfl) c_in209 ?_
          refine zl_bipush (pc := 210) hO (v := 6) nd_GM_boot_210 (by decide) ?_
          refine zl_icmp_lt (pc := 212) hO 251 nd_GM_boot_212 (by decide) (fun hc => ?_) (fun hc => ?_)
          · have h := ite_t hc h
            exact zl_weak (J_251 K61 hK61 _ _ _ _ _ h) ⟨rfl, ⟨rfl, ⟨rfl, ⟨rfl, ⟨rfl, trivial⟩⟩⟩⟩⟩
          · have h := ite_f hc h
            refine zl_aload_n (pc := 215) hO 0 nd_GM_boot_215 rfl rfl ?_
            refine zl_get0 (pc := 216) hO nd_GM_boot_216 kf_GM_7 rfl (Nat.le_of_ble_eq_true rfl) rfl ?_
            refine zl_iload_n (pc := 219) hO 1 nd_GM_boot_219 rfl rfl ?_
            refine zl_iconst (pc := 220) hO (v := 4) nd_GM_boot_220 (by decide) ?_
            refine zl_iadd (pc := 221) hO nd_GM_boot_221 ?_
            obtain ⟨c_in222, h⟩ := ck_use h
            refine zl_iald (pc := 222) hO nd_GM_boot_222 rfl rfl (Nat.le_of_ble_eq_true rfl) c_in222 ?_
            refine zl_aload_n (pc := 223) hO 0 nd_GM_boot_223 rfl rfl ?_
            refine zl_get0 (pc := 224) hO nd_GM_boot_224 kf_GM_7 rfl (Nat.le_of_ble_eq_true rfl) rfl ?_
            refine zl_iload_n (pc := 227) hO 1 nd_GM_boot_227 rfl rfl ?_
            refine zl_iconst (pc := 228) hO (v := 1) nd_GM_boot_228 (by decide) ?_
            refine zl_iadd (pc := 229) hO nd_GM_boot_229 ?_
            obtain ⟨c_in230, h⟩ := ck_use h
            refine zl_iald (pc := 230) hO nd_GM_boot_230 rfl rfl (Nat.le_of_ble_eq_true rfl) c_in230 ?_
            refine zl_icmp_ge (pc := 231) hO 251 nd_GM_boot_231 (by decide) (fun hc => ?_) (fun hc => ?_)
            · have h := ite_t hc h
              exact zl_weak (J_251 K61 hK61 _ _ _ _ _ h) ⟨rfl, ⟨rfl, ⟨rfl, ⟨rfl, ⟨rfl, trivial⟩⟩⟩⟩⟩
            · have h := ite_f hc h
              refine zl_aload_n (pc := 234) hO 0 nd_GM_boot_234 rfl rfl ?_
              refine zl_get0 (pc := 235) hO nd_GM_boot_235 kf_GM_7 rfl (Nat.le_of_ble_eq_true rfl) rfl ?_
              refine zl_iload_n (pc := 238) hO 1 nd_GM_boot_238 rfl rfl ?_
              refine zl_iconst (pc := 239) hO (v := 5) nd_GM_boot_239 (by decide) ?_
              refine zl_iadd (pc := 240) hO nd_GM_boot_240 ?_
              obtain ⟨c_in241, h⟩ := ck_use h
              refine zl_iald (pc := 241) hO nd_GM_boot_241 rfl rfl (Nat.le_of_ble_eq_true rfl) c_in241 ?_
              refine zl_bipush (pc := 242) hO (v := 15) nd_GM_boot_242 (by decide) ?_
              refine zl_icmp_gt (pc := 244) hO 251 nd_GM_boot_244 (by decide) (fun hc => ?_) (fun hc => ?_)
              · have h := ite_t hc h
                exact zl_weak (J_251 K61 hK61 _ _ _ _ _ h) ⟨rfl, ⟨rfl, ⟨rfl, ⟨rfl, ⟨rfl, trivial⟩⟩⟩⟩⟩
              · have h := ite_f hc h
                refine zl_iconst (pc := 247) hO (v := 1) nd_GM_boot_247 (by decide) ?_
                refine zl_goto (pc := 248) hO 252 nd_GM_boot_248 (by decide) ?_
                exact zl_weak (J_252 K61 hK61 _ _ _ _ _ _ h) ⟨rfl, ⟨rfl, ⟨rfl, ⟨rfl, ⟨rfl, trivial⟩⟩⟩⟩⟩
  have J_61 : ∀ (n : Nat), ∀ (s0 : zS) (l1 : Int32) (l2 : Int32), k_GM_boot_61 n s0 l1 l2 = some (s1, v1) → ZW (sM l V) md_GM_boot (s1, some (zI v1)) X 61 [some (zR 0 0), some (zI l1), some (zI l2), none, none, none, none] [] s0 := by
    intro n
    induction n with
    | zero => intro s0 l1 l2 h; exact absurd h (by rw [k_GM_boot_61]; exact fun w => nomatch w)
    | succ n ih =>
      intro s0 l1 l2 h
      rw [k_GM_boot_61]  at h
      refine zl_iload_n (pc := 61) hO 1 nd_GM_boot_61 rfl rfl ?_
      refine zl_bipush (pc := 62) hO (v := 6) nd_GM_boot_62 (by decide) ?_
      refine zl_iadd (pc := 64) hO nd_GM_boot_64 ?_
      refine zl_sipush (pc := 65) hO (v := 256) nd_GM_boot_65 (by decide) ?_
      refine zl_icmp_gt (pc := 68) hO 307 nd_GM_boot_68 (by decide) (fun hc => ?_) (fun hc => ?_)
      · have h := ite_t hc h
        refine zl_aload_n (pc := 307) hO 0 nd_GM_boot_307 rfl rfl ?_
        refine zl_geti (pc := 308) hO nd_GM_boot_308 kf_GM_105 rfl (Nat.le_of_ble_eq_true rfl) rfl ?_
        exact zl_iret (pc := 311) hO nd_GM_boot_311 rfl (zr_i h)
      · have h := ite_f hc h
        refine zl_aload_n (pc := 71) hO 0 nd_GM_boot_71 rfl rfl ?_
        refine zl_get0 (pc := 72) hO nd_GM_boot_72 kf_GM_7 rfl (Nat.le_of_ble_eq_true rfl) rfl ?_
        refine zl_iload_n (pc := 75) hO 1 nd_GM_boot_75 rfl rfl ?_
        obtain ⟨c_in76, h⟩ := ck_use h
        refine zl_iald (pc := 76) hO nd_GM_boot_76 rfl rfl (Nat.le_of_ble_eq_true rfl) c_in76 ?_
        refine zl_sipush (pc := 77) hO (v := 21570) nd_GM_boot_77 (by decide) ?_
        refine zl_icmp_ne (pc := 80) hO 307 nd_GM_boot_80 (by decide) (fun hc => ?_) (fun hc => ?_)
        · have h := ite_f hc h
          refine zl_aload_n (pc := 307) hO 0 nd_GM_boot_307 rfl rfl ?_
          refine zl_geti (pc := 308) hO nd_GM_boot_308 kf_GM_105 rfl (Nat.le_of_ble_eq_true rfl) rfl ?_
          exact zl_iret (pc := 311) hO nd_GM_boot_311 rfl (zr_i h)
        · have h := ite_t hc h
          refine zl_aload_n (pc := 83) hO 0 nd_GM_boot_83 rfl rfl ?_
          refine zl_get0 (pc := 84) hO nd_GM_boot_84 kf_GM_7 rfl (Nat.le_of_ble_eq_true rfl) rfl ?_
          refine zl_iload_n (pc := 87) hO 1 nd_GM_boot_87 rfl rfl ?_
          refine zl_iconst (pc := 88) hO (v := 1) nd_GM_boot_88 (by decide) ?_
          refine zl_iadd (pc := 89) hO nd_GM_boot_89 ?_
          obtain ⟨c_in90, h⟩ := ck_use h
          refine zl_iald (pc := 90) hO nd_GM_boot_90 rfl rfl (Nat.le_of_ble_eq_true rfl) c_in90 ?_
          refine zl_bipush (pc := 91) hO (v := 8) nd_GM_boot_91 (by decide) ?_
          refine zl_icmp_lt (pc := 93) hO 307 nd_GM_boot_93 (by decide) (fun hc => ?_) (fun hc => ?_)
          · have h := ite_t hc h
            refine zl_aload_n (pc := 307) hO 0 nd_GM_boot_307 rfl rfl ?_
            refine zl_geti (pc := 308) hO nd_GM_boot_308 kf_GM_105 rfl (Nat.le_of_ble_eq_true rfl) rfl ?_
            exact zl_iret (pc := 311) hO nd_GM_boot_311 rfl (zr_i h)
          · have h := ite_f hc h
            refine zl_aload_n (pc := 96) hO 0 nd_GM_boot_96 rfl rfl ?_
            refine zl_get0 (pc := 97) hO nd_GM_boot_97 kf_GM_7 rfl (Nat.le_of_ble_eq_true rfl) rfl ?_
            refine zl_iload_n (pc := 100) hO 1 nd_GM_boot_100 rfl rfl ?_
            refine zl_iconst (pc := 101) hO (v := 1) nd_GM_boot_101 (by decide) ?_
            refine zl_iadd (pc := 102) hO nd_GM_boot_102 ?_
            obtain ⟨c_in103, h⟩ := ck_use h
            refine zl_iald (pc := 103) hO nd_GM_boot_103 rfl rfl (Nat.le_of_ble_eq_true rfl) c_in103 ?_
            refine zl_iconst (pc := 104) hO (v := 2) nd_GM_boot_104 (by decide) ?_
            obtain ⟨c_div105, h⟩ := ck_use h
            refine zl_irem (pc := 105) hO nd_GM_boot_105 c_div105 ?_
            refine zl_if_ne (pc := 106) hO 307 nd_GM_boot_106 (by decide) (fun hc => ?_) (fun hc => ?_)
            · have h := ite_f hc h
              refine zl_aload_n (pc := 307) hO 0 nd_GM_boot_307 rfl rfl ?_
              refine zl_geti (pc := 308) hO nd_GM_boot_308 kf_GM_105 rfl (Nat.le_of_ble_eq_true rfl) rfl ?_
              exact zl_iret (pc := 311) hO nd_GM_boot_311 rfl (zr_i h)
            · have h := ite_t hc h
              refine zl_iload_n (pc := 109) hO 1 nd_GM_boot_109 rfl rfl ?_
              refine zl_aload_n (pc := 110) hO 0 nd_GM_boot_110 rfl rfl ?_
              refine zl_get0 (pc := 111) hO nd_GM_boot_111 kf_GM_7 rfl (Nat.le_of_ble_eq_true rfl) rfl ?_
              refine zl_iload_n (pc := 114) hO 1 nd_GM_boot_114 rfl rfl ?_
              refine zl_iconst (pc := 115) hO (v := 1) nd_GM_boot_115 (by decide) ?_
              refine zl_iadd (pc := 116) hO nd_GM_boot_116 ?_
              obtain ⟨c_in117, h⟩ := ck_use h
              refine zl_iald (pc := 117) hO nd_GM_boot_117 rfl rfl (Nat.le_of_ble_eq_true rfl) c_in117 ?_
              refine zl_iadd (pc := 118) hO nd_GM_boot_118 ?_
              refine zl_sipush (pc := 119) hO (v := 256) nd_GM_boot_119 (by decide) ?_
              refine zl_icmp_gt (pc := 122) hO 307 nd_GM_boot_122 (by decide) (fun hc => ?_) (fun hc => ?_)
              · have h := ite_t hc h
                refine zl_aload_n (pc := 307) hO 0 nd_GM_boot_307 rfl rfl ?_
                refine zl_geti (pc := 308) hO nd_GM_boot_308 kf_GM_105 rfl (Nat.le_of_ble_eq_true rfl) rfl ?_
                exact zl_iret (pc := 311) hO nd_GM_boot_311 rfl (zr_i h)
              · have h := ite_f hc h
                refine zl_aload_n (pc := 125) hO 0 nd_GM_boot_125 rfl rfl ?_
                refine zl_get0 (pc := 126) hO nd_GM_boot_126 kf_GM_7 rfl (Nat.le_of_ble_eq_true rfl) rfl ?_
                refine zl_iload_n (pc := 129) hO 1 nd_GM_boot_129 rfl rfl ?_
                refine zl_iconst (pc := 130) hO (v := 2) nd_GM_boot_130 (by decide) ?_
                refine zl_iadd (pc := 131) hO nd_GM_boot_131 ?_
                obtain ⟨c_in132, h⟩ := ck_use h
                refine zl_iald (pc := 132) hO nd_GM_boot_132 rfl rfl (Nat.le_of_ble_eq_true rfl) c_in132 ?_
                obtain ⟨x10, e_x10, h⟩ := lt_use h
                refine zl_top e_x10 ?_
                refine zl_istore_n (pc := 133) hO 3 (L' := [some (zR 0 0), some (zI l1), some (zI l2), some (zI x10), none, none, none]) nd_GM_boot_133 rfl (by decide) rfl ?_
                refine zl_iload_n (pc := 134) hO 3 nd_GM_boot_134 rfl rfl ?_
                refine zl_if_ne (pc := 135) hO 143 nd_GM_boot_135 (by decide) (fun hc => ?_) (fun hc => ?_)
                · have h := ite_f hc h
                  refine zl_iload_n (pc := 143) hO 3 nd_GM_boot_143 rfl rfl ?_
                  refine zl_iconst (pc := 144) hO (v := 1) nd_GM_boot_144 (by decide) ?_
                  refine zl_icmp_ne (pc := 145) hO 153 nd_GM_boot_145 (by decide) (fun hc => ?_) (fun hc => ?_)
                  · have h := ite_f hc h
                    refine zl_bipush (pc := 153) hO (v := 64) nd_GM_boot_153 (by decide) ?_
                    exact zl_weak (J_155 (k_GM_boot_61 n) ih _ _ _ _ _ h) ⟨rfl, ⟨rfl, ⟨rfl, ⟨rfl, trivial⟩⟩⟩⟩
                  · have h := ite_t hc h
                    refine zl_bipush (pc := 148) hO (v := 32) nd_GM_boot_148 (by decide) ?_
                    refine zl_goto (pc := 150) hO 155 nd_GM_boot_150 (by decide) ?_
                    exact zl_weak (J_155 (k_GM_boot_61 n) ih _ _ _ _ _ h) ⟨rfl, ⟨rfl, ⟨rfl, ⟨rfl, trivial⟩⟩⟩⟩
                · have h := ite_t hc h
                  refine zl_bipush (pc := 138) hO (v := 16) nd_GM_boot_138 (by decide) ?_
                  refine zl_goto (pc := 140) hO 155 nd_GM_boot_140 (by decide) ?_
                  exact zl_weak (J_155 (k_GM_boot_61 n) ih _ _ _ _ _ h) ⟨rfl, ⟨rfl, ⟨rfl, ⟨rfl, trivial⟩⟩⟩⟩
  have J_2 : ∀ (n : Nat), ∀ (s0 : zS) (l1 : Int32), k_GM_boot_2 n s0 l1 = some (s1, v1) → ZW (sM l V) md_GM_boot (s1, some (zI v1)) X 2 [some (zR 0 0), some (zI l1), none, none, none, none, none] [] s0 := by
    intro n
    induction n with
    | zero => intro s0 l1 h; exact absurd h (by rw [k_GM_boot_2]; exact fun w => nomatch w)
    | succ n ih =>
      intro s0 l1 h
      rw [k_GM_boot_2]  at h
      refine zl_iload_n (pc := 2) hO 1 nd_GM_boot_2 rfl rfl ?_
      refine zl_sipush (pc := 3) hO (v := 128) nd_GM_boot_3 (by decide) ?_
      refine zl_icmp_ge (pc := 6) hO 22 nd_GM_boot_6 (by decide) (fun hc => ?_) (fun hc => ?_)
      · have h := ite_t hc h
        refine zl_aload_n (pc := 22) hO 0 nd_GM_boot_22 rfl rfl ?_
        refine zl_iconst (pc := 23) hO (v := 0) nd_GM_boot_23 (by decide) ?_
        refine zl_puti (pc := 24) hO nd_GM_boot_24 kp_GM_109 rfl (Nat.le_of_ble_eq_true rfl) rfl ?_
        obtain ⟨s1, e_s1, h⟩ := lt_use h
        refine zl_sg e_s1 ?_
        refine zl_aload_n (pc := 27) hO 0 nd_GM_boot_27 rfl rfl ?_
        refine zl_iconst (pc := 28) hO (v := 0) nd_GM_boot_28 (by decide) ?_
        refine zl_puti (pc := 29) hO nd_GM_boot_29 kp_GM_112 rfl (Nat.le_of_ble_eq_true rfl) rfl ?_
        obtain ⟨s2, e_s2, h⟩ := lt_use h
        refine zl_sg e_s2 ?_
        refine zl_aload_n (pc := 32) hO 0 nd_GM_boot_32 rfl rfl ?_
        refine zl_iconst (pc := 33) hO (v := 0) nd_GM_boot_33 (by decide) ?_
        refine zl_puti (pc := 34) hO nd_GM_boot_34 kp_GM_115 rfl (Nat.le_of_ble_eq_true rfl) rfl ?_
        obtain ⟨s3, e_s3, h⟩ := lt_use h
        refine zl_sg e_s3 ?_
        refine zl_aload_n (pc := 37) hO 0 nd_GM_boot_37 rfl rfl ?_
        refine zl_iconst (pc := 38) hO (v := (-1)) nd_GM_boot_38 (by decide) ?_
        refine zl_puti (pc := 39) hO nd_GM_boot_39 kp_GM_16 rfl (Nat.le_of_ble_eq_true rfl) rfl ?_
        obtain ⟨s4, e_s4, h⟩ := lt_use h
        refine zl_sg e_s4 ?_
        refine zl_aload_n (pc := 42) hO 0 nd_GM_boot_42 rfl rfl ?_
        refine zl_iconst (pc := 43) hO (v := 0) nd_GM_boot_43 (by decide) ?_
        refine zl_puti (pc := 44) hO nd_GM_boot_44 kp_GM_118 rfl (Nat.le_of_ble_eq_true rfl) rfl ?_
        obtain ⟨s5, e_s5, h⟩ := lt_use h
        refine zl_sg e_s5 ?_
        refine zl_aload_n (pc := 47) hO 0 nd_GM_boot_47 rfl rfl ?_
        refine zl_iconst (pc := 48) hO (v := 0) nd_GM_boot_48 (by decide) ?_
        refine zl_puti (pc := 49) hO nd_GM_boot_49 kp_GM_105 rfl (Nat.le_of_ble_eq_true rfl) rfl ?_
        obtain ⟨s6, e_s6, h⟩ := lt_use h
        refine zl_sg e_s6 ?_
        refine zl_aload_n (pc := 52) hO 0 nd_GM_boot_52 rfl rfl ?_
        refine zl_iconst (pc := 53) hO (v := 0) nd_GM_boot_53 (by decide) ?_
        refine zl_puti (pc := 54) hO nd_GM_boot_54 kp_GM_121 rfl (Nat.le_of_ble_eq_true rfl) rfl ?_
        obtain ⟨s7, e_s7, h⟩ := lt_use h
        refine zl_sg e_s7 ?_
        refine zl_iconst (pc := 57) hO (v := 0) nd_GM_boot_57 (by decide) ?_
        refine zl_istore_n (pc := 58) hO 1 (L' := [some (zR 0 0), some (zI 0), none, none, none, none, none]) nd_GM_boot_58 rfl (by decide) rfl ?_
        refine zl_iconst (pc := 59) hO (v := 0) nd_GM_boot_59 (by decide) ?_
        refine zl_istore_n (pc := 60) hO 2 (L' := [some (zR 0 0), some (zI 0), some (zI 0), none, none, none, none]) nd_GM_boot_60 rfl (by decide) rfl ?_
        exact zl_weak (J_61 FU _ _ _ h) ⟨rfl, ⟨rfl, ⟨rfl, trivial⟩⟩⟩
      · have h := ite_f hc h
        refine zl_aload_n (pc := 9) hO 0 nd_GM_boot_9 rfl rfl ?_
        refine zl_get0 (pc := 10) hO nd_GM_boot_10 kf_GM_13 rfl (Nat.le_of_ble_eq_true rfl) rfl ?_
        refine zl_iload_n (pc := 13) hO 1 nd_GM_boot_13 rfl rfl ?_
        refine zl_iconst (pc := 14) hO (v := 0) nd_GM_boot_14 (by decide) ?_
        obtain ⟨c_in15, h⟩ := ck_use h
        refine zl_iast (pc := 15) hO nd_GM_boot_15 rfl rfl (Nat.le_of_ble_eq_true rfl) c_in15 ?_
        obtain ⟨s8, e_s8, h⟩ := lt_use h
        refine zl_sg e_s8 ?_
        obtain ⟨x9, e_x9, h⟩ := lt_use h
        refine zl_iinc (pc := 16) hO (L' := [some (zR 0 0), some (zI x9), none, none, none, none, none]) nd_GM_boot_16 rfl e_x9.symm (by decide) rfl ?_
        refine zl_goto (pc := 19) hO 2 nd_GM_boot_19 (by decide) ?_
        exact zl_weak (ih _ _ h) ⟨rfl, ⟨rfl, trivial⟩⟩
  unfold k_GM_boot at h
  refine zl_iconst (pc := 0) hO (v := 0) nd_GM_boot_0 (by decide) ?_
  refine zl_istore_n (pc := 1) hO 1 (L' := [some (zR 0 0), some (zI 0), none, none, none, none, none]) nd_GM_boot_1 rfl (by decide) rfl ?_
  exact zl_weak (J_2 FU _ _ h) ⟨rfl, ⟨rfl, trivial⟩⟩
set_option maxHeartbeats 4000000 in
set_option maxRecDepth 100000 in
theorem c_GM_halt {l : Launch} {V : zG} (hJ : zJ0 (sM l V)) {s0 : zS} {a1 : Int32}  {s1 : zS} (h : k_GM_halt s0 a1 = some s1) : zM (sM l V) md_GM_halt [zR 0 0, zI a1] s0 (s1, none) := by
  refine zMet [some (zR 0 0), some (zI a1)] hJ (by decide) rfl (Nat.le_of_ble_eq_true rfl) rfl ?_
  intro X hO
  unfold k_GM_halt at h
  refine zl_aload_n (pc := 0) hO 0 nd_GM_halt_0 rfl rfl ?_
  refine zl_iload_n (pc := 1) hO 1 nd_GM_halt_1 rfl rfl ?_
  obtain ⟨s1, h_2, h⟩ := bn_use h
  refine zl_callVv (pc := 2) hO [zI a1] [] (c_GM_forget hJ h_2) nd_GM_halt_2 kv_GM_132 rfl (Nat.le_of_ble_eq_true rfl) rfl rfl rfl (Nat.le_of_ble_eq_true rfl) ?_
  refine zl_aload_n (pc := 5) hO 0 nd_GM_halt_5 rfl rfl ?_
  refine zl_get0 (pc := 6) hO nd_GM_halt_6 kf_GM_41 rfl (Nat.le_of_ble_eq_true rfl) rfl ?_
  refine zl_iload_n (pc := 9) hO 1 nd_GM_halt_9 rfl rfl ?_
  refine zl_iconst (pc := 10) hO (v := 2) nd_GM_halt_10 (by decide) ?_
  obtain ⟨c_in11, h⟩ := ck_use h
  refine zl_iast (pc := 11) hO nd_GM_halt_11 rfl rfl (Nat.le_of_ble_eq_true rfl) c_in11 ?_
  obtain ⟨s2, e_s2, h⟩ := lt_use h
  refine zl_sg e_s2 ?_
  exact zl_vret (pc := 12) hO nd_GM_halt_12 rfl (zr_v h)
set_option maxHeartbeats 4000000 in
set_option maxRecDepth 100000 in
theorem c_GM_openWords {l : Launch} {V : zG} (hJ : zJ0 (sM l V)) {s0 : zS} {a1 : Int32} {a2 : Int32}  {s1 : zS} {v1 : Int32} (h : k_GM_openWords s0 a1 a2 = some (s1, v1)) : zM (sM l V) md_GM_openWords [zR 0 0, zI a1, zI a2] s0 (s1, some (zI v1)) := by
  refine zMet [some (zR 0 0), some (zI a1), some (zI a2), none] hJ (by decide) rfl (Nat.le_of_ble_eq_true rfl) rfl ?_
  intro X hO
  unfold k_GM_openWords at h
  refine zl_aload_n (pc := 0) hO 0 nd_GM_openWords_0 rfl rfl ?_
  refine zl_get0 (pc := 1) hO nd_GM_openWords_1 kf_GM_29 rfl (Nat.le_of_ble_eq_true rfl) rfl ?_
  refine zl_iload_n (pc := 4) hO 1 nd_GM_openWords_4 rfl rfl ?_
  obtain ⟨c_in5, h⟩ := ck_use h
  refine zl_iald (pc := 5) hO nd_GM_openWords_5 rfl rfl (Nat.le_of_ble_eq_true rfl) c_in5 ?_
  refine zl_bipush (pc := 6) hO (v := 8) nd_GM_openWords_6 (by decide) ?_
  obtain ⟨c_div8, h⟩ := ck_use h
  refine zl_idiv (pc := 8) hO nd_GM_openWords_8 c_div8 ?_
  obtain ⟨x1, e_x1, h⟩ := lt_use h
  refine zl_top e_x1 ?_
  refine zl_istore_n (pc := 9) hO 3 (L' := [some (zR 0 0), some (zI a1), some (zI a2), some (zI x1)]) nd_GM_openWords_9 rfl (by decide) rfl ?_
  refine zl_aload_n (pc := 10) hO 0 nd_GM_openWords_10 rfl rfl ?_
  refine zl_get0 (pc := 11) hO nd_GM_openWords_11 kf_GM_29 rfl (Nat.le_of_ble_eq_true rfl) rfl ?_
  refine zl_iload_n (pc := 14) hO 1 nd_GM_openWords_14 rfl rfl ?_
  obtain ⟨c_in15, h⟩ := ck_use h
  refine zl_iald (pc := 15) hO nd_GM_openWords_15 rfl rfl (Nat.le_of_ble_eq_true rfl) c_in15 ?_
  refine zl_iload_n (pc := 16) hO 2 nd_GM_openWords_16 rfl rfl ?_
  refine zl_isub (pc := 17) hO nd_GM_openWords_17 ?_
  refine zl_iload_n (pc := 18) hO 3 nd_GM_openWords_18 rfl rfl ?_
  obtain ⟨c_div19, h⟩ := ck_use h
  refine zl_idiv (pc := 19) hO nd_GM_openWords_19 c_div19 ?_
  refine zl_iload_n (pc := 20) hO 3 nd_GM_openWords_20 rfl rfl ?_
  refine zl_imul (pc := 21) hO nd_GM_openWords_21 ?_
  exact zl_iret (pc := 22) hO nd_GM_openWords_22 rfl (zr_i h)
