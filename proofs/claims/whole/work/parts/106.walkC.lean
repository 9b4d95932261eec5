set_option maxHeartbeats 4000000 in
set_option maxRecDepth 100000 in
theorem c_GK_restart {l : Launch} {V : zG} (hJ : zJ0 (sC l V)) {s0 : zS} {a1 : Int32}  {s1 : zS} {v1 : Int32} (h : k_GK_restart s0 a1 = some (s1, v1)) : zM (sC l V) md_GK_restart [zR 0 0, zI a1] s0 (s1, some (zI v1)) := by
  refine zMet [some (zR 0 0), some (zI a1), none] hJ (by decide) rfl (Nat.le_of_ble_eq_true rfl) rfl ?_
  intro X hO
  unfold k_GK_restart at h
  refine zl_aload_n (pc := 0) hO 0 nd_GK_restart_0 rfl rfl ?_
  refine zl_iload_n (pc := 1) hO 1 nd_GK_restart_1 rfl rfl ?_
  obtain ⟨⟨s1, r2⟩, h_2, h⟩ := bn_use h
  refine zl_callVi (pc := 2) hO [zI a1] [] (c_GK_find hJ h_2) nd_GK_restart_2 kv_GK_119 rfl (Nat.le_of_ble_eq_true rfl) rfl rfl rfl (Nat.le_of_ble_eq_true rfl) ?_
  refine zl_astore_n (pc := 5) hO 2 (L' := [some (zR 0 0), some (zI a1), some (zQv r2)]) nd_GK_restart_5 rfl (by decide) rfl ?_
  refine zl_aload_n (pc := 6) hO 2 nd_GK_restart_6 rfl rfl ?_
  cases r2 with
  | none =>
    refine zl_ifnonnullN (pc := 7) hO nd_GK_restart_7 ?_
    refine zl_iconst (pc := 10) hO (v := 0) nd_GK_restart_10 (by decide) ?_
    exact zl_zret (pc := 11) hO nd_GK_restart_11 rfl (by decide) (zr_i h)
  | some q3 =>
    have b_q3 := (k_GK_find_lt h_2)
    refine zl_ifnonnull (pc := 7) hO 12 nd_GK_restart_7 (by decide) ?_
    refine zl_aload_n (pc := 12) hO 2 nd_GK_restart_12 rfl rfl ?_
    obtain ⟨s4, h_13, h⟩ := bn_use h
    refine zl_callVv (pc := 13) hO [] [] (c_BP_begin hJ b_q3 h_13) nd_GK_restart_13 kv_GK_165 rfl b_q3 rfl rfl rfl (Nat.le_of_ble_eq_true rfl) ?_
    refine zl_iconst (pc := 16) hO (v := 1) nd_GK_restart_16 (by decide) ?_
    exact zl_zret (pc := 17) hO nd_GK_restart_17 rfl (by decide) (zr_i h)
set_option maxHeartbeats 4000000 in
set_option maxRecDepth 100000 in
theorem c_GK_stop {l : Launch} {V : zG} (hJ : zJ0 (sC l V)) {s0 : zS} {a1 : Int32}  {s1 : zS} {v1 : Int32} (h : k_GK_stop s0 a1 = some (s1, v1)) : zM (sC l V) md_GK_stop [zR 0 0, zI a1] s0 (s1, some (zI v1)) := by
  refine zMet [some (zR 0 0), some (zI a1), none] hJ (by decide) rfl (Nat.le_of_ble_eq_true rfl) rfl ?_
  intro X hO
  unfold k_GK_stop at h
  refine zl_aload_n (pc := 0) hO 0 nd_GK_stop_0 rfl rfl ?_
  refine zl_iload_n (pc := 1) hO 1 nd_GK_stop_1 rfl rfl ?_
  obtain ⟨⟨s1, r2⟩, h_2, h⟩ := bn_use h
  refine zl_callVi (pc := 2) hO [zI a1] [] (c_GK_find hJ h_2) nd_GK_stop_2 kv_GK_119 rfl (Nat.le_of_ble_eq_true rfl) rfl rfl rfl (Nat.le_of_ble_eq_true rfl) ?_
  refine zl_astore_n (pc := 5) hO 2 (L' := [some (zR 0 0), some (zI a1), some (zQv r2)]) nd_GK_stop_5 rfl (by decide) rfl ?_
  refine zl_aload_n (pc := 6) hO 2 nd_GK_stop_6 rfl rfl ?_
  cases r2 with
  | none =>
    refine zl_ifnullN (pc := 7) hO 18 nd_GK_stop_7 (by decide) ?_
    refine zl_iconst (pc := 18) hO (v := 0) nd_GK_stop_18 (by decide) ?_
    exact zl_zret (pc := 19) hO nd_GK_stop_19 rfl (by decide) (zr_i h)
  | some q3 =>
    have b_q3 := (k_GK_find_lt h_2)
    refine zl_ifnull (pc := 7) hO nd_GK_stop_7 ?_
    refine zl_aload_n (pc := 10) hO 2 nd_GK_stop_10 rfl rfl ?_
    refine zl_geti (pc := 11) hO nd_GK_stop_11 kf_GK_123 rfl b_q3 rfl ?_
    refine zl_iconst (pc := 14) hO (v := 2) nd_GK_stop_14 (by decide) ?_
    refine zl_icmp_ne (pc := 15) hO 20 nd_GK_stop_15 (by decide) (fun hc => ?_) (fun hc => ?_)
    · have h := ite_f hc h
      refine zl_aload_n (pc := 20) hO 2 nd_GK_stop_20 rfl rfl ?_
      obtain ⟨s4, h_21, h⟩ := bn_use h
      refine zl_callVv (pc := 21) hO [] [] (c_BP_halt hJ b_q3 h_21) nd_GK_stop_21 kv_GK_168 rfl b_q3 rfl rfl rfl (Nat.le_of_ble_eq_true rfl) ?_
      refine zl_iconst (pc := 24) hO (v := 1) nd_GK_stop_24 (by decide) ?_
      exact zl_zret (pc := 25) hO nd_GK_stop_25 rfl (by decide) (zr_i h)
    · have h := ite_t hc h
      refine zl_iconst (pc := 18) hO (v := 0) nd_GK_stop_18 (by decide) ?_
      exact zl_zret (pc := 19) hO nd_GK_stop_19 rfl (by decide) (zr_i h)
