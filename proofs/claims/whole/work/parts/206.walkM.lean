set_option maxHeartbeats 4000000 in
set_option maxRecDepth 100000 in
theorem c_GM_outputs {l : Launch} {V : zG} (hJ : zJ0 (sM l V)) {s0 : zS}   {s1 : zS} {v1 : Int32} (h : k_GM_outputs s0 = some (s1, v1)) : zM (sM l V) md_GM_outputs [zR 0 0] s0 (s1, some (zI v1)) := by
  refine zMet [some (zR 0 0)] hJ (by decide) rfl (Nat.le_of_ble_eq_true rfl) rfl ?_
  intro X hO
  unfold k_GM_outputs at h
  refine zl_aload_n (pc := 0) hO 0 nd_GM_outputs_0 rfl rfl ?_
  refine zl_geti (pc := 1) hO nd_GM_outputs_1 kf_GM_112 rfl (Nat.le_of_ble_eq_true rfl) rfl ?_
  exact zl_iret (pc := 4) hO nd_GM_outputs_4 rfl (zr_i h)
set_option maxHeartbeats 4000000 in
set_option maxRecDepth 100000 in
theorem c_GM_output {l : Launch} {V : zG} (hJ : zJ0 (sM l V)) {s0 : zS} {a1 : Int32}  {s1 : zS} {v1 : Int32} (h : k_GM_output s0 a1 = some (s1, v1)) : zM (sM l V) md_GM_output [zR 0 0, zI a1] s0 (s1, some (zI v1)) := by
  refine zMet [some (zR 0 0), some (zI a1)] hJ (by decide) rfl (Nat.le_of_ble_eq_true rfl) rfl ?_
  intro X hO
  have J_18 : ∀ (s0 : zS), k_GM_output_18 a1 s0 = some (s1, v1) → ZW (sM l V) md_GM_output (s1, some (zI v1)) X 18 [none, none] [] s0 := by
    intro s0 h
    unfold k_GM_output_18 at h
    refine zl_iconst (pc := 18) hO (v := 0) nd_GM_output_18 (by decide) ?_
    refine zl_goto (pc := 19) hO 38 nd_GM_output_19 (by decide) ?_
    exact zl_iret (pc := 38) hO nd_GM_output_38 rfl (zr_i h)
  unfold k_GM_output at h
  refine zl_iload_n (pc := 0) hO 1 nd_GM_output_0 rfl rfl ?_
  refine zl_if_lt (pc := 1) hO 18 nd_GM_output_1 (by decide) (fun hc => ?_) (fun hc => ?_)
  · have h := ite_t hc h
    exact zl_weak (J_18 _ h) trivial
  · have h := ite_f hc h
    refine zl_iload_n (pc := 4) hO 1 nd_GM_output_4 rfl rfl ?_
    refine zl_bipush (pc := 5) hO (v := 15) nd_GM_output_5 (by decide) ?_
    refine zl_icmp_gt (pc := 7) hO 18 nd_GM_output_7 (by decide) (fun hc => ?_) (fun hc => ?_)
    · have h := ite_t hc h
      exact zl_weak (J_18 _ h) trivial
    · have h := ite_f hc h
      refine zl_iload_n (pc := 10) hO 1 nd_GM_output_10 rfl rfl ?_
      refine zl_aload_n (pc := 11) hO 0 nd_GM_output_11 rfl rfl ?_
      refine zl_geti (pc := 12) hO nd_GM_output_12 kf_GM_112 rfl (Nat.le_of_ble_eq_true rfl) rfl ?_
      refine zl_icmp_lt (pc := 15) hO 22 nd_GM_output_15 (by decide) (fun hc => ?_) (fun hc => ?_)
      · have h := ite_t hc h
        refine zl_aload_n (pc := 22) hO 0 nd_GM_output_22 rfl rfl ?_
        refine zl_get0 (pc := 23) hO nd_GM_output_23 kf_GM_102 rfl (Nat.le_of_ble_eq_true rfl) rfl ?_
        refine zl_aload_n (pc := 26) hO 0 nd_GM_output_26 rfl rfl ?_
        refine zl_geti (pc := 27) hO nd_GM_output_27 kf_GM_112 rfl (Nat.le_of_ble_eq_true rfl) rfl ?_
        refine zl_iconst (pc := 30) hO (v := 1) nd_GM_output_30 (by decide) ?_
        refine zl_isub (pc := 31) hO nd_GM_output_31 ?_
        refine zl_iload_n (pc := 32) hO 1 nd_GM_output_32 rfl rfl ?_
        refine zl_isub (pc := 33) hO nd_GM_output_33 ?_
        refine zl_bipush (pc := 34) hO (v := 15) nd_GM_output_34 (by decide) ?_
        refine zl_iand (pc := 36) hO nd_GM_output_36 ?_
        obtain ⟨c_in37, h⟩ := ck_use h
        refine zl_iald (pc := 37) hO nd_GM_output_37 rfl rfl (Nat.le_of_ble_eq_true rfl) c_in37 ?_
        exact zl_iret (pc := 38) hO nd_GM_output_38 rfl (zr_i h)
      · have h := ite_f hc h
        exact zl_weak (J_18 _ h) trivial
set_option maxHeartbeats 4000000 in
set_option maxRecDepth 100000 in
theorem c_GM_now {l : Launch} {V : zG} (hJ : zJ0 (sM l V)) {s0 : zS}   {s1 : zS} {v1 : Int32} (h : k_GM_now s0 = some (s1, v1)) : zM (sM l V) md_GM_now [zR 0 0] s0 (s1, some (zI v1)) := by
  refine zMet [some (zR 0 0)] hJ (by decide) rfl (Nat.le_of_ble_eq_true rfl) rfl ?_
  intro X hO
  unfold k_GM_now at h
  refine zl_aload_n (pc := 0) hO 0 nd_GM_now_0 rfl rfl ?_
  refine zl_geti (pc := 1) hO nd_GM_now_1 kf_GM_115 rfl (Nat.le_of_ble_eq_true rfl) rfl ?_
  exact zl_iret (pc := 4) hO nd_GM_now_4 rfl (zr_i h)
set_option maxHeartbeats 4000000 in
set_option maxRecDepth 100000 in
theorem c_GM_turn {l : Launch} {V : zG} (hJ : zJ0 (sM l V)) {s0 : zS}   {s1 : zS} {v1 : Int32} (h : k_GM_turn s0 = some (s1, v1)) : zM (sM l V) md_GM_turn [zR 0 0] s0 (s1, some (zI v1)) := by
  refine zMet [some (zR 0 0)] hJ (by decide) rfl (Nat.le_of_ble_eq_true rfl) rfl ?_
  intro X hO
  unfold k_GM_turn at h
  refine zl_aload_n (pc := 0) hO 0 nd_GM_turn_0 rfl rfl ?_
  refine zl_geti (pc := 1) hO nd_GM_turn_1 kf_GM_16 rfl (Nat.le_of_ble_eq_true rfl) rfl ?_
  exact zl_iret (pc := 4) hO nd_GM_turn_4 rfl (zr_i h)
set_option maxHeartbeats 4000000 in
set_option maxRecDepth 100000 in
theorem c_GM_state {l : Launch} {V : zG} (hJ : zJ0 (sM l V)) {s0 : zS} {a1 : Int32}  {s1 : zS} {v1 : Int32} (h : k_GM_state s0 a1 = some (s1, v1)) : zM (sM l V) md_GM_state [zR 0 0, zI a1] s0 (s1, some (zI v1)) := by
  refine zMet [some (zR 0 0), some (zI a1)] hJ (by decide) rfl (Nat.le_of_ble_eq_true rfl) rfl ?_
  intro X hO
  unfold k_GM_state at h
  refine zl_aload_n (pc := 0) hO 0 nd_GM_state_0 rfl rfl ?_
  refine zl_iload_n (pc := 1) hO 1 nd_GM_state_1 rfl rfl ?_
  obtain ⟨⟨s1, r2⟩, h_2, h⟩ := bn_use h
  refine zl_callVi (pc := 2) hO [zI a1] [] (c_GM_there hJ h_2) nd_GM_state_2 kv_GM_305 rfl (Nat.le_of_ble_eq_true rfl) rfl rfl rfl (Nat.le_of_ble_eq_true rfl) ?_
  refine zl_if_eq (pc := 5) hO 17 nd_GM_state_5 (by decide) (fun hc => ?_) (fun hc => ?_)
  · have h := ite_t hc h
    refine zl_iconst (pc := 17) hO (v := (-1)) nd_GM_state_17 (by decide) ?_
    exact zl_iret (pc := 18) hO nd_GM_state_18 rfl (zr_i h)
  · have h := ite_f hc h
    refine zl_aload_n (pc := 8) hO 0 nd_GM_state_8 rfl rfl ?_
    refine zl_get0 (pc := 9) hO nd_GM_state_9 kf_GM_41 rfl (Nat.le_of_ble_eq_true rfl) rfl ?_
    refine zl_iload_n (pc := 12) hO 1 nd_GM_state_12 rfl rfl ?_
    obtain ⟨c_in13, h⟩ := ck_use h
    refine zl_iald (pc := 13) hO nd_GM_state_13 rfl rfl (Nat.le_of_ble_eq_true rfl) c_in13 ?_
    refine zl_goto (pc := 14) hO 18 nd_GM_state_14 (by decide) ?_
    exact zl_iret (pc := 18) hO nd_GM_state_18 rfl (zr_i h)
set_option maxHeartbeats 4000000 in
set_option maxRecDepth 100000 in
theorem c_GM_register {l : Launch} {V : zG} (hJ : zJ0 (sM l V)) {s0 : zS} {a1 : Int32} {a2 : Int32}  {s1 : zS} {v1 : Int32} (h : k_GM_register s0 a1 a2 = some (s1, v1)) : zM (sM l V) md_GM_register [zR 0 0, zI a1, zI a2] s0 (s1, some (zI v1)) := by
  refine zMet [some (zR 0 0), some (zI a1), some (zI a2), none, none] hJ (by decide) rfl (Nat.le_of_ble_eq_true rfl) rfl ?_
  intro X hO
  have J_84 : ∀ (s0 : zS) (t0 : Int32) (t1 : Int32), k_GM_register_84 a1 a2 s0 t0 t1 = some (s1, v1) → ZW (sM l V) md_GM_register (s1, some (zI v1)) X 84 [none, none, some (zI a2), none, none] [zI t0, zI t1, zR 0 0] s0 := by
    intro s0 t0 t1 h
    unfold k_GM_register_84 at h
    refine zl_iadd (pc := 84) hO nd_GM_register_84 ?_
    obtain ⟨⟨s4, r5⟩, h_85, h⟩ := bn_use h
    refine zl_callVi (pc := 85) hO [zI (t1 + t0)] [] (c_GM_get hJ h_85) nd_GM_register_85 kv_GM_172 rfl (Nat.le_of_ble_eq_true rfl) rfl rfl rfl (Nat.le_of_ble_eq_true rfl) ?_
    refine zl_istore (pc := 88) hO (L' := [none, none, some (zI a2), none, some (zI r5)]) nd_GM_register_88 (by decide) rfl ?_
    refine zl_iload_n (pc := 90) hO 2 nd_GM_register_90 rfl rfl ?_
    refine zl_bipush (pc := 91) hO (v := 11) nd_GM_register_91 (by decide) ?_
    refine zl_icmp_ne (pc := 93) hO 104 nd_GM_register_93 (by decide) (fun hc => ?_) (fun hc => ?_)
    · have h := ite_f hc h
      refine zl_iload (pc := 104) hO nd_GM_register_104 rfl ?_
      exact zl_iret (pc := 106) hO nd_GM_register_106 rfl (zr_i h)
    · have h := ite_t hc h
      refine zl_iload (pc := 96) hO nd_GM_register_96 rfl ?_
      refine zl_bipush (pc := 98) hO (v := 28) nd_GM_register_98 (by decide) ?_
      refine zl_iushr (pc := 100) hO nd_GM_register_100 ?_
      refine zl_goto (pc := 101) hO 106 nd_GM_register_101 (by decide) ?_
      exact zl_iret (pc := 106) hO nd_GM_register_106 rfl (zr_i h)
  have J_47 : ∀ (s0 : zS) (l3 : Int32), k_GM_register_47 a1 a2 s0 l3 = some (s1, v1) → ZW (sM l V) md_GM_register (s1, some (zI v1)) X 47 [some (zR 0 0), none, some (zI a2), some (zI l3), none] [] s0 := by
    intro s0 l3 h
    unfold k_GM_register_47 at h
    refine zl_aload_n (pc := 47) hO 0 nd_GM_register_47 rfl rfl ?_
    refine zl_iload_n (pc := 48) hO 3 nd_GM_register_48 rfl rfl ?_
    refine zl_iload_n (pc := 49) hO 2 nd_GM_register_49 rfl rfl ?_
    refine zl_iconst (pc := 50) hO (v := 4) nd_GM_register_50 (by decide) ?_
    refine zl_icmp_ge (pc := 51) hO 60 nd_GM_register_51 (by decide) (fun hc => ?_) (fun hc => ?_)
    · have h := ite_t hc h
      refine zl_iload_n (pc := 60) hO 2 nd_GM_register_60 rfl rfl ?_
      refine zl_bipush (pc := 61) hO (v := 9) nd_GM_register_61 (by decide) ?_
      refine zl_icmp_ne (pc := 63) hO 71 nd_GM_register_63 (by decide) (fun hc => ?_) (fun hc => ?_)
      · have h := ite_f hc h
        refine zl_iload_n (pc := 71) hO 2 nd_GM_register_71 rfl rfl ?_
        refine zl_bipush (pc := 72) hO (v := 10) nd_GM_register_72 (by decide) ?_
        refine zl_icmp_ne (pc := 74) hO 82 nd_GM_register_74 (by decide) (fun hc => ?_) (fun hc => ?_)
        · have h := ite_f hc h
          refine zl_bipush (pc := 82) hO (v := 28) nd_GM_register_82 (by decide) ?_
          exact zl_weak (J_84 _ _ _ h) ⟨rfl, trivial⟩
        · have h := ite_t hc h
          refine zl_bipush (pc := 77) hO (v := 24) nd_GM_register_77 (by decide) ?_
          refine zl_goto (pc := 79) hO 84 nd_GM_register_79 (by decide) ?_
          exact zl_weak (J_84 _ _ _ h) ⟨rfl, trivial⟩
      · have h := ite_t hc h
        refine zl_bipush (pc := 66) hO (v := 20) nd_GM_register_66 (by decide) ?_
        refine zl_goto (pc := 68) hO 84 nd_GM_register_68 (by decide) ?_
        exact zl_weak (J_84 _ _ _ h) ⟨rfl, trivial⟩
    · have h := ite_f hc h
      refine zl_iconst (pc := 54) hO (v := 4) nd_GM_register_54 (by decide) ?_
      refine zl_iload_n (pc := 55) hO 2 nd_GM_register_55 rfl rfl ?_
      refine zl_imul (pc := 56) hO nd_GM_register_56 ?_
      refine zl_goto (pc := 57) hO 84 nd_GM_register_57 (by decide) ?_
      exact zl_weak (J_84 _ _ _ h) ⟨rfl, trivial⟩
  have J_107 : ∀ (s0 : zS) (l3 : Int32), k_GM_register_107 a1 a2 s0 l3 = some (s1, v1) → ZW (sM l V) md_GM_register (s1, some (zI v1)) X 107 [some (zR 0 0), some (zI a1), some (zI a2), some (zI l3), none] [] s0 := by
    intro s0 l3 h
    unfold k_GM_register_107 at h
    refine zl_iload_n (pc := 107) hO 2 nd_GM_register_107 rfl rfl ?_
    refine zl_bipush (pc := 108) hO (v := 8) nd_GM_register_108 (by decide) ?_
    refine zl_icmp_ge (pc := 110) hO 127 nd_GM_register_110 (by decide) (fun hc => ?_) (fun hc => ?_)
    · have h := ite_t hc h
      refine zl_iload_n (pc := 127) hO 2 nd_GM_register_127 rfl rfl ?_
      refine zl_bipush (pc := 128) hO (v := 8) nd_GM_register_128 (by decide) ?_
      refine zl_icmp_ne (pc := 130) hO 137 nd_GM_register_130 (by decide) (fun hc => ?_) (fun hc => ?_)
      · have h := ite_f hc h
        refine zl_iload_n (pc := 137) hO 2 nd_GM_register_137 rfl rfl ?_
        refine zl_bipush (pc := 138) hO (v := 9) nd_GM_register_138 (by decide) ?_
        refine zl_icmp_ne (pc := 140) hO 152 nd_GM_register_140 (by decide) (fun hc => ?_) (fun hc => ?_)
        · have h := ite_f hc h
          refine zl_iload_n (pc := 152) hO 2 nd_GM_register_152 rfl rfl ?_
          refine zl_bipush (pc := 153) hO (v := 10) nd_GM_register_153 (by decide) ?_
          refine zl_icmp_ne (pc := 155) hO 167 nd_GM_register_155 (by decide) (fun hc => ?_) (fun hc => ?_)
          · have h := ite_f hc h
            refine zl_aload_n (pc := 167) hO 0 nd_GM_register_167 rfl rfl ?_
            refine zl_get0 (pc := 168) hO nd_GM_register_168 kf_GM_56 rfl (Nat.le_of_ble_eq_true rfl) rfl ?_
            refine zl_iload_n (pc := 171) hO 1 nd_GM_register_171 rfl rfl ?_
            obtain ⟨c_in172, h⟩ := ck_use h
            refine zl_iald (pc := 172) hO nd_GM_register_172 rfl rfl (Nat.le_of_ble_eq_true rfl) c_in172 ?_
            exact zl_iret (pc := 173) hO nd_GM_register_173 rfl (zr_i h)
          · have h := ite_t hc h
            refine zl_aload_n (pc := 158) hO 0 nd_GM_register_158 rfl rfl ?_
            refine zl_get0 (pc := 159) hO nd_GM_register_159 kf_GM_53 rfl (Nat.le_of_ble_eq_true rfl) rfl ?_
            refine zl_iload_n (pc := 162) hO 1 nd_GM_register_162 rfl rfl ?_
            obtain ⟨c_in163, h⟩ := ck_use h
            refine zl_iald (pc := 163) hO nd_GM_register_163 rfl rfl (Nat.le_of_ble_eq_true rfl) c_in163 ?_
            refine zl_goto (pc := 164) hO 173 nd_GM_register_164 (by decide) ?_
            exact zl_iret (pc := 173) hO nd_GM_register_173 rfl (zr_i h)
        · have h := ite_t hc h
          refine zl_aload_n (pc := 143) hO 0 nd_GM_register_143 rfl rfl ?_
          refine zl_get0 (pc := 144) hO nd_GM_register_144 kf_GM_50 rfl (Nat.le_of_ble_eq_true rfl) rfl ?_
          refine zl_iload_n (pc := 147) hO 1 nd_GM_register_147 rfl rfl ?_
          obtain ⟨c_in148, h⟩ := ck_use h
          refine zl_iald (pc := 148) hO nd_GM_register_148 rfl rfl (Nat.le_of_ble_eq_true rfl) c_in148 ?_
          refine zl_goto (pc := 149) hO 173 nd_GM_register_149 (by decide) ?_
          exact zl_iret (pc := 173) hO nd_GM_register_173 rfl (zr_i h)
      · have h := ite_t hc h
        refine zl_iload_n (pc := 133) hO 3 nd_GM_register_133 rfl rfl ?_
        refine zl_goto (pc := 134) hO 173 nd_GM_register_134 (by decide) ?_
        exact zl_iret (pc := 173) hO nd_GM_register_173 rfl (zr_i h)
    · have h := ite_f hc h
      refine zl_aload_n (pc := 113) hO 0 nd_GM_register_113 rfl rfl ?_
      refine zl_get0 (pc := 114) hO nd_GM_register_114 kf_GM_44 rfl (Nat.le_of_ble_eq_true rfl) rfl ?_
      refine zl_bipush (pc := 117) hO (v := 8) nd_GM_register_117 (by decide) ?_
      refine zl_iload_n (pc := 119) hO 1 nd_GM_register_119 rfl rfl ?_
      refine zl_imul (pc := 120) hO nd_GM_register_120 ?_
      refine zl_iload_n (pc := 121) hO 2 nd_GM_register_121 rfl rfl ?_
      refine zl_iadd (pc := 122) hO nd_GM_register_122 ?_
      obtain ⟨c_in123, h⟩ := ck_use h
      refine zl_iald (pc := 123) hO nd_GM_register_123 rfl rfl (Nat.le_of_ble_eq_true rfl) c_in123 ?_
      refine zl_goto (pc := 124) hO 173 nd_GM_register_124 (by decide) ?_
      exact zl_iret (pc := 173) hO nd_GM_register_173 rfl (zr_i h)
  unfold k_GM_register at h
  refine zl_aload_n (pc := 0) hO 0 nd_GM_register_0 rfl rfl ?_
  refine zl_iload_n (pc := 1) hO 1 nd_GM_register_1 rfl rfl ?_
  obtain ⟨⟨s1, r2⟩, h_2, h⟩ := bn_use h
  refine zl_callVi (pc := 2) hO [zI a1] [] (c_GM_there hJ h_2) nd_GM_register_2 kv_GM_305 rfl (Nat.le_of_ble_eq_true rfl) rfl rfl rfl (Nat.le_of_ble_eq_true rfl) ?_
  refine zl_if_eq (pc := 5) hO 18 nd_GM_register_5 (by decide) (fun hc => ?_) (fun hc => ?_)
  · have h := ite_t hc h
    refine zl_iconst (pc := 18) hO (v := 0) nd_GM_register_18 (by decide) ?_
    exact zl_iret (pc := 19) hO nd_GM_register_19 rfl (zr_i h)
  · have h := ite_f hc h
    refine zl_iload_n (pc := 8) hO 2 nd_GM_register_8 rfl rfl ?_
    refine zl_if_lt (pc := 9) hO 18 nd_GM_register_9 (by decide) (fun hc => ?_) (fun hc => ?_)
    · have h := ite_t hc h
      refine zl_iconst (pc := 18) hO (v := 0) nd_GM_register_18 (by decide) ?_
      exact zl_iret (pc := 19) hO nd_GM_register_19 rfl (zr_i h)
    · have h := ite_f hc h
      refine zl_iload_n (pc := 12) hO 2 nd_GM_register_12 rfl rfl ?_
      refine zl_bipush (pc := 13) hO (v := 11) nd_GM_register_13 (by decide) ?_
      refine zl_icmp_le (pc := 15) hO 20 nd_GM_register_15 (by decide) (fun hc => ?_) (fun hc => ?_)
      · have h := ite_t hc h
        refine zl_aload_n (pc := 20) hO 0 nd_GM_register_20 rfl rfl ?_
        refine zl_get0 (pc := 21) hO nd_GM_register_21 kf_GM_47 rfl (Nat.le_of_ble_eq_true rfl) rfl ?_
        refine zl_iload_n (pc := 24) hO 1 nd_GM_register_24 rfl rfl ?_
        obtain ⟨c_in25, h⟩ := ck_use h
        refine zl_iald (pc := 25) hO nd_GM_register_25 rfl rfl (Nat.le_of_ble_eq_true rfl) c_in25 ?_
        obtain ⟨x3, e_x3, h⟩ := lt_use h
        refine zl_top e_x3 ?_
        refine zl_istore_n (pc := 26) hO 3 (L' := [some (zR 0 0), some (zI a1), some (zI a2), some (zI x3), none]) nd_GM_register_26 rfl (by decide) rfl ?_
        refine zl_aload_n (pc := 27) hO 0 nd_GM_register_27 rfl rfl ?_
        refine zl_get0 (pc := 28) hO nd_GM_register_28 kf_GM_59 rfl (Nat.le_of_ble_eq_true rfl) rfl ?_
        refine zl_iload_n (pc := 31) hO 1 nd_GM_register_31 rfl rfl ?_
        obtain ⟨c_in32, h⟩ := ck_use h
        refine zl_zald (pc := 32) hO nd_GM_register_32 rfl rfl (Nat.le_of_ble_eq_true rfl) c_in32 ?_
        refine zl_if_eq (pc := 33) hO 107 nd_GM_register_33 (by decide) (fun hc => ?_) (fun hc => ?_)
        · have h := ite_t hc h
          exact zl_weak (J_107 _ _ h) ⟨rfl, ⟨rfl, ⟨rfl, ⟨rfl, trivial⟩⟩⟩⟩
        · have h := ite_f hc h
          refine zl_iload_n (pc := 36) hO 2 nd_GM_register_36 rfl rfl ?_
          refine zl_iconst (pc := 37) hO (v := 4) nd_GM_register_37 (by decide) ?_
          refine zl_icmp_lt (pc := 38) hO 47 nd_GM_register_38 (by decide) (fun hc => ?_) (fun hc => ?_)
          · have h := ite_t hc h
            exact zl_weak (J_47 _ _ h) ⟨rfl, ⟨rfl, ⟨rfl, trivial⟩⟩⟩
          · have h := ite_f hc h
            refine zl_iload_n (pc := 41) hO 2 nd_GM_register_41 rfl rfl ?_
            refine zl_bipush (pc := 42) hO (v := 8) nd_GM_register_42 (by decide) ?_
            refine zl_icmp_le (pc := 44) hO 107 nd_GM_register_44 (by decide) (fun hc => ?_) (fun hc => ?_)
            · have h := ite_t hc h
              exact zl_weak (J_107 _ _ h) ⟨rfl, ⟨rfl, ⟨rfl, ⟨rfl, trivial⟩⟩⟩⟩
            · have h := ite_f hc h
              exact zl_weak (J_47 _ _ h) ⟨rfl, ⟨rfl, ⟨rfl, trivial⟩⟩⟩
      · have h := ite_f hc h
        refine zl_iconst (pc := 18) hO (v := 0) nd_GM_register_18 (by decide) ?_
        exact zl_iret (pc := 19) hO nd_GM_register_19 rfl (zr_i h)
set_option maxHeartbeats 4000000 in
set_option maxRecDepth 100000 in
theorem c_GM_word {l : Launch} {V : zG} (hJ : zJ0 (sM l V)) {s0 : zS} {a1 : Int32}  {s1 : zS} {v1 : Int32} (h : k_GM_word s0 a1 = some (s1, v1)) : zM (sM l V) md_GM_word [zR 0 0, zI a1] s0 (s1, some (zI v1)) := by
  refine zMet [some (zR 0 0), some (zI a1)] hJ (by decide) rfl (Nat.le_of_ble_eq_true rfl) rfl ?_
  intro X hO
  have J_10 : ∀ (s0 : zS), k_GM_word_10 a1 s0 = some (s1, v1) → ZW (sM l V) md_GM_word (s1, some (zI v1)) X 10 [none, none] [] s0 := by
    intro s0 h
    unfold k_GM_word_10 at h
    refine zl_iconst (pc := 10) hO (v := 0) nd_GM_word_10 (by decide) ?_
    refine zl_goto (pc := 11) hO 20 nd_GM_word_11 (by decide) ?_
    exact zl_iret (pc := 20) hO nd_GM_word_20 rfl (zr_i h)
  unfold k_GM_word at h
  refine zl_iload_n (pc := 0) hO 1 nd_GM_word_0 rfl rfl ?_
  refine zl_if_lt (pc := 1) hO 10 nd_GM_word_1 (by decide) (fun hc => ?_) (fun hc => ?_)
  · have h := ite_t hc h
    exact zl_weak (J_10 _ h) trivial
  · have h := ite_f hc h
    refine zl_iload_n (pc := 4) hO 1 nd_GM_word_4 rfl rfl ?_
    refine zl_bipush (pc := 5) hO (v := 127) nd_GM_word_5 (by decide) ?_
    refine zl_icmp_le (pc := 7) hO 14 nd_GM_word_7 (by decide) (fun hc => ?_) (fun hc => ?_)
    · have h := ite_t hc h
      refine zl_aload_n (pc := 14) hO 0 nd_GM_word_14 rfl rfl ?_
      refine zl_get0 (pc := 15) hO nd_GM_word_15 kf_GM_13 rfl (Nat.le_of_ble_eq_true rfl) rfl ?_
      refine zl_iload_n (pc := 18) hO 1 nd_GM_word_18 rfl rfl ?_
      obtain ⟨c_in19, h⟩ := ck_use h
      refine zl_iald (pc := 19) hO nd_GM_word_19 rfl rfl (Nat.le_of_ble_eq_true rfl) c_in19 ?_
      exact zl_iret (pc := 20) hO nd_GM_word_20 rfl (zr_i h)
    · have h := ite_f hc h
      exact zl_weak (J_10 _ h) trivial
set_option maxHeartbeats 4000000 in
set_option maxRecDepth 100000 in
theorem c_GM_block {l : Launch} {V : zG} (hJ : zJ0 (sM l V)) {s0 : zS} {a1 : Int32}  {s1 : zS} {v1 : Int32} (h : k_GM_block s0 a1 = some (s1, v1)) : zM (sM l V) md_GM_block [zR 0 0, zI a1] s0 (s1, some (zI v1)) := by
  refine zMet [some (zR 0 0), some (zI a1)] hJ (by decide) rfl (Nat.le_of_ble_eq_true rfl) rfl ?_
  intro X hO
  unfold k_GM_block at h
  refine zl_aload_n (pc := 0) hO 0 nd_GM_block_0 rfl rfl ?_
  refine zl_iload_n (pc := 1) hO 1 nd_GM_block_1 rfl rfl ?_
  obtain ⟨⟨s1, r2⟩, h_2, h⟩ := bn_use h
  refine zl_callVi (pc := 2) hO [zI a1] [] (c_GM_there hJ h_2) nd_GM_block_2 kv_GM_305 rfl (Nat.le_of_ble_eq_true rfl) rfl rfl rfl (Nat.le_of_ble_eq_true rfl) ?_
  refine zl_if_eq (pc := 5) hO 23 nd_GM_block_5 (by decide) (fun hc => ?_) (fun hc => ?_)
  · have h := ite_t hc h
    refine zl_iconst (pc := 23) hO (v := (-1)) nd_GM_block_23 (by decide) ?_
    exact zl_iret (pc := 24) hO nd_GM_block_24 rfl (zr_i h)
  · have h := ite_f hc h
    refine zl_sipush (pc := 8) hO (v := 4096) nd_GM_block_8 (by decide) ?_
    refine zl_iconst (pc := 11) hO (v := 4) nd_GM_block_11 (by decide) ?_
    refine zl_aload_n (pc := 12) hO 0 nd_GM_block_12 rfl rfl ?_
    refine zl_get0 (pc := 13) hO nd_GM_block_13 kf_GM_26 rfl (Nat.le_of_ble_eq_true rfl) rfl ?_
    refine zl_iload_n (pc := 16) hO 1 nd_GM_block_16 rfl rfl ?_
    obtain ⟨c_in17, h⟩ := ck_use h
    refine zl_iald (pc := 17) hO nd_GM_block_17 rfl rfl (Nat.le_of_ble_eq_true rfl) c_in17 ?_
    refine zl_imul (pc := 18) hO nd_GM_block_18 ?_
    refine zl_iadd (pc := 19) hO nd_GM_block_19 ?_
    refine zl_goto (pc := 20) hO 24 nd_GM_block_20 (by decide) ?_
    exact zl_iret (pc := 24) hO nd_GM_block_24 rfl (zr_i h)
set_option maxHeartbeats 4000000 in
set_option maxRecDepth 100000 in
theorem c_GM_open {l : Launch} {V : zG} (hJ : zJ0 (sM l V)) {s0 : zS} {a1 : Int32}  {s1 : zS} {v1 : Int32} (h : k_GM_open s0 a1 = some (s1, v1)) : zM (sM l V) md_GM_open [zR 0 0, zI a1] s0 (s1, some (zI v1)) := by
  refine zMet [some (zR 0 0), some (zI a1)] hJ (by decide) rfl (Nat.le_of_ble_eq_true rfl) rfl ?_
  intro X hO
  unfold k_GM_open at h
  refine zl_aload_n (pc := 0) hO 0 nd_GM_open_0 rfl rfl ?_
  refine zl_iload_n (pc := 1) hO 1 nd_GM_open_1 rfl rfl ?_
  obtain ⟨⟨s1, r2⟩, h_2, h⟩ := bn_use h
  refine zl_callVi (pc := 2) hO [zI a1] [] (c_GM_there hJ h_2) nd_GM_open_2 kv_GM_305 rfl (Nat.le_of_ble_eq_true rfl) rfl rfl rfl (Nat.le_of_ble_eq_true rfl) ?_
  refine zl_if_eq (pc := 5) hO 21 nd_GM_open_5 (by decide) (fun hc => ?_) (fun hc => ?_)
  · have h := ite_t hc h
    refine zl_iconst (pc := 21) hO (v := (-1)) nd_GM_open_21 (by decide) ?_
    exact zl_iret (pc := 22) hO nd_GM_open_22 rfl (zr_i h)
  · have h := ite_f hc h
    refine zl_aload_n (pc := 8) hO 0 nd_GM_open_8 rfl rfl ?_
    refine zl_iload_n (pc := 9) hO 1 nd_GM_open_9 rfl rfl ?_
    refine zl_aload_n (pc := 10) hO 0 nd_GM_open_10 rfl rfl ?_
    refine zl_iload_n (pc := 11) hO 1 nd_GM_open_11 rfl rfl ?_
    obtain ⟨⟨s3, r4⟩, h_12, h⟩ := bn_use h
    refine zl_callVi (pc := 12) hO [zI a1] [zI a1, zR 0 0] (c_GM_granted hJ h_12) nd_GM_open_12 kv_GM_142 rfl (Nat.le_of_ble_eq_true rfl) rfl rfl rfl (Nat.le_of_ble_eq_true rfl) ?_
    obtain ⟨⟨s5, r6⟩, h_15, h⟩ := bn_use h
    refine zl_callVi (pc := 15) hO [zI a1, zI r4] [] (c_GM_openWords hJ h_15) nd_GM_open_15 kv_GM_146 rfl (Nat.le_of_ble_eq_true rfl) rfl rfl rfl (Nat.le_of_ble_eq_true rfl) ?_
    refine zl_goto (pc := 18) hO 22 nd_GM_open_18 (by decide) ?_
    exact zl_iret (pc := 22) hO nd_GM_open_22 rfl (zr_i h)
set_option maxHeartbeats 4000000 in
set_option maxRecDepth 100000 in
theorem c_GM_grant {l : Launch} {V : zG} (hJ : zJ0 (sM l V)) {s0 : zS} {a1 : Int32} {a2 : Int32}  {s1 : zS} {v1 : Int32} (h : k_GM_grant s0 a1 a2 = some (s1, v1)) : zM (sM l V) md_GM_grant [zR 0 0, zI a1, zI a2] s0 (s1, some (zI v1)) := by
  refine zMet [some (zR 0 0), some (zI a1), some (zI a2)] hJ (by decide) rfl (Nat.le_of_ble_eq_true rfl) rfl ?_
  intro X hO
  unfold k_GM_grant at h
  refine zl_aload_n (pc := 0) hO 0 nd_GM_grant_0 rfl rfl ?_
  refine zl_iload_n (pc := 1) hO 1 nd_GM_grant_1 rfl rfl ?_
  obtain ⟨⟨s1, r2⟩, h_2, h⟩ := bn_use h
  refine zl_callVi (pc := 2) hO [zI a1] [] (c_GM_there hJ h_2) nd_GM_grant_2 kv_GM_305 rfl (Nat.le_of_ble_eq_true rfl) rfl rfl rfl (Nat.le_of_ble_eq_true rfl) ?_
  refine zl_if_eq (pc := 5) hO 39 nd_GM_grant_5 (by decide) (fun hc => ?_) (fun hc => ?_)
  · have h := ite_t hc h
    refine zl_iconst (pc := 39) hO (v := (-1)) nd_GM_grant_39 (by decide) ?_
    exact zl_iret (pc := 40) hO nd_GM_grant_40 rfl (zr_i h)
  · have h := ite_f hc h
    refine zl_iload_n (pc := 8) hO 2 nd_GM_grant_8 rfl rfl ?_
    refine zl_if_lt (pc := 9) hO 39 nd_GM_grant_9 (by decide) (fun hc => ?_) (fun hc => ?_)
    · have h := ite_t hc h
      refine zl_iconst (pc := 39) hO (v := (-1)) nd_GM_grant_39 (by decide) ?_
      exact zl_iret (pc := 40) hO nd_GM_grant_40 rfl (zr_i h)
    · have h := ite_f hc h
      refine zl_iload_n (pc := 12) hO 2 nd_GM_grant_12 rfl rfl ?_
      refine zl_iconst (pc := 13) hO (v := 2) nd_GM_grant_13 (by decide) ?_
      refine zl_icmp_gt (pc := 14) hO 39 nd_GM_grant_14 (by decide) (fun hc => ?_) (fun hc => ?_)
      · have h := ite_t hc h
        refine zl_iconst (pc := 39) hO (v := (-1)) nd_GM_grant_39 (by decide) ?_
        exact zl_iret (pc := 40) hO nd_GM_grant_40 rfl (zr_i h)
      · have h := ite_f hc h
        refine zl_aload_n (pc := 17) hO 0 nd_GM_grant_17 rfl rfl ?_
        refine zl_get0 (pc := 18) hO nd_GM_grant_18 kf_GM_72 rfl (Nat.le_of_ble_eq_true rfl) rfl ?_
        refine zl_iconst (pc := 21) hO (v := 3) nd_GM_grant_21 (by decide) ?_
        refine zl_iload_n (pc := 22) hO 1 nd_GM_grant_22 rfl rfl ?_
        refine zl_imul (pc := 23) hO nd_GM_grant_23 ?_
        refine zl_iload_n (pc := 24) hO 2 nd_GM_grant_24 rfl rfl ?_
        refine zl_iadd (pc := 25) hO nd_GM_grant_25 ?_
        obtain ⟨c_in26, h⟩ := ck_use h
        refine zl_iald (pc := 26) hO nd_GM_grant_26 rfl rfl (Nat.le_of_ble_eq_true rfl) c_in26 ?_
        refine zl_if_le (pc := 27) hO 39 nd_GM_grant_27 (by decide) (fun hc => ?_) (fun hc => ?_)
        · have h := ite_t hc h
          refine zl_iconst (pc := 39) hO (v := (-1)) nd_GM_grant_39 (by decide) ?_
          exact zl_iret (pc := 40) hO nd_GM_grant_40 rfl (zr_i h)
        · have h := ite_f hc h
          refine zl_aload_n (pc := 30) hO 0 nd_GM_grant_30 rfl rfl ?_
          refine zl_iload_n (pc := 31) hO 1 nd_GM_grant_31 rfl rfl ?_
          refine zl_iload_n (pc := 32) hO 2 nd_GM_grant_32 rfl rfl ?_
          obtain ⟨⟨s3, r4⟩, h_33, h⟩ := bn_use h
          refine zl_callVi (pc := 33) hO [zI a1, zI a2] [] (c_GM_grantAddress hJ h_33) nd_GM_grant_33 kv_GM_242 rfl (Nat.le_of_ble_eq_true rfl) rfl rfl rfl (Nat.le_of_ble_eq_true rfl) ?_
          refine zl_goto (pc := 36) hO 40 nd_GM_grant_36 (by decide) ?_
          exact zl_iret (pc := 40) hO nd_GM_grant_40 rfl (zr_i h)
set_option maxHeartbeats 4000000 in
set_option maxRecDepth 100000 in
theorem c_GM_queued {l : Launch} {V : zG} (hJ : zJ0 (sM l V)) {s0 : zS} {a1 : Int32}  {s1 : zS} {v1 : Int32} (h : k_GM_queued s0 a1 = some (s1, v1)) : zM (sM l V) md_GM_queued [zR 0 0, zI a1] s0 (s1, some (zI v1)) := by
  refine zMet [some (zR 0 0), some (zI a1)] hJ (by decide) rfl (Nat.le_of_ble_eq_true rfl) rfl ?_
  intro X hO
  unfold k_GM_queued at h
  refine zl_aload_n (pc := 0) hO 0 nd_GM_queued_0 rfl rfl ?_
  refine zl_iload_n (pc := 1) hO 1 nd_GM_queued_1 rfl rfl ?_
  obtain ⟨⟨s1, r2⟩, h_2, h⟩ := bn_use h
  refine zl_callVi (pc := 2) hO [zI a1] [] (c_GM_there hJ h_2) nd_GM_queued_2 kv_GM_305 rfl (Nat.le_of_ble_eq_true rfl) rfl rfl rfl (Nat.le_of_ble_eq_true rfl) ?_
  refine zl_if_eq (pc := 5) hO 16 nd_GM_queued_5 (by decide) (fun hc => ?_) (fun hc => ?_)
  · have h := ite_t hc h
    refine zl_iconst (pc := 16) hO (v := (-1)) nd_GM_queued_16 (by decide) ?_
    exact zl_iret (pc := 17) hO nd_GM_queued_17 rfl (zr_i h)
  · have h := ite_f hc h
    refine zl_aload_n (pc := 8) hO 0 nd_GM_queued_8 rfl rfl ?_
    refine zl_iload_n (pc := 9) hO 1 nd_GM_queued_9 rfl rfl ?_
    obtain ⟨⟨s3, r4⟩, h_10, h⟩ := bn_use h
    refine zl_callVi (pc := 10) hO [zI a1] [] (c_GM_waiting hJ h_10) nd_GM_queued_10 kv_GM_280 rfl (Nat.le_of_ble_eq_true rfl) rfl rfl rfl (Nat.le_of_ble_eq_true rfl) ?_
    refine zl_goto (pc := 13) hO 17 nd_GM_queued_13 (by decide) ?_
    exact zl_iret (pc := 17) hO nd_GM_queued_17 rfl (zr_i h)
set_option maxHeartbeats 4000000 in
set_option maxRecDepth 100000 in
theorem c_GM_fault {l : Launch} {V : zG} (hJ : zJ0 (sM l V)) {s0 : zS} {a1 : Int32}  {s1 : zS} {v1 : Int32} (h : k_GM_fault s0 a1 = some (s1, v1)) : zM (sM l V) md_GM_fault [zR 0 0, zI a1] s0 (s1, some (zI v1)) := by
  refine zMet [some (zR 0 0), some (zI a1)] hJ (by decide) rfl (Nat.le_of_ble_eq_true rfl) rfl ?_
  intro X hO
  unfold k_GM_fault at h
  refine zl_aload_n (pc := 0) hO 0 nd_GM_fault_0 rfl rfl ?_
  refine zl_iload_n (pc := 1) hO 1 nd_GM_fault_1 rfl rfl ?_
  obtain ⟨⟨s1, r2⟩, h_2, h⟩ := bn_use h
  refine zl_callVi (pc := 2) hO [zI a1] [] (c_GM_there hJ h_2) nd_GM_fault_2 kv_GM_305 rfl (Nat.le_of_ble_eq_true rfl) rfl rfl rfl (Nat.le_of_ble_eq_true rfl) ?_
  refine zl_if_eq (pc := 5) hO 17 nd_GM_fault_5 (by decide) (fun hc => ?_) (fun hc => ?_)
  · have h := ite_t hc h
    refine zl_iconst (pc := 17) hO (v := (-1)) nd_GM_fault_17 (by decide) ?_
    exact zl_iret (pc := 18) hO nd_GM_fault_18 rfl (zr_i h)
  · have h := ite_f hc h
    refine zl_aload_n (pc := 8) hO 0 nd_GM_fault_8 rfl rfl ?_
    refine zl_get0 (pc := 9) hO nd_GM_fault_9 kf_GM_63 rfl (Nat.le_of_ble_eq_true rfl) rfl ?_
    refine zl_iload_n (pc := 12) hO 1 nd_GM_fault_12 rfl rfl ?_
    obtain ⟨c_in13, h⟩ := ck_use h
    refine zl_iald (pc := 13) hO nd_GM_fault_13 rfl rfl (Nat.le_of_ble_eq_true rfl) c_in13 ?_
    refine zl_goto (pc := 14) hO 18 nd_GM_fault_14 (by decide) ?_
    exact zl_iret (pc := 18) hO nd_GM_fault_18 rfl (zr_i h)
set_option maxHeartbeats 4000000 in
set_option maxRecDepth 100000 in
theorem c_GM_faults {l : Launch} {V : zG} (hJ : zJ0 (sM l V)) {s0 : zS} {a1 : Int32}  {s1 : zS} {v1 : Int32} (h : k_GM_faults s0 a1 = some (s1, v1)) : zM (sM l V) md_GM_faults [zR 0 0, zI a1] s0 (s1, some (zI v1)) := by
  refine zMet [some (zR 0 0), some (zI a1)] hJ (by decide) rfl (Nat.le_of_ble_eq_true rfl) rfl ?_
  intro X hO
  unfold k_GM_faults at h
  refine zl_aload_n (pc := 0) hO 0 nd_GM_faults_0 rfl rfl ?_
  refine zl_iload_n (pc := 1) hO 1 nd_GM_faults_1 rfl rfl ?_
  obtain ⟨⟨s1, r2⟩, h_2, h⟩ := bn_use h
  refine zl_callVi (pc := 2) hO [zI a1] [] (c_GM_there hJ h_2) nd_GM_faults_2 kv_GM_305 rfl (Nat.le_of_ble_eq_true rfl) rfl rfl rfl (Nat.le_of_ble_eq_true rfl) ?_
  refine zl_if_eq (pc := 5) hO 17 nd_GM_faults_5 (by decide) (fun hc => ?_) (fun hc => ?_)
  · have h := ite_t hc h
    refine zl_iconst (pc := 17) hO (v := (-1)) nd_GM_faults_17 (by decide) ?_
    exact zl_iret (pc := 18) hO nd_GM_faults_18 rfl (zr_i h)
  · have h := ite_f hc h
    refine zl_aload_n (pc := 8) hO 0 nd_GM_faults_8 rfl rfl ?_
    refine zl_get0 (pc := 9) hO nd_GM_faults_9 kf_GM_66 rfl (Nat.le_of_ble_eq_true rfl) rfl ?_
    refine zl_iload_n (pc := 12) hO 1 nd_GM_faults_12 rfl rfl ?_
    obtain ⟨c_in13, h⟩ := ck_use h
    refine zl_iald (pc := 13) hO nd_GM_faults_13 rfl rfl (Nat.le_of_ble_eq_true rfl) c_in13 ?_
    refine zl_goto (pc := 14) hO 18 nd_GM_faults_14 (by decide) ?_
    exact zl_iret (pc := 18) hO nd_GM_faults_18 rfl (zr_i h)
set_option maxHeartbeats 4000000 in
set_option maxRecDepth 100000 in
theorem c_GM_restart {l : Launch} {V : zG} (hJ : zJ0 (sM l V)) {s0 : zS} {a1 : Int32}  {s1 : zS} {v1 : Int32} (h : k_GM_restart s0 a1 = some (s1, v1)) : zM (sM l V) md_GM_restart [zR 0 0, zI a1] s0 (s1, some (zI v1)) := by
  refine zMet [some (zR 0 0), some (zI a1)] hJ (by decide) rfl (Nat.le_of_ble_eq_true rfl) rfl ?_
  intro X hO
  unfold k_GM_restart at h
  refine zl_aload_n (pc := 0) hO 0 nd_GM_restart_0 rfl rfl ?_
  refine zl_iload_n (pc := 1) hO 1 nd_GM_restart_1 rfl rfl ?_
  obtain ⟨⟨s1, r2⟩, h_2, h⟩ := bn_use h
  refine zl_callVi (pc := 2) hO [zI a1] [] (c_GM_there hJ h_2) nd_GM_restart_2 kv_GM_305 rfl (Nat.le_of_ble_eq_true rfl) rfl rfl rfl (Nat.le_of_ble_eq_true rfl) ?_
  refine zl_if_ne (pc := 5) hO 10 nd_GM_restart_5 (by decide) (fun hc => ?_) (fun hc => ?_)
  · have h := ite_f hc h
    refine zl_aload_n (pc := 10) hO 0 nd_GM_restart_10 rfl rfl ?_
    refine zl_iload_n (pc := 11) hO 1 nd_GM_restart_11 rfl rfl ?_
    obtain ⟨s3, h_12, h⟩ := bn_use h
    refine zl_callVv (pc := 12) hO [zI a1] [] (c_GM_begin hJ h_12) nd_GM_restart_12 kv_GM_128 rfl (Nat.le_of_ble_eq_true rfl) rfl rfl rfl (Nat.le_of_ble_eq_true rfl) ?_
    refine zl_iconst (pc := 15) hO (v := 1) nd_GM_restart_15 (by decide) ?_
    exact zl_zret (pc := 16) hO nd_GM_restart_16 rfl (by decide) (zr_i h)
  · have h := ite_t hc h
    refine zl_iconst (pc := 8) hO (v := 0) nd_GM_restart_8 (by decide) ?_
    exact zl_zret (pc := 9) hO nd_GM_restart_9 rfl (by decide) (zr_i h)
set_option maxHeartbeats 4000000 in
set_option maxRecDepth 100000 in
theorem c_GM_stop {l : Launch} {V : zG} (hJ : zJ0 (sM l V)) {s0 : zS} {a1 : Int32}  {s1 : zS} {v1 : Int32} (h : k_GM_stop s0 a1 = some (s1, v1)) : zM (sM l V) md_GM_stop [zR 0 0, zI a1] s0 (s1, some (zI v1)) := by
  refine zMet [some (zR 0 0), some (zI a1)] hJ (by decide) rfl (Nat.le_of_ble_eq_true rfl) rfl ?_
  intro X hO
  unfold k_GM_stop at h
  refine zl_aload_n (pc := 0) hO 0 nd_GM_stop_0 rfl rfl ?_
  refine zl_iload_n (pc := 1) hO 1 nd_GM_stop_1 rfl rfl ?_
  obtain ⟨⟨s1, r2⟩, h_2, h⟩ := bn_use h
  refine zl_callVi (pc := 2) hO [zI a1] [] (c_GM_there hJ h_2) nd_GM_stop_2 kv_GM_305 rfl (Nat.le_of_ble_eq_true rfl) rfl rfl rfl (Nat.le_of_ble_eq_true rfl) ?_
  refine zl_if_eq (pc := 5) hO 18 nd_GM_stop_5 (by decide) (fun hc => ?_) (fun hc => ?_)
  · have h := ite_t hc h
    refine zl_iconst (pc := 18) hO (v := 0) nd_GM_stop_18 (by decide) ?_
    exact zl_zret (pc := 19) hO nd_GM_stop_19 rfl (by decide) (zr_i h)
  · have h := ite_f hc h
    refine zl_aload_n (pc := 8) hO 0 nd_GM_stop_8 rfl rfl ?_
    refine zl_get0 (pc := 9) hO nd_GM_stop_9 kf_GM_41 rfl (Nat.le_of_ble_eq_true rfl) rfl ?_
    refine zl_iload_n (pc := 12) hO 1 nd_GM_stop_12 rfl rfl ?_
    obtain ⟨c_in13, h⟩ := ck_use h
    refine zl_iald (pc := 13) hO nd_GM_stop_13 rfl rfl (Nat.le_of_ble_eq_true rfl) c_in13 ?_
    refine zl_iconst (pc := 14) hO (v := 2) nd_GM_stop_14 (by decide) ?_
    refine zl_icmp_ne (pc := 15) hO 20 nd_GM_stop_15 (by decide) (fun hc => ?_) (fun hc => ?_)
    · have h := ite_f hc h
      refine zl_aload_n (pc := 20) hO 0 nd_GM_stop_20 rfl rfl ?_
      refine zl_iload_n (pc := 21) hO 1 nd_GM_stop_21 rfl rfl ?_
      obtain ⟨s3, h_22, h⟩ := bn_use h
      refine zl_callVv (pc := 22) hO [zI a1] [] (c_GM_halt hJ h_22) nd_GM_stop_22 kv_GM_283 rfl (Nat.le_of_ble_eq_true rfl) rfl rfl rfl (Nat.le_of_ble_eq_true rfl) ?_
      refine zl_iconst (pc := 25) hO (v := 1) nd_GM_stop_25 (by decide) ?_
      exact zl_zret (pc := 26) hO nd_GM_stop_26 rfl (by decide) (zr_i h)
    · have h := ite_t hc h
      refine zl_iconst (pc := 18) hO (v := 0) nd_GM_stop_18 (by decide) ?_
      exact zl_zret (pc := 19) hO nd_GM_stop_19 rfl (by decide) (zr_i h)
