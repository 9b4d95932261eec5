set_option maxHeartbeats 4000000 in
set_option maxRecDepth 100000 in
theorem c_GM_pop {l : Launch} {V : zG} (hJ : zJ0 (sM l V)) {s0 : zS} {a1 : Int32} {a2 : Int32}  {s1 : zS} (h : k_GM_pop s0 a1 a2 = some s1) : zM (sM l V) md_GM_pop [zR 0 0, zI a1, zI a2] s0 (s1, none) := by
  refine zMet [some (zR 0 0), some (zI a1), some (zI a2), none, none, none, none] hJ (by decide) rfl (Nat.le_of_ble_eq_true rfl) rfl ?_
  intro X hO
  have J_134 : ∀ (K96 : zS → Int32 → Int32 → Int32 → Int32 → Option (zS)) (hK96 : ∀ (s0 : zS) (l3 : Int32) (l4 : Int32) (l5 : Int32) (l6 : Int32), K96 s0 l3 l4 l5 l6 = some s1 → ZW (sM l V) md_GM_pop (s1, none) X 96 [some (zR 0 0), some (zI a1), some (zI a2), some (zI l3), some (zI l4), some (zI l5), some (zI l6)] [] s0), ∀ (s0 : zS) (l3 : Int32) (l4 : Int32) (l5 : Int32) (l6 : Int32), k_GM_pop_134 a1 a2 K96 s0 l3 l4 l5 l6 = some s1 → ZW (sM l V) md_GM_pop (s1, none) X 134 [some (zR 0 0), some (zI a1), some (zI a2), some (zI l3), some (zI l4), some (zI l5), some (zI l6)] [] s0 := by
    intro K96 hK96
    intro s0 l3 l4 l5 l6 h
    unfold k_GM_pop_134 at h
    obtain ⟨x19, e_x19, h⟩ := lt_use h
    refine zl_iinc (pc := 134) hO (L' := [some (zR 0 0), some (zI a1), some (zI a2), some (zI l3), some (zI l4), some (zI l5), some (zI x19)]) nd_GM_pop_134 rfl e_x19.symm (by decide) rfl ?_
    refine zl_goto (pc := 137) hO 96 nd_GM_pop_137 (by decide) ?_
    exact zl_weak (hK96 _ _ _ _ _ h) ⟨rfl, ⟨rfl, ⟨rfl, ⟨rfl, ⟨rfl, ⟨rfl, ⟨rfl, trivial⟩⟩⟩⟩⟩⟩⟩
  have J_164 : ∀ (s0 : zS) (l3 : Int32) (t0 : Int32), k_GM_pop_164 a1 a2 s0 l3 t0 = some s1 → ZW (sM l V) md_GM_pop (s1, none) X 164 [some (zR 0 0), some (zI a1), none, some (zI l3), none, none, none] [zI t0, zR 0 0] s0 := by
    intro s0 l3 t0 h
    unfold k_GM_pop_164 at h
    refine zl_puti (pc := 164) hO nd_GM_pop_164 kp_GM_199 rfl (Nat.le_of_ble_eq_true rfl) rfl ?_
    obtain ⟨s17, e_s17, h⟩ := lt_use h
    refine zl_sg e_s17 ?_
    refine zl_aload_n (pc := 167) hO 0 nd_GM_pop_167 rfl rfl ?_
    refine zl_get0 (pc := 168) hO nd_GM_pop_168 kf_GM_47 rfl (Nat.le_of_ble_eq_true rfl) rfl ?_
    refine zl_iload_n (pc := 171) hO 1 nd_GM_pop_171 rfl rfl ?_
    refine zl_dup2 (pc := 172) hO nd_GM_pop_172 rfl rfl ?_
    obtain ⟨c_in173, h⟩ := ck_use h
    refine zl_iald (pc := 173) hO nd_GM_pop_173 rfl rfl (Nat.le_of_ble_eq_true rfl) c_in173 ?_
    refine zl_iconst (pc := 174) hO (v := 4) nd_GM_pop_174 (by decide) ?_
    refine zl_iload_n (pc := 175) hO 3 nd_GM_pop_175 rfl rfl ?_
    refine zl_imul (pc := 176) hO nd_GM_pop_176 ?_
    refine zl_iadd (pc := 177) hO nd_GM_pop_177 ?_
    obtain ⟨c_in178, h⟩ := ck_use h
    refine zl_iast (pc := 178) hO nd_GM_pop_178 rfl rfl (Nat.le_of_ble_eq_true rfl) c_in178 ?_
    obtain ⟨s18, e_s18, h⟩ := lt_use h
    refine zl_sg e_s18 ?_
    exact zl_vret (pc := 179) hO nd_GM_pop_179 rfl (zr_v h)
  have J_96 : ∀ (n : Nat), ∀ (s0 : zS) (l3 : Int32) (l4 : Int32) (l5 : Int32) (l6 : Int32), k_GM_pop_96 a1 a2 n s0 l3 l4 l5 l6 = some s1 → ZW (sM l V) md_GM_pop (s1, none) X 96 [some (zR 0 0), some (zI a1), some (zI a2), some (zI l3), some (zI l4), some (zI l5), some (zI l6)] [] s0 := by
    intro n
    induction n with
    | zero => intro s0 l3 l4 l5 l6 h; exact absurd h (by rw [k_GM_pop_96]; exact fun w => nomatch w)
    | succ n ih =>
      intro s0 l3 l4 l5 l6 h
      rw [k_GM_pop_96]  at h
      refine zl_iload (pc := 96) hO nd_GM_pop_96 rfl ?_
      refine zl_bipush (pc := 98) hO (v := 8) nd_GM_pop_98 (by decide) ?_
      refine zl_icmp_ge (pc := 100) hO 140 nd_GM_pop_100 (by decide) (fun hc => ?_) (fun hc => ?_)
      · have h := ite_t hc h
        refine zl_aload_n (pc := 140) hO 0 nd_GM_pop_140 rfl rfl ?_
        refine zl_iload_n (pc := 141) hO 2 nd_GM_pop_141 rfl rfl ?_
        refine zl_sipush (pc := 142) hO (v := 256) nd_GM_pop_142 (by decide) ?_
        refine zl_iand (pc := 145) hO nd_GM_pop_145 ?_
        refine zl_if_eq (pc := 146) hO 160 nd_GM_pop_146 (by decide) (fun hc => ?_) (fun hc => ?_)
        · have h := ite_t hc h
          refine zl_aload_n (pc := 160) hO 0 nd_GM_pop_160 rfl rfl ?_
          refine zl_geti (pc := 161) hO nd_GM_pop_161 kf_GM_199 rfl (Nat.le_of_ble_eq_true rfl) rfl ?_
          exact zl_weak (J_164 _ _ _ h) ⟨rfl, ⟨rfl, ⟨rfl, trivial⟩⟩⟩
        · have h := ite_f hc h
          refine zl_aload_n (pc := 149) hO 0 nd_GM_pop_149 rfl rfl ?_
          refine zl_iload (pc := 150) hO nd_GM_pop_150 rfl ?_
          obtain ⟨⟨s11, r12⟩, h_152, h⟩ := bn_use h
          refine zl_callVi (pc := 152) hO [zI l4] [zR 0 0] (c_GM_get hJ h_152) nd_GM_pop_152 kv_GM_172 rfl (Nat.le_of_ble_eq_true rfl) rfl rfl rfl (Nat.le_of_ble_eq_true rfl) ?_
          refine zl_iconst (pc := 155) hO (v := 1) nd_GM_pop_155 (by decide) ?_
          refine zl_isub (pc := 156) hO nd_GM_pop_156 ?_
          refine zl_goto (pc := 157) hO 164 nd_GM_pop_157 (by decide) ?_
          exact zl_weak (J_164 _ _ _ h) ⟨rfl, ⟨rfl, ⟨rfl, trivial⟩⟩⟩
      · have h := ite_f hc h
        refine zl_iload_n (pc := 103) hO 2 nd_GM_pop_103 rfl rfl ?_
        refine zl_iload (pc := 104) hO nd_GM_pop_104 rfl ?_
        refine zl_ishr (pc := 106) hO nd_GM_pop_106 ?_
        refine zl_iconst (pc := 107) hO (v := 1) nd_GM_pop_107 (by decide) ?_
        refine zl_iand (pc := 108) hO nd_GM_pop_108 ?_
        refine zl_iconst (pc := 109) hO (v := 1) nd_GM_pop_109 (by decide) ?_
        refine zl_icmp_ne (pc := 110) hO 134 nd_GM_pop_110 (by decide) (fun hc => ?_) (fun hc => ?_)
        · have h := ite_f hc h
          exact zl_weak (J_134 (k_GM_pop_96 a1 a2 n) ih _ _ _ _ _ h) ⟨rfl, ⟨rfl, ⟨rfl, ⟨rfl, ⟨rfl, ⟨rfl, ⟨rfl, trivial⟩⟩⟩⟩⟩⟩⟩
        · have h := ite_t hc h
          refine zl_aload_n (pc := 113) hO 0 nd_GM_pop_113 rfl rfl ?_
          refine zl_get0 (pc := 114) hO nd_GM_pop_114 kf_GM_44 rfl (Nat.le_of_ble_eq_true rfl) rfl ?_
          refine zl_bipush (pc := 117) hO (v := 8) nd_GM_pop_117 (by decide) ?_
          refine zl_iload_n (pc := 119) hO 1 nd_GM_pop_119 rfl rfl ?_
          refine zl_imul (pc := 120) hO nd_GM_pop_120 ?_
          refine zl_iload (pc := 121) hO nd_GM_pop_121 rfl ?_
          refine zl_iadd (pc := 123) hO nd_GM_pop_123 ?_
          refine zl_aload_n (pc := 124) hO 0 nd_GM_pop_124 rfl rfl ?_
          refine zl_iload (pc := 125) hO nd_GM_pop_125 rfl ?_
          obtain ⟨⟨s13, r14⟩, h_127, h⟩ := bn_use h
          refine zl_callVi (pc := 127) hO [zI l5] [zI (((8 : Int32) * a1) + l6), zR 11 0] (c_GM_get hJ h_127) nd_GM_pop_127 kv_GM_172 rfl (Nat.le_of_ble_eq_true rfl) rfl rfl rfl (Nat.le_of_ble_eq_true rfl) ?_
          obtain ⟨c_in130, h⟩ := ck_use h
          refine zl_iast (pc := 130) hO nd_GM_pop_130 rfl rfl (Nat.le_of_ble_eq_true rfl) c_in130 ?_
          obtain ⟨s15, e_s15, h⟩ := lt_use h
          refine zl_sg e_s15 ?_
          obtain ⟨x16, e_x16, h⟩ := lt_use h
          refine zl_iinc (pc := 131) hO (L' := [some (zR 0 0), some (zI a1), some (zI a2), some (zI l3), some (zI l4), some (zI x16), some (zI l6)]) nd_GM_pop_131 rfl e_x16.symm (by decide) rfl ?_
          exact zl_weak (J_134 (k_GM_pop_96 a1 a2 n) ih _ _ _ _ _ h) ⟨rfl, ⟨rfl, ⟨rfl, ⟨rfl, ⟨rfl, ⟨rfl, ⟨rfl, trivial⟩⟩⟩⟩⟩⟩⟩
  have J_85 : ∀ (s0 : zS) (l3 : Int32) (l4 : Int32), k_GM_pop_85 a1 a2 s0 l3 l4 = some s1 → ZW (sM l V) md_GM_pop (s1, none) X 85 [some (zR 0 0), some (zI a1), some (zI a2), some (zI l3), some (zI l4), none, none] [] s0 := by
    intro s0 l3 l4 h
    unfold k_GM_pop_85 at h
    refine zl_aload_n (pc := 85) hO 0 nd_GM_pop_85 rfl rfl ?_
    refine zl_get0 (pc := 86) hO nd_GM_pop_86 kf_GM_47 rfl (Nat.le_of_ble_eq_true rfl) rfl ?_
    refine zl_iload_n (pc := 89) hO 1 nd_GM_pop_89 rfl rfl ?_
    obtain ⟨c_in90, h⟩ := ck_use h
    refine zl_iald (pc := 90) hO nd_GM_pop_90 rfl rfl (Nat.le_of_ble_eq_true rfl) c_in90 ?_
    obtain ⟨x10, e_x10, h⟩ := lt_use h
    refine zl_top e_x10 ?_
    refine zl_istore (pc := 91) hO (L' := [some (zR 0 0), some (zI a1), some (zI a2), some (zI l3), some (zI l4), some (zI x10), none]) nd_GM_pop_91 (by decide) rfl ?_
    refine zl_iconst (pc := 93) hO (v := 0) nd_GM_pop_93 (by decide) ?_
    refine zl_istore (pc := 94) hO (L' := [some (zR 0 0), some (zI a1), some (zI a2), some (zI l3), some (zI l4), some (zI x10), some (zI 0)]) nd_GM_pop_94 (by decide) rfl ?_
    exact zl_weak (J_96 FU _ _ _ _ _ h) ⟨rfl, ⟨rfl, ⟨rfl, ⟨rfl, ⟨rfl, ⟨rfl, ⟨rfl, trivial⟩⟩⟩⟩⟩⟩⟩
  have J_8 : ∀ (n : Nat), ∀ (s0 : zS) (l3 : Int32) (l4 : Int32), k_GM_pop_8 a1 a2 n s0 l3 l4 = some s1 → ZW (sM l V) md_GM_pop (s1, none) X 8 [some (zR 0 0), some (zI a1), some (zI a2), some (zI l3), some (zI l4), none, none] [] s0 := by
    intro n
    induction n with
    | zero => intro s0 l3 l4 h; exact absurd h (by rw [k_GM_pop_8]; exact fun w => nomatch w)
    | succ n ih =>
      intro s0 l3 l4 h
      rw [k_GM_pop_8]  at h
      refine zl_iload (pc := 8) hO nd_GM_pop_8 rfl ?_
      refine zl_iload_n (pc := 10) hO 3 nd_GM_pop_10 rfl rfl ?_
      refine zl_icmp_ge (pc := 11) hO 38 nd_GM_pop_11 (by decide) (fun hc => ?_) (fun hc => ?_)
      · have h := ite_t hc h
        refine zl_aload_n (pc := 38) hO 0 nd_GM_pop_38 rfl rfl ?_
        refine zl_geti (pc := 39) hO nd_GM_pop_39 kf_GM_161 rfl (Nat.le_of_ble_eq_true rfl) rfl ?_
        refine zl_if_le (pc := 42) hO 46 nd_GM_pop_42 (by decide) (fun hc => ?_) (fun hc => ?_)
        · have h := ite_t hc h
          refine zl_aload_n (pc := 46) hO 0 nd_GM_pop_46 rfl rfl ?_
          refine zl_get0 (pc := 47) hO nd_GM_pop_47 kf_GM_47 rfl (Nat.le_of_ble_eq_true rfl) rfl ?_
          refine zl_iload_n (pc := 50) hO 1 nd_GM_pop_50 rfl rfl ?_
          obtain ⟨c_in51, h⟩ := ck_use h
          refine zl_iald (pc := 51) hO nd_GM_pop_51 rfl rfl (Nat.le_of_ble_eq_true rfl) c_in51 ?_
          refine zl_iconst (pc := 52) hO (v := 4) nd_GM_pop_52 (by decide) ?_
          refine zl_iload_n (pc := 53) hO 3 nd_GM_pop_53 rfl rfl ?_
          refine zl_imul (pc := 54) hO nd_GM_pop_54 ?_
          refine zl_iadd (pc := 55) hO nd_GM_pop_55 ?_
          refine zl_iconst (pc := 56) hO (v := 4) nd_GM_pop_56 (by decide) ?_
          refine zl_isub (pc := 57) hO nd_GM_pop_57 ?_
          obtain ⟨x3, e_x3, h⟩ := lt_use h
          refine zl_top e_x3 ?_
          refine zl_istore (pc := 58) hO (L' := [some (zR 0 0), some (zI a1), some (zI a2), some (zI l3), some (zI x3), none, none]) nd_GM_pop_58 (by decide) rfl ?_
          refine zl_iload_n (pc := 60) hO 2 nd_GM_pop_60 rfl rfl ?_
          refine zl_sipush (pc := 61) hO (v := 256) nd_GM_pop_61 (by decide) ?_
          refine zl_iand (pc := 64) hO nd_GM_pop_64 ?_
          refine zl_if_eq (pc := 65) hO 85 nd_GM_pop_65 (by decide) (fun hc => ?_) (fun hc => ?_)
          · have h := ite_t hc h
            exact zl_weak (J_85 _ _ _ h) ⟨rfl, ⟨rfl, ⟨rfl, ⟨rfl, ⟨rfl, trivial⟩⟩⟩⟩⟩
          · have h := ite_f hc h
            refine zl_aload_n (pc := 68) hO 0 nd_GM_pop_68 rfl rfl ?_
            refine zl_iload (pc := 69) hO nd_GM_pop_69 rfl ?_
            obtain ⟨⟨s4, r5⟩, h_71, h⟩ := bn_use h
            refine zl_callVi (pc := 71) hO [zI x3] [] (c_GM_get hJ h_71) nd_GM_pop_71 kv_GM_172 rfl (Nat.le_of_ble_eq_true rfl) rfl rfl rfl (Nat.le_of_ble_eq_true rfl) ?_
            refine zl_iconst (pc := 74) hO (v := 1) nd_GM_pop_74 (by decide) ?_
            refine zl_iand (pc := 75) hO nd_GM_pop_75 ?_
            refine zl_if_ne (pc := 76) hO 85 nd_GM_pop_76 (by decide) (fun hc => ?_) (fun hc => ?_)
            · have h := ite_f hc h
              exact zl_weak (J_85 _ _ _ h) ⟨rfl, ⟨rfl, ⟨rfl, ⟨rfl, ⟨rfl, trivial⟩⟩⟩⟩⟩
            · have h := ite_t hc h
              refine zl_aload_n (pc := 79) hO 0 nd_GM_pop_79 rfl rfl ?_
              refine zl_iconst (pc := 80) hO (v := 5) nd_GM_pop_80 (by decide) ?_
              refine zl_puti (pc := 81) hO nd_GM_pop_81 kp_GM_161 rfl (Nat.le_of_ble_eq_true rfl) rfl ?_
              obtain ⟨s6, e_s6, h⟩ := lt_use h
              refine zl_sg e_s6 ?_
              exact zl_vret (pc := 84) hO nd_GM_pop_84 rfl (zr_v h)
        · have h := ite_f hc h
          exact zl_vret (pc := 45) hO nd_GM_pop_45 rfl (zr_v h)
      · have h := ite_f hc h
        refine zl_aload_n (pc := 14) hO 0 nd_GM_pop_14 rfl rfl ?_
        refine zl_iload_n (pc := 15) hO 1 nd_GM_pop_15 rfl rfl ?_
        refine zl_aload_n (pc := 16) hO 0 nd_GM_pop_16 rfl rfl ?_
        refine zl_get0 (pc := 17) hO nd_GM_pop_17 kf_GM_47 rfl (Nat.le_of_ble_eq_true rfl) rfl ?_
        refine zl_iload_n (pc := 20) hO 1 nd_GM_pop_20 rfl rfl ?_
        obtain ⟨c_in21, h⟩ := ck_use h
        refine zl_iald (pc := 21) hO nd_GM_pop_21 rfl rfl (Nat.le_of_ble_eq_true rfl) c_in21 ?_
        refine zl_iconst (pc := 22) hO (v := 4) nd_GM_pop_22 (by decide) ?_
        refine zl_iload (pc := 23) hO nd_GM_pop_23 rfl ?_
        refine zl_imul (pc := 25) hO nd_GM_pop_25 ?_
        refine zl_iadd (pc := 26) hO nd_GM_pop_26 ?_
        refine zl_iconst (pc := 27) hO (v := 0) nd_GM_pop_27 (by decide) ?_
        obtain ⟨⟨s7, r8⟩, h_28, h⟩ := bn_use h
        refine zl_callVi (pc := 28) hO [zI a1, zI ((s0 12 0 a1.toNatClampNeg) + ((4 : Int32) * l4)), zI 0] [] (c_GM_may hJ h_28) nd_GM_pop_28 kv_GM_195 rfl (Nat.le_of_ble_eq_true rfl) rfl rfl rfl (Nat.le_of_ble_eq_true rfl) ?_
        refine zl_pop (pc := 31) hO nd_GM_pop_31 rfl ?_
        obtain ⟨x9, e_x9, h⟩ := lt_use h
        refine zl_iinc (pc := 32) hO (L' := [some (zR 0 0), some (zI a1), some (zI a2), some (zI l3), some (zI x9), none, none]) nd_GM_pop_32 rfl e_x9.symm (by decide) rfl ?_
        refine zl_goto (pc := 35) hO 8 nd_GM_pop_35 (by decide) ?_
        exact zl_weak (ih _ _ _ h) ⟨rfl, ⟨rfl, ⟨rfl, ⟨rfl, ⟨rfl, trivial⟩⟩⟩⟩⟩
  unfold k_GM_pop at h
  refine zl_iload_n (pc := 0) hO 2 nd_GM_pop_0 rfl rfl ?_
  obtain ⟨⟨s1, r2⟩, h_1, h⟩ := bn_use h
  refine zl_callSi (pc := 1) hO [zI a2] [] (c_GM_named hJ h_1) nd_GM_pop_1 ks_GM_202 rfl rfl (Nat.le_of_ble_eq_true rfl) ?_
  refine zl_istore_n (pc := 4) hO 3 (L' := [some (zR 0 0), some (zI a1), some (zI a2), some (zI r2), none, none, none]) nd_GM_pop_4 rfl (by decide) rfl ?_
  refine zl_iconst (pc := 5) hO (v := 0) nd_GM_pop_5 (by decide) ?_
  refine zl_istore (pc := 6) hO (L' := [some (zR 0 0), some (zI a1), some (zI a2), some (zI r2), some (zI 0), none, none]) nd_GM_pop_6 (by decide) rfl ?_
  exact zl_weak (J_8 FU _ _ _ h) ⟨rfl, ⟨rfl, ⟨rfl, ⟨rfl, ⟨rfl, trivial⟩⟩⟩⟩⟩
set_option maxHeartbeats 4000000 in
set_option maxRecDepth 100000 in
theorem c_GM_holds {l : Launch} {V : zG} (hJ : zJ0 (sM l V)) {s0 : zS} {a1 : Int32} {a2 : Int32}  {s1 : zS} {v1 : Int32} (h : k_GM_holds s0 a1 a2 = some (s1, v1)) : zM (sM l V) md_GM_holds [zR 0 0, zI a1, zI a2] s0 (s1, some (zI v1)) := by
  refine zMet [some (zR 0 0), some (zI a1), some (zI a2), none, none, none, none, none, none] hJ (by decide) rfl (Nat.le_of_ble_eq_true rfl) rfl ?_
  intro X hO
  have J_183 : ∀ (s0 : zS) (t0 : Int32), k_GM_holds_183 a1 a2 s0 t0 = some (s1, v1) → ZW (sM l V) md_GM_holds (s1, some (zI v1)) X 183 [none, none, some (zI a2), none, none, none, none, none, none] [zI t0] s0 := by
    intro s0 t0 h
    unfold k_GM_holds_183 at h
    refine zl_istore (pc := 183) hO (L' := [none, none, some (zI a2), none, none, none, none, none, some (zI t0)]) nd_GM_holds_183 (by decide) rfl ?_
    refine zl_iload_n (pc := 185) hO 2 nd_GM_holds_185 rfl rfl ?_
    refine zl_iconst (pc := 186) hO (v := 1) nd_GM_holds_186 (by decide) ?_
    refine zl_iand (pc := 187) hO nd_GM_holds_187 ?_
    refine zl_if_ne (pc := 188) hO 196 nd_GM_holds_188 (by decide) (fun hc => ?_) (fun hc => ?_)
    · have h := ite_f hc h
      refine zl_iload (pc := 196) hO nd_GM_holds_196 rfl ?_
      refine zl_if_ne (pc := 198) hO 205 nd_GM_holds_198 (by decide) (fun hc => ?_) (fun hc => ?_)
      · have h := ite_f hc h
        refine zl_iconst (pc := 205) hO (v := 0) nd_GM_holds_205 (by decide) ?_
        exact zl_zret (pc := 206) hO nd_GM_holds_206 rfl (by decide) (zr_i h)
      · have h := ite_t hc h
        refine zl_iconst (pc := 201) hO (v := 1) nd_GM_holds_201 (by decide) ?_
        refine zl_goto (pc := 202) hO 206 nd_GM_holds_202 (by decide) ?_
        exact zl_zret (pc := 206) hO nd_GM_holds_206 rfl (by decide) (zr_i h)
    · have h := ite_t hc h
      refine zl_iload (pc := 191) hO nd_GM_holds_191 rfl ?_
      refine zl_goto (pc := 193) hO 206 nd_GM_holds_193 (by decide) ?_
      obtain ⟨c_bool206, h⟩ := ck_use h
      exact zl_zret (pc := 206) hO nd_GM_holds_206 rfl c_bool206 (zr_i h)
  have J_142 : ∀ (s0 : zS), k_GM_holds_142 a1 a2 s0 = some (s1, v1) → ZW (sM l V) md_GM_holds (s1, some (zI v1)) X 142 [none, none, some (zI a2), none, none, none, none, none, none] [] s0 := by
    intro s0 h
    unfold k_GM_holds_142 at h
    refine zl_iconst (pc := 142) hO (v := 0) nd_GM_holds_142 (by decide) ?_
    refine zl_goto (pc := 143) hO 183 nd_GM_holds_143 (by decide) ?_
    exact zl_weak (J_183 _ _ h) ⟨rfl, trivial⟩
  have J_182 : ∀ (s0 : zS), k_GM_holds_182 a1 a2 s0 = some (s1, v1) → ZW (sM l V) md_GM_holds (s1, some (zI v1)) X 182 [none, none, some (zI a2), none, none, none, none, none, none] [] s0 := by
    intro s0 h
    unfold k_GM_holds_182 at h
    refine zl_iconst (pc := 182) hO (v := 0) nd_GM_holds_182 (by decide) ?_
    exact zl_weak (J_183 _ _ h) ⟨rfl, trivial⟩
  have J_70 : ∀ (s0 : zS) (l3 : Int32) (l4 : Int32) (l5 : Int32) (t0 : Int32), k_GM_holds_70 a1 a2 s0 l3 l4 l5 t0 = some (s1, v1) → ZW (sM l V) md_GM_holds (s1, some (zI v1)) X 70 [none, none, some (zI a2), some (zI l3), some (zI l4), some (zI l5), none, none, none] [zI t0] s0 := by
    intro s0 l3 l4 l5 t0 h
    unfold k_GM_holds_70 at h
    refine zl_istore (pc := 70) hO (L' := [none, none, some (zI a2), some (zI l3), some (zI l4), some (zI l5), some (zI t0), none, none]) nd_GM_holds_70 (by decide) rfl ?_
    refine zl_iload_n (pc := 72) hO 2 nd_GM_holds_72 rfl rfl ?_
    refine zl_bipush (pc := 73) hO (v := 14) nd_GM_holds_73 (by decide) ?_
    refine zl_iand (pc := 75) hO nd_GM_holds_75 ?_
    obtain ⟨x1, e_x1, h⟩ := lt_use h
    refine zl_top e_x1 ?_
    refine zl_istore (pc := 76) hO (L' := [none, none, some (zI a2), some (zI l3), some (zI l4), some (zI l5), some (zI t0), some (zI x1), none]) nd_GM_holds_76 (by decide) rfl ?_
    refine zl_iload (pc := 78) hO nd_GM_holds_78 rfl ?_
    refine zl_if_ne (pc := 80) hO 88 nd_GM_holds_80 (by decide) (fun hc => ?_) (fun hc => ?_)
    · have h := ite_f hc h
      refine zl_iload (pc := 88) hO nd_GM_holds_88 rfl ?_
      refine zl_iconst (pc := 90) hO (v := 2) nd_GM_holds_90 (by decide) ?_
      refine zl_icmp_ne (pc := 91) hO 99 nd_GM_holds_91 (by decide) (fun hc => ?_) (fun hc => ?_)
      · have h := ite_f hc h
        refine zl_iload (pc := 99) hO nd_GM_holds_99 rfl ?_
        refine zl_iconst (pc := 101) hO (v := 4) nd_GM_holds_101 (by decide) ?_
        refine zl_icmp_ne (pc := 102) hO 109 nd_GM_holds_102 (by decide) (fun hc => ?_) (fun hc => ?_)
        · have h := ite_f hc h
          refine zl_iload (pc := 109) hO nd_GM_holds_109 rfl ?_
          refine zl_bipush (pc := 111) hO (v := 6) nd_GM_holds_111 (by decide) ?_
          refine zl_icmp_ne (pc := 113) hO 121 nd_GM_holds_113 (by decide) (fun hc => ?_) (fun hc => ?_)
          · have h := ite_f hc h
            refine zl_iload (pc := 121) hO nd_GM_holds_121 rfl ?_
            refine zl_bipush (pc := 123) hO (v := 8) nd_GM_holds_123 (by decide) ?_
            refine zl_icmp_ne (pc := 125) hO 146 nd_GM_holds_125 (by decide) (fun hc => ?_) (fun hc => ?_)
            · have h := ite_f hc h
              refine zl_iload (pc := 146) hO nd_GM_holds_146 rfl ?_
              refine zl_bipush (pc := 148) hO (v := 10) nd_GM_holds_148 (by decide) ?_
              refine zl_icmp_ne (pc := 150) hO 167 nd_GM_holds_150 (by decide) (fun hc => ?_) (fun hc => ?_)
              · have h := ite_f hc h
                refine zl_iload (pc := 167) hO nd_GM_holds_167 rfl ?_
                refine zl_if_ne (pc := 169) hO 182 nd_GM_holds_169 (by decide) (fun hc => ?_) (fun hc => ?_)
                · have h := ite_f hc h
                  exact zl_weak (J_182 _ h) ⟨rfl, trivial⟩
                · have h := ite_t hc h
                  refine zl_iload_n (pc := 172) hO 3 nd_GM_holds_172 rfl rfl ?_
                  refine zl_iload (pc := 173) hO nd_GM_holds_173 rfl ?_
                  refine zl_icmp_ne (pc := 175) hO 182 nd_GM_holds_175 (by decide) (fun hc => ?_) (fun hc => ?_)
                  · have h := ite_f hc h
                    exact zl_weak (J_182 _ h) ⟨rfl, trivial⟩
                  · have h := ite_t hc h
                    refine zl_iconst (pc := 178) hO (v := 1) nd_GM_holds_178 (by decide) ?_
                    refine zl_goto (pc := 179) hO 183 nd_GM_holds_179 (by decide) ?_
                    exact zl_weak (J_183 _ _ h) ⟨rfl, trivial⟩
              · have h := ite_t hc h
                refine zl_iload_n (pc := 153) hO 3 nd_GM_holds_153 rfl rfl ?_
                refine zl_iload (pc := 154) hO nd_GM_holds_154 rfl ?_
                refine zl_icmp_ne (pc := 156) hO 163 nd_GM_holds_156 (by decide) (fun hc => ?_) (fun hc => ?_)
                · have h := ite_f hc h
                  refine zl_iconst (pc := 163) hO (v := 0) nd_GM_holds_163 (by decide) ?_
                  refine zl_goto (pc := 164) hO 183 nd_GM_holds_164 (by decide) ?_
                  exact zl_weak (J_183 _ _ h) ⟨rfl, trivial⟩
                · have h := ite_t hc h
                  refine zl_iconst (pc := 159) hO (v := 1) nd_GM_holds_159 (by decide) ?_
                  refine zl_goto (pc := 160) hO 183 nd_GM_holds_160 (by decide) ?_
                  exact zl_weak (J_183 _ _ h) ⟨rfl, trivial⟩
            · have h := ite_t hc h
              refine zl_iload (pc := 128) hO nd_GM_holds_128 rfl ?_
              refine zl_if_eq (pc := 130) hO 142 nd_GM_holds_130 (by decide) (fun hc => ?_) (fun hc => ?_)
              · have h := ite_t hc h
                exact zl_weak (J_142 _ h) ⟨rfl, trivial⟩
              · have h := ite_f hc h
                refine zl_iload (pc := 133) hO nd_GM_holds_133 rfl ?_
                refine zl_if_ne (pc := 135) hO 142 nd_GM_holds_135 (by decide) (fun hc => ?_) (fun hc => ?_)
                · have h := ite_f hc h
                  exact zl_weak (J_142 _ h) ⟨rfl, trivial⟩
                · have h := ite_t hc h
                  refine zl_iconst (pc := 138) hO (v := 1) nd_GM_holds_138 (by decide) ?_
                  refine zl_goto (pc := 139) hO 183 nd_GM_holds_139 (by decide) ?_
                  exact zl_weak (J_183 _ _ h) ⟨rfl, trivial⟩
          · have h := ite_t hc h
            refine zl_iload (pc := 116) hO nd_GM_holds_116 rfl ?_
            refine zl_goto (pc := 118) hO 183 nd_GM_holds_118 (by decide) ?_
            exact zl_weak (J_183 _ _ h) ⟨rfl, trivial⟩
        · have h := ite_t hc h
          refine zl_iload_n (pc := 105) hO 3 nd_GM_holds_105 rfl rfl ?_
          refine zl_goto (pc := 106) hO 183 nd_GM_holds_106 (by decide) ?_
          exact zl_weak (J_183 _ _ h) ⟨rfl, trivial⟩
      · have h := ite_t hc h
        refine zl_iload (pc := 94) hO nd_GM_holds_94 rfl ?_
        refine zl_goto (pc := 96) hO 183 nd_GM_holds_96 (by decide) ?_
        exact zl_weak (J_183 _ _ h) ⟨rfl, trivial⟩
    · have h := ite_t hc h
      refine zl_iload (pc := 83) hO nd_GM_holds_83 rfl ?_
      refine zl_goto (pc := 85) hO 183 nd_GM_holds_85 (by decide) ?_
      exact zl_weak (J_183 _ _ h) ⟨rfl, trivial⟩
  have J_52 : ∀ (s0 : zS) (l3 : Int32) (l4 : Int32) (t0 : Int32), k_GM_holds_52 a1 a2 s0 l3 l4 t0 = some (s1, v1) → ZW (sM l V) md_GM_holds (s1, some (zI v1)) X 52 [some (zR 0 0), some (zI a1), some (zI a2), some (zI l3), some (zI l4), none, none, none, none] [zI t0] s0 := by
    intro s0 l3 l4 t0 h
    unfold k_GM_holds_52 at h
    refine zl_istore (pc := 52) hO (L' := [some (zR 0 0), some (zI a1), some (zI a2), some (zI l3), some (zI l4), some (zI t0), none, none, none]) nd_GM_holds_52 (by decide) rfl ?_
    refine zl_aload_n (pc := 54) hO 0 nd_GM_holds_54 rfl rfl ?_
    refine zl_get0 (pc := 55) hO nd_GM_holds_55 kf_GM_56 rfl (Nat.le_of_ble_eq_true rfl) rfl ?_
    refine zl_iload_n (pc := 58) hO 1 nd_GM_holds_58 rfl rfl ?_
    obtain ⟨c_in59, h⟩ := ck_use h
    refine zl_iald (pc := 59) hO nd_GM_holds_59 rfl rfl (Nat.le_of_ble_eq_true rfl) c_in59 ?_
    refine zl_iconst (pc := 60) hO (v := 1) nd_GM_holds_60 (by decide) ?_
    refine zl_iand (pc := 61) hO nd_GM_holds_61 ?_
    refine zl_if_eq (pc := 62) hO 69 nd_GM_holds_62 (by decide) (fun hc => ?_) (fun hc => ?_)
    · have h := ite_t hc h
      refine zl_iconst (pc := 69) hO (v := 0) nd_GM_holds_69 (by decide) ?_
      exact zl_weak (J_70 _ _ _ _ _ h) ⟨rfl, ⟨rfl, ⟨rfl, ⟨rfl, trivial⟩⟩⟩⟩
    · have h := ite_f hc h
      refine zl_iconst (pc := 65) hO (v := 1) nd_GM_holds_65 (by decide) ?_
      refine zl_goto (pc := 66) hO 70 nd_GM_holds_66 (by decide) ?_
      exact zl_weak (J_70 _ _ _ _ _ h) ⟨rfl, ⟨rfl, ⟨rfl, ⟨rfl, trivial⟩⟩⟩⟩
  have J_34 : ∀ (s0 : zS) (l3 : Int32) (t0 : Int32), k_GM_holds_34 a1 a2 s0 l3 t0 = some (s1, v1) → ZW (sM l V) md_GM_holds (s1, some (zI v1)) X 34 [some (zR 0 0), some (zI a1), some (zI a2), some (zI l3), none, none, none, none, none] [zI t0] s0 := by
    intro s0 l3 t0 h
    unfold k_GM_holds_34 at h
    refine zl_istore (pc := 34) hO (L' := [some (zR 0 0), some (zI a1), some (zI a2), some (zI l3), some (zI t0), none, none, none, none]) nd_GM_holds_34 (by decide) rfl ?_
    refine zl_aload_n (pc := 36) hO 0 nd_GM_holds_36 rfl rfl ?_
    refine zl_get0 (pc := 37) hO nd_GM_holds_37 kf_GM_56 rfl (Nat.le_of_ble_eq_true rfl) rfl ?_
    refine zl_iload_n (pc := 40) hO 1 nd_GM_holds_40 rfl rfl ?_
    obtain ⟨c_in41, h⟩ := ck_use h
    refine zl_iald (pc := 41) hO nd_GM_holds_41 rfl rfl (Nat.le_of_ble_eq_true rfl) c_in41 ?_
    refine zl_iconst (pc := 42) hO (v := 2) nd_GM_holds_42 (by decide) ?_
    refine zl_iand (pc := 43) hO nd_GM_holds_43 ?_
    refine zl_if_eq (pc := 44) hO 51 nd_GM_holds_44 (by decide) (fun hc => ?_) (fun hc => ?_)
    · have h := ite_t hc h
      refine zl_iconst (pc := 51) hO (v := 0) nd_GM_holds_51 (by decide) ?_
      exact zl_weak (J_52 _ _ _ _ h) ⟨rfl, ⟨rfl, ⟨rfl, ⟨rfl, ⟨rfl, trivial⟩⟩⟩⟩⟩
    · have h := ite_f hc h
      refine zl_iconst (pc := 47) hO (v := 1) nd_GM_holds_47 (by decide) ?_
      refine zl_goto (pc := 48) hO 52 nd_GM_holds_48 (by decide) ?_
      exact zl_weak (J_52 _ _ _ _ h) ⟨rfl, ⟨rfl, ⟨rfl, ⟨rfl, ⟨rfl, trivial⟩⟩⟩⟩⟩
  have J_17 : ∀ (s0 : zS) (t0 : Int32), k_GM_holds_17 a1 a2 s0 t0 = some (s1, v1) → ZW (sM l V) md_GM_holds (s1, some (zI v1)) X 17 [some (zR 0 0), some (zI a1), some (zI a2), none, none, none, none, none, none] [zI t0] s0 := by
    intro s0 t0 h
    unfold k_GM_holds_17 at h
    refine zl_istore_n (pc := 17) hO 3 (L' := [some (zR 0 0), some (zI a1), some (zI a2), some (zI t0), none, none, none, none, none]) nd_GM_holds_17 rfl (by decide) rfl ?_
    refine zl_aload_n (pc := 18) hO 0 nd_GM_holds_18 rfl rfl ?_
    refine zl_get0 (pc := 19) hO nd_GM_holds_19 kf_GM_56 rfl (Nat.le_of_ble_eq_true rfl) rfl ?_
    refine zl_iload_n (pc := 22) hO 1 nd_GM_holds_22 rfl rfl ?_
    obtain ⟨c_in23, h⟩ := ck_use h
    refine zl_iald (pc := 23) hO nd_GM_holds_23 rfl rfl (Nat.le_of_ble_eq_true rfl) c_in23 ?_
    refine zl_iconst (pc := 24) hO (v := 4) nd_GM_holds_24 (by decide) ?_
    refine zl_iand (pc := 25) hO nd_GM_holds_25 ?_
    refine zl_if_eq (pc := 26) hO 33 nd_GM_holds_26 (by decide) (fun hc => ?_) (fun hc => ?_)
    · have h := ite_t hc h
      refine zl_iconst (pc := 33) hO (v := 0) nd_GM_holds_33 (by decide) ?_
      exact zl_weak (J_34 _ _ _ h) ⟨rfl, ⟨rfl, ⟨rfl, ⟨rfl, trivial⟩⟩⟩⟩
    · have h := ite_f hc h
      refine zl_iconst (pc := 29) hO (v := 1) nd_GM_holds_29 (by decide) ?_
      refine zl_goto (pc := 30) hO 34 nd_GM_holds_30 (by decide) ?_
      exact zl_weak (J_34 _ _ _ h) ⟨rfl, ⟨rfl, ⟨rfl, ⟨rfl, trivial⟩⟩⟩⟩
  unfold k_GM_holds at h
  refine zl_aload_n (pc := 0) hO 0 nd_GM_holds_0 rfl rfl ?_
  refine zl_get0 (pc := 1) hO nd_GM_holds_1 kf_GM_56 rfl (Nat.le_of_ble_eq_true rfl) rfl ?_
  refine zl_iload_n (pc := 4) hO 1 nd_GM_holds_4 rfl rfl ?_
  obtain ⟨c_in5, h⟩ := ck_use h
  refine zl_iald (pc := 5) hO nd_GM_holds_5 rfl rfl (Nat.le_of_ble_eq_true rfl) c_in5 ?_
  refine zl_bipush (pc := 6) hO (v := 8) nd_GM_holds_6 (by decide) ?_
  refine zl_iand (pc := 8) hO nd_GM_holds_8 ?_
  refine zl_if_eq (pc := 9) hO 16 nd_GM_holds_9 (by decide) (fun hc => ?_) (fun hc => ?_)
  · have h := ite_t hc h
    refine zl_iconst (pc := 16) hO (v := 0) nd_GM_holds_16 (by decide) ?_
    exact zl_weak (J_17 _ _ h) ⟨rfl, ⟨rfl, ⟨rfl, trivial⟩⟩⟩
  · have h := ite_f hc h
    refine zl_iconst (pc := 12) hO (v := 1) nd_GM_holds_12 (by decide) ?_
    refine zl_goto (pc := 13) hO 17 nd_GM_holds_13 (by decide) ?_
    exact zl_weak (J_17 _ _ h) ⟨rfl, ⟨rfl, ⟨rfl, trivial⟩⟩⟩
set_option maxHeartbeats 4000000 in
set_option maxRecDepth 100000 in
theorem c_GM_oldest {l : Launch} {V : zG} (hJ : zJ0 (sM l V)) {s0 : zS} {a1 : Int32}  {s1 : zS} {v1 : Int32} (h : k_GM_oldest s0 a1 = some (s1, v1)) : zM (sM l V) md_GM_oldest [zR 0 0, zI a1] s0 (s1, some (zI v1)) := by
  refine zMet [some (zR 0 0), some (zI a1), none] hJ (by decide) rfl (Nat.le_of_ble_eq_true rfl) rfl ?_
  intro X hO
  have J_2 : ∀ (n : Nat), ∀ (s0 : zS) (l2 : Int32), k_GM_oldest_2 a1 n s0 l2 = some (s1, v1) → ZW (sM l V) md_GM_oldest (s1, some (zI v1)) X 2 [some (zR 0 0), some (zI a1), some (zI l2)] [] s0 := by
    intro n
    induction n with
    | zero => intro s0 l2 h; exact absurd h (by rw [k_GM_oldest_2]; exact fun w => nomatch w)
    | succ n ih =>
      intro s0 l2 h
      rw [k_GM_oldest_2]  at h
      refine zl_iload_n (pc := 2) hO 2 nd_GM_oldest_2 rfl rfl ?_
      refine zl_aload_n (pc := 3) hO 0 nd_GM_oldest_3 rfl rfl ?_
      refine zl_geti (pc := 4) hO nd_GM_oldest_4 kf_GM_121 rfl (Nat.le_of_ble_eq_true rfl) rfl ?_
      refine zl_icmp_ge (pc := 7) hO 28 nd_GM_oldest_7 (by decide) (fun hc => ?_) (fun hc => ?_)
      · have h := ite_t hc h
        refine zl_iconst (pc := 28) hO (v := (-1)) nd_GM_oldest_28 (by decide) ?_
        exact zl_iret (pc := 29) hO nd_GM_oldest_29 rfl (zr_i h)
      · have h := ite_f hc h
        refine zl_aload_n (pc := 10) hO 0 nd_GM_oldest_10 rfl rfl ?_
        refine zl_get0 (pc := 11) hO nd_GM_oldest_11 kf_GM_87 rfl (Nat.le_of_ble_eq_true rfl) rfl ?_
        refine zl_iload_n (pc := 14) hO 2 nd_GM_oldest_14 rfl rfl ?_
        obtain ⟨c_in15, h⟩ := ck_use h
        refine zl_iald (pc := 15) hO nd_GM_oldest_15 rfl rfl (Nat.le_of_ble_eq_true rfl) c_in15 ?_
        refine zl_iload_n (pc := 16) hO 1 nd_GM_oldest_16 rfl rfl ?_
        refine zl_icmp_ne (pc := 17) hO 22 nd_GM_oldest_17 (by decide) (fun hc => ?_) (fun hc => ?_)
        · have h := ite_f hc h
          obtain ⟨x1, e_x1, h⟩ := lt_use h
          refine zl_iinc (pc := 22) hO (L' := [some (zR 0 0), some (zI a1), some (zI x1)]) nd_GM_oldest_22 rfl e_x1.symm (by decide) rfl ?_
          refine zl_goto (pc := 25) hO 2 nd_GM_oldest_25 (by decide) ?_
          exact zl_weak (ih _ _ h) ⟨rfl, ⟨rfl, ⟨rfl, trivial⟩⟩⟩
        · have h := ite_t hc h
          refine zl_iload_n (pc := 20) hO 2 nd_GM_oldest_20 rfl rfl ?_
          exact zl_iret (pc := 21) hO nd_GM_oldest_21 rfl (zr_i h)
  unfold k_GM_oldest at h
  refine zl_iconst (pc := 0) hO (v := 0) nd_GM_oldest_0 (by decide) ?_
  refine zl_istore_n (pc := 1) hO 2 (L' := [some (zR 0 0), some (zI a1), some (zI 0)]) nd_GM_oldest_1 rfl (by decide) rfl ?_
  exact zl_weak (J_2 FU _ _ h) ⟨rfl, ⟨rfl, ⟨rfl, trivial⟩⟩⟩
set_option maxHeartbeats 4000000 in
set_option maxRecDepth 100000 in
theorem c_GM_deliver {l : Launch} {V : zG} (hJ : zJ0 (sM l V)) {s0 : zS} {a1 : Int32} {a2 : Int32} {a3 : Int32} {a4 : Int32}  {s1 : zS} (h : k_GM_deliver s0 a1 a2 a3 a4 = some s1) : zM (sM l V) md_GM_deliver [zR 0 0, zI a1, zI a2, zI a3, zI a4] s0 (s1, none) := by
  refine zMet [some (zR 0 0), some (zI a1), some (zI a2), some (zI a3), some (zI a4), none, none] hJ (by decide) rfl (Nat.le_of_ble_eq_true rfl) rfl ?_
  intro X hO
  unfold k_GM_deliver at h
  refine zl_aload_n (pc := 0) hO 0 nd_GM_deliver_0 rfl rfl ?_
  refine zl_get0 (pc := 1) hO nd_GM_deliver_1 kf_GM_47 rfl (Nat.le_of_ble_eq_true rfl) rfl ?_
  refine zl_iload_n (pc := 4) hO 1 nd_GM_deliver_4 rfl rfl ?_
  obtain ⟨c_in5, h⟩ := ck_use h
  refine zl_iald (pc := 5) hO nd_GM_deliver_5 rfl rfl (Nat.le_of_ble_eq_true rfl) c_in5 ?_
  obtain ⟨x1, e_x1, h⟩ := lt_use h
  refine zl_top e_x1 ?_
  refine zl_istore (pc := 6) hO (L' := [some (zR 0 0), some (zI a1), some (zI a2), some (zI a3), some (zI a4), some (zI x1), none]) nd_GM_deliver_6 (by decide) rfl ?_
  refine zl_aload_n (pc := 8) hO 0 nd_GM_deliver_8 rfl rfl ?_
  refine zl_iload (pc := 9) hO nd_GM_deliver_9 rfl ?_
  refine zl_iload_n (pc := 11) hO 3 nd_GM_deliver_11 rfl rfl ?_
  obtain ⟨s2, h_12, h⟩ := bn_use h
  refine zl_callVv (pc := 12) hO [zI x1, zI a3] [] (c_GM_set hJ h_12) nd_GM_deliver_12 kv_GM_167 rfl (Nat.le_of_ble_eq_true rfl) rfl rfl rfl (Nat.le_of_ble_eq_true rfl) ?_
  refine zl_aload_n (pc := 15) hO 0 nd_GM_deliver_15 rfl rfl ?_
  refine zl_iload (pc := 16) hO nd_GM_deliver_16 rfl ?_
  refine zl_iconst (pc := 18) hO (v := 4) nd_GM_deliver_18 (by decide) ?_
  refine zl_iadd (pc := 19) hO nd_GM_deliver_19 ?_
  refine zl_iload (pc := 20) hO nd_GM_deliver_20 rfl ?_
  obtain ⟨s3, h_22, h⟩ := bn_use h
  refine zl_callVv (pc := 22) hO [zI (x1 + (4 : Int32)), zI a4] [] (c_GM_set hJ h_22) nd_GM_deliver_22 kv_GM_167 rfl (Nat.le_of_ble_eq_true rfl) rfl rfl rfl (Nat.le_of_ble_eq_true rfl) ?_
  refine zl_aload_n (pc := 25) hO 0 nd_GM_deliver_25 rfl rfl ?_
  refine zl_iload (pc := 26) hO nd_GM_deliver_26 rfl ?_
  refine zl_bipush (pc := 28) hO (v := 8) nd_GM_deliver_28 (by decide) ?_
  refine zl_iadd (pc := 30) hO nd_GM_deliver_30 ?_
  refine zl_iload_n (pc := 31) hO 2 nd_GM_deliver_31 rfl rfl ?_
  obtain ⟨s4, h_32, h⟩ := bn_use h
  refine zl_callVv (pc := 32) hO [zI (x1 + (8 : Int32)), zI a2] [] (c_GM_set hJ h_32) nd_GM_deliver_32 kv_GM_167 rfl (Nat.le_of_ble_eq_true rfl) rfl rfl rfl (Nat.le_of_ble_eq_true rfl) ?_
  refine zl_aload_n (pc := 35) hO 0 nd_GM_deliver_35 rfl rfl ?_
  refine zl_iload (pc := 36) hO nd_GM_deliver_36 rfl ?_
  refine zl_bipush (pc := 38) hO (v := 12) nd_GM_deliver_38 (by decide) ?_
  refine zl_iadd (pc := 40) hO nd_GM_deliver_40 ?_
  refine zl_aload_n (pc := 41) hO 0 nd_GM_deliver_41 rfl rfl ?_
  refine zl_get0 (pc := 42) hO nd_GM_deliver_42 kf_GM_78 rfl (Nat.le_of_ble_eq_true rfl) rfl ?_
  refine zl_iconst (pc := 45) hO (v := 3) nd_GM_deliver_45 (by decide) ?_
  refine zl_iload_n (pc := 46) hO 1 nd_GM_deliver_46 rfl rfl ?_
  refine zl_imul (pc := 47) hO nd_GM_deliver_47 ?_
  refine zl_iload_n (pc := 48) hO 2 nd_GM_deliver_48 rfl rfl ?_
  refine zl_iadd (pc := 49) hO nd_GM_deliver_49 ?_
  obtain ⟨c_in50, h⟩ := ck_use h
  refine zl_iald (pc := 50) hO nd_GM_deliver_50 rfl rfl (Nat.le_of_ble_eq_true rfl) c_in50 ?_
  obtain ⟨s5, h_51, h⟩ := bn_use h
  refine zl_callVv (pc := 51) hO [zI (x1 + (12 : Int32)), zI (s4 22 0 (((3 : Int32) * a1) + a2).toNatClampNeg)] [] (c_GM_set hJ h_51) nd_GM_deliver_51 kv_GM_167 rfl (Nat.le_of_ble_eq_true rfl) rfl rfl rfl (Nat.le_of_ble_eq_true rfl) ?_
  refine zl_aload_n (pc := 54) hO 0 nd_GM_deliver_54 rfl rfl ?_
  refine zl_iload (pc := 55) hO nd_GM_deliver_55 rfl ?_
  refine zl_bipush (pc := 57) hO (v := 24) nd_GM_deliver_57 (by decide) ?_
  refine zl_iadd (pc := 59) hO nd_GM_deliver_59 ?_
  obtain ⟨⟨s6, r7⟩, h_60, h⟩ := bn_use h
  refine zl_callVi (pc := 60) hO [zI (x1 + (24 : Int32))] [] (c_GM_get hJ h_60) nd_GM_deliver_60 kv_GM_172 rfl (Nat.le_of_ble_eq_true rfl) rfl rfl rfl (Nat.le_of_ble_eq_true rfl) ?_
  refine zl_istore (pc := 63) hO (L' := [some (zR 0 0), some (zI a1), some (zI a2), some (zI a3), some (zI a4), some (zI x1), some (zI r7)]) nd_GM_deliver_63 (by decide) rfl ?_
  refine zl_aload_n (pc := 65) hO 0 nd_GM_deliver_65 rfl rfl ?_
  refine zl_iload (pc := 66) hO nd_GM_deliver_66 rfl ?_
  refine zl_bipush (pc := 68) hO (v := 20) nd_GM_deliver_68 (by decide) ?_
  refine zl_iadd (pc := 70) hO nd_GM_deliver_70 ?_
  refine zl_iload (pc := 71) hO nd_GM_deliver_71 rfl ?_
  refine zl_iconst (pc := 73) hO (v := 1) nd_GM_deliver_73 (by decide) ?_
  refine zl_iadd (pc := 74) hO nd_GM_deliver_74 ?_
  obtain ⟨s8, h_75, h⟩ := bn_use h
  refine zl_callVv (pc := 75) hO [zI (x1 + (20 : Int32)), zI (r7 + (1 : Int32))] [] (c_GM_set hJ h_75) nd_GM_deliver_75 kv_GM_167 rfl (Nat.le_of_ble_eq_true rfl) rfl rfl rfl (Nat.le_of_ble_eq_true rfl) ?_
  refine zl_aload_n (pc := 78) hO 0 nd_GM_deliver_78 rfl rfl ?_
  refine zl_iload (pc := 79) hO nd_GM_deliver_79 rfl ?_
  refine zl_bipush (pc := 81) hO (v := 24) nd_GM_deliver_81 (by decide) ?_
  refine zl_iadd (pc := 83) hO nd_GM_deliver_83 ?_
  refine zl_aload_n (pc := 84) hO 0 nd_GM_deliver_84 rfl rfl ?_
  refine zl_get0 (pc := 85) hO nd_GM_deliver_85 kf_GM_75 rfl (Nat.le_of_ble_eq_true rfl) rfl ?_
  refine zl_iconst (pc := 88) hO (v := 3) nd_GM_deliver_88 (by decide) ?_
  refine zl_iload_n (pc := 89) hO 1 nd_GM_deliver_89 rfl rfl ?_
  refine zl_imul (pc := 90) hO nd_GM_deliver_90 ?_
  refine zl_iload_n (pc := 91) hO 2 nd_GM_deliver_91 rfl rfl ?_
  refine zl_iadd (pc := 92) hO nd_GM_deliver_92 ?_
  obtain ⟨c_in93, h⟩ := ck_use h
  refine zl_iald (pc := 93) hO nd_GM_deliver_93 rfl rfl (Nat.le_of_ble_eq_true rfl) c_in93 ?_
  refine zl_bipush (pc := 94) hO (v := (-2)) nd_GM_deliver_94 (by decide) ?_
  refine zl_iand (pc := 96) hO nd_GM_deliver_96 ?_
  obtain ⟨s9, h_97, h⟩ := bn_use h
  refine zl_callVv (pc := 97) hO [zI (x1 + (24 : Int32)), zI ((s8 21 0 (((3 : Int32) * a1) + a2).toNatClampNeg) &&& (-2 : Int32))] [] (c_GM_set hJ h_97) nd_GM_deliver_97 kv_GM_167 rfl (Nat.le_of_ble_eq_true rfl) rfl rfl rfl (Nat.le_of_ble_eq_true rfl) ?_
  refine zl_aload_n (pc := 100) hO 0 nd_GM_deliver_100 rfl rfl ?_
  refine zl_get0 (pc := 101) hO nd_GM_deliver_101 kf_GM_41 rfl (Nat.le_of_ble_eq_true rfl) rfl ?_
  refine zl_iload_n (pc := 104) hO 1 nd_GM_deliver_104 rfl rfl ?_
  refine zl_iconst (pc := 105) hO (v := 0) nd_GM_deliver_105 (by decide) ?_
  obtain ⟨c_in106, h⟩ := ck_use h
  refine zl_iast (pc := 106) hO nd_GM_deliver_106 rfl rfl (Nat.le_of_ble_eq_true rfl) c_in106 ?_
  obtain ⟨s10, e_s10, h⟩ := lt_use h
  refine zl_sg e_s10 ?_
  exact zl_vret (pc := 107) hO nd_GM_deliver_107 rfl (zr_v h)
set_option maxHeartbeats 4000000 in
set_option maxRecDepth 100000 in
theorem c_GM_grantAddress {l : Launch} {V : zG} (hJ : zJ0 (sM l V)) {s0 : zS} {a1 : Int32} {a2 : Int32}  {s1 : zS} {v1 : Int32} (h : k_GM_grantAddress s0 a1 a2 = some (s1, v1)) : zM (sM l V) md_GM_grantAddress [zR 0 0, zI a1, zI a2] s0 (s1, some (zI v1)) := by
  refine zMet [some (zR 0 0), some (zI a1), some (zI a2)] hJ (by decide) rfl (Nat.le_of_ble_eq_true rfl) rfl ?_
  intro X hO
  unfold k_GM_grantAddress at h
  refine zl_sipush (pc := 0) hO (v := 4096) nd_GM_grantAddress_0 (by decide) ?_
  refine zl_iconst (pc := 3) hO (v := 4) nd_GM_grantAddress_3 (by decide) ?_
  refine zl_aload_n (pc := 4) hO 0 nd_GM_grantAddress_4 rfl rfl ?_
  refine zl_get0 (pc := 5) hO nd_GM_grantAddress_5 kf_GM_26 rfl (Nat.le_of_ble_eq_true rfl) rfl ?_
  refine zl_iload_n (pc := 8) hO 1 nd_GM_grantAddress_8 rfl rfl ?_
  obtain ⟨c_in9, h⟩ := ck_use h
  refine zl_iald (pc := 9) hO nd_GM_grantAddress_9 rfl rfl (Nat.le_of_ble_eq_true rfl) c_in9 ?_
  refine zl_aload_n (pc := 10) hO 0 nd_GM_grantAddress_10 rfl rfl ?_
  refine zl_get0 (pc := 11) hO nd_GM_grantAddress_11 kf_GM_29 rfl (Nat.le_of_ble_eq_true rfl) rfl ?_
  refine zl_iload_n (pc := 14) hO 1 nd_GM_grantAddress_14 rfl rfl ?_
  obtain ⟨c_in15, h⟩ := ck_use h
  refine zl_iald (pc := 15) hO nd_GM_grantAddress_15 rfl rfl (Nat.le_of_ble_eq_true rfl) c_in15 ?_
  refine zl_iadd (pc := 16) hO nd_GM_grantAddress_16 ?_
  refine zl_iconst (pc := 17) hO (v := 2) nd_GM_grantAddress_17 (by decide) ?_
  refine zl_aload_n (pc := 18) hO 0 nd_GM_grantAddress_18 rfl rfl ?_
  refine zl_get0 (pc := 19) hO nd_GM_grantAddress_19 kf_GM_72 rfl (Nat.le_of_ble_eq_true rfl) rfl ?_
  refine zl_iconst (pc := 22) hO (v := 3) nd_GM_grantAddress_22 (by decide) ?_
  refine zl_iload_n (pc := 23) hO 1 nd_GM_grantAddress_23 rfl rfl ?_
  refine zl_imul (pc := 24) hO nd_GM_grantAddress_24 ?_
  refine zl_iload_n (pc := 25) hO 2 nd_GM_grantAddress_25 rfl rfl ?_
  refine zl_iadd (pc := 26) hO nd_GM_grantAddress_26 ?_
  obtain ⟨c_in27, h⟩ := ck_use h
  refine zl_iald (pc := 27) hO nd_GM_grantAddress_27 rfl rfl (Nat.le_of_ble_eq_true rfl) c_in27 ?_
  refine zl_imul (pc := 28) hO nd_GM_grantAddress_28 ?_
  refine zl_isub (pc := 29) hO nd_GM_grantAddress_29 ?_
  refine zl_imul (pc := 30) hO nd_GM_grantAddress_30 ?_
  refine zl_iadd (pc := 31) hO nd_GM_grantAddress_31 ?_
  exact zl_iret (pc := 32) hO nd_GM_grantAddress_32 rfl (zr_i h)
set_option maxHeartbeats 4000000 in
set_option maxRecDepth 100000 in
theorem c_GM_write {l : Launch} {V : zG} (hJ : zJ0 (sM l V)) {s0 : zS} {a1 : Int32} {a2 : Int32} {a3 : Int32} {a4 : Int32}  {s1 : zS} (h : k_GM_write s0 a1 a2 a3 a4 = some s1) : zM (sM l V) md_GM_write [zR 0 0, zI a1, zI a2, zI a3, zI a4] s0 (s1, none) := by
  refine zMet [some (zR 0 0), some (zI a1), some (zI a2), some (zI a3), some (zI a4)] hJ (by decide) rfl (Nat.le_of_ble_eq_true rfl) rfl ?_
  intro X hO
  unfold k_GM_write at h
  refine zl_aload_n (pc := 0) hO 0 nd_GM_write_0 rfl rfl ?_
  refine zl_aload_n (pc := 1) hO 0 nd_GM_write_1 rfl rfl ?_
  refine zl_iload_n (pc := 2) hO 1 nd_GM_write_2 rfl rfl ?_
  refine zl_iload_n (pc := 3) hO 2 nd_GM_write_3 rfl rfl ?_
  obtain ⟨⟨s1, r2⟩, h_4, h⟩ := bn_use h
  refine zl_callVi (pc := 4) hO [zI a1, zI a2] [zR 0 0] (c_GM_grantAddress hJ h_4) nd_GM_write_4 kv_GM_242 rfl (Nat.le_of_ble_eq_true rfl) rfl rfl rfl (Nat.le_of_ble_eq_true rfl) ?_
  refine zl_iconst (pc := 7) hO (v := 4) nd_GM_write_7 (by decide) ?_
  refine zl_iload_n (pc := 8) hO 3 nd_GM_write_8 rfl rfl ?_
  refine zl_imul (pc := 9) hO nd_GM_write_9 ?_
  refine zl_iadd (pc := 10) hO nd_GM_write_10 ?_
  refine zl_iload (pc := 11) hO nd_GM_write_11 rfl ?_
  obtain ⟨s3, h_13, h⟩ := bn_use h
  refine zl_callVv (pc := 13) hO [zI (r2 + ((4 : Int32) * a3)), zI a4] [] (c_GM_set hJ h_13) nd_GM_write_13 kv_GM_167 rfl (Nat.le_of_ble_eq_true rfl) rfl rfl rfl (Nat.le_of_ble_eq_true rfl) ?_
  exact zl_vret (pc := 16) hO nd_GM_write_16 rfl (zr_v h)
set_option maxHeartbeats 4000000 in
set_option maxRecDepth 100000 in
theorem c_GM_ensure {l : Launch} {V : zG} (hJ : zJ0 (sM l V)) {s0 : zS} {a1 : Int32} {a2 : Int32}  {s1 : zS} {v1 : Int32} (h : k_GM_ensure s0 a1 a2 = some (s1, v1)) : zM (sM l V) md_GM_ensure [zR 0 0, zI a1, zI a2] s0 (s1, some (zI v1)) := by
  refine zMet [some (zR 0 0), some (zI a1), some (zI a2), none, none, none, none, none] hJ (by decide) rfl (Nat.le_of_ble_eq_true rfl) rfl ?_
  intro X hO
  have J_113 : ∀ (K61 : zS → Int32 → Int32 → Int32 → Int32 → Int32 → Option (zS × Int32)) (hK61 : ∀ (s0 : zS) (l3 : Int32) (l4 : Int32) (l5 : Int32) (l6 : Int32) (l7 : Int32), K61 s0 l3 l4 l5 l6 l7 = some (s1, v1) → ZW (sM l V) md_GM_ensure (s1, some (zI v1)) X 61 [some (zR 0 0), some (zI a1), some (zI a2), some (zI l3), some (zI l4), some (zI l5), some (zI l6), some (zI l7)] [] s0), ∀ (s0 : zS) (l3 : Int32) (l4 : Int32) (l6 : Int32) (l7 : Int32) (t0 : Int32), k_GM_ensure_113 a1 a2 K61 s0 l3 l4 l6 l7 t0 = some (s1, v1) → ZW (sM l V) md_GM_ensure (s1, some (zI v1)) X 113 [some (zR 0 0), some (zI a1), some (zI a2), some (zI l3), some (zI l4), none, some (zI l6), some (zI l7)] [zI t0] s0 := by
    intro K61 hK61
    intro s0 l3 l4 l6 l7 t0 h
    unfold k_GM_ensure_113 at h
    refine zl_istore (pc := 113) hO (L' := [some (zR 0 0), some (zI a1), some (zI a2), some (zI l3), some (zI l4), some (zI t0), some (zI l6), some (zI l7)]) nd_GM_ensure_113 (by decide) rfl ?_
    obtain ⟨x12, e_x12, h⟩ := lt_use h
    refine zl_iinc (pc := 115) hO (L' := [some (zR 0 0), some (zI a1), some (zI a2), some (zI l3), some (zI l4), some (zI t0), some (zI l6), some (zI x12)]) nd_GM_ensure_115 rfl e_x12.symm (by decide) rfl ?_
    refine zl_goto (pc := 118) hO 61 nd_GM_ensure_118 (by decide) ?_
    exact zl_weak (hK61 _ _ _ _ _ _ h) ⟨rfl, ⟨rfl, ⟨rfl, ⟨rfl, ⟨rfl, ⟨rfl, ⟨rfl, ⟨rfl, trivial⟩⟩⟩⟩⟩⟩⟩⟩
  have J_112 : ∀ (K61 : zS → Int32 → Int32 → Int32 → Int32 → Int32 → Option (zS × Int32)) (hK61 : ∀ (s0 : zS) (l3 : Int32) (l4 : Int32) (l5 : Int32) (l6 : Int32) (l7 : Int32), K61 s0 l3 l4 l5 l6 l7 = some (s1, v1) → ZW (sM l V) md_GM_ensure (s1, some (zI v1)) X 61 [some (zR 0 0), some (zI a1), some (zI a2), some (zI l3), some (zI l4), some (zI l5), some (zI l6), some (zI l7)] [] s0), ∀ (s0 : zS) (l3 : Int32) (l4 : Int32) (l6 : Int32) (l7 : Int32), k_GM_ensure_112 a1 a2 K61 s0 l3 l4 l6 l7 = some (s1, v1) → ZW (sM l V) md_GM_ensure (s1, some (zI v1)) X 112 [some (zR 0 0), some (zI a1), some (zI a2), some (zI l3), some (zI l4), none, some (zI l6), some (zI l7)] [] s0 := by
    intro K61 hK61
    intro s0 l3 l4 l6 l7 h
    unfold k_GM_ensure_112 at h
    refine zl_iconst (pc := 112) hO (v := 0) nd_GM_ensure_112 (by decide) ?_
    exact zl_weak (J_113 K61 hK61 _ _ _ _ _ _ h) ⟨rfl, ⟨rfl, ⟨rfl, ⟨rfl, ⟨rfl, ⟨rfl, ⟨rfl, trivial⟩⟩⟩⟩⟩⟩⟩
  have J_61 : ∀ (K52 : zS → Int32 → Int32 → Int32 → Int32 → Option (zS × Int32)) (hK52 : ∀ (s0 : zS) (l3 : Int32) (l4 : Int32) (l5 : Int32) (l6 : Int32), K52 s0 l3 l4 l5 l6 = some (s1, v1) → ZW (sM l V) md_GM_ensure (s1, some (zI v1)) X 52 [some (zR 0 0), some (zI a1), some (zI a2), some (zI l3), some (zI l4), some (zI l5), some (zI l6), none] [] s0) (n : Nat), ∀ (s0 : zS) (l3 : Int32) (l4 : Int32) (l5 : Int32) (l6 : Int32) (l7 : Int32), k_GM_ensure_61 a1 a2 K52 n s0 l3 l4 l5 l6 l7 = some (s1, v1) → ZW (sM l V) md_GM_ensure (s1, some (zI v1)) X 61 [some (zR 0 0), some (zI a1), some (zI a2), some (zI l3), some (zI l4), some (zI l5), some (zI l6), some (zI l7)] [] s0 := by
    intro K52 hK52
    intro n
    induction n with
    | zero => intro s0 l3 l4 l5 l6 l7 h; exact absurd h (by rw [k_GM_ensure_61]; exact fun w => nomatch w)
    | succ n ih =>
      intro s0 l3 l4 l5 l6 l7 h
      rw [k_GM_ensure_61]  at h
      refine zl_iload (pc := 61) hO nd_GM_ensure_61 rfl ?_
      refine zl_aload_n (pc := 63) hO 0 nd_GM_ensure_63 rfl rfl ?_
      refine zl_get0 (pc := 64) hO nd_GM_ensure_64 kf_GM_84 rfl (Nat.le_of_ble_eq_true rfl) rfl ?_
      refine zl_iconst (pc := 67) hO (v := 3) nd_GM_ensure_67 (by decide) ?_
      refine zl_iload_n (pc := 68) hO 1 nd_GM_ensure_68 rfl rfl ?_
      refine zl_imul (pc := 69) hO nd_GM_ensure_69 ?_
      refine zl_iload (pc := 70) hO nd_GM_ensure_70 rfl ?_
      refine zl_iadd (pc := 72) hO nd_GM_ensure_72 ?_
      obtain ⟨c_in73, h⟩ := ck_use h
      refine zl_iald (pc := 73) hO nd_GM_ensure_73 rfl rfl (Nat.le_of_ble_eq_true rfl) c_in73 ?_
      refine zl_icmp_ge (pc := 74) hO 121 nd_GM_ensure_74 (by decide) (fun hc => ?_) (fun hc => ?_)
      · have h := ite_t hc h
        obtain ⟨x9, e_x9, h⟩ := lt_use h
        refine zl_iinc (pc := 121) hO (L' := [some (zR 0 0), some (zI a1), some (zI a2), some (zI l3), some (zI l4), some (zI l5), some (zI x9), some (zI l7)]) nd_GM_ensure_121 rfl e_x9.symm (by decide) rfl ?_
        refine zl_goto (pc := 124) hO 52 nd_GM_ensure_124 (by decide) ?_
        exact zl_weak (hK52 _ _ _ _ _ h) ⟨rfl, ⟨rfl, ⟨rfl, ⟨rfl, ⟨rfl, ⟨rfl, ⟨rfl, trivial⟩⟩⟩⟩⟩⟩⟩
      · have h := ite_f hc h
        refine zl_iload (pc := 77) hO nd_GM_ensure_77 rfl ?_
        refine zl_if_eq (pc := 79) hO 112 nd_GM_ensure_79 (by decide) (fun hc => ?_) (fun hc => ?_)
        · have h := ite_t hc h
          exact zl_weak (J_112 (k_GM_ensure_61 a1 a2 K52 n) ih _ _ _ _ _ h) ⟨rfl, ⟨rfl, ⟨rfl, ⟨rfl, ⟨rfl, ⟨rfl, ⟨rfl, trivial⟩⟩⟩⟩⟩⟩⟩
        · have h := ite_f hc h
          refine zl_aload_n (pc := 82) hO 0 nd_GM_ensure_82 rfl rfl ?_
          refine zl_iload_n (pc := 83) hO 1 nd_GM_ensure_83 rfl rfl ?_
          refine zl_aload_n (pc := 84) hO 0 nd_GM_ensure_84 rfl rfl ?_
          refine zl_get0 (pc := 85) hO nd_GM_ensure_85 kf_GM_81 rfl (Nat.le_of_ble_eq_true rfl) rfl ?_
          refine zl_iconst (pc := 88) hO (v := 3) nd_GM_ensure_88 (by decide) ?_
          refine zl_iload_n (pc := 89) hO 1 nd_GM_ensure_89 rfl rfl ?_
          refine zl_imul (pc := 90) hO nd_GM_ensure_90 ?_
          refine zl_iload (pc := 91) hO nd_GM_ensure_91 rfl ?_
          refine zl_iadd (pc := 93) hO nd_GM_ensure_93 ?_
          obtain ⟨c_in94, h⟩ := ck_use h
          refine zl_iald (pc := 94) hO nd_GM_ensure_94 rfl rfl (Nat.le_of_ble_eq_true rfl) c_in94 ?_
          refine zl_iconst (pc := 95) hO (v := 4) nd_GM_ensure_95 (by decide) ?_
          refine zl_iload (pc := 96) hO nd_GM_ensure_96 rfl ?_
          refine zl_imul (pc := 98) hO nd_GM_ensure_98 ?_
          refine zl_iadd (pc := 99) hO nd_GM_ensure_99 ?_
          refine zl_iload (pc := 100) hO nd_GM_ensure_100 rfl ?_
          obtain ⟨⟨s10, r11⟩, h_102, h⟩ := bn_use h
          refine zl_callVi (pc := 102) hO [zI a1, zI ((s0 23 0 (((3 : Int32) * a1) + l6).toNatClampNeg) + ((4 : Int32) * l7)), zI l4] [] (c_GM_within hJ h_102) nd_GM_ensure_102 kv_GM_150 rfl (Nat.le_of_ble_eq_true rfl) rfl rfl rfl (Nat.le_of_ble_eq_true rfl) ?_
          refine zl_if_eq (pc := 105) hO 112 nd_GM_ensure_105 (by decide) (fun hc => ?_) (fun hc => ?_)
          · have h := ite_t hc h
            exact zl_weak (J_112 (k_GM_ensure_61 a1 a2 K52 n) ih _ _ _ _ _ h) ⟨rfl, ⟨rfl, ⟨rfl, ⟨rfl, ⟨rfl, ⟨rfl, ⟨rfl, trivial⟩⟩⟩⟩⟩⟩⟩
          · have h := ite_f hc h
            refine zl_iconst (pc := 108) hO (v := 1) nd_GM_ensure_108 (by decide) ?_
            refine zl_goto (pc := 109) hO 113 nd_GM_ensure_109 (by decide) ?_
            exact zl_weak (J_113 (k_GM_ensure_61 a1 a2 K52 n) ih _ _ _ _ _ _ h) ⟨rfl, ⟨rfl, ⟨rfl, ⟨rfl, ⟨rfl, ⟨rfl, ⟨rfl, trivial⟩⟩⟩⟩⟩⟩⟩
  have J_52 : ∀ (n : Nat), ∀ (s0 : zS) (l3 : Int32) (l4 : Int32) (l5 : Int32) (l6 : Int32), k_GM_ensure_52 a1 a2 n s0 l3 l4 l5 l6 = some (s1, v1) → ZW (sM l V) md_GM_ensure (s1, some (zI v1)) X 52 [some (zR 0 0), some (zI a1), some (zI a2), some (zI l3), some (zI l4), some (zI l5), some (zI l6), none] [] s0 := by
    intro n
    induction n with
    | zero => intro s0 l3 l4 l5 l6 h; exact absurd h (by rw [k_GM_ensure_52]; exact fun w => nomatch w)
    | succ n ih =>
      intro s0 l3 l4 l5 l6 h
      rw [k_GM_ensure_52]  at h
      refine zl_iload (pc := 52) hO nd_GM_ensure_52 rfl ?_
      refine zl_iconst (pc := 54) hO (v := 3) nd_GM_ensure_54 (by decide) ?_
      refine zl_icmp_ge (pc := 55) hO 127 nd_GM_ensure_55 (by decide) (fun hc => ?_) (fun hc => ?_)
      · have h := ite_t hc h
        refine zl_iload (pc := 127) hO nd_GM_ensure_127 rfl ?_
        refine zl_if_eq (pc := 129) hO 161 nd_GM_ensure_129 (by decide) (fun hc => ?_) (fun hc => ?_)
        · have h := ite_t hc h
          refine zl_iload (pc := 161) hO nd_GM_ensure_161 rfl ?_
          obtain ⟨c_bool163, h⟩ := ck_use h
          exact zl_zret (pc := 163) hO nd_GM_ensure_163 rfl c_bool163 (zr_i h)
        · have h := ite_f hc h
          refine zl_aload_n (pc := 132) hO 0 nd_GM_ensure_132 rfl rfl ?_
          refine zl_get0 (pc := 133) hO nd_GM_ensure_133 kf_GM_72 rfl (Nat.le_of_ble_eq_true rfl) rfl ?_
          refine zl_iconst (pc := 136) hO (v := 3) nd_GM_ensure_136 (by decide) ?_
          refine zl_iload_n (pc := 137) hO 1 nd_GM_ensure_137 rfl rfl ?_
          refine zl_imul (pc := 138) hO nd_GM_ensure_138 ?_
          refine zl_iload_n (pc := 139) hO 2 nd_GM_ensure_139 rfl rfl ?_
          refine zl_iadd (pc := 140) hO nd_GM_ensure_140 ?_
          refine zl_iload_n (pc := 141) hO 3 nd_GM_ensure_141 rfl rfl ?_
          refine zl_iconst (pc := 142) hO (v := 2) nd_GM_ensure_142 (by decide) ?_
          obtain ⟨c_div143, h⟩ := ck_use h
          refine zl_idiv (pc := 143) hO nd_GM_ensure_143 c_div143 ?_
          obtain ⟨c_in144, h⟩ := ck_use h
          refine zl_iast (pc := 144) hO nd_GM_ensure_144 rfl rfl (Nat.le_of_ble_eq_true rfl) c_in144 ?_
          obtain ⟨s6, e_s6, h⟩ := lt_use h
          refine zl_sg e_s6 ?_
          refine zl_aload_n (pc := 145) hO 0 nd_GM_ensure_145 rfl rfl ?_
          refine zl_iload_n (pc := 146) hO 1 nd_GM_ensure_146 rfl rfl ?_
          refine zl_iload_n (pc := 147) hO 2 nd_GM_ensure_147 rfl rfl ?_
          refine zl_iconst (pc := 148) hO (v := 0) nd_GM_ensure_148 (by decide) ?_
          refine zl_iconst (pc := 149) hO (v := 0) nd_GM_ensure_149 (by decide) ?_
          obtain ⟨s7, h_150, h⟩ := bn_use h
          refine zl_callVv (pc := 150) hO [zI a1, zI a2, zI 0, zI 0] [] (c_GM_write hJ h_150) nd_GM_ensure_150 kv_GM_245 rfl (Nat.le_of_ble_eq_true rfl) rfl rfl rfl (Nat.le_of_ble_eq_true rfl) ?_
          refine zl_aload_n (pc := 153) hO 0 nd_GM_ensure_153 rfl rfl ?_
          refine zl_iload_n (pc := 154) hO 1 nd_GM_ensure_154 rfl rfl ?_
          refine zl_iload_n (pc := 155) hO 2 nd_GM_ensure_155 rfl rfl ?_
          refine zl_iconst (pc := 156) hO (v := 1) nd_GM_ensure_156 (by decide) ?_
          refine zl_iconst (pc := 157) hO (v := 0) nd_GM_ensure_157 (by decide) ?_
          obtain ⟨s8, h_158, h⟩ := bn_use h
          refine zl_callVv (pc := 158) hO [zI a1, zI a2, zI 1, zI 0] [] (c_GM_write hJ h_158) nd_GM_ensure_158 kv_GM_245 rfl (Nat.le_of_ble_eq_true rfl) rfl rfl rfl (Nat.le_of_ble_eq_true rfl) ?_
          refine zl_iload (pc := 161) hO nd_GM_ensure_161 rfl ?_
          obtain ⟨c_bool163, h⟩ := ck_use h
          exact zl_zret (pc := 163) hO nd_GM_ensure_163 rfl c_bool163 (zr_i h)
      · have h := ite_f hc h
        refine zl_iconst (pc := 58) hO (v := 0) nd_GM_ensure_58 (by decide) ?_
        refine zl_istore (pc := 59) hO (L' := [some (zR 0 0), some (zI a1), some (zI a2), some (zI l3), some (zI l4), some (zI l5), some (zI l6), some (zI 0)]) nd_GM_ensure_59 (by decide) rfl ?_
        exact zl_weak (J_61 (k_GM_ensure_52 a1 a2 n) ih FU _ _ _ _ _ _ h) ⟨rfl, ⟨rfl, ⟨rfl, ⟨rfl, ⟨rfl, ⟨rfl, ⟨rfl, ⟨rfl, trivial⟩⟩⟩⟩⟩⟩⟩⟩
  have J_47 : ∀ (s0 : zS) (l3 : Int32) (l4 : Int32) (t0 : Int32), k_GM_ensure_47 a1 a2 s0 l3 l4 t0 = some (s1, v1) → ZW (sM l V) md_GM_ensure (s1, some (zI v1)) X 47 [some (zR 0 0), some (zI a1), some (zI a2), some (zI l3), some (zI l4), none, none, none] [zI t0] s0 := by
    intro s0 l3 l4 t0 h
    unfold k_GM_ensure_47 at h
    refine zl_istore (pc := 47) hO (L' := [some (zR 0 0), some (zI a1), some (zI a2), some (zI l3), some (zI l4), some (zI t0), none, none]) nd_GM_ensure_47 (by decide) rfl ?_
    refine zl_iconst (pc := 49) hO (v := 0) nd_GM_ensure_49 (by decide) ?_
    refine zl_istore (pc := 50) hO (L' := [some (zR 0 0), some (zI a1), some (zI a2), some (zI l3), some (zI l4), some (zI t0), some (zI 0), none]) nd_GM_ensure_50 (by decide) rfl ?_
    exact zl_weak (J_52 FU _ _ _ _ _ h) ⟨rfl, ⟨rfl, ⟨rfl, ⟨rfl, ⟨rfl, ⟨rfl, ⟨rfl, trivial⟩⟩⟩⟩⟩⟩⟩
  unfold k_GM_ensure at h
  refine zl_aload_n (pc := 0) hO 0 nd_GM_ensure_0 rfl rfl ?_
  refine zl_get0 (pc := 1) hO nd_GM_ensure_1 kf_GM_72 rfl (Nat.le_of_ble_eq_true rfl) rfl ?_
  refine zl_iconst (pc := 4) hO (v := 3) nd_GM_ensure_4 (by decide) ?_
  refine zl_iload_n (pc := 5) hO 1 nd_GM_ensure_5 rfl rfl ?_
  refine zl_imul (pc := 6) hO nd_GM_ensure_6 ?_
  refine zl_iload_n (pc := 7) hO 2 nd_GM_ensure_7 rfl rfl ?_
  refine zl_iadd (pc := 8) hO nd_GM_ensure_8 ?_
  obtain ⟨c_in9, h⟩ := ck_use h
  refine zl_iald (pc := 9) hO nd_GM_ensure_9 rfl rfl (Nat.le_of_ble_eq_true rfl) c_in9 ?_
  refine zl_if_le (pc := 10) hO 15 nd_GM_ensure_10 (by decide) (fun hc => ?_) (fun hc => ?_)
  · have h := ite_t hc h
    refine zl_aload_n (pc := 15) hO 0 nd_GM_ensure_15 rfl rfl ?_
    refine zl_iload_n (pc := 16) hO 1 nd_GM_ensure_16 rfl rfl ?_
    obtain ⟨⟨s1, r2⟩, h_17, h⟩ := bn_use h
    refine zl_callVi (pc := 17) hO [zI a1] [] (c_GM_granted hJ h_17) nd_GM_ensure_17 kv_GM_142 rfl (Nat.le_of_ble_eq_true rfl) rfl rfl rfl (Nat.le_of_ble_eq_true rfl) ?_
    refine zl_iconst (pc := 20) hO (v := 2) nd_GM_ensure_20 (by decide) ?_
    refine zl_iadd (pc := 21) hO nd_GM_ensure_21 ?_
    obtain ⟨x3, e_x3, h⟩ := lt_use h
    refine zl_top e_x3 ?_
    refine zl_istore_n (pc := 22) hO 3 (L' := [some (zR 0 0), some (zI a1), some (zI a2), some (zI x3), none, none, none, none]) nd_GM_ensure_22 rfl (by decide) rfl ?_
    refine zl_aload_n (pc := 23) hO 0 nd_GM_ensure_23 rfl rfl ?_
    refine zl_iload_n (pc := 24) hO 1 nd_GM_ensure_24 rfl rfl ?_
    refine zl_iload_n (pc := 25) hO 3 nd_GM_ensure_25 rfl rfl ?_
    obtain ⟨⟨s4, r5⟩, h_26, h⟩ := bn_use h
    refine zl_callVi (pc := 26) hO [zI a1, zI x3] [] (c_GM_openWords hJ h_26) nd_GM_ensure_26 kv_GM_146 rfl (Nat.le_of_ble_eq_true rfl) rfl rfl rfl (Nat.le_of_ble_eq_true rfl) ?_
    refine zl_istore (pc := 29) hO (L' := [some (zR 0 0), some (zI a1), some (zI a2), some (zI x3), some (zI r5), none, none, none]) nd_GM_ensure_29 (by decide) rfl ?_
    refine zl_iload (pc := 31) hO nd_GM_ensure_31 rfl ?_
    refine zl_aload_n (pc := 33) hO 0 nd_GM_ensure_33 rfl rfl ?_
    refine zl_get0 (pc := 34) hO nd_GM_ensure_34 kf_GM_32 rfl (Nat.le_of_ble_eq_true rfl) rfl ?_
    refine zl_iload_n (pc := 37) hO 1 nd_GM_ensure_37 rfl rfl ?_
    obtain ⟨c_in38, h⟩ := ck_use h
    refine zl_iald (pc := 38) hO nd_GM_ensure_38 rfl rfl (Nat.le_of_ble_eq_true rfl) c_in38 ?_
    refine zl_icmp_lt (pc := 39) hO 46 nd_GM_ensure_39 (by decide) (fun hc => ?_) (fun hc => ?_)
    · have h := ite_t hc h
      refine zl_iconst (pc := 46) hO (v := 0) nd_GM_ensure_46 (by decide) ?_
      exact zl_weak (J_47 _ _ _ _ h) ⟨rfl, ⟨rfl, ⟨rfl, ⟨rfl, ⟨rfl, trivial⟩⟩⟩⟩⟩
    · have h := ite_f hc h
      refine zl_iconst (pc := 42) hO (v := 1) nd_GM_ensure_42 (by decide) ?_
      refine zl_goto (pc := 43) hO 47 nd_GM_ensure_43 (by decide) ?_
      exact zl_weak (J_47 _ _ _ _ h) ⟨rfl, ⟨rfl, ⟨rfl, ⟨rfl, ⟨rfl, trivial⟩⟩⟩⟩⟩
  · have h := ite_f hc h
    refine zl_iconst (pc := 13) hO (v := 1) nd_GM_ensure_13 (by decide) ?_
    exact zl_zret (pc := 14) hO nd_GM_ensure_14 rfl (by decide) (zr_i h)
set_option maxHeartbeats 4000000 in
set_option maxRecDepth 100000 in
theorem c_GM_subscribe {l : Launch} {V : zG} (hJ : zJ0 (sM l V)) {s0 : zS} {a1 : Int32} {a2 : Int32} {a3 : Int32} {a4 : Int32}  {s1 : zS} {v1 : Int32} (h : k_GM_subscribe s0 a1 a2 a3 a4 = some (s1, v1)) : zM (sM l V) md_GM_subscribe [zR 0 0, zI a1, zI a2, zI a3, zI a4] s0 (s1, some (zI v1)) := by
  refine zMet [some (zR 0 0), some (zI a1), some (zI a2), some (zI a3), some (zI a4)] hJ (by decide) rfl (Nat.le_of_ble_eq_true rfl) rfl ?_
  intro X hO
  unfold k_GM_subscribe at h
  refine zl_aload_n (pc := 0) hO 0 nd_GM_subscribe_0 rfl rfl ?_
  refine zl_get0 (pc := 1) hO nd_GM_subscribe_1 kf_GM_75 rfl (Nat.le_of_ble_eq_true rfl) rfl ?_
  refine zl_iconst (pc := 4) hO (v := 3) nd_GM_subscribe_4 (by decide) ?_
  refine zl_iload_n (pc := 5) hO 1 nd_GM_subscribe_5 rfl rfl ?_
  refine zl_imul (pc := 6) hO nd_GM_subscribe_6 ?_
  refine zl_iload_n (pc := 7) hO 2 nd_GM_subscribe_7 rfl rfl ?_
  refine zl_iadd (pc := 8) hO nd_GM_subscribe_8 ?_
  refine zl_iload_n (pc := 9) hO 3 nd_GM_subscribe_9 rfl rfl ?_
  obtain ⟨c_in10, h⟩ := ck_use h
  refine zl_iast (pc := 10) hO nd_GM_subscribe_10 rfl rfl (Nat.le_of_ble_eq_true rfl) c_in10 ?_
  obtain ⟨s1, e_s1, h⟩ := lt_use h
  refine zl_sg e_s1 ?_
  refine zl_aload_n (pc := 11) hO 0 nd_GM_subscribe_11 rfl rfl ?_
  refine zl_get0 (pc := 12) hO nd_GM_subscribe_12 kf_GM_78 rfl (Nat.le_of_ble_eq_true rfl) rfl ?_
  refine zl_iconst (pc := 15) hO (v := 3) nd_GM_subscribe_15 (by decide) ?_
  refine zl_iload_n (pc := 16) hO 1 nd_GM_subscribe_16 rfl rfl ?_
  refine zl_imul (pc := 17) hO nd_GM_subscribe_17 ?_
  refine zl_iload_n (pc := 18) hO 2 nd_GM_subscribe_18 rfl rfl ?_
  refine zl_iadd (pc := 19) hO nd_GM_subscribe_19 ?_
  refine zl_iload (pc := 20) hO nd_GM_subscribe_20 rfl ?_
  obtain ⟨c_in22, h⟩ := ck_use h
  refine zl_iast (pc := 22) hO nd_GM_subscribe_22 rfl rfl (Nat.le_of_ble_eq_true rfl) c_in22 ?_
  obtain ⟨s2, e_s2, h⟩ := lt_use h
  refine zl_sg e_s2 ?_
  refine zl_aload_n (pc := 23) hO 0 nd_GM_subscribe_23 rfl rfl ?_
  refine zl_iload_n (pc := 24) hO 1 nd_GM_subscribe_24 rfl rfl ?_
  refine zl_iload_n (pc := 25) hO 2 nd_GM_subscribe_25 rfl rfl ?_
  obtain ⟨s3, h_26, h⟩ := bn_use h
  refine zl_callVv (pc := 26) hO [zI a1, zI a2] [] (c_GM_drop hJ h_26) nd_GM_subscribe_26 kv_GM_135 rfl (Nat.le_of_ble_eq_true rfl) rfl rfl rfl (Nat.le_of_ble_eq_true rfl) ?_
  refine zl_iconst (pc := 29) hO (v := 0) nd_GM_subscribe_29 (by decide) ?_
  exact zl_iret (pc := 30) hO nd_GM_subscribe_30 rfl (zr_i h)
set_option maxHeartbeats 4000000 in
set_option maxRecDepth 100000 in
theorem c_GM_note {l : Launch} {V : zG} (hJ : zJ0 (sM l V)) {s0 : zS} {a1 : Int32} {a2 : Int32} {a3 : Int32}  {s1 : zS} {v1 : Int32} (h : k_GM_note s0 a1 a2 a3 = some (s1, v1)) : zM (sM l V) md_GM_note [zR 0 0, zI a1, zI a2, zI a3] s0 (s1, some (zI v1)) := by
  refine zMet [some (zR 0 0), some (zI a1), some (zI a2), some (zI a3)] hJ (by decide) rfl (Nat.le_of_ble_eq_true rfl) rfl ?_
  intro X hO
  unfold k_GM_note at h
  refine zl_aload_n (pc := 0) hO 0 nd_GM_note_0 rfl rfl ?_
  refine zl_aload_n (pc := 1) hO 0 nd_GM_note_1 rfl rfl ?_
  refine zl_iload_n (pc := 2) hO 1 nd_GM_note_2 rfl rfl ?_
  refine zl_iload_n (pc := 3) hO 2 nd_GM_note_3 rfl rfl ?_
  obtain ⟨⟨s1, r2⟩, h_4, h⟩ := bn_use h
  refine zl_callVi (pc := 4) hO [zI a1, zI a2] [zR 0 0] (c_GM_grantAddress hJ h_4) nd_GM_note_4 kv_GM_242 rfl (Nat.le_of_ble_eq_true rfl) rfl rfl rfl (Nat.le_of_ble_eq_true rfl) ?_
  refine zl_iconst (pc := 7) hO (v := 4) nd_GM_note_7 (by decide) ?_
  refine zl_iload_n (pc := 8) hO 3 nd_GM_note_8 rfl rfl ?_
  refine zl_imul (pc := 9) hO nd_GM_note_9 ?_
  refine zl_iadd (pc := 10) hO nd_GM_note_10 ?_
  obtain ⟨⟨s3, r4⟩, h_11, h⟩ := bn_use h
  refine zl_callVi (pc := 11) hO [zI (r2 + ((4 : Int32) * a3))] [] (c_GM_get hJ h_11) nd_GM_note_11 kv_GM_172 rfl (Nat.le_of_ble_eq_true rfl) rfl rfl rfl (Nat.le_of_ble_eq_true rfl) ?_
  exact zl_iret (pc := 14) hO nd_GM_note_14 rfl (zr_i h)
set_option maxHeartbeats 4000000 in
set_option maxRecDepth 100000 in
theorem c_GM_waiting {l : Launch} {V : zG} (hJ : zJ0 (sM l V)) {s0 : zS} {a1 : Int32}  {s1 : zS} {v1 : Int32} (h : k_GM_waiting s0 a1 = some (s1, v1)) : zM (sM l V) md_GM_waiting [zR 0 0, zI a1] s0 (s1, some (zI v1)) := by
  refine zMet [some (zR 0 0), some (zI a1), none, none] hJ (by decide) rfl (Nat.le_of_ble_eq_true rfl) rfl ?_
  intro X hO
  have J_28 : ∀ (K4 : zS → Int32 → Int32 → Option (zS × Int32)) (hK4 : ∀ (s0 : zS) (l2 : Int32) (l3 : Int32), K4 s0 l2 l3 = some (s1, v1) → ZW (sM l V) md_GM_waiting (s1, some (zI v1)) X 4 [some (zR 0 0), some (zI a1), some (zI l2), some (zI l3)] [] s0), ∀ (s0 : zS) (l3 : Int32) (t0 : Int32) (t1 : Int32), k_GM_waiting_28 a1 K4 s0 l3 t0 t1 = some (s1, v1) → ZW (sM l V) md_GM_waiting (s1, some (zI v1)) X 28 [some (zR 0 0), some (zI a1), none, some (zI l3)] [zI t0, zI t1] s0 := by
    intro K4 hK4
    intro s0 l3 t0 t1 h
    unfold k_GM_waiting_28 at h
    refine zl_iadd (pc := 28) hO nd_GM_waiting_28 ?_
    obtain ⟨x1, e_x1, h⟩ := lt_use h
    refine zl_top e_x1 ?_
    refine zl_istore_n (pc := 29) hO 2 (L' := [some (zR 0 0), some (zI a1), some (zI x1), some (zI l3)]) nd_GM_waiting_29 rfl (by decide) rfl ?_
    obtain ⟨x2, e_x2, h⟩ := lt_use h
    refine zl_iinc (pc := 30) hO (L' := [some (zR 0 0), some (zI a1), some (zI x1), some (zI x2)]) nd_GM_waiting_30 rfl e_x2.symm (by decide) rfl ?_
    refine zl_goto (pc := 33) hO 4 nd_GM_waiting_33 (by decide) ?_
    exact zl_weak (hK4 _ _ _ h) ⟨rfl, ⟨rfl, ⟨rfl, ⟨rfl, trivial⟩⟩⟩⟩
  have J_4 : ∀ (n : Nat), ∀ (s0 : zS) (l2 : Int32) (l3 : Int32), k_GM_waiting_4 a1 n s0 l2 l3 = some (s1, v1) → ZW (sM l V) md_GM_waiting (s1, some (zI v1)) X 4 [some (zR 0 0), some (zI a1), some (zI l2), some (zI l3)] [] s0 := by
    intro n
    induction n with
    | zero => intro s0 l2 l3 h; exact absurd h (by rw [k_GM_waiting_4]; exact fun w => nomatch w)
    | succ n ih =>
      intro s0 l2 l3 h
      rw [k_GM_waiting_4]  at h
      refine zl_iload_n (pc := 4) hO 3 nd_GM_waiting_4 rfl rfl ?_
      refine zl_aload_n (pc := 5) hO 0 nd_GM_waiting_5 rfl rfl ?_
      refine zl_geti (pc := 6) hO nd_GM_waiting_6 kf_GM_121 rfl (Nat.le_of_ble_eq_true rfl) rfl ?_
      refine zl_icmp_ge (pc := 9) hO 36 nd_GM_waiting_9 (by decide) (fun hc => ?_) (fun hc => ?_)
      · have h := ite_t hc h
        refine zl_iload_n (pc := 36) hO 2 nd_GM_waiting_36 rfl rfl ?_
        exact zl_iret (pc := 37) hO nd_GM_waiting_37 rfl (zr_i h)
      · have h := ite_f hc h
        refine zl_iload_n (pc := 12) hO 2 nd_GM_waiting_12 rfl rfl ?_
        refine zl_aload_n (pc := 13) hO 0 nd_GM_waiting_13 rfl rfl ?_
        refine zl_get0 (pc := 14) hO nd_GM_waiting_14 kf_GM_87 rfl (Nat.le_of_ble_eq_true rfl) rfl ?_
        refine zl_iload_n (pc := 17) hO 3 nd_GM_waiting_17 rfl rfl ?_
        obtain ⟨c_in18, h⟩ := ck_use h
        refine zl_iald (pc := 18) hO nd_GM_waiting_18 rfl rfl (Nat.le_of_ble_eq_true rfl) c_in18 ?_
        refine zl_iload_n (pc := 19) hO 1 nd_GM_waiting_19 rfl rfl ?_
        refine zl_icmp_ne (pc := 20) hO 27 nd_GM_waiting_20 (by decide) (fun hc => ?_) (fun hc => ?_)
        · have h := ite_f hc h
          refine zl_iconst (pc := 27) hO (v := 0) nd_GM_waiting_27 (by decide) ?_
          exact zl_weak (J_28 (k_GM_waiting_4 a1 n) ih _ _ _ _ h) ⟨rfl, ⟨rfl, ⟨rfl, trivial⟩⟩⟩
        · have h := ite_t hc h
          refine zl_iconst (pc := 23) hO (v := 1) nd_GM_waiting_23 (by decide) ?_
          refine zl_goto (pc := 24) hO 28 nd_GM_waiting_24 (by decide) ?_
          exact zl_weak (J_28 (k_GM_waiting_4 a1 n) ih _ _ _ _ h) ⟨rfl, ⟨rfl, ⟨rfl, trivial⟩⟩⟩
  unfold k_GM_waiting at h
  refine zl_iconst (pc := 0) hO (v := 0) nd_GM_waiting_0 (by decide) ?_
  refine zl_istore_n (pc := 1) hO 2 (L' := [some (zR 0 0), some (zI a1), some (zI 0), none]) nd_GM_waiting_1 rfl (by decide) rfl ?_
  refine zl_iconst (pc := 2) hO (v := 0) nd_GM_waiting_2 (by decide) ?_
  refine zl_istore_n (pc := 3) hO 3 (L' := [some (zR 0 0), some (zI a1), some (zI 0), some (zI 0)]) nd_GM_waiting_3 rfl (by decide) rfl ?_
  exact zl_weak (J_4 FU _ _ _ h) ⟨rfl, ⟨rfl, ⟨rfl, ⟨rfl, trivial⟩⟩⟩⟩
set_option maxHeartbeats 4000000 in
set_option maxRecDepth 100000 in
theorem c_GM_upcall {l : Launch} {V : zG} (hJ : zJ0 (sM l V)) {s0 : zS} {a1 : Int32} {a2 : Int32} {a3 : Int32} {a4 : Int32}  {s1 : zS} (h : k_GM_upcall s0 a1 a2 a3 a4 = some s1) : zM (sM l V) md_GM_upcall [zR 0 0, zI a1, zI a2, zI a3, zI a4] s0 (s1, none) := by
  refine zMet [some (zR 0 0), some (zI a1), some (zI a2), some (zI a3), some (zI a4)] hJ (by decide) rfl (Nat.le_of_ble_eq_true rfl) rfl ?_
  intro X hO
  unfold k_GM_upcall at h
  refine zl_aload_n (pc := 0) hO 0 nd_GM_upcall_0 rfl rfl ?_
  refine zl_get0 (pc := 1) hO nd_GM_upcall_1 kf_GM_75 rfl (Nat.le_of_ble_eq_true rfl) rfl ?_
  refine zl_iconst (pc := 4) hO (v := 3) nd_GM_upcall_4 (by decide) ?_
  refine zl_iload_n (pc := 5) hO 1 nd_GM_upcall_5 rfl rfl ?_
  refine zl_imul (pc := 6) hO nd_GM_upcall_6 ?_
  refine zl_iload_n (pc := 7) hO 2 nd_GM_upcall_7 rfl rfl ?_
  refine zl_iadd (pc := 8) hO nd_GM_upcall_8 ?_
  obtain ⟨c_in9, h⟩ := ck_use h
  refine zl_iald (pc := 9) hO nd_GM_upcall_9 rfl rfl (Nat.le_of_ble_eq_true rfl) c_in9 ?_
  refine zl_if_ne (pc := 10) hO 14 nd_GM_upcall_10 (by decide) (fun hc => ?_) (fun hc => ?_)
  · have h := ite_f hc h
    refine zl_aload_n (pc := 14) hO 0 nd_GM_upcall_14 rfl rfl ?_
    refine zl_get0 (pc := 15) hO nd_GM_upcall_15 kf_GM_41 rfl (Nat.le_of_ble_eq_true rfl) rfl ?_
    refine zl_iload_n (pc := 18) hO 1 nd_GM_upcall_18 rfl rfl ?_
    obtain ⟨c_in19, h⟩ := ck_use h
    refine zl_iald (pc := 19) hO nd_GM_upcall_19 rfl rfl (Nat.le_of_ble_eq_true rfl) c_in19 ?_
    refine zl_iconst (pc := 20) hO (v := 1) nd_GM_upcall_20 (by decide) ?_
    refine zl_icmp_ne (pc := 21) hO 36 nd_GM_upcall_21 (by decide) (fun hc => ?_) (fun hc => ?_)
    · have h := ite_f hc h
      refine zl_aload_n (pc := 36) hO 0 nd_GM_upcall_36 rfl rfl ?_
      refine zl_iload_n (pc := 37) hO 1 nd_GM_upcall_37 rfl rfl ?_
      obtain ⟨⟨s1, r2⟩, h_38, h⟩ := bn_use h
      refine zl_callVi (pc := 38) hO [zI a1] [] (c_GM_waiting hJ h_38) nd_GM_upcall_38 kv_GM_280 rfl (Nat.le_of_ble_eq_true rfl) rfl rfl rfl (Nat.le_of_ble_eq_true rfl) ?_
      refine zl_iconst (pc := 41) hO (v := 4) nd_GM_upcall_41 (by decide) ?_
      refine zl_icmp_ge (pc := 42) hO 96 nd_GM_upcall_42 (by decide) (fun hc => ?_) (fun hc => ?_)
      · have h := ite_t hc h
        exact zl_vret (pc := 96) hO nd_GM_upcall_96 rfl (zr_v h)
      · have h := ite_f hc h
        refine zl_aload_n (pc := 45) hO 0 nd_GM_upcall_45 rfl rfl ?_
        refine zl_get0 (pc := 46) hO nd_GM_upcall_46 kf_GM_87 rfl (Nat.le_of_ble_eq_true rfl) rfl ?_
        refine zl_aload_n (pc := 49) hO 0 nd_GM_upcall_49 rfl rfl ?_
        refine zl_geti (pc := 50) hO nd_GM_upcall_50 kf_GM_121 rfl (Nat.le_of_ble_eq_true rfl) rfl ?_
        refine zl_iload_n (pc := 53) hO 1 nd_GM_upcall_53 rfl rfl ?_
        obtain ⟨c_in54, h⟩ := ck_use h
        refine zl_iast (pc := 54) hO nd_GM_upcall_54 rfl rfl (Nat.le_of_ble_eq_true rfl) c_in54 ?_
        obtain ⟨s3, e_s3, h⟩ := lt_use h
        refine zl_sg e_s3 ?_
        refine zl_aload_n (pc := 55) hO 0 nd_GM_upcall_55 rfl rfl ?_
        refine zl_get0 (pc := 56) hO nd_GM_upcall_56 kf_GM_90 rfl (Nat.le_of_ble_eq_true rfl) rfl ?_
        refine zl_aload_n (pc := 59) hO 0 nd_GM_upcall_59 rfl rfl ?_
        refine zl_geti (pc := 60) hO nd_GM_upcall_60 kf_GM_121 rfl (Nat.le_of_ble_eq_true rfl) rfl ?_
        refine zl_iload_n (pc := 63) hO 2 nd_GM_upcall_63 rfl rfl ?_
        obtain ⟨c_in64, h⟩ := ck_use h
        refine zl_iast (pc := 64) hO nd_GM_upcall_64 rfl rfl (Nat.le_of_ble_eq_true rfl) c_in64 ?_
        obtain ⟨s4, e_s4, h⟩ := lt_use h
        refine zl_sg e_s4 ?_
        refine zl_aload_n (pc := 65) hO 0 nd_GM_upcall_65 rfl rfl ?_
        refine zl_get0 (pc := 66) hO nd_GM_upcall_66 kf_GM_93 rfl (Nat.le_of_ble_eq_true rfl) rfl ?_
        refine zl_aload_n (pc := 69) hO 0 nd_GM_upcall_69 rfl rfl ?_
        refine zl_geti (pc := 70) hO nd_GM_upcall_70 kf_GM_121 rfl (Nat.le_of_ble_eq_true rfl) rfl ?_
        refine zl_iload_n (pc := 73) hO 3 nd_GM_upcall_73 rfl rfl ?_
        obtain ⟨c_in74, h⟩ := ck_use h
        refine zl_iast (pc := 74) hO nd_GM_upcall_74 rfl rfl (Nat.le_of_ble_eq_true rfl) c_in74 ?_
        obtain ⟨s5, e_s5, h⟩ := lt_use h
        refine zl_sg e_s5 ?_
        refine zl_aload_n (pc := 75) hO 0 nd_GM_upcall_75 rfl rfl ?_
        refine zl_get0 (pc := 76) hO nd_GM_upcall_76 kf_GM_96 rfl (Nat.le_of_ble_eq_true rfl) rfl ?_
        refine zl_aload_n (pc := 79) hO 0 nd_GM_upcall_79 rfl rfl ?_
        refine zl_geti (pc := 80) hO nd_GM_upcall_80 kf_GM_121 rfl (Nat.le_of_ble_eq_true rfl) rfl ?_
        refine zl_iload (pc := 83) hO nd_GM_upcall_83 rfl ?_
        obtain ⟨c_in85, h⟩ := ck_use h
        refine zl_iast (pc := 85) hO nd_GM_upcall_85 rfl rfl (Nat.le_of_ble_eq_true rfl) c_in85 ?_
        obtain ⟨s6, e_s6, h⟩ := lt_use h
        refine zl_sg e_s6 ?_
        refine zl_aload_n (pc := 86) hO 0 nd_GM_upcall_86 rfl rfl ?_
        refine zl_dup (pc := 87) hO nd_GM_upcall_87 rfl ?_
        refine zl_geti (pc := 88) hO nd_GM_upcall_88 kf_GM_121 rfl (Nat.le_of_ble_eq_true rfl) rfl ?_
        refine zl_iconst (pc := 91) hO (v := 1) nd_GM_upcall_91 (by decide) ?_
        refine zl_iadd (pc := 92) hO nd_GM_upcall_92 ?_
        refine zl_puti (pc := 93) hO nd_GM_upcall_93 kp_GM_121 rfl (Nat.le_of_ble_eq_true rfl) rfl ?_
        obtain ⟨s7, e_s7, h⟩ := lt_use h
        refine zl_sg e_s7 ?_
        exact zl_vret (pc := 96) hO nd_GM_upcall_96 rfl (zr_v h)
    · have h := ite_t hc h
      refine zl_aload_n (pc := 24) hO 0 nd_GM_upcall_24 rfl rfl ?_
      refine zl_iload_n (pc := 25) hO 1 nd_GM_upcall_25 rfl rfl ?_
      refine zl_iload_n (pc := 26) hO 2 nd_GM_upcall_26 rfl rfl ?_
      refine zl_iload_n (pc := 27) hO 3 nd_GM_upcall_27 rfl rfl ?_
      refine zl_iload (pc := 28) hO nd_GM_upcall_28 rfl ?_
      obtain ⟨s8, h_30, h⟩ := bn_use h
      refine zl_callVv (pc := 30) hO [zI a1, zI a2, zI a3, zI a4] [] (c_GM_deliver hJ h_30) nd_GM_upcall_30 kv_GM_252 rfl (Nat.le_of_ble_eq_true rfl) rfl rfl rfl (Nat.le_of_ble_eq_true rfl) ?_
      refine zl_goto (pc := 33) hO 96 nd_GM_upcall_33 (by decide) ?_
      exact zl_vret (pc := 96) hO nd_GM_upcall_96 rfl (zr_v h)
  · have h := ite_t hc h
    exact zl_vret (pc := 13) hO nd_GM_upcall_13 rfl (zr_v h)
