set_option maxHeartbeats 4000000 in
set_option maxRecDepth 100000 in
theorem c_Pr_pop {l : Launch} {V : zG} (hJ : zJ0 (sC l V)) {s0 : zS} {a1 : Nat} {a2 : Int32} (b_a1 : a1 < 4) {s1 : zS} {v1 : Int32} (h : k_Pr_pop s0 a1 a2 = some (s1, v1)) : zM (sC l V) md_Pr_pop [zR 10 0, zR 11 a1, zI a2] s0 (s1, some (zI v1)) := by
  refine zMet [some (zR 10 0), some (zR 11 a1), some (zI a2), none, none, none, none] hJ (by decide) rfl (Nat.le_of_ble_eq_true rfl) rfl ?_
  intro X hO
  have J_140 : ∀ (K107 : zS → Int32 → Int32 → Int32 → Option (zS × Int32)) (hK107 : ∀ (s0 : zS) (l4 : Int32) (l5 : Int32) (l6 : Int32), K107 s0 l4 l5 l6 = some (s1, v1) → ZW (sC l V) md_Pr_pop (s1, some (zI v1)) X 107 [none, some (zR 11 a1), some (zI a2), none, some (zI l4), some (zI l5), some (zI l6)] [] s0), ∀ (s0 : zS) (l4 : Int32) (l5 : Int32) (l6 : Int32), k_Pr_pop_140 a1 a2 K107 s0 l4 l5 l6 = some (s1, v1) → ZW (sC l V) md_Pr_pop (s1, some (zI v1)) X 140 [none, some (zR 11 a1), some (zI a2), none, some (zI l4), some (zI l5), some (zI l6)] [] s0 := by
    intro K107 hK107
    intro s0 l4 l5 l6 h
    unfold k_Pr_pop_140 at h
    obtain ⟨x16, e_x16, h⟩ := lt_use h
    refine zl_iinc (pc := 140) hO (L' := [none, some (zR 11 a1), some (zI a2), none, some (zI l4), some (zI l5), some (zI x16)]) nd_Pr_pop_140 rfl e_x16.symm (by decide) rfl ?_
    refine zl_goto (pc := 143) hO 107 nd_Pr_pop_143 (by decide) ?_
    exact zl_weak (hK107 _ _ _ _ h) ⟨rfl, ⟨rfl, ⟨rfl, ⟨rfl, ⟨rfl, trivial⟩⟩⟩⟩⟩
  have J_107 : ∀ (n : Nat), ∀ (s0 : zS) (l4 : Int32) (l5 : Int32) (l6 : Int32), k_Pr_pop_107 a1 a2 n s0 l4 l5 l6 = some (s1, v1) → ZW (sC l V) md_Pr_pop (s1, some (zI v1)) X 107 [none, some (zR 11 a1), some (zI a2), none, some (zI l4), some (zI l5), some (zI l6)] [] s0 := by
    intro n
    induction n with
    | zero => intro s0 l4 l5 l6 h; exact absurd h (by rw [k_Pr_pop_107]; exact fun w => nomatch w)
    | succ n ih =>
      intro s0 l4 l5 l6 h
      rw [k_Pr_pop_107]  at h
      refine zl_iload (pc := 107) hO nd_Pr_pop_107 rfl ?_
      refine zl_bipush (pc := 109) hO (v := 8) nd_Pr_pop_109 (by decide) ?_
      refine zl_icmp_ge (pc := 111) hO 146 nd_Pr_pop_111 (by decide) (fun hc => ?_) (fun hc => ?_)
      · have h := ite_t hc h
        refine zl_aload_n (pc := 146) hO 1 nd_Pr_pop_146 rfl rfl ?_
        refine zl_iload (pc := 147) hO nd_Pr_pop_147 rfl ?_
        refine zl_puti (pc := 149) hO nd_Pr_pop_149 kp_Pr_64 rfl b_a1 rfl ?_
        obtain ⟨s11, e_s11, h⟩ := lt_use h
        refine zl_sg e_s11 ?_
        refine zl_iconst (pc := 152) hO (v := 0) nd_Pr_pop_152 (by decide) ?_
        exact zl_iret (pc := 153) hO nd_Pr_pop_153 rfl (zr_i h)
      · have h := ite_f hc h
        refine zl_iload_n (pc := 114) hO 2 nd_Pr_pop_114 rfl rfl ?_
        refine zl_iload (pc := 115) hO nd_Pr_pop_115 rfl ?_
        refine zl_ishr (pc := 117) hO nd_Pr_pop_117 ?_
        refine zl_iconst (pc := 118) hO (v := 1) nd_Pr_pop_118 (by decide) ?_
        refine zl_iand (pc := 119) hO nd_Pr_pop_119 ?_
        refine zl_iconst (pc := 120) hO (v := 1) nd_Pr_pop_120 (by decide) ?_
        refine zl_icmp_ne (pc := 121) hO 140 nd_Pr_pop_121 (by decide) (fun hc => ?_) (fun hc => ?_)
        · have h := ite_f hc h
          exact zl_weak (J_140 (k_Pr_pop_107 a1 a2 n) ih _ _ _ _ h) ⟨rfl, ⟨rfl, ⟨rfl, ⟨rfl, ⟨rfl, trivial⟩⟩⟩⟩⟩
        · have h := ite_t hc h
          refine zl_aload_n (pc := 124) hO 1 nd_Pr_pop_124 rfl rfl ?_
          refine zl_getS (pc := 125) hO nd_Pr_pop_125 kf_Pr_57 rfl b_a1 rfl ?_
          refine zl_iload (pc := 128) hO nd_Pr_pop_128 rfl ?_
          refine zl_aload_n (pc := 130) hO 1 nd_Pr_pop_130 rfl rfl ?_
          refine zl_iload (pc := 131) hO nd_Pr_pop_131 rfl ?_
          obtain ⟨⟨s12, r13⟩, h_133, h⟩ := bn_use h
          refine zl_callVi (pc := 133) hO [zI l5] [zI l6, zR 12 a1] (c_BP_readWord hJ b_a1 h_133) nd_Pr_pop_133 kv_Pr_106 rfl b_a1 rfl rfl rfl (Nat.le_of_ble_eq_true rfl) ?_
          obtain ⟨c_in136, h⟩ := ck_use h
          refine zl_iast (pc := 136) hO nd_Pr_pop_136 rfl rfl b_a1 c_in136 ?_
          obtain ⟨s14, e_s14, h⟩ := lt_use h
          refine zl_sg e_s14 ?_
          obtain ⟨x15, e_x15, h⟩ := lt_use h
          refine zl_iinc (pc := 137) hO (L' := [none, some (zR 11 a1), some (zI a2), none, some (zI l4), some (zI x15), some (zI l6)]) nd_Pr_pop_137 rfl e_x15.symm (by decide) rfl ?_
          exact zl_weak (J_140 (k_Pr_pop_107 a1 a2 n) ih _ _ _ _ h) ⟨rfl, ⟨rfl, ⟨rfl, ⟨rfl, ⟨rfl, trivial⟩⟩⟩⟩⟩
  have J_98 : ∀ (s0 : zS) (l4 : Int32), k_Pr_pop_98 a1 a2 s0 l4 = some (s1, v1) → ZW (sC l V) md_Pr_pop (s1, some (zI v1)) X 98 [none, some (zR 11 a1), some (zI a2), none, some (zI l4), none, none] [] s0 := by
    intro s0 l4 h
    unfold k_Pr_pop_98 at h
    refine zl_aload_n (pc := 98) hO 1 nd_Pr_pop_98 rfl rfl ?_
    refine zl_geti (pc := 99) hO nd_Pr_pop_99 kf_Pr_64 rfl b_a1 rfl ?_
    obtain ⟨x10, e_x10, h⟩ := lt_use h
    refine zl_top e_x10 ?_
    refine zl_istore (pc := 102) hO (L' := [none, some (zR 11 a1), some (zI a2), none, some (zI l4), some (zI x10), none]) nd_Pr_pop_102 (by decide) rfl ?_
    refine zl_iconst (pc := 104) hO (v := 0) nd_Pr_pop_104 (by decide) ?_
    refine zl_istore (pc := 105) hO (L' := [none, some (zR 11 a1), some (zI a2), none, some (zI l4), some (zI x10), some (zI 0)]) nd_Pr_pop_105 (by decide) rfl ?_
    exact zl_weak (J_107 FU _ _ _ _ h) ⟨rfl, ⟨rfl, ⟨rfl, ⟨rfl, ⟨rfl, trivial⟩⟩⟩⟩⟩
  have J_23 : ∀ (n : Nat), ∀ (s0 : zS) (l3 : Int32) (l4 : Int32), k_Pr_pop_23 a1 a2 n s0 l3 l4 = some (s1, v1) → ZW (sC l V) md_Pr_pop (s1, some (zI v1)) X 23 [some (zR 10 0), some (zR 11 a1), some (zI a2), some (zI l3), some (zI l4), none, none] [] s0 := by
    intro n
    induction n with
    | zero => intro s0 l3 l4 h; exact absurd h (by rw [k_Pr_pop_23]; exact fun w => nomatch w)
    | succ n ih =>
      intro s0 l3 l4 h
      rw [k_Pr_pop_23]  at h
      refine zl_iload (pc := 23) hO nd_Pr_pop_23 rfl ?_
      refine zl_iload_n (pc := 25) hO 3 nd_Pr_pop_25 rfl rfl ?_
      refine zl_icmp_ge (pc := 26) hO 53 nd_Pr_pop_26 (by decide) (fun hc => ?_) (fun hc => ?_)
      · have h := ite_t hc h
        refine zl_aload_n (pc := 53) hO 1 nd_Pr_pop_53 rfl rfl ?_
        refine zl_geti (pc := 54) hO nd_Pr_pop_54 kf_Pr_64 rfl b_a1 rfl ?_
        refine zl_iconst (pc := 57) hO (v := 4) nd_Pr_pop_57 (by decide) ?_
        refine zl_iload_n (pc := 58) hO 3 nd_Pr_pop_58 rfl rfl ?_
        refine zl_imul (pc := 59) hO nd_Pr_pop_59 ?_
        refine zl_iadd (pc := 60) hO nd_Pr_pop_60 ?_
        obtain ⟨x3, e_x3, h⟩ := lt_use h
        refine zl_top e_x3 ?_
        refine zl_istore (pc := 61) hO (L' := [some (zR 10 0), some (zR 11 a1), some (zI a2), some (zI l3), some (zI x3), none, none]) nd_Pr_pop_61 (by decide) rfl ?_
        refine zl_iload_n (pc := 63) hO 2 nd_Pr_pop_63 rfl rfl ?_
        refine zl_sipush (pc := 64) hO (v := 256) nd_Pr_pop_64 (by decide) ?_
        refine zl_iand (pc := 67) hO nd_Pr_pop_67 ?_
        refine zl_if_eq (pc := 68) hO 98 nd_Pr_pop_68 (by decide) (fun hc => ?_) (fun hc => ?_)
        · have h := ite_t hc h
          exact zl_weak (J_98 _ _ h) ⟨rfl, ⟨rfl, ⟨rfl, trivial⟩⟩⟩
        · have h := ite_f hc h
          refine zl_aload_n (pc := 71) hO 1 nd_Pr_pop_71 rfl rfl ?_
          refine zl_iload (pc := 72) hO nd_Pr_pop_72 rfl ?_
          refine zl_iconst (pc := 74) hO (v := 4) nd_Pr_pop_74 (by decide) ?_
          refine zl_isub (pc := 75) hO nd_Pr_pop_75 ?_
          obtain ⟨⟨s4, r5⟩, h_76, h⟩ := bn_use h
          refine zl_callVi (pc := 76) hO [zI (x3 - (4 : Int32))] [] (c_BP_readWord hJ b_a1 h_76) nd_Pr_pop_76 kv_Pr_106 rfl b_a1 rfl rfl rfl (Nat.le_of_ble_eq_true rfl) ?_
          refine zl_istore (pc := 79) hO (L' := [some (zR 10 0), some (zR 11 a1), some (zI a2), some (zI l3), some (zI x3), some (zI r5), none]) nd_Pr_pop_79 (by decide) rfl ?_
          refine zl_iload (pc := 81) hO nd_Pr_pop_81 rfl ?_
          refine zl_iconst (pc := 83) hO (v := 1) nd_Pr_pop_83 (by decide) ?_
          refine zl_iand (pc := 84) hO nd_Pr_pop_84 ?_
          refine zl_if_ne (pc := 85) hO 90 nd_Pr_pop_85 (by decide) (fun hc => ?_) (fun hc => ?_)
          · have h := ite_f hc h
            refine zl_aload_n (pc := 90) hO 0 nd_Pr_pop_90 rfl rfl ?_
            refine zl_iload (pc := 91) hO nd_Pr_pop_91 rfl ?_
            refine zl_iconst (pc := 93) hO (v := 1) nd_Pr_pop_93 (by decide) ?_
            refine zl_isub (pc := 94) hO nd_Pr_pop_94 ?_
            refine zl_puti (pc := 95) hO nd_Pr_pop_95 kp_Pr_25 rfl (Nat.le_of_ble_eq_true rfl) rfl ?_
            obtain ⟨s6, e_s6, h⟩ := lt_use h
            refine zl_sg e_s6 ?_
            exact zl_weak (J_98 _ _ h) ⟨rfl, ⟨rfl, ⟨rfl, trivial⟩⟩⟩
          · have h := ite_t hc h
            refine zl_iconst (pc := 88) hO (v := 5) nd_Pr_pop_88 (by decide) ?_
            exact zl_iret (pc := 89) hO nd_Pr_pop_89 rfl (zr_i h)
      · have h := ite_f hc h
        refine zl_aload_n (pc := 29) hO 1 nd_Pr_pop_29 rfl rfl ?_
        refine zl_aload_n (pc := 30) hO 1 nd_Pr_pop_30 rfl rfl ?_
        refine zl_geti (pc := 31) hO nd_Pr_pop_31 kf_Pr_64 rfl b_a1 rfl ?_
        refine zl_iconst (pc := 34) hO (v := 4) nd_Pr_pop_34 (by decide) ?_
        refine zl_iload (pc := 35) hO nd_Pr_pop_35 rfl ?_
        refine zl_imul (pc := 37) hO nd_Pr_pop_37 ?_
        refine zl_iadd (pc := 38) hO nd_Pr_pop_38 ?_
        obtain ⟨⟨s7, r8⟩, h_39, h⟩ := bn_use h
        refine zl_callVi (pc := 39) hO [zI ((s0 11 a1 11) + ((4 : Int32) * l4))] [] (c_BP_mayLoad hJ b_a1 h_39) nd_Pr_pop_39 kv_Pr_103 rfl b_a1 rfl rfl rfl (Nat.le_of_ble_eq_true rfl) ?_
        refine zl_if_ne (pc := 42) hO 47 nd_Pr_pop_42 (by decide) (fun hc => ?_) (fun hc => ?_)
        · have h := ite_f hc h
          obtain ⟨x9, e_x9, h⟩ := lt_use h
          refine zl_iinc (pc := 47) hO (L' := [some (zR 10 0), some (zR 11 a1), some (zI a2), some (zI l3), some (zI x9), none, none]) nd_Pr_pop_47 rfl e_x9.symm (by decide) rfl ?_
          refine zl_goto (pc := 50) hO 23 nd_Pr_pop_50 (by decide) ?_
          exact zl_weak (ih _ _ _ h) ⟨rfl, ⟨rfl, ⟨rfl, ⟨rfl, ⟨rfl, trivial⟩⟩⟩⟩⟩
        · have h := ite_t hc h
          refine zl_iconst (pc := 45) hO (v := 4) nd_Pr_pop_45 (by decide) ?_
          exact zl_iret (pc := 46) hO nd_Pr_pop_46 rfl (zr_i h)
  unfold k_Pr_pop at h
  refine zl_iload_n (pc := 0) hO 2 nd_Pr_pop_0 rfl rfl ?_
  refine zl_bipush (pc := 1) hO (v := 9) nd_Pr_pop_1 (by decide) ?_
  refine zl_ishr (pc := 3) hO nd_Pr_pop_3 ?_
  refine zl_bipush (pc := 4) hO (v := 94) nd_Pr_pop_4 (by decide) ?_
  refine zl_icmp_eq (pc := 6) hO 11 nd_Pr_pop_6 (by decide) (fun hc => ?_) (fun hc => ?_)
  · have h := ite_t hc h
    refine zl_iload_n (pc := 11) hO 2 nd_Pr_pop_11 rfl rfl ?_
    refine zl_sipush (pc := 12) hO (v := 511) nd_Pr_pop_12 (by decide) ?_
    refine zl_iand (pc := 15) hO nd_Pr_pop_15 ?_
    obtain ⟨⟨s1, r2⟩, h_16, h⟩ := bn_use h
    refine zl_callSi (pc := 16) hO [zI (a2 &&& (511 : Int32))] [] (c_JI_bitCount hJ h_16) nd_Pr_pop_16 ks_Pr_117 rfl rfl (Nat.le_of_ble_eq_true rfl) ?_
    refine zl_istore_n (pc := 19) hO 3 (L' := [some (zR 10 0), some (zR 11 a1), some (zI a2), some (zI r2), none, none, none]) nd_Pr_pop_19 rfl (by decide) rfl ?_
    refine zl_iconst (pc := 20) hO (v := 0) nd_Pr_pop_20 (by decide) ?_
    refine zl_istore (pc := 21) hO (L' := [some (zR 10 0), some (zR 11 a1), some (zI a2), some (zI r2), some (zI 0), none, none]) nd_Pr_pop_21 (by decide) rfl ?_
    exact zl_weak (J_23 FU _ _ _ h) ⟨rfl, ⟨rfl, ⟨rfl, ⟨rfl, ⟨rfl, trivial⟩⟩⟩⟩⟩
  · have h := ite_f hc h
    refine zl_iconst (pc := 9) hO (v := 2) nd_Pr_pop_9 (by decide) ?_
    exact zl_iret (pc := 10) hO nd_Pr_pop_10 rfl (zr_i h)
set_option maxHeartbeats 4000000 in
set_option maxRecDepth 100000 in
theorem c_Pr_holds {l : Launch} {V : zG} (hJ : zJ0 (sC l V)) {s0 : zS} {a1 : Int32} {a2 : Int32}  {s1 : zS} {v1 : Int32} (h : k_Pr_holds s0 a1 a2 = some (s1, v1)) : zM (sC l V) md_Pr_holds [zR 10 0, zI a1, zI a2] s0 (s1, some (zI v1)) := by
  refine zMet [some (zR 10 0), some (zI a1), some (zI a2), none, none, none, none] hJ (by decide) rfl (Nat.le_of_ble_eq_true rfl) rfl ?_
  intro X hO
  have J_50 : ∀ (s0 : zS) (l3 : Int32) (l4 : Int32) (l5 : Int32) (t0 : Int32), k_Pr_holds_50 a1 a2 s0 l3 l4 l5 t0 = some (s1, v1) → ZW (sC l V) md_Pr_holds (s1, some (zI v1)) X 50 [none, none, some (zI a2), some (zI l3), some (zI l4), some (zI l5), none] [zI t0] s0 := by
    intro s0 l3 l4 l5 t0 h
    unfold k_Pr_holds_50 at h
    refine zl_istore (pc := 50) hO (L' := [none, none, some (zI a2), some (zI l3), some (zI l4), some (zI l5), some (zI t0)]) nd_Pr_holds_50 (by decide) rfl ?_
    refine zl_iload_n (pc := 52) hO 2 nd_Pr_holds_52 rfl rfl ?_
    by_cases hc : a2 = 0
    · have h := ite_t hc h
      refine zl_tabIn (pc := 53) (off := 39) hO 0 92 hc nd_Pr_holds_53 (by decide) (by decide) (by decide) (by decide) ?_
      refine zl_iload_n (pc := 92) hO 3 nd_Pr_holds_92 rfl rfl ?_
      obtain ⟨c_bool93, h⟩ := ck_use h
      exact zl_zret (pc := 93) hO nd_Pr_holds_93 rfl c_bool93 (zr_i h)
    have h := ite_f hc h
    have n_53_0 : ¬ a2.toInt = 0 := lv_neT (k := 0) hc (by decide)
    by_cases hc : a2 = 1
    · have h := ite_t hc h
      refine zl_tabIn (pc := 53) (off := 41) hO 1 94 hc nd_Pr_holds_53 (by decide) (by decide) (by decide) (by decide) ?_
      refine zl_iload (pc := 94) hO nd_Pr_holds_94 rfl ?_
      obtain ⟨c_bool96, h⟩ := ck_use h
      exact zl_zret (pc := 96) hO nd_Pr_holds_96 rfl c_bool96 (zr_i h)
    have h := ite_f hc h
    have n_53_1 : ¬ a2.toInt = 1 := lv_neT (k := 1) hc (by decide)
    by_cases hc : a2 = 2
    · have h := ite_t hc h
      refine zl_tabIn (pc := 53) (off := 44) hO 2 97 hc nd_Pr_holds_53 (by decide) (by decide) (by decide) (by decide) ?_
      refine zl_iload (pc := 97) hO nd_Pr_holds_97 rfl ?_
      obtain ⟨c_bool99, h⟩ := ck_use h
      exact zl_zret (pc := 99) hO nd_Pr_holds_99 rfl c_bool99 (zr_i h)
    have h := ite_f hc h
    have n_53_2 : ¬ a2.toInt = 2 := lv_neT (k := 2) hc (by decide)
    by_cases hc : a2 = 3
    · have h := ite_t hc h
      refine zl_tabIn (pc := 53) (off := 47) hO 3 100 hc nd_Pr_holds_53 (by decide) (by decide) (by decide) (by decide) ?_
      refine zl_iload (pc := 100) hO nd_Pr_holds_100 rfl ?_
      obtain ⟨c_bool102, h⟩ := ck_use h
      exact zl_zret (pc := 102) hO nd_Pr_holds_102 rfl c_bool102 (zr_i h)
    have h := ite_f hc h
    have n_53_3 : ¬ a2.toInt = 3 := lv_neT (k := 3) hc (by decide)
    by_cases hc : a2 = 4
    · have h := ite_t hc h
      refine zl_tabIn (pc := 53) (off := 50) hO 4 103 hc nd_Pr_holds_53 (by decide) (by decide) (by decide) (by decide) ?_
      refine zl_iload (pc := 103) hO nd_Pr_holds_103 rfl ?_
      refine zl_if_eq (pc := 105) hO 116 nd_Pr_holds_105 (by decide) (fun hc => ?_) (fun hc => ?_)
      · have h := ite_t hc h
        refine zl_iconst (pc := 116) hO (v := 0) nd_Pr_holds_116 (by decide) ?_
        exact zl_zret (pc := 117) hO nd_Pr_holds_117 rfl (by decide) (zr_i h)
      · have h := ite_f hc h
        refine zl_iload_n (pc := 108) hO 3 nd_Pr_holds_108 rfl rfl ?_
        refine zl_if_ne (pc := 109) hO 116 nd_Pr_holds_109 (by decide) (fun hc => ?_) (fun hc => ?_)
        · have h := ite_f hc h
          refine zl_iconst (pc := 116) hO (v := 0) nd_Pr_holds_116 (by decide) ?_
          exact zl_zret (pc := 117) hO nd_Pr_holds_117 rfl (by decide) (zr_i h)
        · have h := ite_t hc h
          refine zl_iconst (pc := 112) hO (v := 1) nd_Pr_holds_112 (by decide) ?_
          refine zl_goto (pc := 113) hO 117 nd_Pr_holds_113 (by decide) ?_
          exact zl_zret (pc := 117) hO nd_Pr_holds_117 rfl (by decide) (zr_i h)
    have h := ite_f hc h
    have n_53_4 : ¬ a2.toInt = 4 := lv_neT (k := 4) hc (by decide)
    by_cases hc : a2 = 5
    · have h := ite_t hc h
      refine zl_tabIn (pc := 53) (off := 65) hO 5 118 hc nd_Pr_holds_53 (by decide) (by decide) (by decide) (by decide) ?_
      refine zl_iload (pc := 118) hO nd_Pr_holds_118 rfl ?_
      refine zl_iload (pc := 120) hO nd_Pr_holds_120 rfl ?_
      refine zl_icmp_ne (pc := 122) hO 129 nd_Pr_holds_122 (by decide) (fun hc => ?_) (fun hc => ?_)
      · have h := ite_f hc h
        refine zl_iconst (pc := 129) hO (v := 0) nd_Pr_holds_129 (by decide) ?_
        exact zl_zret (pc := 130) hO nd_Pr_holds_130 rfl (by decide) (zr_i h)
      · have h := ite_t hc h
        refine zl_iconst (pc := 125) hO (v := 1) nd_Pr_holds_125 (by decide) ?_
        refine zl_goto (pc := 126) hO 130 nd_Pr_holds_126 (by decide) ?_
        exact zl_zret (pc := 130) hO nd_Pr_holds_130 rfl (by decide) (zr_i h)
    have h := ite_f hc h
    have n_53_5 : ¬ a2.toInt = 5 := lv_neT (k := 5) hc (by decide)
    refine zl_tabOut (pc := 53) hO 131 nd_Pr_holds_53 (by omega) (by decide) ?_
    refine zl_iload_n (pc := 131) hO 3 nd_Pr_holds_131 rfl rfl ?_
    refine zl_if_ne (pc := 132) hO 146 nd_Pr_holds_132 (by decide) (fun hc => ?_) (fun hc => ?_)
    · have h := ite_f hc h
      refine zl_iconst (pc := 146) hO (v := 0) nd_Pr_holds_146 (by decide) ?_
      exact zl_zret (pc := 147) hO nd_Pr_holds_147 rfl (by decide) (zr_i h)
    · have h := ite_t hc h
      refine zl_iload (pc := 135) hO nd_Pr_holds_135 rfl ?_
      refine zl_iload (pc := 137) hO nd_Pr_holds_137 rfl ?_
      refine zl_icmp_ne (pc := 139) hO 146 nd_Pr_holds_139 (by decide) (fun hc => ?_) (fun hc => ?_)
      · have h := ite_f hc h
        refine zl_iconst (pc := 146) hO (v := 0) nd_Pr_holds_146 (by decide) ?_
        exact zl_zret (pc := 147) hO nd_Pr_holds_147 rfl (by decide) (zr_i h)
      · have h := ite_t hc h
        refine zl_iconst (pc := 142) hO (v := 1) nd_Pr_holds_142 (by decide) ?_
        refine zl_goto (pc := 143) hO 147 nd_Pr_holds_143 (by decide) ?_
        exact zl_zret (pc := 147) hO nd_Pr_holds_147 rfl (by decide) (zr_i h)
  have J_37 : ∀ (s0 : zS) (l3 : Int32) (l4 : Int32) (t0 : Int32), k_Pr_holds_37 a1 a2 s0 l3 l4 t0 = some (s1, v1) → ZW (sC l V) md_Pr_holds (s1, some (zI v1)) X 37 [none, some (zI a1), some (zI a2), some (zI l3), some (zI l4), none, none] [zI t0] s0 := by
    intro s0 l3 l4 t0 h
    unfold k_Pr_holds_37 at h
    refine zl_istore (pc := 37) hO (L' := [none, some (zI a1), some (zI a2), some (zI l3), some (zI l4), some (zI t0), none]) nd_Pr_holds_37 (by decide) rfl ?_
    refine zl_iload_n (pc := 39) hO 1 nd_Pr_holds_39 rfl rfl ?_
    refine zl_iconst (pc := 40) hO (v := 1) nd_Pr_holds_40 (by decide) ?_
    refine zl_iand (pc := 41) hO nd_Pr_holds_41 ?_
    refine zl_if_eq (pc := 42) hO 49 nd_Pr_holds_42 (by decide) (fun hc => ?_) (fun hc => ?_)
    · have h := ite_t hc h
      refine zl_iconst (pc := 49) hO (v := 0) nd_Pr_holds_49 (by decide) ?_
      exact zl_weak (J_50 _ _ _ _ _ h) ⟨rfl, ⟨rfl, ⟨rfl, ⟨rfl, trivial⟩⟩⟩⟩
    · have h := ite_f hc h
      refine zl_iconst (pc := 45) hO (v := 1) nd_Pr_holds_45 (by decide) ?_
      refine zl_goto (pc := 46) hO 50 nd_Pr_holds_46 (by decide) ?_
      exact zl_weak (J_50 _ _ _ _ _ h) ⟨rfl, ⟨rfl, ⟨rfl, ⟨rfl, trivial⟩⟩⟩⟩
  have J_23 : ∀ (s0 : zS) (l3 : Int32) (t0 : Int32), k_Pr_holds_23 a1 a2 s0 l3 t0 = some (s1, v1) → ZW (sC l V) md_Pr_holds (s1, some (zI v1)) X 23 [none, some (zI a1), some (zI a2), some (zI l3), none, none, none] [zI t0] s0 := by
    intro s0 l3 t0 h
    unfold k_Pr_holds_23 at h
    refine zl_istore (pc := 23) hO (L' := [none, some (zI a1), some (zI a2), some (zI l3), some (zI t0), none, none]) nd_Pr_holds_23 (by decide) rfl ?_
    refine zl_iload_n (pc := 25) hO 1 nd_Pr_holds_25 rfl rfl ?_
    refine zl_bipush (pc := 26) hO (v := 8) nd_Pr_holds_26 (by decide) ?_
    refine zl_iand (pc := 28) hO nd_Pr_holds_28 ?_
    refine zl_if_eq (pc := 29) hO 36 nd_Pr_holds_29 (by decide) (fun hc => ?_) (fun hc => ?_)
    · have h := ite_t hc h
      refine zl_iconst (pc := 36) hO (v := 0) nd_Pr_holds_36 (by decide) ?_
      exact zl_weak (J_37 _ _ _ _ h) ⟨rfl, ⟨rfl, ⟨rfl, ⟨rfl, trivial⟩⟩⟩⟩
    · have h := ite_f hc h
      refine zl_iconst (pc := 32) hO (v := 1) nd_Pr_holds_32 (by decide) ?_
      refine zl_goto (pc := 33) hO 37 nd_Pr_holds_33 (by decide) ?_
      exact zl_weak (J_37 _ _ _ _ h) ⟨rfl, ⟨rfl, ⟨rfl, ⟨rfl, trivial⟩⟩⟩⟩
  have J_11 : ∀ (s0 : zS) (t0 : Int32), k_Pr_holds_11 a1 a2 s0 t0 = some (s1, v1) → ZW (sC l V) md_Pr_holds (s1, some (zI v1)) X 11 [none, some (zI a1), some (zI a2), none, none, none, none] [zI t0] s0 := by
    intro s0 t0 h
    unfold k_Pr_holds_11 at h
    refine zl_istore_n (pc := 11) hO 3 (L' := [none, some (zI a1), some (zI a2), some (zI t0), none, none, none]) nd_Pr_holds_11 rfl (by decide) rfl ?_
    refine zl_iload_n (pc := 12) hO 1 nd_Pr_holds_12 rfl rfl ?_
    refine zl_iconst (pc := 13) hO (v := 2) nd_Pr_holds_13 (by decide) ?_
    refine zl_iand (pc := 14) hO nd_Pr_holds_14 ?_
    refine zl_if_eq (pc := 15) hO 22 nd_Pr_holds_15 (by decide) (fun hc => ?_) (fun hc => ?_)
    · have h := ite_t hc h
      refine zl_iconst (pc := 22) hO (v := 0) nd_Pr_holds_22 (by decide) ?_
      exact zl_weak (J_23 _ _ _ h) ⟨rfl, ⟨rfl, ⟨rfl, trivial⟩⟩⟩
    · have h := ite_f hc h
      refine zl_iconst (pc := 18) hO (v := 1) nd_Pr_holds_18 (by decide) ?_
      refine zl_goto (pc := 19) hO 23 nd_Pr_holds_19 (by decide) ?_
      exact zl_weak (J_23 _ _ _ h) ⟨rfl, ⟨rfl, ⟨rfl, trivial⟩⟩⟩
  unfold k_Pr_holds at h
  refine zl_iload_n (pc := 0) hO 1 nd_Pr_holds_0 rfl rfl ?_
  refine zl_iconst (pc := 1) hO (v := 4) nd_Pr_holds_1 (by decide) ?_
  refine zl_iand (pc := 2) hO nd_Pr_holds_2 ?_
  refine zl_if_eq (pc := 3) hO 10 nd_Pr_holds_3 (by decide) (fun hc => ?_) (fun hc => ?_)
  · have h := ite_t hc h
    refine zl_iconst (pc := 10) hO (v := 0) nd_Pr_holds_10 (by decide) ?_
    exact zl_weak (J_11 _ _ h) ⟨rfl, ⟨rfl, trivial⟩⟩
  · have h := ite_f hc h
    refine zl_iconst (pc := 6) hO (v := 1) nd_Pr_holds_6 (by decide) ?_
    refine zl_goto (pc := 7) hO 11 nd_Pr_holds_7 (by decide) ?_
    exact zl_weak (J_11 _ _ h) ⟨rfl, ⟨rfl, trivial⟩⟩
set_option maxHeartbeats 4000000 in
set_option maxRecDepth 100000 in
theorem c_Pr_branchIf {l : Launch} {V : zG} (hJ : zJ0 (sC l V)) {s0 : zS} {a1 : Nat} {a2 : Int32} (b_a1 : a1 < 4) {s1 : zS} {v1 : Int32} (h : k_Pr_branchIf s0 a1 a2 = some (s1, v1)) : zM (sC l V) md_Pr_branchIf [zR 10 0, zR 11 a1, zI a2] s0 (s1, some (zI v1)) := by
  refine zMet [some (zR 10 0), some (zR 11 a1), some (zI a2), none, none] hJ (by decide) rfl (Nat.le_of_ble_eq_true rfl) rfl ?_
  intro X hO
  have J_43 : ∀ (s0 : zS) (l3 : Int32) (t0 : Int32), k_Pr_branchIf_43 a1 a2 s0 l3 t0 = some (s1, v1) → ZW (sC l V) md_Pr_branchIf (s1, some (zI v1)) X 43 [some (zR 10 0), some (zR 11 a1), some (zI a2), some (zI l3), none] [zI t0] s0 := by
    intro s0 l3 t0 h
    unfold k_Pr_branchIf_43 at h
    refine zl_istore (pc := 43) hO (L' := [some (zR 10 0), some (zR 11 a1), some (zI a2), some (zI l3), some (zI t0)]) nd_Pr_branchIf_43 (by decide) rfl ?_
    refine zl_aload_n (pc := 45) hO 0 nd_Pr_branchIf_45 rfl rfl ?_
    refine zl_aload_n (pc := 46) hO 1 nd_Pr_branchIf_46 rfl rfl ?_
    refine zl_geti (pc := 47) hO nd_Pr_branchIf_47 kf_Pr_90 rfl b_a1 rfl ?_
    refine zl_iload_n (pc := 50) hO 3 nd_Pr_branchIf_50 rfl rfl ?_
    refine zl_iconst (pc := 51) hO (v := 1) nd_Pr_branchIf_51 (by decide) ?_
    refine zl_ishr (pc := 52) hO nd_Pr_branchIf_52 ?_
    obtain ⟨⟨s2, r3⟩, h_53, h⟩ := bn_use h
    refine zl_callVi (pc := 53) hO [zI (s0 11 a1 14), zI (l3 >>> ((1 : Int32) &&& 31))] [] (c_Pr_holds hJ h_53) nd_Pr_branchIf_53 kv_Pr_122 rfl (Nat.le_of_ble_eq_true rfl) rfl rfl rfl (Nat.le_of_ble_eq_true rfl) ?_
    refine zl_iload (pc := 56) hO nd_Pr_branchIf_56 rfl ?_
    refine zl_icmp_ne (pc := 58) hO 87 nd_Pr_branchIf_58 (by decide) (fun hc => ?_) (fun hc => ?_)
    · have h := ite_f hc h
      refine zl_iconst (pc := 87) hO (v := 0) nd_Pr_branchIf_87 (by decide) ?_
      exact zl_iret (pc := 88) hO nd_Pr_branchIf_88 rfl (zr_i h)
    · have h := ite_t hc h
      refine zl_aload_n (pc := 61) hO 0 nd_Pr_branchIf_61 rfl rfl ?_
      refine zl_aload_n (pc := 62) hO 1 nd_Pr_branchIf_62 rfl rfl ?_
      refine zl_geti (pc := 63) hO nd_Pr_branchIf_63 kf_Pr_15 rfl b_a1 rfl ?_
      refine zl_iconst (pc := 66) hO (v := 4) nd_Pr_branchIf_66 (by decide) ?_
      refine zl_iadd (pc := 67) hO nd_Pr_branchIf_67 ?_
      refine zl_iconst (pc := 68) hO (v := 2) nd_Pr_branchIf_68 (by decide) ?_
      refine zl_iload_n (pc := 69) hO 2 nd_Pr_branchIf_69 rfl rfl ?_
      refine zl_sipush (pc := 70) hO (v := 255) nd_Pr_branchIf_70 (by decide) ?_
      refine zl_iand (pc := 73) hO nd_Pr_branchIf_73 ?_
      refine zl_iload_n (pc := 74) hO 2 nd_Pr_branchIf_74 rfl rfl ?_
      refine zl_sipush (pc := 75) hO (v := 128) nd_Pr_branchIf_75 (by decide) ?_
      refine zl_iand (pc := 78) hO nd_Pr_branchIf_78 ?_
      refine zl_iconst (pc := 79) hO (v := 1) nd_Pr_branchIf_79 (by decide) ?_
      refine zl_ishl (pc := 80) hO nd_Pr_branchIf_80 ?_
      refine zl_isub (pc := 81) hO nd_Pr_branchIf_81 ?_
      refine zl_imul (pc := 82) hO nd_Pr_branchIf_82 ?_
      refine zl_iadd (pc := 83) hO nd_Pr_branchIf_83 ?_
      refine zl_puti (pc := 84) hO nd_Pr_branchIf_84 kp_Pr_25 rfl (Nat.le_of_ble_eq_true rfl) rfl ?_
      obtain ⟨s4, e_s4, h⟩ := lt_use h
      refine zl_sg e_s4 ?_
      refine zl_iconst (pc := 87) hO (v := 0) nd_Pr_branchIf_87 (by decide) ?_
      exact zl_iret (pc := 88) hO nd_Pr_branchIf_88 rfl (zr_i h)
  unfold k_Pr_branchIf at h
  refine zl_iload_n (pc := 0) hO 2 nd_Pr_branchIf_0 rfl rfl ?_
  refine zl_bipush (pc := 1) hO (v := 8) nd_Pr_branchIf_1 (by decide) ?_
  refine zl_ishr (pc := 3) hO nd_Pr_branchIf_3 ?_
  refine zl_bipush (pc := 4) hO (v := 15) nd_Pr_branchIf_4 (by decide) ?_
  refine zl_iand (pc := 6) hO nd_Pr_branchIf_6 ?_
  obtain ⟨x1, e_x1, h⟩ := lt_use h
  refine zl_top e_x1 ?_
  refine zl_istore_n (pc := 7) hO 3 (L' := [some (zR 10 0), some (zR 11 a1), some (zI a2), some (zI x1), none]) nd_Pr_branchIf_7 rfl (by decide) rfl ?_
  refine zl_iload_n (pc := 8) hO 3 nd_Pr_branchIf_8 rfl rfl ?_
  refine zl_bipush (pc := 9) hO (v := 15) nd_Pr_branchIf_9 (by decide) ?_
  refine zl_icmp_ne (pc := 11) hO 24 nd_Pr_branchIf_11 (by decide) (fun hc => ?_) (fun hc => ?_)
  · have h := ite_f hc h
    refine zl_iload_n (pc := 24) hO 3 nd_Pr_branchIf_24 rfl rfl ?_
    refine zl_bipush (pc := 25) hO (v := 14) nd_Pr_branchIf_25 (by decide) ?_
    refine zl_icmp_ne (pc := 27) hO 32 nd_Pr_branchIf_27 (by decide) (fun hc => ?_) (fun hc => ?_)
    · have h := ite_f hc h
      refine zl_iload_n (pc := 32) hO 3 nd_Pr_branchIf_32 rfl rfl ?_
      refine zl_iconst (pc := 33) hO (v := 1) nd_Pr_branchIf_33 (by decide) ?_
      refine zl_iand (pc := 34) hO nd_Pr_branchIf_34 ?_
      refine zl_if_ne (pc := 35) hO 42 nd_Pr_branchIf_35 (by decide) (fun hc => ?_) (fun hc => ?_)
      · have h := ite_f hc h
        refine zl_iconst (pc := 42) hO (v := 0) nd_Pr_branchIf_42 (by decide) ?_
        exact zl_weak (J_43 _ _ _ h) ⟨rfl, ⟨rfl, ⟨rfl, ⟨rfl, trivial⟩⟩⟩⟩
      · have h := ite_t hc h
        refine zl_iconst (pc := 38) hO (v := 1) nd_Pr_branchIf_38 (by decide) ?_
        refine zl_goto (pc := 39) hO 43 nd_Pr_branchIf_39 (by decide) ?_
        exact zl_weak (J_43 _ _ _ h) ⟨rfl, ⟨rfl, ⟨rfl, ⟨rfl, trivial⟩⟩⟩⟩
    · have h := ite_t hc h
      refine zl_iconst (pc := 30) hO (v := 2) nd_Pr_branchIf_30 (by decide) ?_
      exact zl_iret (pc := 31) hO nd_Pr_branchIf_31 rfl (zr_i h)
  · have h := ite_t hc h
    refine zl_sipush (pc := 14) hO (v := 256) nd_Pr_branchIf_14 (by decide) ?_
    refine zl_iload_n (pc := 17) hO 2 nd_Pr_branchIf_17 rfl rfl ?_
    refine zl_sipush (pc := 18) hO (v := 255) nd_Pr_branchIf_18 (by decide) ?_
    refine zl_iand (pc := 21) hO nd_Pr_branchIf_21 ?_
    refine zl_iadd (pc := 22) hO nd_Pr_branchIf_22 ?_
    exact zl_iret (pc := 23) hO nd_Pr_branchIf_23 rfl (zr_i h)
set_option maxHeartbeats 4000000 in
set_option maxRecDepth 100000 in
theorem c_Pr_dispatch {l : Launch} {V : zG} (hJ : zJ0 (sC l V)) {s0 : zS} {a1 : Nat} {a2 : Int32} (b_a1 : a1 < 4) {s1 : zS} {v1 : Int32} (h : k_Pr_dispatch s0 a1 a2 = some (s1, v1)) : zM (sC l V) md_Pr_dispatch [zR 10 0, zR 11 a1, zI a2] s0 (s1, some (zI v1)) := by
  refine zMet [some (zR 10 0), some (zR 11 a1), some (zI a2), none, none] hJ (by decide) rfl (Nat.le_of_ble_eq_true rfl) rfl ?_
  intro X hO
  unfold k_Pr_dispatch at h
  refine zl_iload_n (pc := 0) hO 2 nd_Pr_dispatch_0 rfl rfl ?_
  refine zl_bipush (pc := 1) hO (v := 8) nd_Pr_dispatch_1 (by decide) ?_
  refine zl_ishr (pc := 3) hO nd_Pr_dispatch_3 ?_
  refine zl_bipush (pc := 4) hO (v := 7) nd_Pr_dispatch_4 (by decide) ?_
  refine zl_iand (pc := 6) hO nd_Pr_dispatch_6 ?_
  obtain ⟨x1, e_x1, h⟩ := lt_use h
  refine zl_top e_x1 ?_
  refine zl_istore_n (pc := 7) hO 3 (L' := [some (zR 10 0), some (zR 11 a1), some (zI a2), some (zI x1), none]) nd_Pr_dispatch_7 rfl (by decide) rfl ?_
  refine zl_iconst (pc := 8) hO (v := 4) nd_Pr_dispatch_8 (by decide) ?_
  refine zl_iload_n (pc := 9) hO 2 nd_Pr_dispatch_9 rfl rfl ?_
  refine zl_sipush (pc := 10) hO (v := 255) nd_Pr_dispatch_10 (by decide) ?_
  refine zl_iand (pc := 13) hO nd_Pr_dispatch_13 ?_
  refine zl_imul (pc := 14) hO nd_Pr_dispatch_14 ?_
  obtain ⟨x2, e_x2, h⟩ := lt_use h
  refine zl_top e_x2 ?_
  refine zl_istore (pc := 15) hO (L' := [some (zR 10 0), some (zR 11 a1), some (zI a2), some (zI x1), some (zI x2)]) nd_Pr_dispatch_15 (by decide) rfl ?_
  refine zl_iload_n (pc := 17) hO 2 nd_Pr_dispatch_17 rfl rfl ?_
  refine zl_bipush (pc := 18) hO (v := 11) nd_Pr_dispatch_18 (by decide) ?_
  refine zl_ishr (pc := 20) hO nd_Pr_dispatch_20 ?_
  by_cases hc : (a2 >>> ((11 : Int32) &&& 31)) = 0 ∨ (a2 >>> ((11 : Int32) &&& 31)) = 1 ∨ (a2 >>> ((11 : Int32) &&& 31)) = 2
  · have h := ite_t hc h
    rcases hc with hc | hc | hc
    · refine zl_tabIn (pc := 21) (off := 131) hO 0 152 hc nd_Pr_dispatch_21 (by decide) (by decide) (by decide) (by decide) ?_
      refine zl_aload_n (pc := 152) hO 0 nd_Pr_dispatch_152 rfl rfl ?_
      refine zl_aload_n (pc := 153) hO 1 nd_Pr_dispatch_153 rfl rfl ?_
      refine zl_iload_n (pc := 154) hO 2 nd_Pr_dispatch_154 rfl rfl ?_
      obtain ⟨⟨s3, r4⟩, h_155, h⟩ := bn_use h
      refine zl_callVi (pc := 155) hO [zR 11 a1, zI a2] [] (c_Pr_shiftByNumber hJ b_a1 h_155) nd_Pr_dispatch_155 kv_Pr_38 rfl (Nat.le_of_ble_eq_true rfl) rfl rfl rfl (Nat.le_of_ble_eq_true rfl) ?_
      exact zl_iret (pc := 158) hO nd_Pr_dispatch_158 rfl (zr_i h)
    · refine zl_tabIn (pc := 21) (off := 131) hO 1 152 hc nd_Pr_dispatch_21 (by decide) (by decide) (by decide) (by decide) ?_
      refine zl_aload_n (pc := 152) hO 0 nd_Pr_dispatch_152 rfl rfl ?_
      refine zl_aload_n (pc := 153) hO 1 nd_Pr_dispatch_153 rfl rfl ?_
      refine zl_iload_n (pc := 154) hO 2 nd_Pr_dispatch_154 rfl rfl ?_
      obtain ⟨⟨s3, r4⟩, h_155, h⟩ := bn_use h
      refine zl_callVi (pc := 155) hO [zR 11 a1, zI a2] [] (c_Pr_shiftByNumber hJ b_a1 h_155) nd_Pr_dispatch_155 kv_Pr_38 rfl (Nat.le_of_ble_eq_true rfl) rfl rfl rfl (Nat.le_of_ble_eq_true rfl) ?_
      exact zl_iret (pc := 158) hO nd_Pr_dispatch_158 rfl (zr_i h)
    · refine zl_tabIn (pc := 21) (off := 131) hO 2 152 hc nd_Pr_dispatch_21 (by decide) (by decide) (by decide) (by decide) ?_
      refine zl_aload_n (pc := 152) hO 0 nd_Pr_dispatch_152 rfl rfl ?_
      refine zl_aload_n (pc := 153) hO 1 nd_Pr_dispatch_153 rfl rfl ?_
      refine zl_iload_n (pc := 154) hO 2 nd_Pr_dispatch_154 rfl rfl ?_
      obtain ⟨⟨s3, r4⟩, h_155, h⟩ := bn_use h
      refine zl_callVi (pc := 155) hO [zR 11 a1, zI a2] [] (c_Pr_shiftByNumber hJ b_a1 h_155) nd_Pr_dispatch_155 kv_Pr_38 rfl (Nat.le_of_ble_eq_true rfl) rfl rfl rfl (Nat.le_of_ble_eq_true rfl) ?_
      exact zl_iret (pc := 158) hO nd_Pr_dispatch_158 rfl (zr_i h)
  have h := ite_f hc h
  have n_21_0 : ¬ (a2 >>> ((11 : Int32) &&& 31)).toInt = 0 := lv_neT (k := 0) (fun w => hc (by simp only [w]; decide)) (by decide)
  have n_21_1 : ¬ (a2 >>> ((11 : Int32) &&& 31)).toInt = 1 := lv_neT (k := 1) (fun w => hc (by simp only [w]; decide)) (by decide)
  have n_21_2 : ¬ (a2 >>> ((11 : Int32) &&& 31)).toInt = 2 := lv_neT (k := 2) (fun w => hc (by simp only [w]; decide)) (by decide)
  by_cases hc : (a2 >>> ((11 : Int32) &&& 31)) = 3
  · have h := ite_t hc h
    refine zl_tabIn (pc := 21) (off := 138) hO 3 159 hc nd_Pr_dispatch_21 (by decide) (by decide) (by decide) (by decide) ?_
    refine zl_aload_n (pc := 159) hO 0 nd_Pr_dispatch_159 rfl rfl ?_
    refine zl_aload_n (pc := 160) hO 1 nd_Pr_dispatch_160 rfl rfl ?_
    refine zl_iload_n (pc := 161) hO 2 nd_Pr_dispatch_161 rfl rfl ?_
    obtain ⟨⟨s5, r6⟩, h_162, h⟩ := bn_use h
    refine zl_callVi (pc := 162) hO [zR 11 a1, zI a2] [] (c_Pr_addThree hJ b_a1 h_162) nd_Pr_dispatch_162 kv_Pr_41 rfl (Nat.le_of_ble_eq_true rfl) rfl rfl rfl (Nat.le_of_ble_eq_true rfl) ?_
    exact zl_iret (pc := 165) hO nd_Pr_dispatch_165 rfl (zr_i h)
  have h := ite_f hc h
  have n_21_3 : ¬ (a2 >>> ((11 : Int32) &&& 31)).toInt = 3 := lv_neT (k := 3) hc (by decide)
  by_cases hc : (a2 >>> ((11 : Int32) &&& 31)) = 4 ∨ (a2 >>> ((11 : Int32) &&& 31)) = 5 ∨ (a2 >>> ((11 : Int32) &&& 31)) = 6 ∨ (a2 >>> ((11 : Int32) &&& 31)) = 7
  · have h := ite_t hc h
    rcases hc with hc | hc | hc | hc
    · refine zl_tabIn (pc := 21) (off := 145) hO 4 166 hc nd_Pr_dispatch_21 (by decide) (by decide) (by decide) (by decide) ?_
      refine zl_aload_n (pc := 166) hO 0 nd_Pr_dispatch_166 rfl rfl ?_
      refine zl_aload_n (pc := 167) hO 1 nd_Pr_dispatch_167 rfl rfl ?_
      refine zl_iload_n (pc := 168) hO 2 nd_Pr_dispatch_168 rfl rfl ?_
      obtain ⟨⟨s7, r8⟩, h_169, h⟩ := bn_use h
      refine zl_callVi (pc := 169) hO [zR 11 a1, zI a2] [] (c_Pr_withByte hJ b_a1 h_169) nd_Pr_dispatch_169 kv_Pr_44 rfl (Nat.le_of_ble_eq_true rfl) rfl rfl rfl (Nat.le_of_ble_eq_true rfl) ?_
      exact zl_iret (pc := 172) hO nd_Pr_dispatch_172 rfl (zr_i h)
    · refine zl_tabIn (pc := 21) (off := 145) hO 5 166 hc nd_Pr_dispatch_21 (by decide) (by decide) (by decide) (by decide) ?_
      refine zl_aload_n (pc := 166) hO 0 nd_Pr_dispatch_166 rfl rfl ?_
      refine zl_aload_n (pc := 167) hO 1 nd_Pr_dispatch_167 rfl rfl ?_
      refine zl_iload_n (pc := 168) hO 2 nd_Pr_dispatch_168 rfl rfl ?_
      obtain ⟨⟨s7, r8⟩, h_169, h⟩ := bn_use h
      refine zl_callVi (pc := 169) hO [zR 11 a1, zI a2] [] (c_Pr_withByte hJ b_a1 h_169) nd_Pr_dispatch_169 kv_Pr_44 rfl (Nat.le_of_ble_eq_true rfl) rfl rfl rfl (Nat.le_of_ble_eq_true rfl) ?_
      exact zl_iret (pc := 172) hO nd_Pr_dispatch_172 rfl (zr_i h)
    · refine zl_tabIn (pc := 21) (off := 145) hO 6 166 hc nd_Pr_dispatch_21 (by decide) (by decide) (by decide) (by decide) ?_
      refine zl_aload_n (pc := 166) hO 0 nd_Pr_dispatch_166 rfl rfl ?_
      refine zl_aload_n (pc := 167) hO 1 nd_Pr_dispatch_167 rfl rfl ?_
      refine zl_iload_n (pc := 168) hO 2 nd_Pr_dispatch_168 rfl rfl ?_
      obtain ⟨⟨s7, r8⟩, h_169, h⟩ := bn_use h
      refine zl_callVi (pc := 169) hO [zR 11 a1, zI a2] [] (c_Pr_withByte hJ b_a1 h_169) nd_Pr_dispatch_169 kv_Pr_44 rfl (Nat.le_of_ble_eq_true rfl) rfl rfl rfl (Nat.le_of_ble_eq_true rfl) ?_
      exact zl_iret (pc := 172) hO nd_Pr_dispatch_172 rfl (zr_i h)
    · refine zl_tabIn (pc := 21) (off := 145) hO 7 166 hc nd_Pr_dispatch_21 (by decide) (by decide) (by decide) (by decide) ?_
      refine zl_aload_n (pc := 166) hO 0 nd_Pr_dispatch_166 rfl rfl ?_
      refine zl_aload_n (pc := 167) hO 1 nd_Pr_dispatch_167 rfl rfl ?_
      refine zl_iload_n (pc := 168) hO 2 nd_Pr_dispatch_168 rfl rfl ?_
      obtain ⟨⟨s7, r8⟩, h_169, h⟩ := bn_use h
      refine zl_callVi (pc := 169) hO [zR 11 a1, zI a2] [] (c_Pr_withByte hJ b_a1 h_169) nd_Pr_dispatch_169 kv_Pr_44 rfl (Nat.le_of_ble_eq_true rfl) rfl rfl rfl (Nat.le_of_ble_eq_true rfl) ?_
      exact zl_iret (pc := 172) hO nd_Pr_dispatch_172 rfl (zr_i h)
  have h := ite_f hc h
  have n_21_4 : ¬ (a2 >>> ((11 : Int32) &&& 31)).toInt = 4 := lv_neT (k := 4) (fun w => hc (by simp only [w]; decide)) (by decide)
  have n_21_5 : ¬ (a2 >>> ((11 : Int32) &&& 31)).toInt = 5 := lv_neT (k := 5) (fun w => hc (by simp only [w]; decide)) (by decide)
  have n_21_6 : ¬ (a2 >>> ((11 : Int32) &&& 31)).toInt = 6 := lv_neT (k := 6) (fun w => hc (by simp only [w]; decide)) (by decide)
  have n_21_7 : ¬ (a2 >>> ((11 : Int32) &&& 31)).toInt = 7 := lv_neT (k := 7) (fun w => hc (by simp only [w]; decide)) (by decide)
  by_cases hc : (a2 >>> ((11 : Int32) &&& 31)) = 8
  · have h := ite_t hc h
    refine zl_tabIn (pc := 21) (off := 152) hO 8 173 hc nd_Pr_dispatch_21 (by decide) (by decide) (by decide) (by decide) ?_
    refine zl_iload_n (pc := 173) hO 2 nd_Pr_dispatch_173 rfl rfl ?_
    refine zl_bipush (pc := 174) hO (v := 10) nd_Pr_dispatch_174 (by decide) ?_
    refine zl_ishr (pc := 176) hO nd_Pr_dispatch_176 ?_
    refine zl_bipush (pc := 177) hO (v := 16) nd_Pr_dispatch_177 (by decide) ?_
    refine zl_icmp_ne (pc := 179) hO 191 nd_Pr_dispatch_179 (by decide) (fun hc => ?_) (fun hc => ?_)
    · have h := ite_f hc h
      refine zl_aload_n (pc := 191) hO 0 nd_Pr_dispatch_191 rfl rfl ?_
      refine zl_aload_n (pc := 192) hO 1 nd_Pr_dispatch_192 rfl rfl ?_
      refine zl_iload_n (pc := 193) hO 2 nd_Pr_dispatch_193 rfl rfl ?_
      obtain ⟨⟨s9, r10⟩, h_194, h⟩ := bn_use h
      refine zl_callVi (pc := 194) hO [zR 11 a1, zI a2] [] (c_Pr_jump hJ b_a1 h_194) nd_Pr_dispatch_194 kv_Pr_50 rfl (Nat.le_of_ble_eq_true rfl) rfl rfl rfl (Nat.le_of_ble_eq_true rfl) ?_
      exact zl_iret (pc := 197) hO nd_Pr_dispatch_197 rfl (zr_i h)
    · have h := ite_t hc h
      refine zl_aload_n (pc := 182) hO 0 nd_Pr_dispatch_182 rfl rfl ?_
      refine zl_aload_n (pc := 183) hO 1 nd_Pr_dispatch_183 rfl rfl ?_
      refine zl_iload_n (pc := 184) hO 2 nd_Pr_dispatch_184 rfl rfl ?_
      obtain ⟨⟨s11, r12⟩, h_185, h⟩ := bn_use h
      refine zl_callVi (pc := 185) hO [zR 11 a1, zI a2] [] (c_Pr_combine hJ b_a1 h_185) nd_Pr_dispatch_185 kv_Pr_47 rfl (Nat.le_of_ble_eq_true rfl) rfl rfl rfl (Nat.le_of_ble_eq_true rfl) ?_
      refine zl_goto (pc := 188) hO 197 nd_Pr_dispatch_188 (by decide) ?_
      exact zl_iret (pc := 197) hO nd_Pr_dispatch_197 rfl (zr_i h)
  have h := ite_f hc h
  have n_21_8 : ¬ (a2 >>> ((11 : Int32) &&& 31)).toInt = 8 := lv_neT (k := 8) hc (by decide)
  by_cases hc : (a2 >>> ((11 : Int32) &&& 31)) = 9
  · have h := ite_t hc h
    refine zl_tabIn (pc := 21) (off := 177) hO 9 198 hc nd_Pr_dispatch_21 (by decide) (by decide) (by decide) (by decide) ?_
    refine zl_aload_n (pc := 198) hO 0 nd_Pr_dispatch_198 rfl rfl ?_
    refine zl_aload_n (pc := 199) hO 1 nd_Pr_dispatch_199 rfl rfl ?_
    refine zl_iload_n (pc := 200) hO 3 nd_Pr_dispatch_200 rfl rfl ?_
    refine zl_aload_n (pc := 201) hO 1 nd_Pr_dispatch_201 rfl rfl ?_
    refine zl_geti (pc := 202) hO nd_Pr_dispatch_202 kf_Pr_15 rfl b_a1 rfl ?_
    refine zl_iconst (pc := 205) hO (v := 4) nd_Pr_dispatch_205 (by decide) ?_
    refine zl_iadd (pc := 206) hO nd_Pr_dispatch_206 ?_
    refine zl_bipush (pc := 207) hO (v := (-4)) nd_Pr_dispatch_207 (by decide) ?_
    refine zl_iand (pc := 209) hO nd_Pr_dispatch_209 ?_
    refine zl_iload (pc := 210) hO nd_Pr_dispatch_210 rfl ?_
    refine zl_iadd (pc := 212) hO nd_Pr_dispatch_212 ?_
    obtain ⟨⟨s13, r14⟩, h_213, h⟩ := bn_use h
    refine zl_callVi (pc := 213) hO [zR 11 a1, zI x1, zI ((((s0 11 a1 13) + (4 : Int32)) &&& (-4 : Int32)) + x2)] [] (c_Pr_loadInto hJ b_a1 h_213) nd_Pr_dispatch_213 kv_Pr_53 rfl (Nat.le_of_ble_eq_true rfl) rfl rfl rfl (Nat.le_of_ble_eq_true rfl) ?_
    exact zl_iret (pc := 216) hO nd_Pr_dispatch_216 rfl (zr_i h)
  have h := ite_f hc h
  have n_21_9 : ¬ (a2 >>> ((11 : Int32) &&& 31)).toInt = 9 := lv_neT (k := 9) hc (by decide)
  by_cases hc : (a2 >>> ((11 : Int32) &&& 31)) = 12
  · have h := ite_t hc h
    refine zl_tabIn (pc := 21) (off := 196) hO 12 217 hc nd_Pr_dispatch_21 (by decide) (by decide) (by decide) (by decide) ?_
    refine zl_aload_n (pc := 217) hO 0 nd_Pr_dispatch_217 rfl rfl ?_
    refine zl_aload_n (pc := 218) hO 1 nd_Pr_dispatch_218 rfl rfl ?_
    refine zl_iload_n (pc := 219) hO 2 nd_Pr_dispatch_219 rfl rfl ?_
    refine zl_bipush (pc := 220) hO (v := 7) nd_Pr_dispatch_220 (by decide) ?_
    refine zl_iand (pc := 222) hO nd_Pr_dispatch_222 ?_
    refine zl_aload_n (pc := 223) hO 1 nd_Pr_dispatch_223 rfl rfl ?_
    refine zl_getS (pc := 224) hO nd_Pr_dispatch_224 kf_Pr_57 rfl b_a1 rfl ?_
    refine zl_iload_n (pc := 227) hO 2 nd_Pr_dispatch_227 rfl rfl ?_
    refine zl_iconst (pc := 228) hO (v := 3) nd_Pr_dispatch_228 (by decide) ?_
    refine zl_ishr (pc := 229) hO nd_Pr_dispatch_229 ?_
    refine zl_bipush (pc := 230) hO (v := 7) nd_Pr_dispatch_230 (by decide) ?_
    refine zl_iand (pc := 232) hO nd_Pr_dispatch_232 ?_
    obtain ⟨c_in233, h⟩ := ck_use h
    refine zl_iald (pc := 233) hO nd_Pr_dispatch_233 rfl rfl b_a1 c_in233 ?_
    refine zl_iconst (pc := 234) hO (v := 4) nd_Pr_dispatch_234 (by decide) ?_
    refine zl_iload_n (pc := 235) hO 2 nd_Pr_dispatch_235 rfl rfl ?_
    refine zl_bipush (pc := 236) hO (v := 6) nd_Pr_dispatch_236 (by decide) ?_
    refine zl_ishr (pc := 238) hO nd_Pr_dispatch_238 ?_
    refine zl_bipush (pc := 239) hO (v := 31) nd_Pr_dispatch_239 (by decide) ?_
    refine zl_iand (pc := 241) hO nd_Pr_dispatch_241 ?_
    refine zl_imul (pc := 242) hO nd_Pr_dispatch_242 ?_
    refine zl_iadd (pc := 243) hO nd_Pr_dispatch_243 ?_
    obtain ⟨⟨s15, r16⟩, h_244, h⟩ := bn_use h
    refine zl_callVi (pc := 244) hO [zR 11 a1, zI (a2 &&& (7 : Int32)), zI ((s0 12 a1 ((a2 >>> ((3 : Int32) &&& 31)) &&& (7 : Int32)).toNatClampNeg) + ((4 : Int32) * ((a2 >>> ((6 : Int32) &&& 31)) &&& (31 : Int32))))] [] (c_Pr_storeFrom hJ b_a1 h_244) nd_Pr_dispatch_244 kv_Pr_61 rfl (Nat.le_of_ble_eq_true rfl) rfl rfl rfl (Nat.le_of_ble_eq_true rfl) ?_
    exact zl_iret (pc := 247) hO nd_Pr_dispatch_247 rfl (zr_i h)
  have h := ite_f hc h
  have n_21_12 : ¬ (a2 >>> ((11 : Int32) &&& 31)).toInt = 12 := lv_neT (k := 12) hc (by decide)
  by_cases hc : (a2 >>> ((11 : Int32) &&& 31)) = 13
  · have h := ite_t hc h
    refine zl_tabIn (pc := 21) (off := 227) hO 13 248 hc nd_Pr_dispatch_21 (by decide) (by decide) (by decide) (by decide) ?_
    refine zl_aload_n (pc := 248) hO 0 nd_Pr_dispatch_248 rfl rfl ?_
    refine zl_aload_n (pc := 249) hO 1 nd_Pr_dispatch_249 rfl rfl ?_
    refine zl_iload_n (pc := 250) hO 2 nd_Pr_dispatch_250 rfl rfl ?_
    refine zl_bipush (pc := 251) hO (v := 7) nd_Pr_dispatch_251 (by decide) ?_
    refine zl_iand (pc := 253) hO nd_Pr_dispatch_253 ?_
    refine zl_aload_n (pc := 254) hO 1 nd_Pr_dispatch_254 rfl rfl ?_
    refine zl_getS (pc := 255) hO nd_Pr_dispatch_255 kf_Pr_57 rfl b_a1 rfl ?_
    refine zl_iload_n (pc := 258) hO 2 nd_Pr_dispatch_258 rfl rfl ?_
    refine zl_iconst (pc := 259) hO (v := 3) nd_Pr_dispatch_259 (by decide) ?_
    refine zl_ishr (pc := 260) hO nd_Pr_dispatch_260 ?_
    refine zl_bipush (pc := 261) hO (v := 7) nd_Pr_dispatch_261 (by decide) ?_
    refine zl_iand (pc := 263) hO nd_Pr_dispatch_263 ?_
    obtain ⟨c_in264, h⟩ := ck_use h
    refine zl_iald (pc := 264) hO nd_Pr_dispatch_264 rfl rfl b_a1 c_in264 ?_
    refine zl_iconst (pc := 265) hO (v := 4) nd_Pr_dispatch_265 (by decide) ?_
    refine zl_iload_n (pc := 266) hO 2 nd_Pr_dispatch_266 rfl rfl ?_
    refine zl_bipush (pc := 267) hO (v := 6) nd_Pr_dispatch_267 (by decide) ?_
    refine zl_ishr (pc := 269) hO nd_Pr_dispatch_269 ?_
    refine zl_bipush (pc := 270) hO (v := 31) nd_Pr_dispatch_270 (by decide) ?_
    refine zl_iand (pc := 272) hO nd_Pr_dispatch_272 ?_
    refine zl_imul (pc := 273) hO nd_Pr_dispatch_273 ?_
    refine zl_iadd (pc := 274) hO nd_Pr_dispatch_274 ?_
    obtain ⟨⟨s17, r18⟩, h_275, h⟩ := bn_use h
    refine zl_callVi (pc := 275) hO [zR 11 a1, zI (a2 &&& (7 : Int32)), zI ((s0 12 a1 ((a2 >>> ((3 : Int32) &&& 31)) &&& (7 : Int32)).toNatClampNeg) + ((4 : Int32) * ((a2 >>> ((6 : Int32) &&& 31)) &&& (31 : Int32))))] [] (c_Pr_loadInto hJ b_a1 h_275) nd_Pr_dispatch_275 kv_Pr_53 rfl (Nat.le_of_ble_eq_true rfl) rfl rfl rfl (Nat.le_of_ble_eq_true rfl) ?_
    exact zl_iret (pc := 278) hO nd_Pr_dispatch_278 rfl (zr_i h)
  have h := ite_f hc h
  have n_21_13 : ¬ (a2 >>> ((11 : Int32) &&& 31)).toInt = 13 := lv_neT (k := 13) hc (by decide)
  by_cases hc : (a2 >>> ((11 : Int32) &&& 31)) = 18
  · have h := ite_t hc h
    refine zl_tabIn (pc := 21) (off := 258) hO 18 279 hc nd_Pr_dispatch_21 (by decide) (by decide) (by decide) (by decide) ?_
    refine zl_aload_n (pc := 279) hO 0 nd_Pr_dispatch_279 rfl rfl ?_
    refine zl_aload_n (pc := 280) hO 1 nd_Pr_dispatch_280 rfl rfl ?_
    refine zl_iload_n (pc := 281) hO 3 nd_Pr_dispatch_281 rfl rfl ?_
    refine zl_aload_n (pc := 282) hO 1 nd_Pr_dispatch_282 rfl rfl ?_
    refine zl_geti (pc := 283) hO nd_Pr_dispatch_283 kf_Pr_64 rfl b_a1 rfl ?_
    refine zl_iload (pc := 286) hO nd_Pr_dispatch_286 rfl ?_
    refine zl_iadd (pc := 288) hO nd_Pr_dispatch_288 ?_
    obtain ⟨⟨s19, r20⟩, h_289, h⟩ := bn_use h
    refine zl_callVi (pc := 289) hO [zR 11 a1, zI x1, zI ((s0 11 a1 11) + x2)] [] (c_Pr_storeFrom hJ b_a1 h_289) nd_Pr_dispatch_289 kv_Pr_61 rfl (Nat.le_of_ble_eq_true rfl) rfl rfl rfl (Nat.le_of_ble_eq_true rfl) ?_
    exact zl_iret (pc := 292) hO nd_Pr_dispatch_292 rfl (zr_i h)
  have h := ite_f hc h
  have n_21_18 : ¬ (a2 >>> ((11 : Int32) &&& 31)).toInt = 18 := lv_neT (k := 18) hc (by decide)
  by_cases hc : (a2 >>> ((11 : Int32) &&& 31)) = 19
  · have h := ite_t hc h
    refine zl_tabIn (pc := 21) (off := 272) hO 19 293 hc nd_Pr_dispatch_21 (by decide) (by decide) (by decide) (by decide) ?_
    refine zl_aload_n (pc := 293) hO 0 nd_Pr_dispatch_293 rfl rfl ?_
    refine zl_aload_n (pc := 294) hO 1 nd_Pr_dispatch_294 rfl rfl ?_
    refine zl_iload_n (pc := 295) hO 3 nd_Pr_dispatch_295 rfl rfl ?_
    refine zl_aload_n (pc := 296) hO 1 nd_Pr_dispatch_296 rfl rfl ?_
    refine zl_geti (pc := 297) hO nd_Pr_dispatch_297 kf_Pr_64 rfl b_a1 rfl ?_
    refine zl_iload (pc := 300) hO nd_Pr_dispatch_300 rfl ?_
    refine zl_iadd (pc := 302) hO nd_Pr_dispatch_302 ?_
    obtain ⟨⟨s21, r22⟩, h_303, h⟩ := bn_use h
    refine zl_callVi (pc := 303) hO [zR 11 a1, zI x1, zI ((s0 11 a1 11) + x2)] [] (c_Pr_loadInto hJ b_a1 h_303) nd_Pr_dispatch_303 kv_Pr_53 rfl (Nat.le_of_ble_eq_true rfl) rfl rfl rfl (Nat.le_of_ble_eq_true rfl) ?_
    exact zl_iret (pc := 306) hO nd_Pr_dispatch_306 rfl (zr_i h)
  have h := ite_f hc h
  have n_21_19 : ¬ (a2 >>> ((11 : Int32) &&& 31)).toInt = 19 := lv_neT (k := 19) hc (by decide)
  by_cases hc : (a2 >>> ((11 : Int32) &&& 31)) = 21
  · have h := ite_t hc h
    refine zl_tabIn (pc := 21) (off := 286) hO 21 307 hc nd_Pr_dispatch_21 (by decide) (by decide) (by decide) (by decide) ?_
    refine zl_aload_n (pc := 307) hO 1 nd_Pr_dispatch_307 rfl rfl ?_
    refine zl_getS (pc := 308) hO nd_Pr_dispatch_308 kf_Pr_57 rfl b_a1 rfl ?_
    refine zl_iload_n (pc := 311) hO 3 nd_Pr_dispatch_311 rfl rfl ?_
    refine zl_aload_n (pc := 312) hO 1 nd_Pr_dispatch_312 rfl rfl ?_
    refine zl_geti (pc := 313) hO nd_Pr_dispatch_313 kf_Pr_64 rfl b_a1 rfl ?_
    refine zl_iload (pc := 316) hO nd_Pr_dispatch_316 rfl ?_
    refine zl_iadd (pc := 318) hO nd_Pr_dispatch_318 ?_
    obtain ⟨c_in319, h⟩ := ck_use h
    refine zl_iast (pc := 319) hO nd_Pr_dispatch_319 rfl rfl b_a1 c_in319 ?_
    obtain ⟨s23, e_s23, h⟩ := lt_use h
    refine zl_sg e_s23 ?_
    refine zl_iconst (pc := 320) hO (v := 0) nd_Pr_dispatch_320 (by decide) ?_
    exact zl_iret (pc := 321) hO nd_Pr_dispatch_321 rfl (zr_i h)
  have h := ite_f hc h
  have n_21_21 : ¬ (a2 >>> ((11 : Int32) &&& 31)).toInt = 21 := lv_neT (k := 21) hc (by decide)
  by_cases hc : (a2 >>> ((11 : Int32) &&& 31)) = 22
  · have h := ite_t hc h
    refine zl_tabIn (pc := 21) (off := 301) hO 22 322 hc nd_Pr_dispatch_21 (by decide) (by decide) (by decide) (by decide) ?_
    refine zl_iload_n (pc := 322) hO 2 nd_Pr_dispatch_322 rfl rfl ?_
    refine zl_bipush (pc := 323) hO (v := 8) nd_Pr_dispatch_323 (by decide) ?_
    refine zl_ishr (pc := 325) hO nd_Pr_dispatch_325 ?_
    refine zl_sipush (pc := 326) hO (v := 176) nd_Pr_dispatch_326 (by decide) ?_
    refine zl_icmp_ne (pc := 329) hO 341 nd_Pr_dispatch_329 (by decide) (fun hc => ?_) (fun hc => ?_)
    · have h := ite_f hc h
      refine zl_aload_n (pc := 341) hO 0 nd_Pr_dispatch_341 rfl rfl ?_
      refine zl_aload_n (pc := 342) hO 1 nd_Pr_dispatch_342 rfl rfl ?_
      refine zl_iload_n (pc := 343) hO 2 nd_Pr_dispatch_343 rfl rfl ?_
      obtain ⟨⟨s24, r25⟩, h_344, h⟩ := bn_use h
      refine zl_callVi (pc := 344) hO [zR 11 a1, zI a2] [] (c_Pr_push hJ b_a1 h_344) nd_Pr_dispatch_344 kv_Pr_70 rfl (Nat.le_of_ble_eq_true rfl) rfl rfl rfl (Nat.le_of_ble_eq_true rfl) ?_
      exact zl_iret (pc := 347) hO nd_Pr_dispatch_347 rfl (zr_i h)
    · have h := ite_t hc h
      refine zl_aload_n (pc := 332) hO 0 nd_Pr_dispatch_332 rfl rfl ?_
      refine zl_aload_n (pc := 333) hO 1 nd_Pr_dispatch_333 rfl rfl ?_
      refine zl_iload_n (pc := 334) hO 2 nd_Pr_dispatch_334 rfl rfl ?_
      obtain ⟨⟨s26, r27⟩, h_335, h⟩ := bn_use h
      refine zl_callVi (pc := 335) hO [zR 11 a1, zI a2] [] (c_Pr_moveStack hJ b_a1 h_335) nd_Pr_dispatch_335 kv_Pr_67 rfl (Nat.le_of_ble_eq_true rfl) rfl rfl rfl (Nat.le_of_ble_eq_true rfl) ?_
      refine zl_goto (pc := 338) hO 347 nd_Pr_dispatch_338 (by decide) ?_
      exact zl_iret (pc := 347) hO nd_Pr_dispatch_347 rfl (zr_i h)
  have h := ite_f hc h
  have n_21_22 : ¬ (a2 >>> ((11 : Int32) &&& 31)).toInt = 22 := lv_neT (k := 22) hc (by decide)
  by_cases hc : (a2 >>> ((11 : Int32) &&& 31)) = 23
  · have h := ite_t hc h
    refine zl_tabIn (pc := 21) (off := 327) hO 23 348 hc nd_Pr_dispatch_21 (by decide) (by decide) (by decide) (by decide) ?_
    refine zl_aload_n (pc := 348) hO 0 nd_Pr_dispatch_348 rfl rfl ?_
    refine zl_aload_n (pc := 349) hO 1 nd_Pr_dispatch_349 rfl rfl ?_
    refine zl_iload_n (pc := 350) hO 2 nd_Pr_dispatch_350 rfl rfl ?_
    obtain ⟨⟨s28, r29⟩, h_351, h⟩ := bn_use h
    refine zl_callVi (pc := 351) hO [zR 11 a1, zI a2] [] (c_Pr_pop hJ b_a1 h_351) nd_Pr_dispatch_351 kv_Pr_73 rfl (Nat.le_of_ble_eq_true rfl) rfl rfl rfl (Nat.le_of_ble_eq_true rfl) ?_
    exact zl_iret (pc := 354) hO nd_Pr_dispatch_354 rfl (zr_i h)
  have h := ite_f hc h
  have n_21_23 : ¬ (a2 >>> ((11 : Int32) &&& 31)).toInt = 23 := lv_neT (k := 23) hc (by decide)
  by_cases hc : (a2 >>> ((11 : Int32) &&& 31)) = 26 ∨ (a2 >>> ((11 : Int32) &&& 31)) = 27
  · have h := ite_t hc h
    rcases hc with hc | hc
    · refine zl_tabIn (pc := 21) (off := 334) hO 26 355 hc nd_Pr_dispatch_21 (by decide) (by decide) (by decide) (by decide) ?_
      refine zl_aload_n (pc := 355) hO 0 nd_Pr_dispatch_355 rfl rfl ?_
      refine zl_aload_n (pc := 356) hO 1 nd_Pr_dispatch_356 rfl rfl ?_
      refine zl_iload_n (pc := 357) hO 2 nd_Pr_dispatch_357 rfl rfl ?_
      obtain ⟨⟨s30, r31⟩, h_358, h⟩ := bn_use h
      refine zl_callVi (pc := 358) hO [zR 11 a1, zI a2] [] (c_Pr_branchIf hJ b_a1 h_358) nd_Pr_dispatch_358 kv_Pr_76 rfl (Nat.le_of_ble_eq_true rfl) rfl rfl rfl (Nat.le_of_ble_eq_true rfl) ?_
      exact zl_iret (pc := 361) hO nd_Pr_dispatch_361 rfl (zr_i h)
    · refine zl_tabIn (pc := 21) (off := 334) hO 27 355 hc nd_Pr_dispatch_21 (by decide) (by decide) (by decide) (by decide) ?_
      refine zl_aload_n (pc := 355) hO 0 nd_Pr_dispatch_355 rfl rfl ?_
      refine zl_aload_n (pc := 356) hO 1 nd_Pr_dispatch_356 rfl rfl ?_
      refine zl_iload_n (pc := 357) hO 2 nd_Pr_dispatch_357 rfl rfl ?_
      obtain ⟨⟨s30, r31⟩, h_358, h⟩ := bn_use h
      refine zl_callVi (pc := 358) hO [zR 11 a1, zI a2] [] (c_Pr_branchIf hJ b_a1 h_358) nd_Pr_dispatch_358 kv_Pr_76 rfl (Nat.le_of_ble_eq_true rfl) rfl rfl rfl (Nat.le_of_ble_eq_true rfl) ?_
      exact zl_iret (pc := 361) hO nd_Pr_dispatch_361 rfl (zr_i h)
  have h := ite_f hc h
  have n_21_26 : ¬ (a2 >>> ((11 : Int32) &&& 31)).toInt = 26 := lv_neT (k := 26) (fun w => hc (by simp only [w]; decide)) (by decide)
  have n_21_27 : ¬ (a2 >>> ((11 : Int32) &&& 31)).toInt = 27 := lv_neT (k := 27) (fun w => hc (by simp only [w]; decide)) (by decide)
  by_cases hc : (a2 >>> ((11 : Int32) &&& 31)) = 28
  · have h := ite_t hc h
    refine zl_tabIn (pc := 21) (off := 341) hO 28 362 hc nd_Pr_dispatch_21 (by decide) (by decide) (by decide) (by decide) ?_
    refine zl_aload_n (pc := 362) hO 0 nd_Pr_dispatch_362 rfl rfl ?_
    refine zl_aload_n (pc := 363) hO 1 nd_Pr_dispatch_363 rfl rfl ?_
    refine zl_geti (pc := 364) hO nd_Pr_dispatch_364 kf_Pr_15 rfl b_a1 rfl ?_
    refine zl_iconst (pc := 367) hO (v := 4) nd_Pr_dispatch_367 (by decide) ?_
    refine zl_iadd (pc := 368) hO nd_Pr_dispatch_368 ?_
    refine zl_iconst (pc := 369) hO (v := 2) nd_Pr_dispatch_369 (by decide) ?_
    refine zl_iload_n (pc := 370) hO 2 nd_Pr_dispatch_370 rfl rfl ?_
    refine zl_sipush (pc := 371) hO (v := 2047) nd_Pr_dispatch_371 (by decide) ?_
    refine zl_iand (pc := 374) hO nd_Pr_dispatch_374 ?_
    refine zl_iload_n (pc := 375) hO 2 nd_Pr_dispatch_375 rfl rfl ?_
    refine zl_sipush (pc := 376) hO (v := 1024) nd_Pr_dispatch_376 (by decide) ?_
    refine zl_iand (pc := 379) hO nd_Pr_dispatch_379 ?_
    refine zl_iconst (pc := 380) hO (v := 1) nd_Pr_dispatch_380 (by decide) ?_
    refine zl_ishl (pc := 381) hO nd_Pr_dispatch_381 ?_
    refine zl_isub (pc := 382) hO nd_Pr_dispatch_382 ?_
    refine zl_imul (pc := 383) hO nd_Pr_dispatch_383 ?_
    refine zl_iadd (pc := 384) hO nd_Pr_dispatch_384 ?_
    refine zl_puti (pc := 385) hO nd_Pr_dispatch_385 kp_Pr_25 rfl (Nat.le_of_ble_eq_true rfl) rfl ?_
    obtain ⟨s32, e_s32, h⟩ := lt_use h
    refine zl_sg e_s32 ?_
    refine zl_iconst (pc := 388) hO (v := 0) nd_Pr_dispatch_388 (by decide) ?_
    exact zl_iret (pc := 389) hO nd_Pr_dispatch_389 rfl (zr_i h)
  have h := ite_f hc h
  have n_21_28 : ¬ (a2 >>> ((11 : Int32) &&& 31)).toInt = 28 := lv_neT (k := 28) hc (by decide)
  by_cases hc : (a2 >>> ((11 : Int32) &&& 31)) = 10
  · refine zl_tabIn (pc := 21) (off := 369) hO 10 390 hc nd_Pr_dispatch_21 (by decide) (by decide) (by decide) (by decide) ?_
    refine zl_iconst (pc := 390) hO (v := 2) nd_Pr_dispatch_390 (by decide) ?_
    exact zl_iret (pc := 391) hO nd_Pr_dispatch_391 rfl (zr_i h)
  have n_21_10 : ¬ (a2 >>> ((11 : Int32) &&& 31)).toInt = 10 := lv_neT (k := 10) hc (by decide)
  by_cases hc : (a2 >>> ((11 : Int32) &&& 31)) = 11
  · refine zl_tabIn (pc := 21) (off := 369) hO 11 390 hc nd_Pr_dispatch_21 (by decide) (by decide) (by decide) (by decide) ?_
    refine zl_iconst (pc := 390) hO (v := 2) nd_Pr_dispatch_390 (by decide) ?_
    exact zl_iret (pc := 391) hO nd_Pr_dispatch_391 rfl (zr_i h)
  have n_21_11 : ¬ (a2 >>> ((11 : Int32) &&& 31)).toInt = 11 := lv_neT (k := 11) hc (by decide)
  by_cases hc : (a2 >>> ((11 : Int32) &&& 31)) = 14
  · refine zl_tabIn (pc := 21) (off := 369) hO 14 390 hc nd_Pr_dispatch_21 (by decide) (by decide) (by decide) (by decide) ?_
    refine zl_iconst (pc := 390) hO (v := 2) nd_Pr_dispatch_390 (by decide) ?_
    exact zl_iret (pc := 391) hO nd_Pr_dispatch_391 rfl (zr_i h)
  have n_21_14 : ¬ (a2 >>> ((11 : Int32) &&& 31)).toInt = 14 := lv_neT (k := 14) hc (by decide)
  by_cases hc : (a2 >>> ((11 : Int32) &&& 31)) = 15
  · refine zl_tabIn (pc := 21) (off := 369) hO 15 390 hc nd_Pr_dispatch_21 (by decide) (by decide) (by decide) (by decide) ?_
    refine zl_iconst (pc := 390) hO (v := 2) nd_Pr_dispatch_390 (by decide) ?_
    exact zl_iret (pc := 391) hO nd_Pr_dispatch_391 rfl (zr_i h)
  have n_21_15 : ¬ (a2 >>> ((11 : Int32) &&& 31)).toInt = 15 := lv_neT (k := 15) hc (by decide)
  by_cases hc : (a2 >>> ((11 : Int32) &&& 31)) = 16
  · refine zl_tabIn (pc := 21) (off := 369) hO 16 390 hc nd_Pr_dispatch_21 (by decide) (by decide) (by decide) (by decide) ?_
    refine zl_iconst (pc := 390) hO (v := 2) nd_Pr_dispatch_390 (by decide) ?_
    exact zl_iret (pc := 391) hO nd_Pr_dispatch_391 rfl (zr_i h)
  have n_21_16 : ¬ (a2 >>> ((11 : Int32) &&& 31)).toInt = 16 := lv_neT (k := 16) hc (by decide)
  by_cases hc : (a2 >>> ((11 : Int32) &&& 31)) = 17
  · refine zl_tabIn (pc := 21) (off := 369) hO 17 390 hc nd_Pr_dispatch_21 (by decide) (by decide) (by decide) (by decide) ?_
    refine zl_iconst (pc := 390) hO (v := 2) nd_Pr_dispatch_390 (by decide) ?_
    exact zl_iret (pc := 391) hO nd_Pr_dispatch_391 rfl (zr_i h)
  have n_21_17 : ¬ (a2 >>> ((11 : Int32) &&& 31)).toInt = 17 := lv_neT (k := 17) hc (by decide)
  by_cases hc : (a2 >>> ((11 : Int32) &&& 31)) = 20
  · refine zl_tabIn (pc := 21) (off := 369) hO 20 390 hc nd_Pr_dispatch_21 (by decide) (by decide) (by decide) (by decide) ?_
    refine zl_iconst (pc := 390) hO (v := 2) nd_Pr_dispatch_390 (by decide) ?_
    exact zl_iret (pc := 391) hO nd_Pr_dispatch_391 rfl (zr_i h)
  have n_21_20 : ¬ (a2 >>> ((11 : Int32) &&& 31)).toInt = 20 := lv_neT (k := 20) hc (by decide)
  by_cases hc : (a2 >>> ((11 : Int32) &&& 31)) = 24
  · refine zl_tabIn (pc := 21) (off := 369) hO 24 390 hc nd_Pr_dispatch_21 (by decide) (by decide) (by decide) (by decide) ?_
    refine zl_iconst (pc := 390) hO (v := 2) nd_Pr_dispatch_390 (by decide) ?_
    exact zl_iret (pc := 391) hO nd_Pr_dispatch_391 rfl (zr_i h)
  have n_21_24 : ¬ (a2 >>> ((11 : Int32) &&& 31)).toInt = 24 := lv_neT (k := 24) hc (by decide)
  by_cases hc : (a2 >>> ((11 : Int32) &&& 31)) = 25
  · refine zl_tabIn (pc := 21) (off := 369) hO 25 390 hc nd_Pr_dispatch_21 (by decide) (by decide) (by decide) (by decide) ?_
    refine zl_iconst (pc := 390) hO (v := 2) nd_Pr_dispatch_390 (by decide) ?_
    exact zl_iret (pc := 391) hO nd_Pr_dispatch_391 rfl (zr_i h)
  have n_21_25 : ¬ (a2 >>> ((11 : Int32) &&& 31)).toInt = 25 := lv_neT (k := 25) hc (by decide)
  refine zl_tabOut (pc := 21) hO 390 nd_Pr_dispatch_21 (by omega) (by decide) ?_
  refine zl_iconst (pc := 390) hO (v := 2) nd_Pr_dispatch_390 (by decide) ?_
  exact zl_iret (pc := 391) hO nd_Pr_dispatch_391 rfl (zr_i h)
set_option maxHeartbeats 4000000 in
set_option maxRecDepth 100000 in
theorem c_Pr_execute {l : Launch} {V : zG} (hJ : zJ0 (sC l V)) {s0 : zS} {a1 : Nat} (b_a1 : a1 < 4) {s1 : zS} {v1 : Int32} (h : k_Pr_execute s0 a1 = some (s1, v1)) : zM (sC l V) md_Pr_execute [zR 10 0, zR 11 a1] s0 (s1, some (zI v1)) := by
  refine zMet [some (zR 10 0), some (zR 11 a1), none] hJ (by decide) rfl (Nat.le_of_ble_eq_true rfl) rfl ?_
  intro X hO
  unfold k_Pr_execute at h
  refine zl_aload_n (pc := 0) hO 1 nd_Pr_execute_0 rfl rfl ?_
  refine zl_aload_n (pc := 1) hO 1 nd_Pr_execute_1 rfl rfl ?_
  refine zl_geti (pc := 2) hO nd_Pr_execute_2 kf_Pr_15 rfl b_a1 rfl ?_
  obtain ⟨⟨s1, r2⟩, h_5, h⟩ := bn_use h
  refine zl_callVi (pc := 5) hO [zI (s0 11 a1 13)] [] (c_BP_isInCode hJ b_a1 h_5) nd_Pr_execute_5 kv_Pr_21 rfl b_a1 rfl rfl rfl (Nat.le_of_ble_eq_true rfl) ?_
  refine zl_if_eq (pc := 8) hO 20 nd_Pr_execute_8 (by decide) (fun hc => ?_) (fun hc => ?_)
  · have h := ite_t hc h
    refine zl_iconst (pc := 20) hO (v := 1) nd_Pr_execute_20 (by decide) ?_
    exact zl_iret (pc := 21) hO nd_Pr_execute_21 rfl (zr_i h)
  · have h := ite_f hc h
    refine zl_aload_n (pc := 11) hO 1 nd_Pr_execute_11 rfl rfl ?_
    refine zl_geti (pc := 12) hO nd_Pr_execute_12 kf_Pr_15 rfl b_a1 rfl ?_
    refine zl_iconst (pc := 15) hO (v := 1) nd_Pr_execute_15 (by decide) ?_
    refine zl_iand (pc := 16) hO nd_Pr_execute_16 ?_
    refine zl_if_eq (pc := 17) hO 22 nd_Pr_execute_17 (by decide) (fun hc => ?_) (fun hc => ?_)
    · have h := ite_t hc h
      refine zl_aload_n (pc := 22) hO 0 nd_Pr_execute_22 rfl rfl ?_
      refine zl_aload_n (pc := 23) hO 1 nd_Pr_execute_23 rfl rfl ?_
      refine zl_geti (pc := 24) hO nd_Pr_execute_24 kf_Pr_15 rfl b_a1 rfl ?_
      refine zl_iconst (pc := 27) hO (v := 2) nd_Pr_execute_27 (by decide) ?_
      refine zl_iadd (pc := 28) hO nd_Pr_execute_28 ?_
      refine zl_puti (pc := 29) hO nd_Pr_execute_29 kp_Pr_25 rfl (Nat.le_of_ble_eq_true rfl) rfl ?_
      obtain ⟨s3, e_s3, h⟩ := lt_use h
      refine zl_sg e_s3 ?_
      refine zl_aload_n (pc := 32) hO 0 nd_Pr_execute_32 rfl rfl ?_
      refine zl_aload_n (pc := 33) hO 1 nd_Pr_execute_33 rfl rfl ?_
      refine zl_aload_n (pc := 34) hO 0 nd_Pr_execute_34 rfl rfl ?_
      refine zl_get0 (pc := 35) hO nd_Pr_execute_35 kf_Pr_9 rfl (Nat.le_of_ble_eq_true rfl) rfl ?_
      refine zl_aload_n (pc := 38) hO 1 nd_Pr_execute_38 rfl rfl ?_
      refine zl_geti (pc := 39) hO nd_Pr_execute_39 kf_Pr_15 rfl b_a1 rfl ?_
      obtain ⟨⟨s4, r5⟩, h_42, h⟩ := bn_use h
      refine zl_callVi (pc := 42) hO [zI (s3 11 a1 13)] [zR 11 a1, zR 10 0] (c_Me_halfword hJ h_42) nd_Pr_execute_42 kv_Pr_28 rfl (Nat.le_of_ble_eq_true rfl) rfl rfl rfl (Nat.le_of_ble_eq_true rfl) ?_
      obtain ⟨⟨s6, r7⟩, h_45, h⟩ := bn_use h
      refine zl_callVi (pc := 45) hO [zR 11 a1, zI r5] [] (c_Pr_dispatch hJ b_a1 h_45) nd_Pr_execute_45 kv_Pr_34 rfl (Nat.le_of_ble_eq_true rfl) rfl rfl rfl (Nat.le_of_ble_eq_true rfl) ?_
      refine zl_istore_n (pc := 48) hO 2 (L' := [some (zR 10 0), some (zR 11 a1), some (zI r7)]) nd_Pr_execute_48 rfl (by decide) rfl ?_
      refine zl_iload_n (pc := 49) hO 2 nd_Pr_execute_49 rfl rfl ?_
      refine zl_if_ne (pc := 50) hO 61 nd_Pr_execute_50 (by decide) (fun hc => ?_) (fun hc => ?_)
      · have h := ite_f hc h
        refine zl_iload_n (pc := 61) hO 2 nd_Pr_execute_61 rfl rfl ?_
        exact zl_iret (pc := 62) hO nd_Pr_execute_62 rfl (zr_i h)
      · have h := ite_t hc h
        refine zl_aload_n (pc := 53) hO 1 nd_Pr_execute_53 rfl rfl ?_
        refine zl_aload_n (pc := 54) hO 0 nd_Pr_execute_54 rfl rfl ?_
        refine zl_geti (pc := 55) hO nd_Pr_execute_55 kf_Pr_25 rfl (Nat.le_of_ble_eq_true rfl) rfl ?_
        refine zl_puti (pc := 58) hO nd_Pr_execute_58 kp_Pr_15 rfl b_a1 rfl ?_
        obtain ⟨s8, e_s8, h⟩ := lt_use h
        refine zl_sg e_s8 ?_
        refine zl_iload_n (pc := 61) hO 2 nd_Pr_execute_61 rfl rfl ?_
        exact zl_iret (pc := 62) hO nd_Pr_execute_62 rfl (zr_i h)
    · have h := ite_f hc h
      refine zl_iconst (pc := 20) hO (v := 1) nd_Pr_execute_20 (by decide) ?_
      exact zl_iret (pc := 21) hO nd_Pr_execute_21 rfl (zr_i h)
set_option maxHeartbeats 4000000 in
set_option maxRecDepth 100000 in
theorem c_GK_doInstruction {l : Launch} {V : zG} (hJ : zJ0 (sC l V)) {s0 : zS} {a1 : Nat} (b_a1 : a1 < 4) {s1 : zS} {v1 : Int32} (h : k_GK_doInstruction s0 a1 = some (s1, v1)) : zM (sC l V) md_GK_doInstruction [zR 0 0, zR 11 a1] s0 (s1, some (zI v1)) := by
  refine zMet [some (zR 0 0), some (zR 11 a1)] hJ (by decide) rfl (Nat.le_of_ble_eq_true rfl) rfl ?_
  intro X hO
  have J_17 : ∀ (s0 : zS), k_GK_doInstruction_17 a1 s0 = some (s1, v1) → ZW (sC l V) md_GK_doInstruction (s1, some (zI v1)) X 17 [some (zR 0 0), some (zR 11 a1)] [] s0 := by
    intro s0 h
    unfold k_GK_doInstruction_17 at h
    refine zl_aload_n (pc := 17) hO 0 nd_GK_doInstruction_17 rfl rfl ?_
    refine zl_get0 (pc := 18) hO nd_GK_doInstruction_18 kf_GK_53 rfl (Nat.le_of_ble_eq_true rfl) rfl ?_
    refine zl_aload_n (pc := 21) hO 1 nd_GK_doInstruction_21 rfl rfl ?_
    obtain ⟨⟨s3, r4⟩, h_22, h⟩ := bn_use h
    refine zl_callVi (pc := 22) hO [zR 11 a1] [] (c_Pr_execute hJ b_a1 h_22) nd_GK_doInstruction_22 kv_GK_178 rfl (Nat.le_of_ble_eq_true rfl) rfl rfl rfl (Nat.le_of_ble_eq_true rfl) ?_
    exact zl_iret (pc := 25) hO nd_GK_doInstruction_25 rfl (zr_i h)
  unfold k_GK_doInstruction at h
  refine zl_aload_n (pc := 0) hO 1 nd_GK_doInstruction_0 rfl rfl ?_
  refine zl_geti (pc := 1) hO nd_GK_doInstruction_1 kf_GK_171 rfl b_a1 rfl ?_
  refine zl_if_eq (pc := 4) hO 17 nd_GK_doInstruction_4 (by decide) (fun hc => ?_) (fun hc => ?_)
  · have h := ite_t hc h
    exact zl_weak (J_17 _ h) ⟨rfl, ⟨rfl, trivial⟩⟩
  · have h := ite_f hc h
    refine zl_aload_n (pc := 7) hO 1 nd_GK_doInstruction_7 rfl rfl ?_
    obtain ⟨⟨s1, r2⟩, h_8, h⟩ := bn_use h
    refine zl_callVi (pc := 8) hO [] [] (c_BP_takeFrame hJ b_a1 h_8) nd_GK_doInstruction_8 kv_GK_175 rfl b_a1 rfl rfl rfl (Nat.le_of_ble_eq_true rfl) ?_
    refine zl_if_ne (pc := 11) hO 17 nd_GK_doInstruction_11 (by decide) (fun hc => ?_) (fun hc => ?_)
    · have h := ite_f hc h
      exact zl_weak (J_17 _ h) ⟨rfl, ⟨rfl, trivial⟩⟩
    · have h := ite_t hc h
      refine zl_bipush (pc := 14) hO (v := 6) nd_GK_doInstruction_14 (by decide) ?_
      exact zl_iret (pc := 16) hO nd_GK_doInstruction_16 rfl (zr_i h)
set_option maxHeartbeats 4000000 in
set_option maxRecDepth 100000 in
theorem c_BP_setFrameWord {l : Launch} {V : zG} (hJ : zJ0 (sC l V)) {s0 : zS} {p : Nat} {a1 : Int32} {a2 : Int32} (b_p : p < 4) {s1 : zS} (h : k_BP_setFrameWord s0 p a1 a2 = some s1) : zM (sC l V) md_BP_setFrameWord [zR 11 p, zI a1, zI a2] s0 (s1, none) := by
  refine zMet [some (zR 11 p), some (zI a1), some (zI a2)] hJ (by decide) rfl (Nat.le_of_ble_eq_true rfl) rfl ?_
  intro X hO
  unfold k_BP_setFrameWord at h
  refine zl_aload_n (pc := 0) hO 0 nd_BP_setFrameWord_0 rfl rfl ?_
  refine zl_get0 (pc := 1) hO nd_BP_setFrameWord_1 kf_BP_9 rfl b_p rfl ?_
  refine zl_aload_n (pc := 4) hO 0 nd_BP_setFrameWord_4 rfl rfl ?_
  refine zl_geti (pc := 5) hO nd_BP_setFrameWord_5 kf_BP_45 rfl b_p rfl ?_
  refine zl_iconst (pc := 8) hO (v := 4) nd_BP_setFrameWord_8 (by decide) ?_
  refine zl_iload_n (pc := 9) hO 1 nd_BP_setFrameWord_9 rfl rfl ?_
  refine zl_imul (pc := 10) hO nd_BP_setFrameWord_10 ?_
  refine zl_iadd (pc := 11) hO nd_BP_setFrameWord_11 ?_
  refine zl_iload_n (pc := 12) hO 2 nd_BP_setFrameWord_12 rfl rfl ?_
  obtain ⟨s1, h_13, h⟩ := bn_use h
  refine zl_callVv (pc := 13) hO [zI ((s0 11 p 11) + ((4 : Int32) * a1)), zI a2] [] (c_Me_setRamWord hJ h_13) nd_BP_setFrameWord_13 kv_BP_112 rfl (Nat.le_of_ble_eq_true rfl) rfl rfl rfl (Nat.le_of_ble_eq_true rfl) ?_
  exact zl_vret (pc := 16) hO nd_BP_setFrameWord_16 rfl (zr_v h)
set_option maxHeartbeats 4000000 in
set_option maxRecDepth 100000 in
theorem c_BP_stackFrame {l : Launch} {V : zG} (hJ : zJ0 (sC l V)) {s0 : zS} {p : Nat} {a1 : Int32} (b_p : p < 4) {s1 : zS} {v1 : Int32} (h : k_BP_stackFrame s0 p a1 = some (s1, v1)) : zM (sC l V) md_BP_stackFrame [zR 11 p, zI a1] s0 (s1, some (zI v1)) := by
  refine zMet [some (zR 11 p), some (zI a1), none, none, none] hJ (by decide) rfl (Nat.le_of_ble_eq_true rfl) rfl ?_
  intro X hO
  have J_44 : ∀ (n : Nat), ∀ (s0 : zS) (l3 : Int32) (l4 : Int32), k_BP_stackFrame_44 p a1 n s0 l3 l4 = some (s1, v1) → ZW (sC l V) md_BP_stackFrame (s1, some (zI v1)) X 44 [some (zR 11 p), some (zI a1), none, some (zI l3), some (zI l4)] [] s0 := by
    intro n
    induction n with
    | zero => intro s0 l3 l4 h; exact absurd h (by rw [k_BP_stackFrame_44]; exact fun w => nomatch w)
    | succ n ih =>
      intro s0 l3 l4 h
      rw [k_BP_stackFrame_44]  at h
      refine zl_iload (pc := 44) hO nd_BP_stackFrame_44 rfl ?_
      refine zl_iconst (pc := 46) hO (v := 4) nd_BP_stackFrame_46 (by decide) ?_
      refine zl_icmp_ge (pc := 47) hO 69 nd_BP_stackFrame_47 (by decide) (fun hc => ?_) (fun hc => ?_)
      · have h := ite_t hc h
        refine zl_aload_n (pc := 69) hO 0 nd_BP_stackFrame_69 rfl rfl ?_
        refine zl_iconst (pc := 70) hO (v := 4) nd_BP_stackFrame_70 (by decide) ?_
        refine zl_iconst (pc := 71) hO (v := 0) nd_BP_stackFrame_71 (by decide) ?_
        obtain ⟨s6, h_72, h⟩ := bn_use h
        refine zl_callVv (pc := 72) hO [zI 4, zI 0] [] (c_BP_setFrameWord hJ b_p h_72) nd_BP_stackFrame_72 kv_BP_115 rfl b_p rfl rfl rfl (Nat.le_of_ble_eq_true rfl) ?_
        refine zl_aload_n (pc := 75) hO 0 nd_BP_stackFrame_75 rfl rfl ?_
        refine zl_iconst (pc := 76) hO (v := 5) nd_BP_stackFrame_76 (by decide) ?_
        refine zl_aload_n (pc := 77) hO 0 nd_BP_stackFrame_77 rfl rfl ?_
        refine zl_geti (pc := 78) hO nd_BP_stackFrame_78 kf_BP_48 rfl b_p rfl ?_
        obtain ⟨s7, h_81, h⟩ := bn_use h
        refine zl_callVv (pc := 81) hO [zI 5, zI (s6 11 p 12)] [] (c_BP_setFrameWord hJ b_p h_81) nd_BP_stackFrame_81 kv_BP_115 rfl b_p rfl rfl rfl (Nat.le_of_ble_eq_true rfl) ?_
        refine zl_aload_n (pc := 84) hO 0 nd_BP_stackFrame_84 rfl rfl ?_
        refine zl_bipush (pc := 85) hO (v := 6) nd_BP_stackFrame_85 (by decide) ?_
        refine zl_iload_n (pc := 87) hO 1 nd_BP_stackFrame_87 rfl rfl ?_
        obtain ⟨s8, h_88, h⟩ := bn_use h
        refine zl_callVv (pc := 88) hO [zI 6, zI a1] [] (c_BP_setFrameWord hJ b_p h_88) nd_BP_stackFrame_88 kv_BP_115 rfl b_p rfl rfl rfl (Nat.le_of_ble_eq_true rfl) ?_
        refine zl_aload_n (pc := 91) hO 0 nd_BP_stackFrame_91 rfl rfl ?_
        refine zl_bipush (pc := 92) hO (v := 7) nd_BP_stackFrame_92 (by decide) ?_
        refine zl_aload_n (pc := 94) hO 0 nd_BP_stackFrame_94 rfl rfl ?_
        refine zl_geti (pc := 95) hO nd_BP_stackFrame_95 kf_BP_57 rfl b_p rfl ?_
        refine zl_bipush (pc := 98) hO (v := 28) nd_BP_stackFrame_98 (by decide) ?_
        refine zl_ishl (pc := 100) hO nd_BP_stackFrame_100 ?_
        refine zl_ldc (pc := 101) hO nd_BP_stackFrame_101 kc_BP_118 ?_
        refine zl_iadd (pc := 103) hO nd_BP_stackFrame_103 ?_
        refine zl_iload_n (pc := 104) hO 3 nd_BP_stackFrame_104 rfl rfl ?_
        refine zl_iadd (pc := 105) hO nd_BP_stackFrame_105 ?_
        obtain ⟨s9, h_106, h⟩ := bn_use h
        refine zl_callVv (pc := 106) hO [zI 7, zI ((((s8 11 p 14) <<< ((28 : Int32) &&& 31)) + (16777216 : Int32)) + l3)] [] (c_BP_setFrameWord hJ b_p h_106) nd_BP_stackFrame_106 kv_BP_115 rfl b_p rfl rfl rfl (Nat.le_of_ble_eq_true rfl) ?_
        refine zl_aload_n (pc := 109) hO 0 nd_BP_stackFrame_109 rfl rfl ?_
        refine zl_iconst (pc := 110) hO (v := 1) nd_BP_stackFrame_110 (by decide) ?_
        refine zl_putz (pc := 111) hO nd_BP_stackFrame_111 rfl kp_BP_60 rfl b_p rfl ?_
        obtain ⟨s10, e_s10, h⟩ := lt_use h
        refine zl_sg e_s10 ?_
        refine zl_iconst (pc := 114) hO (v := 1) nd_BP_stackFrame_114 (by decide) ?_
        exact zl_zret (pc := 115) hO nd_BP_stackFrame_115 rfl (by decide) (zr_i h)
      · have h := ite_f hc h
        refine zl_aload_n (pc := 50) hO 0 nd_BP_stackFrame_50 rfl rfl ?_
        refine zl_iload (pc := 51) hO nd_BP_stackFrame_51 rfl ?_
        refine zl_aload_n (pc := 53) hO 0 nd_BP_stackFrame_53 rfl rfl ?_
        refine zl_getS (pc := 54) hO nd_BP_stackFrame_54 kf_BP_22 rfl b_p rfl ?_
        refine zl_iload (pc := 57) hO nd_BP_stackFrame_57 rfl ?_
        obtain ⟨c_in59, h⟩ := ck_use h
        refine zl_iald (pc := 59) hO nd_BP_stackFrame_59 rfl rfl b_p c_in59 ?_
        obtain ⟨s11, h_60, h⟩ := bn_use h
        refine zl_callVv (pc := 60) hO [zI l4, zI (s0 12 p l4.toNatClampNeg)] [] (c_BP_setFrameWord hJ b_p h_60) nd_BP_stackFrame_60 kv_BP_115 rfl b_p rfl rfl rfl (Nat.le_of_ble_eq_true rfl) ?_
        obtain ⟨x12, e_x12, h⟩ := lt_use h
        refine zl_iinc (pc := 63) hO (L' := [some (zR 11 p), some (zI a1), none, some (zI l3), some (zI x12)]) nd_BP_stackFrame_63 rfl e_x12.symm (by decide) rfl ?_
        refine zl_goto (pc := 66) hO 44 nd_BP_stackFrame_66 (by decide) ?_
        exact zl_weak (ih _ _ _ h) ⟨rfl, ⟨rfl, ⟨rfl, ⟨rfl, trivial⟩⟩⟩⟩
  have J_24 : ∀ (s0 : zS) (l2 : Int32) (l3 : Int32), k_BP_stackFrame_24 p a1 s0 l2 l3 = some (s1, v1) → ZW (sC l V) md_BP_stackFrame (s1, some (zI v1)) X 24 [some (zR 11 p), some (zI a1), some (zI l2), some (zI l3), none] [] s0 := by
    intro s0 l2 l3 h
    unfold k_BP_stackFrame_24 at h
    refine zl_aload_n (pc := 24) hO 0 nd_BP_stackFrame_24 rfl rfl ?_
    refine zl_iload_n (pc := 25) hO 2 nd_BP_stackFrame_25 rfl rfl ?_
    refine zl_bipush (pc := 26) hO (v := 8) nd_BP_stackFrame_26 (by decide) ?_
    obtain ⟨⟨s3, r4⟩, h_28, h⟩ := bn_use h
    refine zl_callVi (pc := 28) hO [zI l2, zI 8] [] (c_BP_areOpen hJ b_p h_28) nd_BP_stackFrame_28 kv_BP_101 rfl b_p rfl rfl rfl (Nat.le_of_ble_eq_true rfl) ?_
    refine zl_if_ne (pc := 31) hO 36 nd_BP_stackFrame_31 (by decide) (fun hc => ?_) (fun hc => ?_)
    · have h := ite_f hc h
      refine zl_aload_n (pc := 36) hO 0 nd_BP_stackFrame_36 rfl rfl ?_
      refine zl_iload_n (pc := 37) hO 2 nd_BP_stackFrame_37 rfl rfl ?_
      refine zl_puti (pc := 38) hO nd_BP_stackFrame_38 kp_BP_45 rfl b_p rfl ?_
      obtain ⟨s5, e_s5, h⟩ := lt_use h
      refine zl_sg e_s5 ?_
      refine zl_iconst (pc := 41) hO (v := 0) nd_BP_stackFrame_41 (by decide) ?_
      refine zl_istore (pc := 42) hO (L' := [some (zR 11 p), some (zI a1), some (zI l2), some (zI l3), some (zI 0)]) nd_BP_stackFrame_42 (by decide) rfl ?_
      exact zl_weak (J_44 FU _ _ _ h) ⟨rfl, ⟨rfl, ⟨rfl, ⟨rfl, trivial⟩⟩⟩⟩
    · have h := ite_t hc h
      refine zl_iconst (pc := 34) hO (v := 0) nd_BP_stackFrame_34 (by decide) ?_
      exact zl_zret (pc := 35) hO nd_BP_stackFrame_35 rfl (by decide) (zr_i h)
  unfold k_BP_stackFrame at h
  refine zl_aload_n (pc := 0) hO 0 nd_BP_stackFrame_0 rfl rfl ?_
  refine zl_geti (pc := 1) hO nd_BP_stackFrame_1 kf_BP_45 rfl b_p rfl ?_
  refine zl_bipush (pc := 4) hO (v := 32) nd_BP_stackFrame_4 (by decide) ?_
  refine zl_isub (pc := 6) hO nd_BP_stackFrame_6 ?_
  obtain ⟨x1, e_x1, h⟩ := lt_use h
  refine zl_top e_x1 ?_
  refine zl_istore_n (pc := 7) hO 2 (L' := [some (zR 11 p), some (zI a1), some (zI x1), none, none]) nd_BP_stackFrame_7 rfl (by decide) rfl ?_
  refine zl_iconst (pc := 8) hO (v := 0) nd_BP_stackFrame_8 (by decide) ?_
  refine zl_istore_n (pc := 9) hO 3 (L' := [some (zR 11 p), some (zI a1), some (zI x1), some (zI 0), none]) nd_BP_stackFrame_9 rfl (by decide) rfl ?_
  refine zl_iload_n (pc := 10) hO 2 nd_BP_stackFrame_10 rfl rfl ?_
  refine zl_bipush (pc := 11) hO (v := 7) nd_BP_stackFrame_11 (by decide) ?_
  refine zl_iand (pc := 13) hO nd_BP_stackFrame_13 ?_
  refine zl_if_eq (pc := 14) hO 24 nd_BP_stackFrame_14 (by decide) (fun hc => ?_) (fun hc => ?_)
  · have h := ite_t hc h
    exact zl_weak (J_24 _ _ _ h) ⟨rfl, ⟨rfl, ⟨rfl, ⟨rfl, trivial⟩⟩⟩⟩
  · have h := ite_f hc h
    obtain ⟨x2, e_x2, h⟩ := lt_use h
    refine zl_iinc (pc := 17) hO (L' := [some (zR 11 p), some (zI a1), some (zI x2), some (zI 0), none]) nd_BP_stackFrame_17 rfl e_x2.symm (by decide) rfl ?_
    refine zl_sipush (pc := 20) hO (v := 512) nd_BP_stackFrame_20 (by decide) ?_
    refine zl_istore_n (pc := 23) hO 3 (L' := [some (zR 11 p), some (zI a1), some (zI x2), some (zI 512), none]) nd_BP_stackFrame_23 rfl (by decide) rfl ?_
    exact zl_weak (J_24 _ _ _ h) ⟨rfl, ⟨rfl, ⟨rfl, ⟨rfl, trivial⟩⟩⟩⟩
