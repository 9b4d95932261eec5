/-! the instructions: combine and calculate, jump and leap -/
section CALC
variable {σ τ : zS} {N u p : Nat} {c fr to ba si ke en po : Nat → Nat} {r w b : Nat → Nat → Nat}
theorem nz_low (V : Int32) (h : G σ τ N u c fr to ba si ke en po r w b p) : ∃ f, f < 16 ∧ k_Pr_setSigns σ p V = some (zu σ 11 p 14 (nI f)) ∧ k_GM_nz τ (nI p) V = some (zu τ 15 0 p (nI f)) ∧ ∀ i x, k_GM_nz (zu τ 11 0 i x) (nI p) V = some (zu (zu τ 15 0 p (nI f)) 11 0 i x) := by
  obtain ⟨g, hg, e1, e2⟩ := flg h.1 h.2.1
  have hn := bN_lt V
  have hz := bZ_lt V
  obtain ⟨a1, a2⟩ := fl_a g hg (bN V) hn (bZ V) hz
  refine ⟨g % 4 + 8 * bN V + 4 * bZ V, by omega, ?_, ?_, fun i x => ?_⟩
  · rw [pr_signs, e1, a1]
  · rw [gm_nz (g_p4 h), e2, a2]
  · rw [gm_nz (g_p4 h), zu_rd, if_neg (by omega), e2, a2, zu_cm (by omega)]
set_option maxHeartbeats 4000000 in
theorem o_calc {v : Int32} (h : G σ τ N u c fr to ba si ke en po r w b p) : OkD (k_Pr_combine σ p v) (bn (k_GM_calculate τ (nI p) v) fun s => k_GM_instruction_322 (nI p) s) N u c fr to ba si ke en po r w b p := by
  have p4 := g_p4 h
  have zp := g_zp h
  have cp := g_cp h
  obtain ⟨lo, -, -, -, e15, -⟩ := g_rg h
  obtain ⟨i, hi, ei⟩ := pk_andE (v >>> ((3 : Int32) &&& 31)) (m := 7) 3 (by decide)
  obtain ⟨j, hj, ej⟩ := pk_andE v (m := 7) 3 (by decide)
  obtain ⟨o, ho, eo⟩ := pk_andE (v >>> ((6 : Int32) &&& 31)) (m := 15) 4 (by decide)
  have hi8 : i < 8 := by omega
  have hj8 : j < 8 := by omega
  have zi8 : zi (nI i) 8 = true := zi_n (by omega) (by omega)
  have zj8 : zi (nI j) 8 = true := zi_n (by omega) (by omega)
  have ci : (nI i).toNatClampNeg = i := nI_clamp (by omega)
  have cj : (nI j).toNatClampNeg = j := nI_clamp (by omega)
  have z32 : ∀ x, x < 8 → zi (nI (8 * p + x)) 32 = true := fun x hx => zi_n (by omega) (by omega)
  have c32 : ∀ x, x < 8 → (nI (8 * p + x)).toNatClampNeg = 8 * p + x := fun x hx => nI_clamp (by omega)
  have zj32 := z32 j hj8
  have cj32 := c32 j hj8
  have loi := lo i hi8
  have loj := lo j hj8
  obtain ⟨k, hk, ek⟩ := pk_andE (σ 12 p i) (m := 255) 8 (by decide)
  have hk' : k ≤ 255 := by omega
  unfold k_Pr_combine k_GM_calculate
  simp only [lt_e, ei, ej, eo, ix8, ck_p zi8, ck_p zj8, ck_p (z32 i hi8), ck_p zj32, ck_p zp, ci, cj, c32 i hi8, cj32, cp, loi, loj, e15]
  have bw : ∀ V : Int32, OkD (bn (k_Pr_setSigns σ p V) fun s22 => some (zu s22 12 p j V, 0)) (bn (k_GM_nz (zu τ 11 0 (8 * p + j) V) (nI p) V) fun s => k_GM_instruction_322 (nI p) s) N u c fr to ba si ke en po r w b p := fun V => by
    obtain ⟨f, hf, e1, e2, e3⟩ := nz_low V h
    rw [e1, e3, bn_s, bn_s]
    exact ok_0 (g_low (g_fl h hf) hj8)
  obtain rfl | rfl | rfl | rfl | rfl | rfl | rfl | rfl | rfl | rfl | rfl | rfl | rfl | rfl | rfl | rfl : o = 0 ∨ o = 1 ∨ o = 2 ∨ o = 3 ∨ o = 4 ∨ o = 5 ∨ o = 6 ∨ o = 7 ∨ o = 8 ∨ o = 9 ∨ o = 10 ∨ o = 11 ∨ o = 12 ∨ o = 13 ∨ o = 14 ∨ o = 15 := by omega
  · obtain ⟨f, hf, e1, e2, e3⟩ := nz_low (σ 12 p j &&& σ 12 p i) h
    simp (config := { decide := true }) only [k_Pr_bitwise, k_Pr_combine_241, k_GM_calculate_257, k_GM_calculate_330, k_GM_calculate_351, e1, e3, bn_s, ck_p zj8, ck_p zj32, lt_e, cj, cj32, if_true, if_false]
    exact ok_0 (g_low (g_fl h hf) hj8)
  · obtain ⟨f, hf, e1, e2, e3⟩ := nz_low (σ 12 p j ^^^ σ 12 p i) h
    simp (config := { decide := true }) only [k_Pr_bitwise, k_Pr_combine_241, k_GM_calculate_330, k_GM_calculate_351, e1, e3, bn_s, ck_p zj8, ck_p zj32, lt_e, cj, cj32, if_true, if_false]
    exact ok_0 (g_low (g_fl h hf) hj8)
  · obtain ⟨f, cc, x, hf, q1, q2⟩ := shift_ok (kd := nI 2 - (2 : Int32)) (σ 12 p j) h.1 h.2.1 (by decide) hk'
    simp (config := { decide := true }) only [k_Pr_combine_241, k_GM_calculate_82, k_GM_calculate_112, ek, q1, q2, bn_s, ck_p zj8, ck_p zj32, lt_e, cj, cj32, if_true, if_false]
    exact ok_0 (g_low (g_fl (g_38 h) hf) hj8)
  · obtain ⟨f, cc, x, hf, q1, q2⟩ := shift_ok (kd := nI 3 - (2 : Int32)) (σ 12 p j) h.1 h.2.1 (by decide) hk'
    simp (config := { decide := true }) only [k_Pr_combine_241, k_GM_calculate_82, k_GM_calculate_112, ek, q1, q2, bn_s, ck_p zj8, ck_p zj32, lt_e, cj, cj32, if_true, if_false]
    exact ok_0 (g_low (g_fl (g_38 h) hf) hj8)
  · obtain ⟨f, cc, x, hf, q1, q2⟩ := shift_ok (kd := nI 4 - (2 : Int32)) (σ 12 p j) h.1 h.2.1 (by decide) hk'
    simp (config := { decide := true }) only [k_Pr_combine_241, k_GM_calculate_82, k_GM_calculate_112, ek, q1, q2, bn_s, ck_p zj8, ck_p zj32, lt_e, cj, cj32, if_true, if_false]
    exact ok_0 (g_low (g_fl (g_38 h) hf) hj8)
  · obtain ⟨f, x, hf, q1, q2⟩ := add_ok (σ 12 p j) (σ 12 p i) ((σ 11 p 14 >>> ((1 : Int32) &&& 31)) &&& (1 : Int32)) h.1 h.2.1
    simp (config := { decide := true }) only [k_Pr_combine_241, k_GM_calculate_132, k_GM_calculate_156, q1, q2, bn_s, ck_p zj8, ck_p zj32, lt_e, cj, cj32, if_true, if_false]
    exact ok_0 (g_low (g_fl h hf) hj8)
  · obtain ⟨f, x, hf, q1, q2⟩ := add_ok (σ 12 p j) (σ 12 p i ^^^ (-1 : Int32)) ((σ 11 p 14 >>> ((1 : Int32) &&& 31)) &&& (1 : Int32)) h.1 h.2.1
    simp (config := { decide := true }) only [k_Pr_combine_241, k_GM_calculate_132, k_GM_calculate_156, q1, q2, bn_s, ck_p zj8, ck_p zj32, lt_e, cj, cj32, if_true, if_false]
    exact ok_0 (g_low (g_fl h hf) hj8)
  · obtain ⟨f, cc, x, hf, q1, q2⟩ := rot_ok (σ 12 p j) h.1 h.2.1 hk'
    simp (config := { decide := true }) only [k_Pr_combine_241, k_GM_calculate_82, k_GM_calculate_112, ek, q1, q2, bn_s, ck_p zj8, ck_p zj32, lt_e, cj, cj32, if_true, if_false]
    exact ok_0 (g_low (g_fl (g_38 h) hf) hj8)
  · obtain ⟨f, hf, e1, e2, e3⟩ := nz_low (σ 12 p j &&& σ 12 p i) h
    have ez : zu τ 11 0 (8 * p + j) (σ 12 p j) = τ := zu_id loj
    simp (config := { decide := true }) only [k_Pr_bitwise, k_Pr_combine_241, k_GM_calculate_257, k_GM_calculate_330, k_GM_calculate_351, ez, e1, e2, bn_s, ck_p zj8, ck_p zj32, lt_e, cj, cj32, if_true, if_false]
    exact ok_0 (g_fl h hf)
  · obtain ⟨f, x, hf, q1, q2⟩ := add_ok 0 (σ 12 p i ^^^ (-1 : Int32)) 1 h.1 h.2.1
    simp (config := { decide := true }) only [k_Pr_combine_241, q1, q2, bn_s, ck_p zj8, ck_p zj32, lt_e, cj, cj32, if_true, if_false]
    exact ok_0 (g_low (g_fl h hf) hj8)
  · obtain ⟨f, x, hf, q1, q2⟩ := add_ok (σ 12 p j) (σ 12 p i ^^^ (-1 : Int32)) 1 h.1 h.2.1
    simp (config := { decide := true }) only [k_Pr_combine_241, k_GM_calculate_206, k_GM_calculate_226, k_GM_calculate_238, q1, q2, bn_s, ck_p zj8, ck_p zj32, lt_e, cj, cj32, if_true, if_false]
    exact ok_0 (g_fl h hf)
  · obtain ⟨f, x, hf, q1, q2⟩ := add_ok (σ 12 p j) (σ 12 p i) 0 h.1 h.2.1
    simp (config := { decide := true }) only [k_Pr_combine_241, k_GM_calculate_206, k_GM_calculate_226, k_GM_calculate_238, q1, q2, bn_s, ck_p zj8, ck_p zj32, lt_e, cj, cj32, if_true, if_false]
    exact ok_0 (g_fl h hf)
  · obtain ⟨f, hf, e1, e2, e3⟩ := nz_low (σ 12 p j ||| σ 12 p i) h
    simp (config := { decide := true }) only [k_Pr_bitwise, k_Pr_combine_241, k_GM_calculate_330, k_GM_calculate_351, e1, e3, bn_s, ck_p zj8, ck_p zj32, lt_e, cj, cj32, if_true, if_false]
    exact ok_0 (g_low (g_fl h hf) hj8)
  · obtain ⟨f, hf, e1, e2, e3⟩ := nz_low (σ 12 p j * σ 12 p i) h
    simp (config := { decide := true }) only [k_Pr_bitwise, k_Pr_combine_241, k_GM_calculate_330, k_GM_calculate_351, e1, e3, bn_s, ck_p zj8, ck_p zj32, lt_e, cj, cj32, if_true, if_false]
    exact ok_0 (g_low (g_fl h hf) hj8)
  · obtain ⟨f, hf, e1, e2, e3⟩ := nz_low (σ 12 p j &&& (σ 12 p i ^^^ (-1 : Int32))) h
    simp (config := { decide := true }) only [k_Pr_bitwise, k_Pr_combine_241, k_GM_calculate_330, k_GM_calculate_351, e1, e3, bn_s, ck_p zj8, ck_p zj32, lt_e, cj, cj32, if_true, if_false]
    exact ok_0 (g_low (g_fl h hf) hj8)
  · obtain ⟨f, hf, e1, e2, e3⟩ := nz_low (σ 12 p i ^^^ (-1 : Int32)) h
    simp (config := { decide := true }) only [k_Pr_bitwise, k_Pr_combine_241, k_GM_calculate_330, k_GM_calculate_351, e1, e3, bn_s, ck_p zj8, ck_p zj32, lt_e, cj, cj32, if_true, if_false]
    exact ok_0 (g_low (g_fl h hf) hj8)
theorem o_jump {v : Int32} (h : G σ τ N u c fr to ba si ke en po r w b p) : OkD (k_Pr_jump σ p v) (bn (k_GM_leap τ (nI p) v) fun s => k_GM_instruction_322 (nI p) s) N u c fr to ba si ke en po r w b p := by
  have p4 := g_p4 h
  have zp := g_zp h
  have cp := g_cp h
  obtain ⟨lo, -, e13, e14, -, -⟩ := g_rg h
  obtain ⟨a, ha, ea⟩ := pk_andE (v >>> ((3 : Int32) &&& 31)) (m := 15) 4 (by decide)
  have bad2 : OkD (some (σ, 2)) (bn (k_GM_leap_48 (nI p) v τ) fun s => k_GM_instruction_322 (nI p) s) N u c fr to ba si ke en po r w b p := by
    unfold k_GM_leap_48
    rw [lt_e, bn_s]
    exact ok_x h (by decide)
  unfold k_Pr_jump k_GM_leap
  rw [lt_e, lt_e, lt_e, lt_e, ea]
  have j80 : ∀ (x t : Int32), OkD (k_Pr_jump_74 p v σ x t) (bn (k_GM_leap_80 (nI p) v τ x t) fun s => k_GM_instruction_322 (nI p) s) N u c fr to ba si ke en po r w b p := fun x t => by
    unfold k_Pr_jump_74 k_GM_leap_80
    by_cases h1 : t &&& (1 : Int32) = 0
    · rw [if_pos h1, if_pos h1, lt_e, bn_s]
      exact ok_x h (by decide)
    · rw [if_neg h1, if_neg h1]
      simp only [lt_e]
      have h2 := g_next (v := t - (1 : Int32)) h
      obtain ⟨-, -, q13, q14, -, -⟩ := g_rg h2
      by_cases h3 : x = 143
      · rw [if_pos h3, if_pos h3, ck_p zp, cp, q14]
        unfold k_GM_leap_133
        rw [ck_p zp, cp, lt_e, bn_s]
        exact ok_0 (g_lr h2)
      · rw [if_neg h3, if_neg h3, ck_p zp, cp]
        unfold k_GM_leap_133
        rw [ck_p zp, cp, lt_e, bn_s, zu_id rfl]
        exact ok_0 h2
  have j27 : ∀ x : Int32, OkD (k_Pr_jump_27 p v σ x (nI a)) (bn (k_GM_leap_29 (nI p) v τ (nI a) x) fun s => k_GM_instruction_322 (nI p) s) N u c fr to ba si ke en po r w b p := fun x => by
    unfold k_Pr_jump_27 k_GM_leap_29
    by_cases h7 : v &&& (7 : Int32) = 0
    · rw [if_pos h7, if_pos h7]
      by_cases ha7 : a ≤ 7
      · have l7 : nI a ≤ (7 : Int32) := nI_le (b := 7) ha7 (by omega)
        have n14 : ¬ nI a = (14 : Int32) := fun g => by have := (nI_eq (a := a) (b := 14) (by omega) (by omega)).mp g; omega
        have e7 : nI a &&& (7 : Int32) = nI a := by rw [pk_andN (by omega) 3 (by decide), show a % 2 ^ 3 = a by omega]
        rw [if_pos l7, if_pos l7]
        unfold k_Pr_jump_50 k_GM_leap_54
        rw [if_neg n14, if_neg n14, e7, ck_p (zi_n (show a < 8 by omega) (by omega)), ix8, ck_p (zi_n (show 8 * p + a < 32 by omega) (by omega)), nI_clamp (by omega), nI_clamp (by omega), lo a (by omega)]
        exact j80 x _
      · have l7 : ¬ nI a ≤ (7 : Int32) := nI_ge (a := 7) (by omega) (by omega)
        rw [if_neg l7, if_neg l7]
        by_cases h14 : nI a = (14 : Int32)
        · rw [if_pos h14, if_pos h14]
          unfold k_Pr_jump_50 k_GM_leap_54
          rw [if_pos h14, if_pos h14, ck_p zp, cp, e13]
          exact j80 x _
        · rw [if_neg h14, if_neg h14]
          exact bad2
    · rw [if_neg h7, if_neg h7]
      exact bad2
  by_cases h2 : v >>> ((7 : Int32) &&& 31) = 142
  · rw [if_pos h2, if_pos h2]
    exact j27 _
  · rw [if_neg h2, if_neg h2]
    by_cases h3 : v >>> ((7 : Int32) &&& 31) = 143
    · rw [if_pos h3, if_pos h3]
      exact j27 _
    · rw [if_neg h3, if_neg h3]
      exact bad2
end CALC
