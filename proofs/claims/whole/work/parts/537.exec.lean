/-! an instruction -/
def restM (q : Int32) (s7 : zS) (x3 x6 : Int32) : Option zS :=
  if 3 ≤ x3 >>> ((11 : Int32) &&& 31) then
    if x3 >>> ((11 : Int32) &&& 31) = 3 then
      bn (k_GM_addOrTake s7 q x3) fun s10 =>
      k_GM_instruction_322 q s10
    else
      if 8 ≤ x3 >>> ((11 : Int32) &&& 31) then
        if x3 >>> ((11 : Int32) &&& 31) = 8 then
          if (x3 >>> ((10 : Int32) &&& 31)) = 16 then
            bn (k_GM_calculate s7 q x3) fun s8 =>
            k_GM_instruction_322 q s8
          else
            k_GM_instruction_188 q s7 x3 (x3 >>> ((11 : Int32) &&& 31)) ((x3 >>> ((6 : Int32) &&& 31)) &&& (31 : Int32)) x6
        else
          k_GM_instruction_188 q s7 x3 (x3 >>> ((11 : Int32) &&& 31)) ((x3 >>> ((6 : Int32) &&& 31)) &&& (31 : Int32)) x6
      else
        bn (k_GM_immediate s7 q x3) fun s9 =>
        k_GM_instruction_322 q s9
  else
    if x3 >>> ((11 : Int32) &&& 31) ≤ 0 then
      k_GM_instruction_125 q s7 (x3 >>> ((11 : Int32) &&& 31)) ((x3 >>> ((6 : Int32) &&& 31)) &&& (31 : Int32)) x6 q (((8 : Int32) * q) + (x3 &&& (7 : Int32)))
    else
      if (x3 >>> ((6 : Int32) &&& 31)) &&& (31 : Int32) = 0 then
        k_GM_instruction_127 q s7 (x3 >>> ((11 : Int32) &&& 31)) 32 x6 q (((8 : Int32) * q) + (x3 &&& (7 : Int32)))
      else
        k_GM_instruction_125 q s7 (x3 >>> ((11 : Int32) &&& 31)) ((x3 >>> ((6 : Int32) &&& 31)) &&& (31 : Int32)) x6 q (((8 : Int32) * q) + (x3 &&& (7 : Int32)))
/-- the reference's call of the kernel -/
def svcM (q : Int32) (s0 : zS) (n : Int32) : Option zS :=
  bn (ck (zi q 4) <|
      bn (k_GM_stack s0 q ((s0 14 0 q.toNatClampNeg) + (2 : Int32))) fun s5 =>
      if (s5 0 0 37) = 0 then
        bn (k_GM_kernel s5 q n) fun s6 =>
        some s6
      else
        some s5) fun s => k_GM_instruction_322 q s
section EXEC
variable {σ τ : zS} {N u p : Nat} {c fr to ba si ke en po : Nat → Nat} {r w b : Nat → Nat → Nat}
set_option maxHeartbeats 4000000 in
theorem disp_ok {v x6 : Int32} {n : Nat} (h : G σ τ N u c fr to ba si ke en po r w b p) (hv : v = nI n) (hn : n ≤ 65535) (hx6 : x6 = σ 12 p ((v >>> ((3 : Int32) &&& 31)) &&& (7 : Int32)).toNatClampNeg) : OkD (k_Pr_dispatch σ p v) (restM (nI p) τ v x6) N u c fr to ba si ke en po r w b p ∨ ∃ q, q < 256 ∧ k_Pr_dispatch σ p v = some (σ, (256 : Int32) + nI q) ∧ restM (nI p) τ v x6 = svcM (nI p) τ (nI q) := by
  have p4 := g_p4 h
  have zp := g_zp h
  have cp := g_cp h
  obtain ⟨lo, e12, e13, e14, e15, hal⟩ := g_rg h
  obtain ⟨j, hj, ej⟩ := pk_andE v (m := 7) 3 (by decide)
  obtain ⟨i, hi, ei⟩ := pk_andE (v >>> ((3 : Int32) &&& 31)) (m := 7) 3 (by decide)
  obtain ⟨a, ha, ea⟩ := pk_andE (v >>> ((8 : Int32) &&& 31)) (m := 7) 3 (by decide)
  have hi8 : i < 8 := by omega
  have zi8 : zi (nI i) 8 = true := zi_n (by omega) (by omega)
  have ci : (nI i).toNatClampNeg = i := nI_clamp (by omega)
  have za8 : zi (nI a) 8 = true := zi_n (by omega) (by omega)
  have ca : (nI a).toNatClampNeg = a := nI_clamp (by omega)
  have za32 : zi (nI (8 * p + a)) 32 = true := zi_n (by omega) (by omega)
  have ca32 : (nI (8 * p + a)).toNatClampNeg = 8 * p + a := nI_clamp (by omega)
  have hop : v >>> ((11 : Int32) &&& 31) = nI (n / 2048) := by rw [hv, pk_shrN (by omega) _ 11 (by decide)]
  have h8 : v >>> ((8 : Int32) &&& 31) = nI (n / 256) := by rw [hv, pk_shrN (by omega) _ 8 (by decide)]
  have h9 : v >>> ((9 : Int32) &&& 31) = nI (n / 512) := by rw [hv, pk_shrN (by omega) _ 9 (by decide)]
  have n176 : n / 2048 ≠ 22 → ¬ v >>> ((8 : Int32) &&& 31) = 176 := fun g g' => by
    rw [h8] at g'
    have := (nI_eq (a := n / 256) (b := 176) (by omega) (by omega)).mp g'
    omega
  have n90 : n / 2048 ≠ 22 → ¬ v >>> ((9 : Int32) &&& 31) = 90 := fun g g' => by
    rw [h9] at g'
    have := (nI_eq (a := n / 512) (b := 90) (by omega) (by omega)).mp g'
    omega
  have n94 : n / 2048 ≠ 23 → ¬ v >>> ((9 : Int32) &&& 31) = 94 := fun g g' => by
    rw [h9] at g'
    have := (nI_eq (a := n / 512) (b := 94) (by omega) (by omega)).mp g'
    omega
  have hrs := hx6
  rw [ei, ci] at hx6
  have ho : n / 2048 < 32 := by omega
  have bad2 : OkD (some (σ, 2)) (k_GM_instruction_322 (nI p) (zu τ 0 0 37 2)) N u c fr to ba si ke en po r w b p := ok_x h (by decide)
  -- the words that mean nothing
  have bad : ∀ o, n / 2048 = o → (o = 10 ∨ o = 11 ∨ o = 14 ∨ o = 15 ∨ o = 16 ∨ o = 17 ∨ o = 20 ∨ o = 24 ∨ o = 25 ∨ o = 29 ∨ o = 30 ∨ o = 31) → OkD (k_Pr_dispatch σ p v) (restM (nI p) τ v x6) N u c fr to ba si ke en po r w b p := by
    intro o eo hh
    have m1 := n176 (by omega)
    have m2 := n90 (by omega)
    have m3 := n94 (by omega)
    rw [eo] at hop
    unfold k_Pr_dispatch restM k_GM_instruction_188 k_GM_stackWord
    rw [lt_e, lt_e]
    rcases hh with rfl | rfl | rfl | rfl | rfl | rfl | rfl | rfl | rfl | rfl | rfl | rfl
    all_goals
      simp (config := { decide := true }) only [hop, lt_e, m1, m2, m3, bn_s, if_true, if_false]
      exact bad2
  generalize hoe : n / 2048 = o at *
  unfold k_Pr_dispatch restM
  rw [lt_e, lt_e]
  by_cases k12 : o = 0 ∨ o = 1 ∨ o = 2
  · left
    have hs := o_shift (v := v) (kd := nI o) h hop (by rcases k12 with rfl | rfl | rfl <;> decide) hrs
    have c1 : nI o = (0 : Int32) ∨ nI o = 1 ∨ nI o = 2 := by rcases k12 with rfl | rfl | rfl <;> decide
    have c2 : ¬ (3 : Int32) ≤ nI o := by rcases k12 with rfl | rfl | rfl <;> decide
    rw [hop, if_pos c1, if_neg c2]
    exact okD_bn (fun _ => rfl) hs
  obtain rfl | rfl | rfl | rfl | rfl | rfl | rfl | rfl | rfl | rfl | rfl | rfl | rfl | rfl | rfl | rfl | rfl | hh : o = 3 ∨ o = 4 ∨ o = 5 ∨ o = 6 ∨ o = 7 ∨ o = 8 ∨ o = 9 ∨ o = 12 ∨ o = 13 ∨ o = 18 ∨ o = 19 ∨ o = 21 ∨ o = 22 ∨ o = 23 ∨ o = 26 ∨ o = 27 ∨ o = 28 ∨ (o = 10 ∨ o = 11 ∨ o = 14 ∨ o = 15 ∨ o = 16 ∨ o = 17 ∨ o = 20 ∨ o = 24 ∨ o = 25 ∨ o = 29 ∨ o = 30 ∨ o = 31) := by omega
  · left
    simp (config := { decide := true }) only [hop, if_true, if_false]
    exact okD_bn (fun _ => rfl) (o_add3 h)
  · left
    simp (config := { decide := true }) only [hop, if_true, if_false]
    exact okD_bn (fun _ => rfl) (o_byte h hop (by decide))
  · left
    simp (config := { decide := true }) only [hop, if_true, if_false]
    exact okD_bn (fun _ => rfl) (o_byte h hop (by decide))
  · left
    simp (config := { decide := true }) only [hop, if_true, if_false]
    exact okD_bn (fun _ => rfl) (o_byte h hop (by decide))
  · left
    simp (config := { decide := true }) only [hop, if_true, if_false]
    exact okD_bn (fun _ => rfl) (o_byte h hop (by decide))
  · left
    simp (config := { decide := true }) only [hop, if_true, if_false]
    by_cases h16 : v >>> ((10 : Int32) &&& 31) = 16
    · rw [if_pos h16, if_pos h16]
      exact okD_bn (fun _ => rfl) (o_calc h)
    · rw [if_neg h16, if_neg h16]
      unfold k_GM_instruction_188
      rw [if_pos (by decide)]
      exact okD_bn (fun _ => rfl) (o_jump h)
  · left
    unfold k_GM_instruction_188 k_GM_stackWord
    simp (config := { decide := true }) only [hop, lt_e, ea, ck_p zp, cp, e14, bn_bn, if_true, if_false]
    exact okD_bn (fun _ => rfl) (ld_ok _ h (by omega))
  · left
    unfold k_GM_instruction_188 k_GM_instruction_215 k_GM_instruction_239
    simp (config := { decide := true }) only [hop, ej, ei, ck_p zi8, ci, hx6, if_true, if_false]
    exact okD_bn (fun _ => rfl) (st_ok _ h (by omega))
  · left
    unfold k_GM_instruction_188 k_GM_instruction_215 k_GM_instruction_239
    simp (config := { decide := true }) only [hop, ej, ei, ck_p zi8, ci, hx6, if_true, if_false]
    exact okD_bn (fun _ => rfl) (ld_ok _ h (by omega))
  · left
    unfold k_GM_instruction_188 k_GM_stackWord k_GM_stackWord_66 k_GM_stackWord_92
    simp (config := { decide := true }) only [hop, lt_e, ea, ck_p zp, cp, e12, bn_bn, if_true, if_false]
    exact okD_bn (fun _ => rfl) (st_ok _ h (by omega))
  · left
    unfold k_GM_instruction_188 k_GM_stackWord k_GM_stackWord_66 k_GM_stackWord_92
    simp (config := { decide := true }) only [hop, lt_e, ea, ck_p zp, cp, e12, bn_bn, if_true, if_false]
    exact okD_bn (fun _ => rfl) (ld_ok _ h (by omega))
  · left
    unfold k_GM_instruction_188 k_GM_stackWord
    simp (config := { decide := true }) only [hop, lt_e, ea, ck_p zp, cp, e12, ix8, ck_p za8, ck_p za32, ca, ca32, bn_s, if_true, if_false]
    exact ok_0 (g_low h (by omega))
  · left
    unfold k_GM_instruction_188 k_GM_stackWord
    have m3 := n94 (by omega)
    by_cases h17 : v >>> ((8 : Int32) &&& 31) = 176
    · have hm := o_move (v := v) h
      simp (config := { decide := true }) only [hop, lt_e, ck_p zp, cp, e12, if_pos h17, if_true, if_false]
      exact okD_bn (fun _ => rfl) hm
    · by_cases h90 : v >>> ((9 : Int32) &&& 31) = 90
      · have hm := o_push (v := v) h h90
        simp (config := { decide := true }) only [hop, lt_e, if_neg h17, if_pos h90, bn_bn, if_true, if_false]
        exact okD_bn (fun _ => rfl) hm
      · unfold k_Pr_push
        simp (config := { decide := true }) only [hop, lt_e, if_neg h17, if_neg h90, if_neg m3, bn_s, if_true, if_false]
        exact bad2
  · left
    unfold k_GM_instruction_188 k_GM_stackWord
    have m1 := n176 (by omega)
    have m2 := n90 (by omega)
    by_cases h94 : v >>> ((9 : Int32) &&& 31) = 94
    · have hm := o_pop (v := v) h h94
      simp (config := { decide := true }) only [hop, lt_e, if_neg m1, if_neg m2, if_pos h94, bn_bn, if_true, if_false]
      exact okD_bn (fun _ => rfl) hm
    · unfold k_Pr_pop
      simp (config := { decide := true }) only [hop, lt_e, if_neg m1, if_neg m2, if_neg h94, bn_s, if_true, if_false]
      exact bad2
  · left
    have e15' : (v >>> ((8 : Int32) &&& 31)) &&& (15 : Int32) = nI (n / 256 % 16) := by rw [h8, pk_andN (by omega) 4 (by decide)]
    have hm := o_br h e15' (by omega)
    unfold k_GM_instruction_188 k_GM_instruction_257
    simp (config := { decide := true }) only [hop, if_true, if_false]
    exact okD_bn (fun _ => rfl) hm
  · have e15' : (v >>> ((8 : Int32) &&& 31)) &&& (15 : Int32) = nI (n / 256 % 16) := by rw [h8, pk_andN (by omega) 4 (by decide)]
    unfold k_GM_instruction_188 k_GM_instruction_257
    simp (config := { decide := true }) only [hop, if_true, if_false]
    by_cases h15 : n / 256 % 16 < 15
    · left
      exact okD_bn (fun _ => rfl) (o_br h e15' h15)
    · right
      have hE : n / 256 % 16 = 15 := by omega
      rw [hE] at e15'
      obtain ⟨q, hq, eq⟩ := pk_andE v (m := 255) 8 (by decide)
      refine ⟨q, by omega, ?_, ?_⟩
      · unfold k_Pr_branchIf
        rw [lt_e, e15', if_pos (by decide), eq, bn_s]
      · unfold k_GM_branch svcM
        rw [lt_e, lt_e, e15', eq, if_neg (by decide), if_pos (by decide)]
  · left
    obtain ⟨q, hq, eq⟩ := pk_andE v (m := 2047) 11 (by decide)
    have e10 : v &&& (1024 : Int32) = nI q &&& (1024 : Int32) := by rw [← eq, Int32.and_assoc, show (2047 : Int32) &&& (1024 : Int32) = 1024 by decide]
    unfold k_GM_instruction_188 k_GM_instruction_308
    simp (config := { decide := true }) only [hop, lt_e, eq, e10, tq11 q (by omega), ck_p zp, cp, e14, if_true, if_false]
    by_cases h7 : nI q ≤ (1023 : Int32)
    · simp only [if_pos h7]
      exact ok_0 (g_next h)
    · simp only [if_neg h7]
      exact ok_0 (g_next h)
  · left
    have hb := bad o rfl hh
    unfold k_Pr_dispatch restM at hb
    rw [lt_e, lt_e] at hb
    exact hb
/-- the end of an instruction on both sides -/
theorem fin_ok {C : Option (zS × Int32)} {M : Option zS} (hp4 : p < 4) (hp : p < N) (h : OkD C M N u c fr to ba si ke en po r w b p) : ∃ (σ' τ' : zS) (x : Int32), (bn C fun (s6, r7) => if r7 = 0 then lt (zu s6 11 p 13 (s6 10 0 1)) fun s8 => some (s8, r7) else some (s6, r7)) = some (σ', x) ∧ M = some τ' ∧ RL σ' τ' N u c fr to ba si ke en po r w b ∧ τ' 0 0 37 = x ∧ (x = 0 ∨ x = 1 ∨ x = 2 ∨ x = 3 ∨ x = 4 ∨ x = 5) := by
  have zp : zi (nI p) 4 = true := zi_n hp4 (by omega)
  have cp : (nI p).toNatClampNeg = p := nI_clamp (by omega)
  obtain ⟨σ', τ', x, e1, e2, h1, h15, h37, hnx, hx⟩ := h
  rw [e1, e2, bn_s]
  unfold k_GM_instruction_322 k_GM_instruction_347
  dsimp only
  by_cases h0 : x = 0
  · subst h0
    rw [if_pos rfl, if_pos (show τ' 0 0 37 ≤ 0 by rw [h37]; decide), lt_e, ck_p zp, cp, lt_e, ← hnx rfl]
    exact ⟨_, _, 0, rfl, rfl, rl_pc h1 hp, by rw [zu_rd, if_neg (by omega)]; exact h37, Or.inl rfl⟩
  · have hg : ¬ τ' 0 0 37 ≤ 0 := by
      rw [h37]
      rcases hx with e | e | e | e | e | e
      · exact absurd e h0
      all_goals rw [e]; decide
    rw [if_neg h0, if_neg hg, ck_p zp, ck_p zp, cp, lt_e, zu_id rfl]
    exact ⟨σ', τ', x, rfl, rfl, h1, h37, hx⟩
theorem exec_ok (h : RL σ τ N u c fr to ba si ke en po r w b) (hp : p < N) (h15 : σ 11 p 15 = 0) (h37 : τ 0 0 37 = 0) : (∃ (σ' τ' : zS) (x : Int32), k_Pr_execute σ p = some (σ', x) ∧ k_GM_instruction τ (nI p) = some τ' ∧ RL σ' τ' N u c fr to ba si ke en po r w b ∧ τ' 0 0 37 = x ∧ (x = 0 ∨ x = 1 ∨ x = 2 ∨ x = 3 ∨ x = 4 ∨ x = 5)) ∨ ∃ (σ' τ' : zS) (q : Nat), q < 256 ∧ k_Pr_execute σ p = some (σ', (256 : Int32) + nI q) ∧ k_GM_instruction τ (nI p) = svcM (nI p) τ' (nI q) ∧ G σ' τ' N u c fr to ba si ke en po r w b p := by
  have h4 : N ≤ 4 := h.1.2.2.2.2.2.2.2.2.1
  have zp : zi (nI p) 4 = true := zi_n (by omega) (by omega)
  have cp : (nI p).toNatClampNeg = p := nI_clamp (by omega)
  have epc : τ 14 0 p = σ 11 p 13 := ((h.2.1 p hp).2.1.2.2.2.1 h15).symm
  have x1 := (h.2.1 p hp).1.2.2.2.2.2.2.2.2.2.2.2.2.2.2.1
  obtain ⟨i1, i2⟩ := ic_ok (σ 11 p 13) h hp
  have f1 : k_GM_instruction_25 (nI p) τ = some (zu τ 0 0 37 1) := rfl
  have no : RL σ (zu τ 0 0 37 1) N u c fr to ba si ke en po r w b ∧ zu τ 0 0 37 1 0 0 37 = 1 := ⟨rl_scr h (by omega), by rw [zu_rd, if_pos (by omega)]⟩
  by_cases hc : ∃ m, 2 * fr p ≤ m ∧ m < 2 * (fr p + to p) ∧ σ 11 p 13 = nI m
  · obtain ⟨c1, c2⟩ := i1 hc
    by_cases hodd : σ 11 p 13 &&& (1 : Int32) = 0
    · obtain ⟨m, g1, g2, em⟩ := hc
      have hev : m % 2 = 0 := by
        rw [em, pk_andN (by omega) 1 (by decide)] at hodd
        exact (nI_eq (a := m % 2 ^ 1) (b := 0) (by omega) (by omega)).mp hodd
      obtain ⟨k, rfl⟩ : ∃ k, m = 2 * k := ⟨m / 2, by omega⟩
      obtain ⟨n, hn, en'⟩ := h.1.2.1 k (by omega)
      have hG : G (zu σ 10 0 1 (σ 11 p 13 + (2 : Int32))) (zu τ 0 0 39 (σ 11 p 13 + (2 : Int32))) N u c fr to ba si ke en po r w b p := ⟨rl_next (rl_scr h (by omega)), hp, by rw [zu_rd, if_neg (by omega)]; exact h15, by rw [zu_rd, if_neg (by omega)]; exact h37, by rw [zu_rd, if_pos (by omega), zu_rd, if_pos (by omega)]⟩
      have d1 := (h.2.1 p hp).2.1.1
      obtain ⟨i, hi, ei⟩ := pk_andE (nI n >>> ((3 : Int32) &&& 31)) (m := 7) 3 (by decide)
      have eh : k_Me_halfword (zu σ 10 0 1 (σ 11 p 13 + (2 : Int32))) (σ 11 p 13) = some (zu σ 10 0 1 (σ 11 p 13 + (2 : Int32)), nI n) := by
        unfold k_Me_halfword
        rw [em, pk_shrN (by omega) _ 1 (by decide), show 2 * k / 2 ^ 1 = k by omega, lt_e, if_neg (nI_pos (by omega)), if_pos (show nI k < (256 : Int32) from nI_lt (b := 256) (by omega) (by omega)), ck_p (zi_n (by omega) (by omega)), nI_clamp (by omega), zu_rd, if_neg (by omega), en']
      have eC : k_Pr_execute σ p = bn (k_Pr_dispatch (zu σ 10 0 1 (σ 11 p 13 + (2 : Int32))) p (nI n)) fun (s6, r7) => if r7 = 0 then lt (zu s6 11 p 13 (s6 10 0 1)) fun s8 => some (s8, r7) else some (s6, r7) := by
        unfold k_Pr_execute
        rw [c1, bn_s]
        dsimp only
        have r13 : ∀ x : Int32, zu σ 10 0 1 x 11 p 13 = σ 11 p 13 := fun x => by rw [zu_rd, if_neg (by omega)]
        rw [if_neg (show ¬ (1 : Int32) = 0 by decide), if_pos hodd, lt_e, r13, eh, bn_s]
      have eM : k_GM_instruction τ (nI p) = restM (nI p) (zu τ 0 0 39 (σ 11 p 13 + (2 : Int32))) (nI n) (σ 12 p i) := by
        have ed : σ 11 p 13 / 2 = nI k := by
          rw [em, show (2 : Int32) = nI 2 from rfl, pk_div (by omega) (by omega) (by omega)]
          congr 1; omega
        have e1 : τ 1 0 k = nI n := by rw [← h.1.1]; exact en'
        unfold k_GM_instruction
        rw [ck_p zp, cp, epc, if_pos hodd, ck_p zp, c2, bn_s]
        dsimp only
        rw [if_neg (show ¬ (1 : Int32) = 0 by decide), ck_p zp, ck_p (by decide), epc, ed, ck_p (zi_n (show k < 256 by omega) (by omega)), nI_clamp (show k < 2 ^ 31 by omega), e1]
        simp only [lt_e]
        rw [ei, ix8, ck_p (zi_n (show 8 * p + i < 32 by omega) (by omega)), nI_clamp (show 8 * p + i < 2 ^ 31 by omega), ck_p zp, ← d1 i (by omega)]
        rfl
      have hx6 : σ 12 p i = zu σ 10 0 1 (σ 11 p 13 + (2 : Int32)) 12 p ((nI n >>> ((3 : Int32) &&& 31)) &&& (7 : Int32)).toNatClampNeg := by rw [ei, nI_clamp (by omega), zu_rd, if_neg (by omega)]
      rcases disp_ok hG rfl hn hx6 with hd | ⟨q, hq, q1, q2⟩
      · left
        rw [eC, eM]
        exact fin_ok (by omega) hp hd
      · right
        refine ⟨_, _, q, hq, ?_, by rw [eM, q2], hG⟩
        rw [eC, q1, bn_s]
        dsimp only
        rw [if_neg (fun g => ?_)]
        rw [show (256 : Int32) = nI 256 by decide, nI_add] at g
        exact nI_ne0 (by omega) (by omega) g
    · left
      refine ⟨σ, zu τ 0 0 37 1, 1, ?_, ?_, no.1, no.2, by decide⟩
      · unfold k_Pr_execute
        rw [c1, bn_s]
        dsimp only
        rw [if_neg (show ¬ (1 : Int32) = 0 by decide), if_neg hodd]
      · unfold k_GM_instruction
        rw [ck_p zp, cp, epc, if_neg hodd, f1]
  · obtain ⟨c1, c2⟩ := i2 hc
    left
    refine ⟨σ, zu τ 0 0 37 1, 1, ?_, ?_, no.1, no.2, by decide⟩
    · unfold k_Pr_execute
      rw [c1, bn_s]
      rfl
    · unfold k_GM_instruction
      rw [ck_p zp, cp, epc]
      by_cases hodd : σ 11 p 13 &&& (1 : Int32) = 0
      · rw [if_pos hodd, ck_p zp, c2, bn_s]
        dsimp only
        rw [if_pos rfl, f1]
      · rw [if_neg hodd, f1]
end EXEC
