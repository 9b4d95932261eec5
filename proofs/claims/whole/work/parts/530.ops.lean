/-! the instructions: shifts, sums, bytes -/
section OPS
variable {σ τ : zS} {N u p : Nat} {c fr to ba si ke en po : Nat → Nat} {r w b : Nat → Nat → Nat}
theorem nI_2 {e : Nat} (he : e < 2) : (nI e = (0 : Int32) ↔ e = 0) ∧ (nI e = (1 : Int32) ↔ e = 1) := by
  obtain rfl | rfl : e = 0 ∨ e = 1 := by omega
  · exact ⟨⟨fun _ => rfl, fun _ => by decide⟩, ⟨fun g => absurd g (by decide), fun g => absurd g (by decide)⟩⟩
  · exact ⟨⟨fun g => absurd g (by decide), fun g => absurd g (by decide)⟩, ⟨fun _ => rfl, fun _ => by decide⟩⟩
theorem o_shift {v kd x6 : Int32} (h : G σ τ N u c fr to ba si ke en po r w b p) (hop : v >>> ((11 : Int32) &&& 31) = kd) (hkd : kd = 0 ∨ kd = 1 ∨ kd = 2) (hx6 : x6 = σ 12 p ((v >>> ((3 : Int32) &&& 31)) &&& (7 : Int32)).toNatClampNeg) : OkD (k_Pr_shiftByNumber σ p v) (if kd ≤ 0 then k_GM_instruction_125 (nI p) τ kd ((v >>> ((6 : Int32) &&& 31)) &&& (31 : Int32)) x6 (nI p) (((8 : Int32) * nI p) + (v &&& (7 : Int32))) else if (v >>> ((6 : Int32) &&& 31)) &&& (31 : Int32) = 0 then k_GM_instruction_127 (nI p) τ kd 32 x6 (nI p) (((8 : Int32) * nI p) + (v &&& (7 : Int32))) else k_GM_instruction_125 (nI p) τ kd ((v >>> ((6 : Int32) &&& 31)) &&& (31 : Int32)) x6 (nI p) (((8 : Int32) * nI p) + (v &&& (7 : Int32)))) N u c fr to ba si ke en po r w b p := by
  have p4 := g_p4 h
  obtain ⟨i, hi, ei⟩ := pk_andE (v >>> ((3 : Int32) &&& 31)) (m := 7) 3 (by decide)
  obtain ⟨j, hj, ej⟩ := pk_andE v (m := 7) 3 (by decide)
  obtain ⟨k, hk, ek⟩ := pk_andE (v >>> ((6 : Int32) &&& 31)) (m := 31) 5 (by decide)
  have zi8 : zi (nI i) 8 = true := zi_n (by omega) (by omega)
  have zj8 : zi (nI j) 8 = true := zi_n (by omega) (by omega)
  have ci : (nI i).toNatClampNeg = i := nI_clamp (by omega)
  have cj : (nI j).toNatClampNeg = j := nI_clamp (by omega)
  have z32 : zi (nI (8 * p + j)) 32 = true := zi_n (by omega) (by omega)
  have c32 : (nI (8 * p + j)).toNatClampNeg = 8 * p + j := nI_clamp (by omega)
  rw [ei, ci] at hx6
  subst hx6
  have fin : ∀ n, n ≤ 255 → OkD (k_Pr_shiftByNumber_27 p v σ kd (nI n)) (k_GM_instruction_127 (nI p) τ kd (nI n) (σ 12 p i) (nI p) (((8 : Int32) * nI p) + (v &&& (7 : Int32)))) N u c fr to ba si ke en po r w b p := fun n hn => by
    obtain ⟨f, cc, x, hf, e1, e2⟩ := shift_ok (σ 12 p i) h.1 h.2.1 hkd hn
    have eC : k_Pr_shiftByNumber_27 p v σ kd (nI n) = some (zu (zu σ 11 p 14 (nI f)) 12 p j x, 0) := by
      unfold k_Pr_shiftByNumber_27
      rw [ei, ck_p zi8, ci, e1, bn_s]
      dsimp only
      rw [ej, ck_p zj8, lt_e, cj]
    have eM : k_GM_instruction_127 (nI p) τ kd (nI n) (σ 12 p i) (nI p) (((8 : Int32) * nI p) + (v &&& (7 : Int32))) = k_GM_instruction_322 (nI p) (zu (zu (zu τ 0 0 38 cc) 15 0 p (nI f)) 11 0 (8 * p + j) x) := by
      unfold k_GM_instruction_127
      rw [e2, bn_s]
      dsimp only
      rw [ej, ix8, ck_p z32, lt_e, c32]
    rw [eC, eM]
    exact ok_0 (g_low (g_fl (g_38 h) hf) (by omega))
  unfold k_Pr_shiftByNumber k_GM_instruction_125
  rw [lt_e, lt_e, hop, ek]
  by_cases h0 : kd = 0
  · rw [if_pos h0, if_pos (show kd ≤ 0 by rw [h0]; decide)]
    exact fin k (by omega)
  · rw [if_neg h0, if_neg (show ¬ kd ≤ 0 by rcases hkd with e | e | e <;> rw [e] <;> first | exact absurd e h0 | decide)]
    by_cases hk0 : k = 0
    · subst hk0
      rw [if_pos (by decide), if_pos (by decide), show (32 : Int32) = nI 32 by decide]
      exact fin 32 (by omega)
    · have hn : ¬ nI k = 0 := nI_ne0 (by omega) (by omega)
      rw [if_neg hn, if_neg hn]
      exact fin k (by omega)
theorem o_add3 {v : Int32} (h : G σ τ N u c fr to ba si ke en po r w b p) : OkD (k_Pr_addThree σ p v) (bn (k_GM_addOrTake τ (nI p) v) fun s => k_GM_instruction_322 (nI p) s) N u c fr to ba si ke en po r w b p := by
  have p4 := g_p4 h
  obtain ⟨lo, -⟩ := g_rg h
  obtain ⟨i, hi, ei⟩ := pk_andE (v >>> ((3 : Int32) &&& 31)) (m := 7) 3 (by decide)
  obtain ⟨j, hj, ej⟩ := pk_andE v (m := 7) 3 (by decide)
  obtain ⟨a, ha, ea⟩ := pk_andE (v >>> ((6 : Int32) &&& 31)) (m := 7) 3 (by decide)
  obtain ⟨e1, he1, ee1⟩ := pk_andE (v >>> ((10 : Int32) &&& 31)) (m := 1) 1 (by decide)
  obtain ⟨e2, he2, ee2⟩ := pk_andE (v >>> ((9 : Int32) &&& 31)) (m := 1) 1 (by decide)
  have zi8 : zi (nI i) 8 = true := zi_n (by omega) (by omega)
  have zj8 : zi (nI j) 8 = true := zi_n (by omega) (by omega)
  have za8 : zi (nI a) 8 = true := zi_n (by omega) (by omega)
  have ci : (nI i).toNatClampNeg = i := nI_clamp (by omega)
  have cj : (nI j).toNatClampNeg = j := nI_clamp (by omega)
  have ca : (nI a).toNatClampNeg = a := nI_clamp (by omega)
  have z32 : ∀ x, x < 8 → zi (nI (8 * p + x)) 32 = true := fun x hx => zi_n (by omega) (by omega)
  have c32 : ∀ x, x < 8 → (nI (8 * p + x)).toNatClampNeg = 8 * p + x := fun x hx => nI_clamp (by omega)
  have eC : k_Pr_addThree σ p v = k_Pr_addThree_40 p v σ (σ 12 p i) (if e1 = 0 then σ 12 p a else nI a) := by
    unfold k_Pr_addThree
    rw [lt_e, ei, ck_p zi8, lt_e, ci, ea, ee1]
    by_cases h0 : e1 = 0
    · rw [if_pos h0, if_pos ((nI_2 he1).1.mpr h0), ck_p za8, ca]
    · rw [if_neg h0, if_neg (fun g => h0 ((nI_2 he1).1.mp g))]
  have eM : k_GM_addOrTake τ (nI p) v = k_GM_addOrTake_53 (nI p) v τ (σ 12 p i) (if e1 = 0 then σ 12 p a else nI a) := by
    unfold k_GM_addOrTake
    rw [ei, ix8, ck_p (z32 i (by omega)), c32 i (by omega), lt_e, lo i (by omega), lt_e, ee1, ea]
    by_cases h0 : e1 = 0
    · rw [if_pos h0, if_neg (fun g => by have := (nI_2 he1).2.mp g; omega), ix8, ck_p (z32 a (by omega)), c32 a (by omega), lo a (by omega)]
    · rw [if_neg h0, if_pos ((nI_2 he1).2.mpr (by omega))]
  rw [eC, eM]
  generalize (if e1 = 0 then σ 12 p a else nI a) = y
  have fin : ∀ y z : Int32, OkD (bn (k_Pr_add σ p (σ 12 p i) y z) fun (s5, r6) => k_Pr_addThree_97 p v s5 r6 (v &&& (7 : Int32)) p) (bn (k_GM_addOrTake_112 (nI p) v τ z y (σ 12 p i) (nI p) (((8 : Int32) * nI p) + (v &&& (7 : Int32)))) fun s => k_GM_instruction_322 (nI p) s) N u c fr to ba si ke en po r w b p := fun y z => by
    obtain ⟨f, x, hf, q1, q2⟩ := add_ok (σ 12 p i) y z h.1 h.2.1
    unfold k_GM_addOrTake_112 k_Pr_addThree_97
    rw [q1, q2, bn_s, bn_s]
    dsimp only
    rw [ej, ck_p zj8, lt_e, cj, ix8, ck_p (z32 j (by omega)), lt_e, c32 j (by omega), bn_s]
    exact ok_0 (g_low (g_fl h hf) (by omega))
  unfold k_Pr_addThree_40 k_GM_addOrTake_53 k_Pr_addThree_57 k_GM_addOrTake_70 k_GM_addOrTake_102
  rw [ee2]
  by_cases h1 : e2 = 1
  · rw [if_pos ((nI_2 he2).2.mpr h1), if_pos ((nI_2 he2).2.mpr h1), if_neg (show ¬ (1 : Int32) = 0 by decide), if_neg (show ¬ (1 : Int32) = 0 by decide), if_neg (show ¬ (1 : Int32) = 0 by decide)]
    exact fin _ 1
  · have n1 : ¬ nI e2 = 1 := fun g => h1 ((nI_2 he2).2.mp g)
    rw [if_neg n1, if_neg n1, if_pos rfl, if_pos rfl, if_pos rfl]
    exact fin _ 0
theorem o_byte {v : Int32} {o : Nat} (h : G σ τ N u c fr to ba si ke en po r w b p) (hop : v >>> ((11 : Int32) &&& 31) = nI o) (ho : o = 4 ∨ o = 5 ∨ o = 6 ∨ o = 7) : OkD (k_Pr_withByte σ p v) (bn (k_GM_immediate τ (nI p) v) fun s => k_GM_instruction_322 (nI p) s) N u c fr to ba si ke en po r w b p := by
  have p4 := g_p4 h
  obtain ⟨lo, -⟩ := g_rg h
  obtain ⟨i, hi, ei⟩ := pk_andE (v >>> ((8 : Int32) &&& 31)) (m := 7) 3 (by decide)
  have hi8 : i < 8 := by omega
  have zi8 : zi (nI i) 8 = true := zi_n (by omega) (by omega)
  have ci : (nI i).toNatClampNeg = i := nI_clamp (by omega)
  have z32 : zi (nI (8 * p + i)) 32 = true := zi_n (by omega) (by omega)
  have c32 : (nI (8 * p + i)).toNatClampNeg = 8 * p + i := nI_clamp (by omega)
  unfold k_Pr_withByte k_GM_immediate
  simp only [lt_e]
  rw [ei, ix8, hop, ck_p zi8, ci]
  generalize v &&& (255 : Int32) = y
  rcases ho with rfl | rfl | rfl | rfl
  · rw [if_pos (by decide), if_pos (by decide), ck_p zi8]
    unfold k_GM_immediate_76 k_GM_immediate_91 k_GM_immediate_113
    rw [if_pos (by decide)]
    obtain ⟨f, hf, e1, e2⟩ := signs_ok y h.1 h.2.1
    obtain ⟨g1, g2, -⟩ := d_sg (i := i) y y h hi8
    rw [g2]
    rw [e2, bn_s, if_neg (by decide), ck_p z32, lt_e, c32, bn_s]
    rw [e2, bn_s] at g1
    exact g1
  · rw [if_neg (by decide), if_pos (by decide), if_neg (by decide), ck_p z32, if_neg (by decide), c32, lo i hi8]
    unfold k_GM_immediate_61 k_GM_immediate_73 k_GM_immediate_76 k_GM_immediate_91 k_GM_immediate_113
    obtain ⟨f, x, hf, q1, q2⟩ := add_ok (σ 12 p i) (y ^^^ (-1 : Int32)) 1 h.1 h.2.1
    rw [if_neg (by decide), q1, q2, bn_s, bn_s]
    dsimp only
    rw [if_neg (by decide), if_pos (by decide), ck_p z32, ck_p z32, lt_e, c32, bn_s, zu_id rfl]
    exact ok_0 (g_fl h hf)
  · rw [if_neg (by decide), if_neg (by decide), if_pos (by decide), if_neg (by decide), ck_p z32, if_pos (by decide), c32, lo i hi8]
    unfold k_GM_immediate_61 k_GM_immediate_73 k_GM_immediate_76 k_GM_immediate_91 k_GM_immediate_113
    obtain ⟨f, x, hf, q1, q2⟩ := add_ok (σ 12 p i) y 0 h.1 h.2.1
    rw [if_pos (by decide), q1, q2, bn_s, bn_s]
    dsimp only
    rw [if_neg (by decide), if_neg (by decide), ck_p zi8, ck_p z32, lt_e, c32, bn_s]
    exact ok_0 (g_low (g_fl h hf) hi8)
  · rw [if_neg (by decide), if_neg (by decide), if_neg (by decide), if_neg (by decide), ck_p z32, if_neg (by decide), c32, lo i hi8]
    unfold k_GM_immediate_61 k_GM_immediate_73 k_GM_immediate_76 k_GM_immediate_91 k_GM_immediate_113
    obtain ⟨f, x, hf, q1, q2⟩ := add_ok (σ 12 p i) (y ^^^ (-1 : Int32)) 1 h.1 h.2.1
    rw [if_neg (by decide), q1, q2, bn_s, bn_s]
    dsimp only
    rw [if_neg (by decide), if_neg (by decide), ck_p zi8, ck_p z32, lt_e, c32, bn_s]
    exact ok_0 (g_low (g_fl h hf) hi8)
end OPS
