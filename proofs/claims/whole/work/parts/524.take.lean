/-! taking a frame back: takeFrame and unstack -/
theorem ush28 (x : Int32) : ∃ f, f < 16 ∧ (x.toUInt32 >>> ((28 : Int32).toUInt32 &&& Int32.toUInt32 31)).toInt32 = nI f := by
  have hx := x.toBitVec.isLt
  refine ⟨x.toBitVec.toNat / 2 ^ 28, by omega, ?_⟩
  apply Int32.toBitVec_inj.mp
  apply BitVec.eq_of_toNat_eq
  rw [pk_ushr _ _ 28 (by decide), pk_tn (by omega)]
theorem tk_step {s t : zS} {p q d : Nat} (n : Nat) (ht : ∀ a b i, a ≠ 12 → t a b i = s a b i) (h11 : s 11 p 11 = nI (4096 + 4 * q)) (hd : d < 4) (hq : q + 8 ≤ 128) : k_BP_takeFrame_17 p (n + 1) t (nI d) = k_BP_takeFrame_17 p n (zu t 12 p d (s 3 0 (q + d))) (nI (d + 1)) := by
  rw [k_BP_takeFrame_17, if_neg (show ¬ (4 : Int32) ≤ nI d from nI_ge (b := 4) hd (by omega)), bp_fw (q := q) (by rw [ht 11 p 11 (by omega)]; exact h11) (by omega), bn_s]
  dsimp only
  rw [ck_p (zi_n (by omega) (by omega)), lt_e, lt_e, nI_clamp (by omega), nI_1, ht 3 0 _ (by omega)]
theorem un_step {s t : zS} {p q d : Nat} (n : Nat) (ht : ∀ a b i, a ≠ 11 → t a b i = s a b i) (hp : p < 4) (hd : d < 4) (hq : q + 8 ≤ 128) : k_GM_unstack_25 (nI p) (n + 1) t (nI (4096 + 4 * q)) (nI d) = k_GM_unstack_25 (nI p) n (zu t 11 0 (8 * p + d) (s 2 0 (q + d))) (nI (4096 + 4 * q)) (nI (d + 1)) := by
  rw [k_GM_unstack_25, if_neg (show ¬ (4 : Int32) ≤ nI d from nI_ge (b := 4) hd (by omega)), show (4 : Int32) * nI d = nI (4 * d) by rw [show (4 : Int32) = nI 4 from rfl, pk_mul], gm_fw (by omega), bn_s]
  dsimp only
  rw [ix8, ck_p (zi_n (by omega) (by omega)), lt_e, lt_e, nI_clamp (by omega), nI_1, ht 2 0 _ (by omega)]
def tkC (s : zS) (p q : Nat) : zS := zu (zu (zu (zu s 12 p 0 (s 3 0 (q + 0))) 12 p 1 (s 3 0 (q + 1))) 12 p 2 (s 3 0 (q + 2))) 12 p 3 (s 3 0 (q + 3))
def tkM (s : zS) (p q : Nat) : zS := zu (zu (zu (zu s 11 0 (8 * p + 0) (s 2 0 (q + 0))) 11 0 (8 * p + 1) (s 2 0 (q + 1))) 11 0 (8 * p + 2) (s 2 0 (q + 2))) 11 0 (8 * p + 3) (s 2 0 (q + 3))
theorem tkC_o (s : zS) (p q a b i : Nat) (h : a ≠ 12) : tkC s p q a b i = s a b i := by
  unfold tkC
  rw [zu_rd, if_neg (by omega), zu_rd, if_neg (by omega), zu_rd, if_neg (by omega), zu_rd, if_neg (by omega)]
theorem tkM_o (s : zS) (p q a b i : Nat) (h : a ≠ 11) : tkM s p q a b i = s a b i := by
  unfold tkM
  rw [zu_rd, if_neg (by omega), zu_rd, if_neg (by omega), zu_rd, if_neg (by omega), zu_rd, if_neg (by omega)]
/-- what the stack pointer becomes -/
def tkS (q : Nat) (x : Int32) : Int32 := if x &&& (512 : Int32) = 0 then nI (4096 + 4 * (q + 8)) else nI (4096 + 4 * (q + 9))
theorem bp_take {s : zS} {p q : Nat} (h11 : s 11 p 11 = nI (4096 + 4 * q)) (hq : q + 8 ≤ 128) : k_BP_takeFrame_17 p FU s 0 = some (zu (zu (zu (zu (zu (tkC s p q) 11 p 12 (s 3 0 (q + 5))) 11 p 13 (s 3 0 (q + 6) &&& (-2 : Int32))) 11 p 14 (((s 3 0 (q + 7)).toUInt32 >>> ((28 : Int32).toUInt32 &&& Int32.toUInt32 31)).toInt32)) 11 p 11 (tkS q (s 3 0 (q + 7)))) 11 p 15 0, 1) := by
  have w : ∀ (t : zS) (d : Nat) (v : Int32), (∀ a b i, a ≠ 12 → t a b i = s a b i) → ∀ a b i, a ≠ 12 → zu t 12 p d v a b i = s a b i := fun t d v ht a b i ha => by rw [zu_rd, if_neg (by omega)]; exact ht a b i ha
  have t0 : ∀ a b i, a ≠ 12 → s a b i = s a b i := fun _ _ _ _ => rfl
  have t1 := w s 0 (s 3 0 (q + 0)) t0
  have t2 := w _ 1 (s 3 0 (q + 1)) t1
  have t3 := w _ 2 (s 3 0 (q + 2)) t2
  have e : k_BP_takeFrame_17 p (995 + 1 + 1 + 1 + 1 + 1) s (nI 0) = k_BP_takeFrame_17 p (995 + 1) (tkC s p q) (nI (0 + 1 + 1 + 1 + 1)) := by
    rw [tk_step _ t0 h11 (by omega) hq, tk_step _ t1 h11 (by omega) hq, tk_step _ t2 h11 (by omega) hq, tk_step _ t3 h11 (by omega) hq]
    rfl
  rw [show k_BP_takeFrame_17 p FU s 0 = k_BP_takeFrame_17 p (995 + 1 + 1 + 1 + 1 + 1) s (nI 0) from rfl, e, k_BP_takeFrame_17, if_pos (show (4 : Int32) ≤ nI (0 + 1 + 1 + 1 + 1) by decide)]
  have o := tkC_o s p q
  have g5 : k_BP_frameWord (tkC s p q) p 5 = some (tkC s p q, s 3 0 (q + 5)) := by
    rw [show k_BP_frameWord (tkC s p q) p 5 = k_BP_frameWord (tkC s p q) p (nI 5) from rfl, bp_fw (q := q) (by rw [o 11 p 11 (by omega)]; exact h11) (by omega), o 3 0 _ (by omega)]
  rw [g5, bn_s]
  dsimp only
  rw [lt_e]
  have o1 : ∀ (v : Int32) (a b i : Nat), a ≠ 12 → ¬ (a = 11 ∧ i = 12) → zu (tkC s p q) 11 p 12 v a b i = s a b i := fun v a b i g1 g2 => by rw [zu_rd, if_neg (by omega)]; exact o a b i g1
  have g6 : ∀ v : Int32, k_BP_frameWord (zu (tkC s p q) 11 p 12 v) p 6 = some (zu (tkC s p q) 11 p 12 v, s 3 0 (q + 6)) := fun v => by
    rw [show k_BP_frameWord (zu (tkC s p q) 11 p 12 v) p 6 = k_BP_frameWord (zu (tkC s p q) 11 p 12 v) p (nI 6) from rfl, bp_fw (q := q) (by rw [o1 v 11 p 11 (by omega) (by omega)]; exact h11) (by omega), o1 v 3 0 _ (by omega) (by omega)]
  rw [g6, bn_s]
  dsimp only
  rw [lt_e]
  have o2 : ∀ (v v' : Int32) (a b i : Nat), a ≠ 12 → ¬ (a = 11 ∧ (i = 12 ∨ i = 13)) → zu (zu (tkC s p q) 11 p 12 v) 11 p 13 v' a b i = s a b i := fun v v' a b i g1 g2 => by rw [zu_rd, if_neg (by omega)]; exact o1 v a b i g1 (by omega)
  have g7 : ∀ v v' : Int32, k_BP_frameWord (zu (zu (tkC s p q) 11 p 12 v) 11 p 13 v') p 7 = some (zu (zu (tkC s p q) 11 p 12 v) 11 p 13 v', s 3 0 (q + 7)) := fun v v' => by
    rw [show k_BP_frameWord (zu (zu (tkC s p q) 11 p 12 v) 11 p 13 v') p 7 = k_BP_frameWord (zu (zu (tkC s p q) 11 p 12 v) 11 p 13 v') p (nI 7) from rfl, bp_fw (q := q) (by rw [o2 v v' 11 p 11 (by omega) (by omega)]; exact h11) (by omega), o2 v v' 3 0 _ (by omega) (by omega)]
  rw [g7, bn_s]
  dsimp only
  rw [lt_e]
  have o3 : ∀ v v' v'' : Int32, zu (zu (zu (tkC s p q) 11 p 12 v) 11 p 13 v') 11 p 14 v'' 11 p 11 = nI (4096 + 4 * q) := fun v v' v'' => by rw [zu_rd, if_neg (by omega), o2 v v' 11 p 11 (by omega) (by omega)]; exact h11
  have n32 : (32 : Int32) = nI (4 * 8) := by decide
  have n36 : (36 : Int32) = nI (4 * 9) := by decide
  unfold k_BP_takeFrame_96 tkS
  simp only [lt_e]
  rw [o3]
  by_cases h5 : s 3 0 (q + 7) &&& (512 : Int32) = 0
  · rw [if_pos h5, if_pos h5, n32, add4]
  · rw [if_neg h5, if_neg h5, n36, add4]
theorem gm_take {s : zS} {p q : Nat} (hp : p < 4) (hq : q + 8 ≤ 128) : k_GM_unstack_25 (nI p) FU s (nI (4096 + 4 * q)) 0 = some (zu (zu (zu (zu (zu (tkM s p q) 13 0 p (s 2 0 (q + 5))) 14 0 p (s 2 0 (q + 6) &&& (-2 : Int32))) 15 0 p (((s 2 0 (q + 7)).toUInt32 >>> ((28 : Int32).toUInt32 &&& Int32.toUInt32 31)).toInt32)) 12 0 p (tkS q (s 2 0 (q + 7)))) 16 0 p 0) := by
  have zp : zi (nI p) 4 = true := zi_n hp (by omega)
  have cp : (nI p).toNatClampNeg = p := nI_clamp (by omega)
  have w : ∀ (t : zS) (d : Nat) (v : Int32), (∀ a b i, a ≠ 11 → t a b i = s a b i) → ∀ a b i, a ≠ 11 → zu t 11 0 d v a b i = s a b i := fun t d v ht a b i ha => by rw [zu_rd, if_neg (by omega)]; exact ht a b i ha
  have t0 : ∀ a b i, a ≠ 11 → s a b i = s a b i := fun _ _ _ _ => rfl
  have t1 := w s (8 * p + 0) (s 2 0 (q + 0)) t0
  have t2 := w _ (8 * p + 1) (s 2 0 (q + 1)) t1
  have t3 := w _ (8 * p + 2) (s 2 0 (q + 2)) t2
  have e : k_GM_unstack_25 (nI p) (995 + 1 + 1 + 1 + 1 + 1) s (nI (4096 + 4 * q)) (nI 0) = k_GM_unstack_25 (nI p) (995 + 1) (tkM s p q) (nI (4096 + 4 * q)) (nI (0 + 1 + 1 + 1 + 1)) := by
    rw [un_step _ t0 hp (by omega) hq, un_step _ t1 hp (by omega) hq, un_step _ t2 hp (by omega) hq, un_step _ t3 hp (by omega) hq]
    rfl
  rw [show k_GM_unstack_25 (nI p) FU s (nI (4096 + 4 * q)) 0 = k_GM_unstack_25 (nI p) (995 + 1 + 1 + 1 + 1 + 1) s (nI (4096 + 4 * q)) (nI 0) from rfl, e, k_GM_unstack_25, if_pos (show (4 : Int32) ≤ nI (0 + 1 + 1 + 1 + 1) by decide)]
  have o := tkM_o s p q
  have n20 : (20 : Int32) = nI (4 * 5) := by decide
  have n24 : (24 : Int32) = nI (4 * 6) := by decide
  have n28 : nI (4096 + 4 * q) + (28 : Int32) = nI (4096 + 4 * q) + nI (4 * 7) := congrArg (fun x => nI (4096 + 4 * q) + x) (show (28 : Int32) = nI (4 * 7) by decide)
  rw [n20, n24, n28, gm_fw (by omega), bn_s]
  dsimp only
  rw [ck_p zp, lt_e, gm_fw (by omega), bn_s]
  dsimp only
  rw [ck_p zp, lt_e, gm_fw (by omega), bn_s]
  dsimp only
  rw [ck_p zp, lt_e, cp]
  have e5 : tkM s p q 2 0 (q + 5) = s 2 0 (q + 5) := o 2 0 _ (by omega)
  have e6 : ∀ v : Int32, zu (tkM s p q) 13 0 p v 2 0 (q + 6) = s 2 0 (q + 6) := fun v => by rw [zu_rd, if_neg (by omega)]; exact o 2 0 _ (by omega)
  have e7 : ∀ v v' : Int32, zu (zu (tkM s p q) 13 0 p v) 14 0 p v' 2 0 (q + 7) = s 2 0 (q + 7) := fun v v' => by rw [zu_rd, if_neg (by omega), zu_rd, if_neg (by omega)]; exact o 2 0 _ (by omega)
  rw [e7, e6, e5]
  have n32 : (32 : Int32) = nI (4 * 8) := by decide
  unfold k_GM_unstack_128 tkS
  simp only [lt_e, ck_p zp, cp]
  rw [n32, add4]
  by_cases h5 : s 2 0 (q + 7) &&& (512 : Int32) = 0
  · rw [if_pos h5, if_pos h5, Int32.add_zero]
  · rw [if_neg h5, if_neg h5, show (4 : Int32) = nI (4 * 1) from rfl, add4]
section TAKE
variable {σ τ : zS} {N u : Nat} {c fr to ba si ke en po : Nat → Nat} {r w b : Nat → Nat → Nat}
/-- out of the frame -/
theorem rl_unf {p : Nat} {v : Int32} (h : RL σ τ N u c fr to ba si ke en po r w b) (hp : p < N) (h16 : σ 11 p 16 = 0) (hpc : σ 11 p 13 = τ 14 0 p) (hv : v.toInt % 4 = 0) : RL (zu (zu σ 11 p 11 v) 11 p 15 0) (zu (zu τ 12 0 p v) 16 0 p 0) N u c fr to ba si ke en po r w b := by
  obtain ⟨d1, d2, d3, d4, d5, d6, d7, d8, d9, d10, d11, d12, d13, d14, d15, d16⟩ := (h.2.1 p hp).2.1
  refine rl_dy h hp (fun a b j g1 g2 => by rw [zu_rd, if_neg (by omega), zu_rd, if_neg (by omega)]) (fun a b j g1 g2 => by rw [zu_rd, if_neg (by omega), zu_rd, if_neg (by omega)]) ?_
  have ea : ∀ j, j ≠ 11 → j ≠ 15 → zu (zu σ 11 p 11 v) 11 p 15 0 11 p j = σ 11 p j := fun j g1 g2 => by rw [zu_rd, if_neg (by omega), zu_rd, if_neg (by omega)]
  have e11 : zu (zu σ 11 p 11 v) 11 p 15 0 11 p 11 = v := by rw [zu_rd, if_neg (by omega), zu_rd, if_pos (by omega)]
  have e15 : zu (zu σ 11 p 11 v) 11 p 15 0 11 p 15 = 0 := by rw [zu_rd, if_pos (by omega)]
  have el : ∀ j, zu (zu σ 11 p 11 v) 11 p 15 0 12 p j = σ 12 p j := fun j => by rw [zu_rd, if_neg (by omega), zu_rd, if_neg (by omega)]
  have et : ∀ a j, a ≠ 12 → a ≠ 16 → zu (zu τ 12 0 p v) 16 0 p 0 a 0 j = τ a 0 j := fun a j g1 g2 => by rw [zu_rd, if_neg (by omega), zu_rd, if_neg (by omega)]
  have f12 : zu (zu τ 12 0 p v) 16 0 p 0 12 0 p = v := by rw [zu_rd, if_neg (by omega), zu_rd, if_pos (by omega)]
  have f16 : zu (zu τ 12 0 p v) 16 0 p 0 16 0 p = 0 := by rw [zu_rd, if_pos (by omega)]
  unfold Dy
  rw [e11, e15, f12, f16, ea 12 (by omega) (by omega), ea 13 (by omega) (by omega), ea 14 (by omega) (by omega), ea 16 (by omega) (by omega), ea 17 (by omega) (by omega), ea 18 (by omega) (by omega), ea 19 (by omega) (by omega), et 13 p (by omega) (by omega), et 14 p (by omega) (by omega), et 15 p (by omega) (by omega), et 10 p (by omega) (by omega), et 17 p (by omega) (by omega), et 18 p (by omega) (by omega), et 19 p (by omega) (by omega)]
  exact ⟨fun j hj => by rw [el j, et 11 _ (by omega) (by omega)]; exact d1 j hj, rfl, d3, fun _ => hpc, d5, d6, rfl, Or.inl rfl, d9, d10, fun g => absurd (h16.symm.trans g) (by decide), fun g => absurd g (by decide), hv, d14, d15, d16⟩
theorem take_ok {p : Nat} (h : RL σ τ N u c fr to ba si ke en po r w b) (hp : p < N) (h15 : σ 11 p 15 = 1) (h16 : σ 11 p 16 = 0) :
    (k_BP_takeFrame σ p = some (σ, 0) ∧ k_GM_unstack τ (nI p) = some (zu τ 0 0 37 6)) ∨ ∃ σ' τ' : zS, k_BP_takeFrame σ p = some (σ', 1) ∧ k_GM_unstack τ (nI p) = some τ' ∧ RL σ' τ' N u c fr to ba si ke en po r w b ∧ σ' 11 p 15 = 0 ∧ τ' 0 0 37 = τ 0 0 37 := by
  obtain ⟨o1, o2, o3, o4⟩ := op_le h hp
  obtain ⟨hS, hD, hN⟩ := h.2.1 p hp
  have s5 := hS.2.2.2.1
  have s8 := hN.2.2.1
  have e11 : σ 11 p 11 = τ 12 0 p := hD.2.1
  have hal : (σ 11 p 11).toInt % 4 = 0 := hD.2.2.2.2.2.2.2.2.2.2.2.2.1
  have zp : zi (nI p) 4 = true := zi_n (by omega) (by omega)
  have cp : (nI p).toNatClampNeg = p := nI_clamp (by omega)
  have n8 : (8 : Int32) = nI 8 := by decide
  by_cases hx : ∃ i, i + 8 ≤ zop (si p) (gW (r p)) ∧ σ 11 p 11 = nI (4096 + 4 * (ba p + i))
  · obtain ⟨i, hi, hsp⟩ := hx
    have eC : k_BP_takeFrame σ p = k_BP_takeFrame_17 p FU σ 0 := by
      unfold k_BP_takeFrame
      rw [hsp, n8, ar_yes s5 s8 (by omega) (by omega) (by omega) hi, bn_s]
      dsimp only
      rw [if_neg (show ¬ (1 : Int32) = 0 by decide)]
    have eM : k_GM_unstack τ (nI p) = k_GM_unstack_25 (nI p) FU τ (nI (4096 + 4 * (ba p + i))) 0 := by
      unfold k_GM_unstack
      rw [ck_p zp, cp, ← e11, hsp, lt_e, ei_yes h hp hi, bn_s]
      dsimp only
      rw [if_neg (show ¬ (1 : Int32) = 0 by decide)]
    have e3 : τ 2 0 = σ 3 0 := h.1.2.2.1.symm
    have hM := gm_take (s := τ) (p := p) (q := ba p + i) (by omega) (by omega)
    have hC := bp_take (s := σ) (p := p) (q := ba p + i) hsp (by omega)
    have l0 := rl_low (v := σ 3 0 (ba p + i + 0)) h hp (show 0 < 8 by omega)
    have l1 := rl_low (v := σ 3 0 (ba p + i + 1)) l0 hp (show 1 < 8 by omega)
    have l2 := rl_low (v := σ 3 0 (ba p + i + 2)) l1 hp (show 2 < 8 by omega)
    have l3 := rl_low (v := σ 3 0 (ba p + i + 3)) l2 hp (show 3 < 8 by omega)
    have eM2 : tkM τ p (ba p + i) = zu (zu (zu (zu τ 11 0 (8 * p + 0) (σ 3 0 (ba p + i + 0))) 11 0 (8 * p + 1) (σ 3 0 (ba p + i + 1))) 11 0 (8 * p + 2) (σ 3 0 (ba p + i + 2))) 11 0 (8 * p + 3) (σ 3 0 (ba p + i + 3)) := by unfold tkM; rw [e3]
    have l3' : RL (tkC σ p (ba p + i)) (tkM τ p (ba p + i)) N u c fr to ba si ke en po r w b := by rw [eM2]; exact l3
    have l4 := rl_lr (v := σ 3 0 (ba p + i + 5)) l3' hp
    have l5 := rl_pc (v := σ 3 0 (ba p + i + 6) &&& (-2 : Int32)) l4 hp
    have l6 := rl_fl (v := ((σ 3 0 (ba p + i + 7)).toUInt32 >>> ((28 : Int32).toUInt32 &&& Int32.toUInt32 31)).toInt32) l5 hp (ush28 _)
    have hv : (tkS (ba p + i) (σ 3 0 (ba p + i + 7))).toInt % 4 = 0 := by
      unfold tkS
      split
      · rw [nI_toInt (by omega)]; omega
      · rw [nI_toInt (by omega)]; omega
    have l7 := rl_unf (v := tkS (ba p + i) (σ 3 0 (ba p + i + 7))) l6 hp (by
      rw [zu_rd, if_neg (by omega), zu_rd, if_neg (by omega), zu_rd, if_neg (by omega), tkC_o _ _ _ _ _ _ (by omega)]; exact h16) (by
      rw [zu_rd, if_neg (by omega), zu_rd, if_pos (by omega), zu_rd, if_neg (by omega), zu_rd, if_pos (by omega)]) hv
    rw [e3] at hM
    refine Or.inr ⟨_, _, eC.trans hC, eM.trans hM, l7, ?_, ?_⟩
    · rw [zu_rd, if_pos (by omega)]
    · rw [zu_rd, if_neg (by omega), zu_rd, if_neg (by omega), zu_rd, if_neg (by omega), zu_rd, if_neg (by omega), zu_rd, if_neg (by omega), tkM_o _ _ _ _ _ _ (by omega)]
  · refine Or.inl ⟨?_, ?_⟩
    · unfold k_BP_takeFrame
      rw [n8, ar_no s5 s8 (by omega) (by omega) (by omega) hal (fun i g1 g2 g3 => hx ⟨i, g1, g3⟩), bn_s]
      rfl
    · unfold k_GM_unstack
      rw [ck_p zp, cp, ← e11, lt_e, ei_no h hp (fun i g1 g2 => hx ⟨i, g1, g2⟩), bn_s]
      dsimp only
      rw [if_pos rfl, lt_e]
end TAKE
