/-! a fault, and a step's end -/
section FAIL
variable {σ τ : zS} {N u : Nat} {c fr to ba si ke en po : Nat → Nat} {r w b : Nat → Nat → Nat}
theorem fail_ok {p : Nat} {x : Int32} (h : RL σ τ N u c fr to ba si ke en po r w b) (hp : p < N) (hx : τ 0 0 37 = x) : ∃ σ' τ' : zS, k_BP_fail (zu σ 0 0 8 0) p x = some σ' ∧ k_GM_faulted τ (nI p) = some τ' ∧ Rel σ' τ' := by
  have h4 : N ≤ 4 := h.1.2.2.2.2.2.2.2.2.1
  have zp : zi (nI p) 4 = true := zi_n (by omega) (by omega)
  have cp : (nI p).toNatClampNeg = p := nI_clamp (by omega)
  obtain ⟨hS, hD, hN⟩ := h.2.1 p hp
  have e18 : σ 11 p 18 = τ 18 0 p := hD.2.2.2.2.2.2.2.2.2.2.2.2.2.2.1
  have e19 : σ 11 p 19 = τ 19 0 p := hD.2.2.2.2.2.2.2.2.2.2.2.2.2.2.2
  have e9 : σ 11 p 9 = τ 9 0 p := by rw [hS.2.2.2.2.2.2.1, hS.2.2.2.2.2.2.2.2.2.2.2.2.2.1]
  have h1 := rl_left (v := 0) h
  have h2 := rl_17 (v := x) h1 hp
  have h3 := rl_18 (v := σ 11 p 18 + (1 : Int32)) h2 hp
  have h5 := rl_19 (v := σ 11 p 19 + (1 : Int32)) h3 hp
  have r18 : zu (zu σ 0 0 8 0) 11 p 17 x 11 p 18 = σ 11 p 18 := by rw [zu_rd, if_neg (by omega), zu_rd, if_neg (by omega)]
  have r9 : zu (zu (zu σ 0 0 8 0) 11 p 17 x) 11 p 18 (σ 11 p 18 + (1 : Int32)) 11 p 9 = σ 11 p 9 := by rw [zu_rd, if_neg (by omega), zu_rd, if_neg (by omega), zu_rd, if_neg (by omega)]
  have r19 : zu (zu (zu σ 0 0 8 0) 11 p 17 x) 11 p 18 (σ 11 p 18 + (1 : Int32)) 11 p 19 = σ 11 p 19 := by rw [zu_rd, if_neg (by omega), zu_rd, if_neg (by omega), zu_rd, if_neg (by omega)]
  have q37 : zu τ 0 0 4 0 0 0 37 = x := by rw [zu_rd, if_neg (by omega)]; exact hx
  have q18 : zu (zu τ 0 0 4 0) 17 0 p x 18 0 p = σ 11 p 18 := by rw [zu_rd, if_neg (by omega), zu_rd, if_neg (by omega)]; exact e18.symm
  have q9 : zu (zu (zu τ 0 0 4 0) 17 0 p x) 18 0 p (σ 11 p 18 + (1 : Int32)) 9 0 p = σ 11 p 9 := by rw [zu_rd, if_neg (by omega), zu_rd, if_neg (by omega), zu_rd, if_neg (by omega)]; exact e9.symm
  have q19 : zu (zu (zu τ 0 0 4 0) 17 0 p x) 18 0 p (σ 11 p 18 + (1 : Int32)) 19 0 p = σ 11 p 19 := by rw [zu_rd, if_neg (by omega), zu_rd, if_neg (by omega), zu_rd, if_neg (by omega)]; exact e19.symm
  have eC : k_BP_fail (zu σ 0 0 8 0) p x = if σ 11 p 9 ≤ σ 11 p 19 then bn (k_BP_halt (zu (zu (zu σ 0 0 8 0) 11 p 17 x) 11 p 18 (σ 11 p 18 + (1 : Int32))) p) fun s3 => some s3 else bn (k_BP_begin (zu (zu (zu (zu σ 0 0 8 0) 11 p 17 x) 11 p 18 (σ 11 p 18 + (1 : Int32))) 11 p 19 (σ 11 p 19 + (1 : Int32))) p) fun s5 => some s5 := by
    unfold k_BP_fail
    simp only [lt_e]
    rw [r18, r9, r19]
  have eM : k_GM_faulted τ (nI p) = if σ 11 p 9 ≤ σ 11 p 19 then bn (k_GM_halt (zu (zu (zu τ 0 0 4 0) 17 0 p x) 18 0 p (σ 11 p 18 + (1 : Int32))) (nI p)) fun s4 => some s4 else bn (k_GM_begin (zu (zu (zu (zu τ 0 0 4 0) 17 0 p x) 18 0 p (σ 11 p 18 + (1 : Int32))) 19 0 p (σ 11 p 19 + (1 : Int32))) (nI p)) fun s6 => some s6 := by
    unfold k_GM_faulted
    simp only [lt_e, ck_p zp, cp]
    rw [q37, q18, q9, q19]
  rw [eC, eM]
  by_cases hc : σ 11 p 9 ≤ σ 11 p 19
  · rw [if_pos hc, if_pos hc]
    obtain ⟨σ', τ', e1, e2, e3, -⟩ := halt_ok h3 hp
    rw [e1, e2, bn_s, bn_s]
    exact ⟨σ', τ', rfl, rfl, e3⟩
  · rw [if_neg hc, if_neg hc]
    obtain ⟨σ', τ', v, e1, e2, e3, -⟩ := begin_ok h5 hp
    rw [e1, e2, bn_s, bn_s]
    exact ⟨σ', τ', rfl, rfl, e3.rel⟩
/-- from the fault's number on -/
theorem end44_ok {p : Nat} {a x : Int32} (h : RL σ τ N u c fr to ba si ke en po r w b) (hp : p < N) (hx : τ 0 0 37 = x) (h0 : x = 0 ∨ ¬ x ≤ 0) : ∃ σ' τ' : zS, k_GK_endStep_44 p a σ x = some σ' ∧ k_GM_step_75 (nI p) τ = some τ' ∧ Rel σ' τ' := by
  unfold k_GK_endStep_44 k_GM_step_75
  rw [hx]
  rcases h0 with rfl | h0
  · rw [if_pos rfl, if_pos (by decide)]
    exact ⟨σ, τ, rfl, rfl, h.rel⟩
  · have hn : ¬ x = 0 := fun g => h0 (by rw [g]; decide)
    obtain ⟨σ', τ', e1, e2, e3⟩ := fail_ok h hp hx
    rw [if_neg hn, if_neg h0, lt_e, e1, e2, bn_s, bn_s]
    exact ⟨σ', τ', rfl, rfl, e3⟩
theorem end_ok {p : Nat} {x : Int32} (h : RL σ τ N u c fr to ba si ke en po r w b) (hp : p < N) (hx : τ 0 0 37 = x) (h0 : x = 0 ∨ ¬ x ≤ 0) : ∃ σ' τ' : zS, k_GK_endStep σ p x = some σ' ∧ k_GM_step_31 (nI p) τ = some τ' ∧ Rel σ' τ' := by
  have h4 : N ≤ 4 := h.1.2.2.2.2.2.2.2.2.1
  have zp : zi (nI p) 4 = true := zi_n (by omega) (by omega)
  have cp : (nI p).toNatClampNeg = p := nI_clamp (by omega)
  by_cases hz : x = 0
  · subst hz
    have e8 : σ 0 0 8 = τ 0 0 4 := h.1.2.2.2.2.2.1
    have h1 := rl_left (v := σ 0 0 8 - (1 : Int32)) h
    have hx1 : zu τ 0 0 4 (σ 0 0 8 - (1 : Int32)) 0 0 37 = 0 := by rw [zu_rd, if_neg (by omega)]; exact hx
    have r8 : zu σ 0 0 8 (σ 0 0 8 - (1 : Int32)) 0 0 8 = σ 0 0 8 - (1 : Int32) := by rw [zu_rd, if_pos (by omega)]
    have q4 : zu τ 0 0 4 (σ 0 0 8 - (1 : Int32)) 0 0 4 = σ 0 0 8 - (1 : Int32) := by rw [zu_rd, if_pos (by omega)]
    unfold k_GK_endStep k_GM_step_31
    rw [if_pos rfl, if_pos hx, lt_e, lt_e, ← e8, r8, q4]
    have d := (h1.2.1 p hp).2.1
    have e15 : zu σ 0 0 8 (σ 0 0 8 - (1 : Int32)) 11 p 15 = zu τ 0 0 4 (σ 0 0 8 - (1 : Int32)) 16 0 p := d.2.2.2.2.2.2.1
    by_cases hl : σ 0 0 8 - (1 : Int32) = 0
    · rw [if_pos hl, if_pos hl, ck_p zp, cp, ← e15]
      by_cases hf : zu σ 0 0 8 (σ 0 0 8 - (1 : Int32)) 11 p 15 = 0
      · have epc := d.2.2.2.1 hf
        rw [if_pos hf, if_pos hf, ck_p zp, ← epc]
        rcases stack_ok (at' := zu σ 0 0 8 (σ 0 0 8 - (1 : Int32)) 11 p 13) h1 hp hf with ⟨e1, e2⟩ | ⟨q, a, f, g1, g2, g3, g4, e1, e2, e3⟩
        · rw [e1, e2, bn_s, bn_s]
          dsimp only
          rw [if_pos rfl]
          exact end44_ok (rl_scr h1 (by omega)) hp (by rw [zu_rd, if_pos (by omega)]) (Or.inr (by decide))
        · rw [e1, e2, bn_s, bn_s]
          dsimp only
          rw [if_neg (show ¬ (1 : Int32) = 0 by decide)]
          refine end44_ok e3 hp ?_ (Or.inl rfl)
          rw [zu_rd, if_neg (by omega), zu_rd, if_neg (by omega), wrn_o 8 0 _ 0 0 37 (by omega)]
          exact hx1
      · rw [if_neg hf, if_neg hf]
        exact end44_ok h1 hp hx1 (Or.inl rfl)
    · rw [if_neg hl, if_neg hl]
      exact end44_ok h1 hp hx1 (Or.inl rfl)
  · unfold k_GK_endStep k_GM_step_31
    rw [if_neg hz, if_neg (by rw [hx]; exact hz)]
    exact end44_ok h hp hx h0
end FAIL
