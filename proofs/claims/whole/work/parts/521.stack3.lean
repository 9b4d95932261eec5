theorem al32 {x : Int32} (hal : x.toInt % 4 = 0) : (x - (32 : Int32)).toInt % 4 = 0 := by
  have h := al_sub (k := 8) hal (by omega)
  have n32 : nI (4 * 8) = (32 : Int32) := by decide
  rw [n32] at h
  exact h
theorem al36 {x : Int32} (hal : x.toInt % 4 = 0) : (x - (4 : Int32)).toInt % 4 = 0 := by
  have h := al_sub (k := 1) hal (by omega)
  have n4 : nI (4 * 1) = (4 : Int32) := by decide
  rw [n4] at h
  exact h
theorem sub4 (x : Int32) : x + (-4 : Int32) = x - (4 : Int32) := (Int32.sub_eq_add_neg x 4).symm
/-! stackFrame and stack -/
section STACK3
variable {σ τ : zS} {N u : Nat} {c fr to ba si ke en po : Nat → Nat} {r w b : Nat → Nat → Nat}
/-- the class's stackFrame and the reference's stack -/
theorem stack_ok {p : Nat} {at' : Int32} (h : RL σ τ N u c fr to ba si ke en po r w b) (hp : p < N) (h15 : σ 11 p 15 = 0) :
    (k_BP_stackFrame σ p at' = some (σ, 0) ∧ k_GM_stack τ (nI p) at' = some (zu τ 0 0 37 6)) ∨ ∃ (q : Nat) (a : Int32) (f : Nat → Int32), q + 8 ≤ 128 ∧ a = nI (4096 + 4 * q) ∧ (∀ k, k < 4 → f k = σ 12 p k) ∧ f 6 = at' ∧ k_BP_stackFrame σ p at' = some (zu (wrn (zu σ 11 p 11 a) 3 q f 0 8) 11 p 15 1, 1) ∧ k_GM_stack τ (nI p) at' = some (zu (zu (wrn τ 2 q f 0 8) 12 0 p a) 16 0 p 1) ∧ RL (zu (wrn (zu σ 11 p 11 a) 3 q f 0 8) 11 p 15 1) (zu (zu (wrn τ 2 q f 0 8) 12 0 p a) 16 0 p 1) N u c fr to ba si ke en po r w b := by
  obtain ⟨o1, o2, o3, o4⟩ := op_le h hp
  have hD := (h.2.1 p hp).2.1
  have e11 : σ 11 p 11 = τ 12 0 p := hD.2.1
  have hal : (σ 11 p 11).toInt % 4 = 0 := hD.2.2.2.2.2.2.2.2.2.2.2.2.1
  have a1 := al32 hal
  have a2 := al36 a1
  have zp : zi (nI p) 4 = true := zi_n (by omega) (by omega)
  have cp : (nI p).toNatClampNeg = p := nI_clamp (by omega)
  by_cases h7 : (σ 11 p 11 - (32 : Int32)) &&& (7 : Int32) = 0
  · have eC : k_BP_stackFrame σ p at' = k_BP_stackFrame_24 p at' σ (σ 11 p 11 - (32 : Int32)) 0 := by
      unfold k_BP_stackFrame
      rw [lt_e, if_pos h7]
    have eM : k_GM_stack τ (nI p) at' = k_GM_stack_36 (nI p) at' τ 0 (σ 11 p 11 - (32 : Int32)) := by
      unfold k_GM_stack k_GM_stack_22
      rw [ck_p zp, cp, ← e11, lt_e, if_pos h7, if_pos rfl]
    rw [eC, eM]
    rcases stack_at (at' := at') (l4 := 0) (sh := 0) h hp h15 a1 (if_pos rfl).symm with g | ⟨q, f, g1, g2, g3, g4, g5, g6, g7⟩
    · exact Or.inl g
    · exact Or.inr ⟨q, _, f, g1, g2, g3, g4, g5, g6, g7⟩
  · have eC : k_BP_stackFrame σ p at' = k_BP_stackFrame_24 p at' σ (σ 11 p 11 - (32 : Int32) - (4 : Int32)) 512 := by
      unfold k_BP_stackFrame
      rw [lt_e, if_neg h7, lt_e, sub4]
    have eM : k_GM_stack τ (nI p) at' = k_GM_stack_36 (nI p) at' τ 1 (σ 11 p 11 - (32 : Int32) - (4 : Int32)) := by
      unfold k_GM_stack k_GM_stack_22
      rw [ck_p zp, cp, ← e11, lt_e, if_neg h7, if_neg (show ¬ (1 : Int32) = 0 by decide)]
    rw [eC, eM]
    rcases stack_at (at' := at') (l4 := 1) (sh := 512) h hp h15 a2 (if_neg (show ¬ (1 : Int32) = 0 by decide)).symm with g | ⟨q, f, g1, g2, g3, g4, g5, g6, g7⟩
    · exact Or.inl g
    · exact Or.inr ⟨q, _, f, g1, g2, g3, g4, g5, g6, g7⟩
end STACK3
