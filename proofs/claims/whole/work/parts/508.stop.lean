/-! stop -/
section STOP
variable {σ τ : zS} {N u : Nat} {c fr to ba si ke en po : Nat → Nat} {r w b : Nat → Nat → Nat}
theorem rl_st {p : Nat} (h : RL σ τ N u c fr to ba si ke en po r w b) (hp : p < N) (v : Int32) (hv : v = 0 ∨ v = 2) : RL (zu σ 11 p 16 v) (zu τ 10 0 p v) N u c fr to ba si ke en po r w b := by
  obtain ⟨hB, hP, hQ, hZ⟩ := h
  have h4 : N ≤ 4 := hB.2.2.2.2.2.2.2.2.1
  refine ⟨?_, fun q hq => ?_, ?_, fun q g1 g2 j hj => ?_⟩
  · unfold Bd at hB ⊢
    simpa only [zu_k (show 2 ≠ 11 by decide), zu_k (show 1 ≠ 10 by decide), zu_k (show 3 ≠ 11 by decide), zu_k (show 2 ≠ 10 by decide), zu_k (show 8 ≠ 11 by decide), zu_k (show 0 ≠ 10 by decide), zu_k (show 0 ≠ 11 by decide), zu_k (show 5 ≠ 11 by decide), zu_k (show 6 ≠ 11 by decide), zu_k (show 29 ≠ 10 by decide), zu_k (show 7 ≠ 11 by decide), zu_k (show 30 ≠ 10 by decide)] using hB
  · by_cases hqp : q = p
    · subst hqp
      obtain ⟨hS, hD, hN⟩ := hP q hq
      have ea : ∀ i, i ≠ 16 → zu σ 11 q 16 v 11 q i = σ 11 q i := fun i hi => by rw [zu_rd, if_neg (by omega)]
      have e16 : zu σ 11 q 16 v 11 q 16 = v := by rw [zu_rd, if_pos (by omega)]
      have ek : ∀ a, a ≠ 11 → zu σ 11 q 16 v a q = σ a q := fun a ha => zu_k ha
      have et : ∀ a, a ≠ 10 → ∀ i, zu τ 10 0 q v a 0 i = τ a 0 i := fun a ha i => by rw [zu_rd, if_neg (by omega)]
      have e10 : zu τ 10 0 q v 10 0 q = v := by rw [zu_rd, if_pos (by omega)]
      refine ⟨?_, ?_, ?_⟩
      · unfold St at hS ⊢
        rw [ea 2 (by omega), ea 3 (by omega), ea 4 (by omega), ea 5 (by omega), ea 6 (by omega), ea 7 (by omega), ea 9 (by omega), et 3 (by omega), et 4 (by omega), et 5 (by omega), et 6 (by omega), et 7 (by omega), et 8 (by omega), et 9 (by omega)]
        exact hS
      · obtain ⟨d1, d2, d3, d4, d5, d6, d7, d8, -, -, -, d12, d13, d14, d15, d16⟩ := hD
        unfold Dy
        rw [ek 12 (by omega), ea 11 (by omega), ea 12 (by omega), ea 13 (by omega), ea 14 (by omega), ea 15 (by omega), e16, ea 17 (by omega), ea 18 (by omega), ea 19 (by omega), et 12 (by omega), et 13 (by omega), et 14 (by omega), et 15 (by omega), et 16 (by omega), e10, et 17 (by omega), et 18 (by omega), et 19 (by omega)]
        exact ⟨fun i hi => by rw [et 11 (by omega)]; exact d1 i hi, d2, d3, d4, d5, d6, d7, d8, rfl, by rcases hv with rfl | rfl <;> simp, fun h => by rcases hv with rfl | rfl <;> exact absurd h (by decide), d12, d13, d14, d15, d16⟩
      · obtain ⟨n1, n2, n3, n4, n5⟩ := hN
        rw [ek 13 (by omega), ek 14 (by omega), ek 15 (by omega), ek 16 (by omega), ek 17 (by omega), ek 18 (by omega)]
        refine ⟨fun i hi => ?_, n2, by rw [ea 8 (by omega)]; exact n3, fun i hi => ?_, fun i hi => ?_⟩
        · rw [et 20 (by omega)]; exact n1 i hi
        · rw [et 21 (by omega), et 22 (by omega)]; exact n4 i hi
        · rw [et 24 (by omega), et 23 (by omega)]; exact n5 i hi
    · exact ps_fr (fun a j g1 g2 => by rw [zu_rd, if_neg (by omega)]) (fun a g1 g2 g3 => by rw [zu_rd, if_neg (by omega)]) (fun j hj => by rw [zu_rd, if_neg (by omega)]) (fun a j g1 g2 g3 => by rw [zu_rd, if_neg (by omega)]) (hP q hq)
  · exact qs_fr (fun a q j g => by rw [zu_rd, if_neg (by omega)]) (by rw [zu_rd, if_neg (by omega)]) (fun j => by unfold qe; rw [zu_rd, if_neg (by omega), zu_rd, if_neg (by omega), zu_rd, if_neg (by omega), zu_rd, if_neg (by omega)]) hQ
  · rw [zu_rd, if_neg (by omega)]
    exact hZ q g1 g2 j hj
/-- both sides halt a process -/
theorem halt_ok {p : Nat} (h : RL σ τ N u c fr to ba si ke en po r w b) (hp : p < N) : ∃ σ' τ' : zS, k_BP_halt σ p = some σ' ∧ k_GM_halt τ (nI p) = some τ' ∧ Rel σ' τ' ∧ (∀ a b i, ¬ (b = p ∧ 11 ≤ a ∧ a ≤ 22) → σ' a b i = σ a b i) ∧ (∀ i, i ≠ 28 → τ' 0 0 i = τ 0 0 i) := by
  have h4 : N ≤ 4 := h.1.2.2.2.2.2.2.2.2.1
  obtain ⟨τ1, v, e1, hf⟩ := gm_forget (s := τ) (p := p) (u := u) (by omega) h.2.2.1.2.1 h.2.2.1.1
  have h1 := rl_lose h hp hf
  have h2 := rl_st h1 hp 2 (Or.inr rfl)
  refine ⟨zu (los σ p) 11 p 16 2, zu τ1 10 0 p 2, ?_, ?_, h2.rel, fun a b i g => ?_, fun i hi => ?_⟩
  · unfold k_BP_halt
    rw [bp_lose, bn_s, lt_e]
  · unfold k_GM_halt
    rw [e1, bn_s, ck_p (zi_n (by omega) (by omega)), lt_e, nI_clamp (by omega)]
  · rw [zu_rd, if_neg (by omega), los_rd, if_neg (by omega), if_neg (by omega)]
  · rw [zu_rd, if_neg (by omega), hf.1 0 0 i (by omega) (by omega) (by omega)]
end STOP
theorem k_stop : ok1 Rel k_GK_stop k_GM_stop := fun σ τ a hR => by
  have hR' := hR
  obtain ⟨N, u, c, fr, to, ba, si, ke, en, po, r, w, b, h⟩ := RL.of hR
  have hB := h.1
  have h4 : N ≤ 4 := hB.2.2.2.2.2.2.2.2.1
  unfold k_GK_stop k_GM_stop
  rcases q_find hB.2.2.2.2.2.2.1 h4 a with ⟨e, g⟩ | ⟨p, hp, rfl, e⟩
  · rw [e, (q_there hB.2.2.2.2.2.2.2.1 a).1 g]
    exact ⟨σ, τ, 0, rfl, rfl, hR'⟩
  · rw [e, (q_there hB.2.2.2.2.2.2.2.1 (nI p)).2 p hp h4 rfl, bn_s, bn_s]
    dsimp only
    have e16 : σ 11 p 16 = τ 10 0 p := (h.2.1 p hp).2.1.2.2.2.2.2.2.2.2.1
    rw [if_neg (show ¬ (1 : Int32) = 0 by decide), ck_p (zi_n (by omega) (by omega)), nI_clamp (by omega), ← e16]
    by_cases h2 : σ 11 p 16 = 2
    · rw [if_pos h2, if_pos h2]
      exact ⟨σ, τ, 0, rfl, rfl, hR'⟩
    · rw [if_neg h2, if_neg h2]
      obtain ⟨σ', τ', e1, e2, e3, -⟩ := halt_ok h hp
      rw [e1, e2, bn_s, bn_s]
      exact ⟨σ', τ', 1, rfl, rfl, e3⟩
