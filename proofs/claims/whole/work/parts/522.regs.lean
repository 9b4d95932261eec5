/-! single registers, both sides -/
section REGS
variable {σ τ : zS} {N u : Nat} {c fr to ba si ke en po : Nat → Nat} {r w b : Nat → Nat → Nat}
theorem rl_sp {p : Nat} {v : Int32} (h : RL σ τ N u c fr to ba si ke en po r w b) (hp : p < N) (h15 : σ 11 p 15 = 0) (hv : v.toInt % 4 = 0) : RL (zu σ 11 p 11 v) (zu τ 12 0 p v) N u c fr to ba si ke en po r w b := by
  obtain ⟨d1, d2, d3, d4, d5, d6, d7, d8, d9, d10, d11, d12, d13, d14, d15, d16⟩ := (h.2.1 p hp).2.1
  refine rl_dy h hp (fun a b j g1 g2 => by rw [zu_rd, if_neg (by omega)]) (fun a b j g1 g2 => by rw [zu_rd, if_neg (by omega)]) ?_
  have ea : ∀ j, j ≠ 11 → zu σ 11 p 11 v 11 p j = σ 11 p j := fun j g => by rw [zu_rd, if_neg (by omega)]
  have e11 : zu σ 11 p 11 v 11 p 11 = v := by rw [zu_rd, if_pos (by omega)]
  have el : ∀ j, zu σ 11 p 11 v 12 p j = σ 12 p j := fun j => by rw [zu_rd, if_neg (by omega)]
  have et : ∀ a j, a ≠ 12 → zu τ 12 0 p v a 0 j = τ a 0 j := fun a j g => by rw [zu_rd, if_neg (by omega)]
  have em : zu τ 12 0 p v 12 0 p = v := by rw [zu_rd, if_pos (by omega)]
  unfold Dy
  rw [e11, ea 12 (by omega), ea 13 (by omega), ea 14 (by omega), ea 15 (by omega), ea 16 (by omega), ea 17 (by omega), ea 18 (by omega), ea 19 (by omega), em, et 13 p (by omega), et 14 p (by omega), et 15 p (by omega), et 16 p (by omega), et 10 p (by omega), et 17 p (by omega), et 18 p (by omega), et 19 p (by omega)]
  exact ⟨fun j hj => by rw [el j, et 11 _ (by omega)]; exact d1 j hj, rfl, d3, d4, d5, d6, d7, d8, d9, d10, d11, fun g => absurd (h15.symm.trans g) (by decide), hv, d14, d15, d16⟩
theorem rl_lr {p : Nat} {v : Int32} (h : RL σ τ N u c fr to ba si ke en po r w b) (hp : p < N) : RL (zu σ 11 p 12 v) (zu τ 13 0 p v) N u c fr to ba si ke en po r w b := by
  obtain ⟨d1, d2, d3, d4, d5, d6, d7, d8, d9, d10, d11, d12, d13, d14, d15, d16⟩ := (h.2.1 p hp).2.1
  refine rl_dy h hp (fun a b j g1 g2 => by rw [zu_rd, if_neg (by omega)]) (fun a b j g1 g2 => by rw [zu_rd, if_neg (by omega)]) ?_
  have ea : ∀ j, j ≠ 12 → zu σ 11 p 12 v 11 p j = σ 11 p j := fun j g => by rw [zu_rd, if_neg (by omega)]
  have e12 : zu σ 11 p 12 v 11 p 12 = v := by rw [zu_rd, if_pos (by omega)]
  have el : ∀ j, zu σ 11 p 12 v 12 p j = σ 12 p j := fun j => by rw [zu_rd, if_neg (by omega)]
  have et : ∀ a j, a ≠ 13 → zu τ 13 0 p v a 0 j = τ a 0 j := fun a j g => by rw [zu_rd, if_neg (by omega)]
  have em : zu τ 13 0 p v 13 0 p = v := by rw [zu_rd, if_pos (by omega)]
  unfold Dy
  rw [ea 11 (by omega), e12, ea 13 (by omega), ea 14 (by omega), ea 15 (by omega), ea 16 (by omega), ea 17 (by omega), ea 18 (by omega), ea 19 (by omega), et 12 p (by omega), em, et 14 p (by omega), et 15 p (by omega), et 16 p (by omega), et 10 p (by omega), et 17 p (by omega), et 18 p (by omega), et 19 p (by omega)]
  exact ⟨fun j hj => by rw [el j, et 11 _ (by omega)]; exact d1 j hj, d2, rfl, d4, d5, d6, d7, d8, d9, d10, d11, d12, d13, d14, d15, d16⟩
theorem rl_pc {p : Nat} {v : Int32} (h : RL σ τ N u c fr to ba si ke en po r w b) (hp : p < N) : RL (zu σ 11 p 13 v) (zu τ 14 0 p v) N u c fr to ba si ke en po r w b := by
  obtain ⟨d1, d2, d3, d4, d5, d6, d7, d8, d9, d10, d11, d12, d13, d14, d15, d16⟩ := (h.2.1 p hp).2.1
  refine rl_dy h hp (fun a b j g1 g2 => by rw [zu_rd, if_neg (by omega)]) (fun a b j g1 g2 => by rw [zu_rd, if_neg (by omega)]) ?_
  have ea : ∀ j, j ≠ 13 → zu σ 11 p 13 v 11 p j = σ 11 p j := fun j g => by rw [zu_rd, if_neg (by omega)]
  have e13 : zu σ 11 p 13 v 11 p 13 = v := by rw [zu_rd, if_pos (by omega)]
  have el : ∀ j, zu σ 11 p 13 v 12 p j = σ 12 p j := fun j => by rw [zu_rd, if_neg (by omega)]
  have et : ∀ a j, a ≠ 14 → zu τ 14 0 p v a 0 j = τ a 0 j := fun a j g => by rw [zu_rd, if_neg (by omega)]
  have em : zu τ 14 0 p v 14 0 p = v := by rw [zu_rd, if_pos (by omega)]
  unfold Dy
  rw [ea 11 (by omega), ea 12 (by omega), e13, ea 14 (by omega), ea 15 (by omega), ea 16 (by omega), ea 17 (by omega), ea 18 (by omega), ea 19 (by omega), et 12 p (by omega), et 13 p (by omega), em, et 15 p (by omega), et 16 p (by omega), et 10 p (by omega), et 17 p (by omega), et 18 p (by omega), et 19 p (by omega)]
  exact ⟨fun j hj => by rw [el j, et 11 _ (by omega)]; exact d1 j hj, d2, d3, fun _ => rfl, d5, d6, d7, d8, d9, d10, d11, d12, d13, d14, d15, d16⟩
theorem rl_fl {p : Nat} {v : Int32} (h : RL σ τ N u c fr to ba si ke en po r w b) (hp : p < N) (hv : ∃ f, f < 16 ∧ v = nI f) : RL (zu σ 11 p 14 v) (zu τ 15 0 p v) N u c fr to ba si ke en po r w b := by
  obtain ⟨d1, d2, d3, d4, d5, d6, d7, d8, d9, d10, d11, d12, d13, d14, d15, d16⟩ := (h.2.1 p hp).2.1
  refine rl_dy h hp (fun a b j g1 g2 => by rw [zu_rd, if_neg (by omega)]) (fun a b j g1 g2 => by rw [zu_rd, if_neg (by omega)]) ?_
  have ea : ∀ j, j ≠ 14 → zu σ 11 p 14 v 11 p j = σ 11 p j := fun j g => by rw [zu_rd, if_neg (by omega)]
  have e14 : zu σ 11 p 14 v 11 p 14 = v := by rw [zu_rd, if_pos (by omega)]
  have el : ∀ j, zu σ 11 p 14 v 12 p j = σ 12 p j := fun j => by rw [zu_rd, if_neg (by omega)]
  have et : ∀ a j, a ≠ 15 → zu τ 15 0 p v a 0 j = τ a 0 j := fun a j g => by rw [zu_rd, if_neg (by omega)]
  have em : zu τ 15 0 p v 15 0 p = v := by rw [zu_rd, if_pos (by omega)]
  unfold Dy
  rw [ea 11 (by omega), ea 12 (by omega), ea 13 (by omega), e14, ea 15 (by omega), ea 16 (by omega), ea 17 (by omega), ea 18 (by omega), ea 19 (by omega), et 12 p (by omega), et 13 p (by omega), et 14 p (by omega), em, et 16 p (by omega), et 10 p (by omega), et 17 p (by omega), et 18 p (by omega), et 19 p (by omega)]
  exact ⟨fun j hj => by rw [el j, et 11 _ (by omega)]; exact d1 j hj, d2, d3, d4, rfl, hv, d7, d8, d9, d10, d11, d12, d13, d14, d15, d16⟩
theorem rl_17 {p : Nat} {v : Int32} (h : RL σ τ N u c fr to ba si ke en po r w b) (hp : p < N) : RL (zu σ 11 p 17 v) (zu τ 17 0 p v) N u c fr to ba si ke en po r w b := by
  obtain ⟨d1, d2, d3, d4, d5, d6, d7, d8, d9, d10, d11, d12, d13, d14, d15, d16⟩ := (h.2.1 p hp).2.1
  refine rl_dy h hp (fun a b j g1 g2 => by rw [zu_rd, if_neg (by omega)]) (fun a b j g1 g2 => by rw [zu_rd, if_neg (by omega)]) ?_
  have ea : ∀ j, j ≠ 17 → zu σ 11 p 17 v 11 p j = σ 11 p j := fun j g => by rw [zu_rd, if_neg (by omega)]
  have e17 : zu σ 11 p 17 v 11 p 17 = v := by rw [zu_rd, if_pos (by omega)]
  have el : ∀ j, zu σ 11 p 17 v 12 p j = σ 12 p j := fun j => by rw [zu_rd, if_neg (by omega)]
  have et : ∀ a j, a ≠ 17 → zu τ 17 0 p v a 0 j = τ a 0 j := fun a j g => by rw [zu_rd, if_neg (by omega)]
  have em : zu τ 17 0 p v 17 0 p = v := by rw [zu_rd, if_pos (by omega)]
  unfold Dy
  rw [ea 11 (by omega), ea 12 (by omega), ea 13 (by omega), ea 14 (by omega), ea 15 (by omega), ea 16 (by omega), e17, ea 18 (by omega), ea 19 (by omega), et 12 p (by omega), et 13 p (by omega), et 14 p (by omega), et 15 p (by omega), et 16 p (by omega), et 10 p (by omega), em, et 18 p (by omega), et 19 p (by omega)]
  exact ⟨fun j hj => by rw [el j, et 11 _ (by omega)]; exact d1 j hj, d2, d3, d4, d5, d6, d7, d8, d9, d10, d11, d12, d13, rfl, d15, d16⟩
theorem rl_18 {p : Nat} {v : Int32} (h : RL σ τ N u c fr to ba si ke en po r w b) (hp : p < N) : RL (zu σ 11 p 18 v) (zu τ 18 0 p v) N u c fr to ba si ke en po r w b := by
  obtain ⟨d1, d2, d3, d4, d5, d6, d7, d8, d9, d10, d11, d12, d13, d14, d15, d16⟩ := (h.2.1 p hp).2.1
  refine rl_dy h hp (fun a b j g1 g2 => by rw [zu_rd, if_neg (by omega)]) (fun a b j g1 g2 => by rw [zu_rd, if_neg (by omega)]) ?_
  have ea : ∀ j, j ≠ 18 → zu σ 11 p 18 v 11 p j = σ 11 p j := fun j g => by rw [zu_rd, if_neg (by omega)]
  have e18 : zu σ 11 p 18 v 11 p 18 = v := by rw [zu_rd, if_pos (by omega)]
  have el : ∀ j, zu σ 11 p 18 v 12 p j = σ 12 p j := fun j => by rw [zu_rd, if_neg (by omega)]
  have et : ∀ a j, a ≠ 18 → zu τ 18 0 p v a 0 j = τ a 0 j := fun a j g => by rw [zu_rd, if_neg (by omega)]
  have em : zu τ 18 0 p v 18 0 p = v := by rw [zu_rd, if_pos (by omega)]
  unfold Dy
  rw [ea 11 (by omega), ea 12 (by omega), ea 13 (by omega), ea 14 (by omega), ea 15 (by omega), ea 16 (by omega), ea 17 (by omega), e18, ea 19 (by omega), et 12 p (by omega), et 13 p (by omega), et 14 p (by omega), et 15 p (by omega), et 16 p (by omega), et 10 p (by omega), et 17 p (by omega), em, et 19 p (by omega)]
  exact ⟨fun j hj => by rw [el j, et 11 _ (by omega)]; exact d1 j hj, d2, d3, d4, d5, d6, d7, d8, d9, d10, d11, d12, d13, d14, rfl, d16⟩
theorem rl_19 {p : Nat} {v : Int32} (h : RL σ τ N u c fr to ba si ke en po r w b) (hp : p < N) : RL (zu σ 11 p 19 v) (zu τ 19 0 p v) N u c fr to ba si ke en po r w b := by
  obtain ⟨d1, d2, d3, d4, d5, d6, d7, d8, d9, d10, d11, d12, d13, d14, d15, d16⟩ := (h.2.1 p hp).2.1
  refine rl_dy h hp (fun a b j g1 g2 => by rw [zu_rd, if_neg (by omega)]) (fun a b j g1 g2 => by rw [zu_rd, if_neg (by omega)]) ?_
  have ea : ∀ j, j ≠ 19 → zu σ 11 p 19 v 11 p j = σ 11 p j := fun j g => by rw [zu_rd, if_neg (by omega)]
  have e19 : zu σ 11 p 19 v 11 p 19 = v := by rw [zu_rd, if_pos (by omega)]
  have el : ∀ j, zu σ 11 p 19 v 12 p j = σ 12 p j := fun j => by rw [zu_rd, if_neg (by omega)]
  have et : ∀ a j, a ≠ 19 → zu τ 19 0 p v a 0 j = τ a 0 j := fun a j g => by rw [zu_rd, if_neg (by omega)]
  have em : zu τ 19 0 p v 19 0 p = v := by rw [zu_rd, if_pos (by omega)]
  unfold Dy
  rw [ea 11 (by omega), ea 12 (by omega), ea 13 (by omega), ea 14 (by omega), ea 15 (by omega), ea 16 (by omega), ea 17 (by omega), ea 18 (by omega), e19, et 12 p (by omega), et 13 p (by omega), et 14 p (by omega), et 15 p (by omega), et 16 p (by omega), et 10 p (by omega), et 17 p (by omega), et 18 p (by omega), em]
  exact ⟨fun j hj => by rw [el j, et 11 _ (by omega)]; exact d1 j hj, d2, d3, d4, d5, d6, d7, d8, d9, d10, d11, d12, d13, d14, d15, rfl⟩
theorem rl_wt {p : Nat} {v : Int32} (h : RL σ τ N u c fr to ba si ke en po r w b) (hp : p < N) (h15 : σ 11 p 15 = 1) (hv : v = 0 ∨ v = 1) : RL (zu σ 11 p 16 v) (zu τ 10 0 p v) N u c fr to ba si ke en po r w b := by
  obtain ⟨d1, d2, d3, d4, d5, d6, d7, d8, d9, d10, d11, d12, d13, d14, d15, d16⟩ := (h.2.1 p hp).2.1
  refine rl_dy h hp (fun a b j g1 g2 => by rw [zu_rd, if_neg (by omega)]) (fun a b j g1 g2 => by rw [zu_rd, if_neg (by omega)]) ?_
  have ea : ∀ j, j ≠ 16 → zu σ 11 p 16 v 11 p j = σ 11 p j := fun j g => by rw [zu_rd, if_neg (by omega)]
  have e16 : zu σ 11 p 16 v 11 p 16 = v := by rw [zu_rd, if_pos (by omega)]
  have el : ∀ j, zu σ 11 p 16 v 12 p j = σ 12 p j := fun j => by rw [zu_rd, if_neg (by omega)]
  have et : ∀ a j, a ≠ 10 → zu τ 10 0 p v a 0 j = τ a 0 j := fun a j g => by rw [zu_rd, if_neg (by omega)]
  have em : zu τ 10 0 p v 10 0 p = v := by rw [zu_rd, if_pos (by omega)]
  unfold Dy
  rw [ea 11 (by omega), ea 12 (by omega), ea 13 (by omega), ea 14 (by omega), ea 15 (by omega), e16, ea 17 (by omega), ea 18 (by omega), ea 19 (by omega), et 12 p (by omega), et 13 p (by omega), et 14 p (by omega), et 15 p (by omega), et 16 p (by omega), em, et 17 p (by omega), et 18 p (by omega), et 19 p (by omega)]
  exact ⟨fun j hj => by rw [el j, et 11 _ (by omega)]; exact d1 j hj, d2, d3, d4, d5, d6, d7, d8, rfl, hv.elim Or.inl (fun g => Or.inr (Or.inl g)), fun _ => h15, d12, d13, d14, d15, d16⟩
theorem rl_low {p i : Nat} {v : Int32} (h : RL σ τ N u c fr to ba si ke en po r w b) (hp : p < N) (hi : i < 8) : RL (zu σ 12 p i v) (zu τ 11 0 (8 * p + i) v) N u c fr to ba si ke en po r w b := by
  obtain ⟨d1, d2, d3, d4, d5, d6, d7, d8, d9, d10, d11, d12, d13, d14, d15, d16⟩ := (h.2.1 p hp).2.1
  refine rl_dy h hp (fun a b j g1 g2 => by rw [zu_rd, if_neg (by omega)]) (fun a b j g1 g2 => by rw [zu_rd, if_neg (by omega)]) ?_
  have ea : ∀ j, zu σ 12 p i v 11 p j = σ 11 p j := fun j => by rw [zu_rd, if_neg (by omega)]
  have et : ∀ a, a ≠ 11 → zu τ 11 0 (8 * p + i) v a 0 p = τ a 0 p := fun a g => by rw [zu_rd, if_neg (by omega)]
  unfold Dy
  rw [ea 11, ea 12, ea 13, ea 14, ea 15, ea 16, ea 17, ea 18, ea 19, et 12 (by omega), et 13 (by omega), et 14 (by omega), et 15 (by omega), et 16 (by omega), et 10 (by omega), et 17 (by omega), et 18 (by omega), et 19 (by omega)]
  refine ⟨fun j hj => ?_, d2, d3, d4, d5, d6, d7, d8, d9, d10, d11, d12, d13, d14, d15, d16⟩
  rw [zu_rd, zu_rd]
  by_cases e : j = i
  · rw [if_pos (by omega), if_pos (by omega)]
  · rw [if_neg (by omega), if_neg (by omega)]; exact d1 j hj
theorem rl_left {v : Int32} (h : RL σ τ N u c fr to ba si ke en po r w b) : RL (zu σ 0 0 8 v) (zu τ 0 0 4 v) N u c fr to ba si ke en po r w b := by
  obtain ⟨hB, hP, hQ, hZ⟩ := h
  have ec : ∀ a b i : Nat, ¬ (a = 0 ∧ b = 0 ∧ i = 8) → zu σ 0 0 8 v a b i = σ a b i := fun a b i g => by rw [zu_rd, if_neg (by omega)]
  have em : ∀ a b i : Nat, ¬ (a = 0 ∧ b = 0 ∧ i = 4) → zu τ 0 0 4 v a b i = τ a b i := fun a b i g => by rw [zu_rd, if_neg (by omega)]
  refine ⟨?_, fun q hq => ?_, ?_, fun q g1 g2 j hj => ?_⟩
  · obtain ⟨b1, b2, b3, b4, b5, b6, b7, b8, b9, b10, b11, b12⟩ := hB
    have fl : ∀ a, a ≠ 0 → zu σ 0 0 8 v a 0 = σ a 0 := fun a ha => zu_k ha
    have fm : ∀ a, a ≠ 0 → zu τ 0 0 4 v a 0 = τ a 0 := fun a ha => zu_k ha
    have f0 : ∀ i, i ≠ 4 → zu τ 0 0 4 v 0 0 i = τ 0 0 i := fun i hi => em 0 0 i (by omega)
    have k0 : ∀ i, i ≠ 8 → zu σ 0 0 8 v 0 0 i = σ 0 0 i := fun i hi => ec 0 0 i (by omega)
    unfold Bd
    rw [fl 2 (by omega), fl 3 (by omega), fl 8 (by omega), fl 5 (by omega), fl 6 (by omega), fl 7 (by omega), fm 1 (by omega), fm 2 (by omega), fm 29 (by omega), fm 30 (by omega), f0 2 (by omega), f0 3 (by omega), f0 5 (by omega), f0 33 (by omega), f0 35 (by omega), k0 7 (by omega), k0 6 (by omega)]
    exact ⟨b1, b2, b3, b4, b5, by rw [zu_rd, if_pos (by omega), zu_rd, if_pos (by omega)], b7, b8, b9, b10, b11, b12⟩
  · exact ps_fr (fun a j g1 g2 => ec a q j (by omega)) (fun a g1 g2 g3 => em a 0 q (by omega)) (fun j hj => em 11 0 _ (by omega)) (fun a j g1 g2 g3 => em a 0 _ (by omega)) (hP q hq)
  · exact qs_fr (fun a q j g => ec a q j (by omega)) (em 0 0 28 (by omega)) (fun j => by unfold qe; rw [em 25 0 j (by omega), em 26 0 j (by omega), em 27 0 j (by omega), em 28 0 j (by omega)]) hQ
  · rw [ec 14 q j (by omega)]
    exact hZ q g1 g2 j hj
theorem rl_turn {v : Int32} {t : Nat} (h : RL σ τ N u c fr to ba si ke en po r w b) (hv : v = nI t) (ht : t < N) : RL (zu σ 0 0 7 v) (zu τ 0 0 3 v) N u c fr to ba si ke en po r w b := by
  obtain ⟨hB, hP, hQ, hZ⟩ := h
  have ec : ∀ a b i : Nat, ¬ (a = 0 ∧ b = 0 ∧ i = 7) → zu σ 0 0 7 v a b i = σ a b i := fun a b i g => by rw [zu_rd, if_neg (by omega)]
  have em : ∀ a b i : Nat, ¬ (a = 0 ∧ b = 0 ∧ i = 3) → zu τ 0 0 3 v a b i = τ a b i := fun a b i g => by rw [zu_rd, if_neg (by omega)]
  refine ⟨?_, fun q hq => ?_, ?_, fun q g1 g2 j hj => ?_⟩
  · obtain ⟨b1, b2, b3, b4, b5, b6, b7, b8, b9, b10, b11, b12⟩ := hB
    have fl : ∀ a, a ≠ 0 → zu σ 0 0 7 v a 0 = σ a 0 := fun a ha => zu_k ha
    have fm : ∀ a, a ≠ 0 → zu τ 0 0 3 v a 0 = τ a 0 := fun a ha => zu_k ha
    have f0 : ∀ i, i ≠ 3 → zu τ 0 0 3 v 0 0 i = τ 0 0 i := fun i hi => em 0 0 i (by omega)
    have k0 : ∀ i, i ≠ 7 → zu σ 0 0 7 v 0 0 i = σ 0 0 i := fun i hi => ec 0 0 i (by omega)
    have k7 : zu σ 0 0 7 v 0 0 7 = v := by rw [zu_rd, if_pos (by omega)]
    have f3 : zu τ 0 0 3 v 0 0 3 = v := by rw [zu_rd, if_pos (by omega)]
    unfold Bd
    rw [fl 2 (by omega), fl 3 (by omega), fl 8 (by omega), fl 5 (by omega), fl 6 (by omega), fl 7 (by omega), fm 1 (by omega), fm 2 (by omega), fm 29 (by omega), fm 30 (by omega), f0 2 (by omega), f0 4 (by omega), f0 5 (by omega), f0 33 (by omega), f0 35 (by omega), k0 8 (by omega), k0 6 (by omega), k7, f3]
    exact ⟨b1, b2, b3, b4, rfl, b6, b7, b8, b9, Or.inr ⟨t, ht, hv⟩, b11, b12⟩
  · exact ps_fr (fun a j g1 g2 => ec a q j (by omega)) (fun a g1 g2 g3 => em a 0 q (by omega)) (fun j hj => em 11 0 _ (by omega)) (fun a j g1 g2 g3 => em a 0 _ (by omega)) (hP q hq)
  · exact qs_fr (fun a q j g => ec a q j (by omega)) (em 0 0 28 (by omega)) (fun j => by unfold qe; rw [em 25 0 j (by omega), em 26 0 j (by omega), em 27 0 j (by omega), em 28 0 j (by omega)]) hQ
  · rw [ec 14 q j (by omega)]
    exact hZ q g1 g2 j hj
end REGS
