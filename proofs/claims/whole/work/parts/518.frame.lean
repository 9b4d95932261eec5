/-! frames: what keeps the relation -/
theorem zu_cm {s : zS} {a b i a' b' i' : Nat} {v v' : Int32} (h : ¬ (a = a' ∧ b = b' ∧ i = i')) : zu (zu s a b i v) a' b' i' v' = zu (zu s a' b' i' v') a b i v := by
  funext x y z
  rw [zu_rd, zu_rd, zu_rd, zu_rd]
  repeat' split
  all_goals first | rfl | omega
section FRAME
variable {σ τ : zS} {N u : Nat} {c fr to ba si ke en po : Nat → Nat} {r w b : Nat → Nat → Nat}
theorem ei_yes {p i : Nat} (h : RL σ τ N u c fr to ba si ke en po r w b) (hp : p < N) (hi : i + 8 ≤ zop (si p) (gW (r p))) : k_GM_eight τ (nI p) (nI (4096 + 4 * (ba p + i))) = some (τ, 1) := by
  unfold k_GM_eight
  refine (ei_loop (v := fun _ => 1) (fun k hk => ?_) 8 FU 0 (by omega) (by unfold FU; omega)).1 (fun _ _ _ => rfl)
  rw [show (4 : Int32) * nI k = nI (4 * k) by rw [show (4 : Int32) = nI 4 from rfl, pk_mul], add4, show ba p + i + k = ba p + (i + k) by omega]
  exact io_yes h hp (by omega)
theorem ei_no {p : Nat} {a : Int32} (h : RL σ τ N u c fr to ba si ke en po r w b) (hp : p < N) (hno : ∀ i, i + 8 ≤ zop (si p) (gW (r p)) → a ≠ nI (4096 + 4 * (ba p + i))) : k_GM_eight τ (nI p) a = some (τ, 0) := by
  obtain ⟨o1, o2, o3, o4⟩ := op_le h hp
  have hv : ∀ k, ∃ x : Int32, (x = 0 ∨ x = 1) ∧ k_GM_isOpen τ (nI p) (a + (4 : Int32) * nI k) = some (τ, x) ∧ (x = 1 → ∃ i, i < zop (si p) (gW (r p)) ∧ a + (4 : Int32) * nI k = nI (4096 + 4 * (ba p + i))) := fun k => by
    by_cases hk : ∃ i, i < zop (si p) (gW (r p)) ∧ a + (4 : Int32) * nI k = nI (4096 + 4 * (ba p + i))
    · obtain ⟨i, g1, g2⟩ := hk
      exact ⟨1, Or.inr rfl, by rw [g2]; exact io_yes h hp g1, fun _ => ⟨i, g1, g2⟩⟩
    · exact ⟨0, Or.inl rfl, io_no h hp (fun i g1 g2 => hk ⟨i, g1, g2⟩), fun g => absurd g (by decide)⟩
  obtain ⟨v, hv⟩ := Classical.axiomOfChoice hv
  unfold k_GM_eight
  refine (ei_loop (v := v) (fun k _ => (hv k).2.1) 8 FU 0 (by omega) (by unfold FU; omega)).2 ?_ (fun j _ => (hv j).1)
  by_cases h0 : v 0 = 0
  · exact ⟨0, by omega, by omega, h0⟩
  by_cases h7 : v 7 = 0
  · exact ⟨7, by omega, by omega, h7⟩
  exfalso
  obtain ⟨i0, a1, a2⟩ := (hv 0).2.2 ((hv 0).1.resolve_left h0)
  obtain ⟨i7, b1, b2⟩ := (hv 7).2.2 ((hv 7).1.resolve_left h7)
  have e0 : a = nI (4096 + 4 * (ba p + i0)) := by
    rw [← a2, show (4 : Int32) * nI 0 = 0 from rfl, Int32.add_zero]
  rw [e0, show (4 : Int32) * nI 7 = nI (4 * 7) from rfl, add4] at b2
  have := (nI_eq (by omega) (by omega)).mp b2
  exact hno i0 (by omega) e0
/-- the processor's own notes don't count -/
theorem rl_scr {j : Nat} {v : Int32} (h : RL σ τ N u c fr to ba si ke en po r w b) (hj : 37 ≤ j) : RL σ (zu τ 0 0 j v) N u c fr to ba si ke en po r w b := by
  obtain ⟨hB, hP, hQ, hZ⟩ := h
  have em : ∀ a b i : Nat, ¬ (a = 0 ∧ b = 0 ∧ i = j) → zu τ 0 0 j v a b i = τ a b i := fun a b i g => by rw [zu_rd, if_neg (by omega)]
  refine ⟨?_, fun q hq => ?_, ?_, hZ⟩
  · have fm : ∀ a, a ≠ 0 → zu τ 0 0 j v a 0 = τ a 0 := fun a ha => zu_k ha
    have f0 : ∀ i, i < 37 → zu τ 0 0 j v 0 0 i = τ 0 0 i := fun i hi => em 0 0 i (by omega)
    unfold Bd at hB ⊢
    rw [fm 1 (by omega), fm 2 (by omega), fm 29 (by omega), fm 30 (by omega), f0 2 (by omega), f0 3 (by omega), f0 4 (by omega), f0 5 (by omega), f0 33 (by omega), f0 35 (by omega)]
    exact hB
  · exact ps_fr (fun a j g1 g2 => rfl) (fun a g1 g2 g3 => em a 0 q (by omega)) (fun j hj => em 11 0 _ (by omega)) (fun a j g1 g2 g3 => em a 0 _ (by omega)) (hP q hq)
  · exact qs_fr (fun a q j g => rfl) (em 0 0 28 (by omega)) (fun j => by unfold qe; rw [em 25 0 j (by omega), em 26 0 j (by omega), em 27 0 j (by omega), em 28 0 j (by omega)]) hQ
theorem rl_next {v : Int32} (h : RL σ τ N u c fr to ba si ke en po r w b) : RL (zu σ 10 0 1 v) τ N u c fr to ba si ke en po r w b := by
  obtain ⟨hB, hP, hQ, hZ⟩ := h
  have ec : ∀ a b i : Nat, a ≠ 10 → zu σ 10 0 1 v a b i = σ a b i := fun a b i g => by rw [zu_rd, if_neg (by omega)]
  refine ⟨?_, fun q hq => ?_, ?_, fun q g1 g2 j hj => ?_⟩
  · have fl : ∀ a, a ≠ 10 → zu σ 10 0 1 v a 0 = σ a 0 := fun a ha => zu_k ha
    unfold Bd at hB ⊢
    rw [fl 2 (by omega), fl 3 (by omega), fl 8 (by omega), fl 0 (by omega), fl 5 (by omega), fl 6 (by omega), fl 7 (by omega)]
    exact hB
  · exact ps_fr (fun a j g1 g2 => ec a q j (by omega)) (fun a g1 g2 g3 => rfl) (fun j hj => rfl) (fun a j g1 g2 g3 => rfl) (hP q hq)
  · exact qs_fr (fun a q j g => ec a q j (by omega)) rfl (fun j => rfl) hQ
  · rw [ec 14 q j (by omega)]
    exact hZ q g1 g2 j hj
/-- any change of a process's registers that both sides make: what the new registers must keep -/
theorem rl_dy {p : Nat} {σ2 τ2 : zS} (h : RL σ τ N u c fr to ba si ke en po r w b) (hp : p < N)
    (a1 : ∀ a b i : Nat, ¬ (b = p ∧ a = 12) → ¬ (b = p ∧ a = 11 ∧ 11 ≤ i ∧ i ≤ 19) → σ2 a b i = σ a b i)
    (b1 : ∀ a b i : Nat, ¬ (a = 11 ∧ b = 0 ∧ 8 * p ≤ i ∧ i < 8 * p + 8) → ¬ ((a = 10 ∨ (12 ≤ a ∧ a ≤ 19)) ∧ b = 0 ∧ i = p) → τ2 a b i = τ a b i) (hD2 : Dy (σ2 11 p) (σ2 12 p) τ2 p (ba p) (si p)) :
    RL σ2 τ2 N u c fr to ba si ke en po r w b := by
  obtain ⟨hB, hP, hQ, hZ⟩ := h
  have h4 : N ≤ 4 := hB.2.2.2.2.2.2.2.2.1
  refine ⟨?_, fun q hq => ?_, ?_, fun q g1 g2 j hj => ?_⟩
  · have fl : ∀ a b, a < 11 → σ2 a b = σ a b := fun a b ha => funext fun i => a1 a b i (by omega) (by omega)
    have fm : ∀ a, (a < 10 ∨ 19 < a) → τ2 a 0 = τ a 0 := fun a ha => funext fun i => b1 a 0 i (by omega) (by omega)
    unfold Bd at hB ⊢
    rw [fl 2 0 (by omega), fl 3 0 (by omega), fl 8 0 (by omega), fl 0 0 (by omega), fl 5 0 (by omega), fl 6 0 (by omega), fl 7 0 (by omega), fm 1 (by omega), fm 2 (by omega), fm 0 (by omega), fm 29 (by omega), fm 30 (by omega)]
    exact hB
  · by_cases hqp : q = p
    · subst hqp
      obtain ⟨hS, hD, hN⟩ := hP q hq
      have ea : ∀ i, ¬ (11 ≤ i ∧ i ≤ 19) → σ2 11 q i = σ 11 q i := fun i hi => a1 11 q i (by omega) (by omega)
      have ek : ∀ a, a ≠ 11 → a ≠ 12 → σ2 a q = σ a q := fun a ha hb => funext fun i => a1 a q i (by omega) (by omega)
      have et : ∀ a, (a < 10 ∨ 19 < a) → ∀ i, τ2 a 0 i = τ a 0 i := fun a ha i => b1 a 0 i (by omega) (by omega)
      refine ⟨?_, hD2, ?_⟩
      · unfold St at hS ⊢
        rw [ea 2 (by omega), ea 3 (by omega), ea 4 (by omega), ea 5 (by omega), ea 6 (by omega), ea 7 (by omega), ea 9 (by omega), et 3 (by omega), et 4 (by omega), et 5 (by omega), et 6 (by omega), et 7 (by omega), et 8 (by omega), et 9 (by omega)]
        exact hS
      · obtain ⟨n1, n2, n3, n4, n5⟩ := hN
        rw [ek 13 (by omega) (by omega), ek 14 (by omega) (by omega), ek 15 (by omega) (by omega), ek 16 (by omega) (by omega), ek 17 (by omega) (by omega), ek 18 (by omega) (by omega)]
        refine ⟨fun i hi => ?_, n2, by rw [ea 8 (by omega)]; exact n3, fun i hi => ?_, fun i hi => ?_⟩
        · rw [et 20 (by omega)]; exact n1 i hi
        · rw [et 21 (by omega), et 22 (by omega)]; exact n4 i hi
        · rw [et 24 (by omega), et 23 (by omega)]; exact n5 i hi
    · exact ps_fr (fun a j g1 g2 => a1 a q j (by omega) (by omega)) (fun a g1 g2 g3 => b1 a 0 q (by omega) (by omega)) (fun j hj => b1 11 0 _ (by omega) (by omega)) (fun a j g1 g2 g3 => b1 a 0 _ (by omega) (by omega)) (hP q hq)
  · exact qs_fr (fun a q j g => a1 a q j (by omega) (by omega)) (b1 0 0 28 (by omega) (by omega)) (fun j => by unfold qe; rw [b1 25 0 j (by omega) (by omega), b1 26 0 j (by omega) (by omega), b1 27 0 j (by omega) (by omega), b1 28 0 j (by omega) (by omega)]) hQ
  · rw [a1 14 q j (by omega) (by omega)]
    exact hZ q g1 g2 j hj
end FRAME
