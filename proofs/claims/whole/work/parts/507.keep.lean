/-! the relation with its numbers, and what keeps it -/
def RL (σ τ : zS) (N u : Nat) (c fr to ba si ke en po : Nat → Nat) (r w b : Nat → Nat → Nat) : Prop := Bd σ τ N ∧ (∀ p, p < N → Ps σ τ p (fr p) (to p) (ba p) (si p) (ke p) (en p) (po p) (r p) (w p) (b p)) ∧ Qs σ τ N u c ∧ ∀ p, N ≤ p → p < 4 → ∀ i, i < 3 → σ 14 p i = 0
theorem RL.rel {σ τ : zS} {N u : Nat} {c fr to ba si ke en po : Nat → Nat} {r w b : Nat → Nat → Nat} (h : RL σ τ N u c fr to ba si ke en po r w b) : Rel σ τ := ⟨N, u, c, fr, to, ba, si, ke, en, po, r, w, b, h⟩
theorem RL.of {σ τ : zS} (h : Rel σ τ) : ∃ (N u : Nat) (c fr to ba si ke en po : Nat → Nat) (r w b : Nat → Nat → Nat), RL σ τ N u c fr to ba si ke en po r w b := h
section KEEP
variable {σ τ : zS} {N u : Nat} {c fr to ba si ke en po : Nat → Nat} {r w b : Nat → Nat → Nat}
/-- the queues, where neither they nor the functions change -/
theorem qs_fr {σ' τ' : zS} (h1 : ∀ a q i, (a = 15 ∨ (19 ≤ a ∧ a ≤ 22)) → σ' a q i = σ a q i) (h2 : τ' 0 0 28 = τ 0 0 28) (h3 : ∀ i, qe τ' i = qe τ i) (h : Qs σ τ N u c) : Qs σ' τ' N u c := by
  have e : ∀ a q, (a = 15 ∨ (19 ≤ a ∧ a ≤ 22)) → σ' a q = σ a q := fun a q g => funext fun i => h1 a q i g
  have eq : qM τ' u = qM τ u := List.map_congr_left (fun i _ => h3 i)
  obtain ⟨q1, q2, q3, q4⟩ := h
  refine ⟨h2.trans q1, q2, fun p hp => ?_, ?_⟩
  · rw [e 19 p (by omega), e 20 p (by omega), e 21 p (by omega), e 22 p (by omega), eq]
    exact q3 p hp
  · rw [eq]
    intro x hx
    obtain ⟨o, d, g1, g2, g3, g4, g5⟩ := q4 x hx
    exact ⟨o, d, g1, g2, g3, g4, by rw [h1 15 o d (by omega)]; exact g5⟩
theorem rl_ram (h : RL σ τ N u c fr to ba si ke en po r w b) (i : Nat) (v : Int32) : RL (zu σ 3 0 i v) (zu τ 2 0 i v) N u c fr to ba si ke en po r w b := by
  obtain ⟨hB, hP, hQ, hZ⟩ := h
  refine ⟨?_, fun p hp => ?_, ?_, fun p g1 g2 j hj => ?_⟩
  · obtain ⟨b1, b2, b3, b4⟩ := hB
    refine ⟨?_, ?_, ?_, ?_⟩
    · rw [zu_k (by decide), zu_k (by decide)]; exact b1
    · rw [zu_k (by decide)]; exact b2
    · rw [zu_s, zu_s, b3]
    · simpa only [zu_k (show 8 ≠ 3 by decide), zu_k (show 0 ≠ 2 by decide), zu_k (show 0 ≠ 3 by decide), zu_k (show 5 ≠ 3 by decide), zu_k (show 6 ≠ 3 by decide), zu_k (show 29 ≠ 2 by decide), zu_k (show 7 ≠ 3 by decide), zu_k (show 30 ≠ 2 by decide)] using b4
  · exact ps_fr (fun a j g1 g2 => by rw [zu_rd, if_neg (by omega)]) (fun a g1 g2 g3 => by rw [zu_rd, if_neg (by omega)]) (fun j hj => by rw [zu_rd, if_neg (by omega)]) (fun a j g1 g2 g3 => by rw [zu_rd, if_neg (by omega)]) (hP p hp)
  · exact qs_fr (fun a q j g => by rw [zu_rd, if_neg (by omega)]) (by rw [zu_rd, if_neg (by omega)]) (fun j => by unfold qe; rw [zu_rd, if_neg (by omega), zu_rd, if_neg (by omega), zu_rd, if_neg (by omega), zu_rd, if_neg (by omega)]) hQ
  · rw [zu_rd, if_neg (by omega)]
    exact hZ p g1 g2 j hj
theorem qF_nil {l : List (Int32 × Int32 × Int32 × Int32)} {p : Nat} (h : ∀ e ∈ l, ¬ e.1 = nI p) : qF l p = [] := by
  unfold qF
  rw [List.filterMap_eq_nil_iff]
  intro e he
  rw [if_neg (h e he)]
theorem qF_keep {l : List (Int32 × Int32 × Int32 × Int32)} {P : Int32 × Int32 × Int32 × Int32 → Bool} {q : Nat} (h : ∀ e ∈ l, e.1 = nI q → P e = true) : qF (l.filter P) q = qF l q := by
  induction l with
  | nil => rfl
  | cons e l ih =>
    have ih := ih (fun x hx => h x (List.mem_cons_of_mem _ hx))
    by_cases hp : P e = true
    · rw [List.filter_cons_of_pos hp, qF_cons, qF_cons, ih]
    · rw [List.filter_cons_of_neg hp, qF_cons, if_neg (fun g => hp (h e List.mem_cons_self g)), ih]
theorem zop_0 {si : Nat} (h : si = 16 ∨ si = 32 ∨ si = 64) : zop si 0 = si := by
  obtain rfl | rfl | rfl := h <;> rfl
theorem rl_lose {p v : Nat} {τ' : zS} (h : RL σ τ N u c fr to ba si ke en po r w b) (hp : p < N) (hf : fgt τ τ' p u v) : RL (los σ p) τ' N v (fun q => if q = p then 0 else c q) fr to ba si ke en po (fun q => if q = p then fun _ => 0 else r q) (fun q => if q = p then fun _ => 0 else w q) b := by
  obtain ⟨hB, hP, hQ, hZ⟩ := h
  obtain ⟨f1, f2, f3, f4, f5⟩ := hf
  have h4 : N ≤ 4 := hB.2.2.2.2.2.2.2.2.1
  have kin : ∀ e ∈ qM τ' v, e ∈ qM τ u ∧ ¬ e.1 = nI p := by
    intro e he
    rw [f5] at he
    obtain ⟨he, k2⟩ := List.mem_filter.mp he
    obtain ⟨he, k1⟩ := List.mem_filter.mp he
    obtain ⟨he, k0⟩ := List.mem_filter.mp he
    refine ⟨he, fun g => ?_⟩
    obtain ⟨o, d, g1, g2, g3, g4, g5⟩ := hQ.2.2.2 e he
    obtain rfl | rfl | rfl : d = 0 ∨ d = 1 ∨ d = 2 := by omega
    · simp [kp, g, g4] at k0
    · simp [kp, g, g4] at k1
    · simp [kp, g, g4] at k2
  refine ⟨?_, fun q hq => ?_, ⟨f3, by have := hQ.2.1; omega, fun q hq => ?_, fun e he => ?_⟩, fun q g1 g2 i hi => ?_⟩
  · have fl : ∀ a b, (a < 11) → los σ p a b = σ a b := fun a b ha => funext fun i => by rw [los_rd, if_neg (by omega), if_neg (by omega)]
    have fm : ∀ a, (a = 1 ∨ a = 2 ∨ a = 29 ∨ a = 30) → τ' a 0 = τ a 0 := fun a ha => funext fun i => f1 a 0 i (by omega) (by omega) (by omega)
    have f0 : ∀ i, i ≠ 28 → τ' 0 0 i = τ 0 0 i := fun i hi => f1 0 0 i (by omega) (by omega) (by omega)
    unfold Bd at hB ⊢
    rw [fl 2 0 (by omega), fl 3 0 (by omega), fl 8 0 (by omega), fl 0 0 (by omega), fl 5 0 (by omega), fl 6 0 (by omega), fl 7 0 (by omega), fm 1 (by omega), fm 2 (by omega), fm 29 (by omega), fm 30 (by omega), f0 2 (by omega), f0 3 (by omega), f0 4 (by omega), f0 5 (by omega), f0 33 (by omega), f0 35 (by omega)]
    exact hB
  · by_cases hqp : q = p
    · subst hqp
      simp only [if_pos]
      obtain ⟨hS, hD, hN⟩ := hP q hq
      have hsi := hS.2.2.2.2.2.2.2.2.2.2.2.2.2.2.2.2.1
      have ea : ∀ i, i ≠ 8 → los σ q 11 q i = σ 11 q i := fun i hi => by rw [los_rd, if_neg (by omega), if_neg (by omega)]
      have el : los σ q 12 q = σ 12 q := funext fun i => by rw [los_rd, if_neg (by omega), if_neg (by omega)]
      have et : ∀ a, 3 ≤ a → a ≤ 19 → ∀ i, τ' a 0 i = τ a 0 i := fun a g1 g2 i => f1 a 0 i (by omega) (by omega) (by omega)
      refine ⟨?_, ?_, ?_⟩
      · unfold St at hS ⊢
        rw [ea 2 (by omega), ea 3 (by omega), ea 4 (by omega), ea 5 (by omega), ea 6 (by omega), ea 7 (by omega), ea 9 (by omega), et 3 (by omega) (by omega), et 4 (by omega) (by omega), et 5 (by omega) (by omega), et 6 (by omega) (by omega), et 7 (by omega) (by omega), et 8 (by omega) (by omega), et 9 (by omega) (by omega)]
        exact hS
      · unfold Dy at hD ⊢
        rw [el, ea 11 (by omega), ea 12 (by omega), ea 13 (by omega), ea 14 (by omega), ea 15 (by omega), ea 16 (by omega), ea 17 (by omega), ea 18 (by omega), ea 19 (by omega), et 12 (by omega) (by omega), et 13 (by omega) (by omega), et 14 (by omega) (by omega), et 15 (by omega) (by omega), et 16 (by omega) (by omega), et 10 (by omega) (by omega), et 17 (by omega) (by omega), et 18 (by omega) (by omega), et 19 (by omega) (by omega)]
        exact ⟨fun i hi => by rw [et 11 (by omega) (by omega)]; exact hD.1 i hi, hD.2⟩
      · have g0 : gW (fun _ => 0) = 0 := rfl
        refine ⟨fun i hi => ⟨Nat.zero_le _, Nat.zero_le _, ?_, ?_⟩, ?_, ?_, fun i hi => ⟨?_, fun hne => absurd ?_ hne⟩, fun i hi => ⟨?_, ?_, fun h => absurd h (Nat.lt_irrefl 0)⟩⟩
        · rw [f2 20 i (by omega) hi]; rfl
        · rw [los_rd, if_neg (by omega), if_pos (by omega), if_pos rfl]
        · rw [g0, los_rd, if_neg (by omega), if_pos (by omega)]; rfl
        · rw [g0, zop_0 hsi, los_rd, if_pos (by omega)]; exact hS.2.2.2.2.1
        · rw [f2 21 i (by omega) hi, los_rd, if_neg (by omega), if_pos (by omega)]
        · rw [los_rd, if_neg (by omega), if_pos (by omega)]
        · rw [los_rd, if_neg (by omega), if_pos (by omega)]; rfl
        · rw [f2 24 i (by omega) hi]; rfl
    · simp only [if_neg hqp]
      exact ps_fr (fun a j g1 g2 => by rw [los_rd, if_neg (by omega), if_neg (by omega)]) (fun a g1 g2 g3 => f1 a 0 q (by omega) (by omega) (by omega)) (fun j hj => f1 11 0 _ (by omega) (by omega) (by omega)) (fun a j g1 g2 g3 => f1 a 0 _ (by omega) (by omega) (by omega)) (hP q hq)
  · by_cases hqp : q = p
    · subst hqp
      simp only [if_pos]
      refine ⟨by rw [los_rd, if_neg (by omega), if_pos (by omega)]; rfl, by omega, ?_⟩
      rw [qF_nil (fun e he => (kin e he).2)]
      rfl
    · simp only [if_neg hqp]
      have e : ∀ a, 19 ≤ a → los σ p a q = σ a q := fun a ha => funext fun i => by rw [los_rd, if_neg (by omega), if_neg (by omega)]
      rw [e 19 (by omega), e 20 (by omega), e 21 (by omega), e 22 (by omega), f5]
      have kk : ∀ (d : Nat) (x : Int32 × Int32 × Int32 × Int32), x.1 = nI q → kp p d x = true := fun d x hx => by
        have hne : ¬ nI q = nI p := fun g => hqp ((nI_eq (by omega) (by omega)).mp g)
        simp [kp, hx, hne]
      rw [qF_keep (fun x _ hx => kk 2 x hx), qF_keep (fun x _ hx => kk 1 x hx), qF_keep (fun x _ hx => kk 0 x hx)]
      exact hQ.2.2.1 q hq
  · obtain ⟨he, hne⟩ := kin e he
    obtain ⟨o, d, g1, g2, g3, g4, g5⟩ := hQ.2.2.2 e he
    have hop : o ≠ p := fun g => hne (by rw [g3, g])
    exact ⟨o, d, g1, g2, g3, g4, by rw [los_rd, if_neg (by omega), if_neg (by omega)]; exact g5⟩
  · rw [los_rd, if_neg (by omega), if_neg (by omega)]
    exact hZ q g1 g2 i hi
end KEEP
