/-! an upcall, on both sides -/
theorem qF_app (l : List (Int32 × Int32 × Int32 × Int32)) (e : Int32 × Int32 × Int32 × Int32) (q : Nat) : qF (l ++ [e]) q = qF l q ++ (if e.1 = nI q then [e.2] else []) := by
  induction l with
  | nil => show qF [e] q = _; rw [qF_cons]; rfl
  | cons a l ih =>
    rw [List.cons_append, qF_cons, qF_cons, ih]
    split <;> rfl
theorem qlen (l : List (Int32 × Int32 × Int32 × Int32)) (h : ∀ e ∈ l, ∃ o : Nat, o < 4 ∧ e.1 = nI o) : l.length = (qF l 0).length + (qF l 1).length + (qF l 2).length + (qF l 3).length := by
  induction l with
  | nil => rfl
  | cons e l ih =>
    have ih := ih (fun x hx => h x (List.mem_cons_of_mem _ hx))
    obtain ⟨o, ho, he⟩ := h e List.mem_cons_self
    rw [qF_cons, qF_cons, qF_cons, qF_cons, he]
    obtain rfl | rfl | rfl | rfl : o = 0 ∨ o = 1 ∨ o = 2 ∨ o = 3 := by omega
    · rw [if_pos rfl, if_neg (by decide), if_neg (by decide), if_neg (by decide)]; simp only [List.length_cons]; omega
    · rw [if_neg (by decide), if_pos rfl, if_neg (by decide), if_neg (by decide)]; simp only [List.length_cons]; omega
    · rw [if_neg (by decide), if_neg (by decide), if_pos rfl, if_neg (by decide)]; simp only [List.length_cons]; omega
    · rw [if_neg (by decide), if_neg (by decide), if_neg (by decide), if_pos rfl]; simp only [List.length_cons]; omega
theorem add4 {q k : Nat} : nI (4096 + 4 * q) + nI (4 * k) = nI (4096 + 4 * (q + k)) := by rw [nI_add]; congr 1; omega
section UPCALL
variable {σ τ : zS} {N u : Nat} {c fr to ba si ke en po : Nat → Nat} {r w b : Nat → Nat → Nat}
theorem q_room {p : Nat} (h : RL σ τ N u c fr to ba si ke en po r w b) (hp : p < N) (hc : c p < 4) : u < 16 := by
  obtain ⟨hB, -, ⟨q1, q2, q3, q4⟩, -⟩ := h
  have h4 : N ≤ 4 := hB.2.2.2.2.2.2.2.2.1
  have hl := qlen (qM τ u) (fun e he => by
    obtain ⟨o, d, g1, -, g3, -⟩ := q4 e he
    exact ⟨o, by omega, g3⟩)
  rw [qM_len] at hl
  have hq : ∀ q, (q < N → (qF (qM τ u) q).length = c q ∧ c q ≤ 4) ∧ (N ≤ q → q < 4 → (qF (qM τ u) q).length = 0) := by
    intro q
    refine ⟨fun hq => ?_, fun hq h3 => ?_⟩
    · obtain ⟨-, g2, g3⟩ := q3 q hq
      rw [← g3]
      exact ⟨by simp [qC], g2⟩
    · rw [qF_nil (fun e he g => ?_)]
      · rfl
      · obtain ⟨o, d, g1, -, g3, -⟩ := q4 e he
        rw [g3] at g
        have := (nI_eq (by omega) (by omega)).mp g
        omega
  have le4 : ∀ q, q < 4 → (qF (qM τ u) q).length ≤ 4 := fun q h3 => by
    by_cases hN : q < N
    · have := (hq q).1 hN
      omega
    · have := (hq q).2 (by omega) h3
      omega
  have lp := ((hq p).1 hp).1
  have a0 := le4 0 (by omega)
  have a1 := le4 1 (by omega)
  have a2 := le4 2 (by omega)
  have a3 := le4 3 (by omega)
  obtain rfl | rfl | rfl | rfl : p = 0 ∨ p = 1 ∨ p = 2 ∨ p = 3 := by omega
  all_goals omega
/-- an entry more, on both sides -/
theorem rl_enq {p d : Nat} {x y : Int32} (h : RL σ τ N u c fr to ba si ke en po r w b) (hp : p < N) (hd : d < 3) (hc : c p < 4) (hf : σ 15 p d ≠ 0) : RL (zu (zu (zu (zu σ 20 p (c p) (nI d)) 21 p (c p) x) 22 p (c p) y) 19 p 3 (nI (c p + 1))) (zu (zu (zu (zu (zu τ 25 0 u (nI p)) 26 0 u (nI d)) 27 0 u x) 28 0 u y) 0 0 28 (nI (u + 1))) N (u + 1) (fun q => if q = p then c p + 1 else c q) fr to ba si ke en po r w b := by
  have h16 := q_room h hp hc
  obtain ⟨hB, hP, ⟨q1, q2, q3, q4⟩, hZ⟩ := h
  have h4 : N ≤ 4 := hB.2.2.2.2.2.2.2.2.1
  have ec : ∀ a b i : Nat, ¬ (19 ≤ a ∧ a ≤ 22 ∧ b = p) → zu (zu (zu (zu σ 20 p (c p) (nI d)) 21 p (c p) x) 22 p (c p) y) 19 p 3 (nI (c p + 1)) a b i = σ a b i := fun a b i g => by
    rw [zu_rd, if_neg (by omega), zu_rd, if_neg (by omega), zu_rd, if_neg (by omega), zu_rd, if_neg (by omega)]
  have em : ∀ a b i : Nat, ¬ (25 ≤ a ∧ a ≤ 28 ∧ b = 0) → ¬ (a = 0 ∧ b = 0 ∧ i = 28) → zu (zu (zu (zu (zu τ 25 0 u (nI p)) 26 0 u (nI d)) 27 0 u x) 28 0 u y) 0 0 28 (nI (u + 1)) a b i = τ a b i := fun a b i g g' => by
    rw [zu_rd, if_neg (by omega), zu_rd, if_neg (by omega), zu_rd, if_neg (by omega), zu_rd, if_neg (by omega), zu_rd, if_neg (by omega)]
  have hqM : qM (zu (zu (zu (zu (zu τ 25 0 u (nI p)) 26 0 u (nI d)) 27 0 u x) 28 0 u y) 0 0 28 (nI (u + 1))) (u + 1) = qM τ u ++ [(nI p, nI d, x, y)] := by
    unfold qM
    rw [List.range_succ, List.map_append]
    congr 1
    · refine List.map_congr_left (fun i hi => ?_)
      have := List.mem_range.mp hi
      have hne : i ≠ u := by omega
      simp [zu_rd, hne]
    · simp [zu_rd]
  refine ⟨?_, fun q hq => ?_, ⟨by rw [zu_rd, if_pos (by omega)], by omega, fun q hq => ?_, fun e he => ?_⟩, fun q g1 g2 j hj => ?_⟩
  · unfold Bd at hB ⊢
    have fl : ∀ a, a < 11 → zu (zu (zu (zu σ 20 p (c p) (nI d)) 21 p (c p) x) 22 p (c p) y) 19 p 3 (nI (c p + 1)) a 0 = σ a 0 := fun a ha => funext fun i => ec a 0 i (by omega)
    have fm : ∀ a, (a = 1 ∨ a = 2 ∨ a = 29 ∨ a = 30) → zu (zu (zu (zu (zu τ 25 0 u (nI p)) 26 0 u (nI d)) 27 0 u x) 28 0 u y) 0 0 28 (nI (u + 1)) a 0 = τ a 0 := fun a ha => funext fun i => em a 0 i (by omega) (by omega)
    have f0 : ∀ i, i ≠ 28 → zu (zu (zu (zu (zu τ 25 0 u (nI p)) 26 0 u (nI d)) 27 0 u x) 28 0 u y) 0 0 28 (nI (u + 1)) 0 0 i = τ 0 0 i := fun i hi => em 0 0 i (by omega) (by omega)
    rw [fl 2 (by omega), fl 3 (by omega), fl 8 (by omega), fl 0 (by omega), fl 5 (by omega), fl 6 (by omega), fl 7 (by omega), fm 1 (by omega), fm 2 (by omega), fm 29 (by omega), fm 30 (by omega), f0 2 (by omega), f0 3 (by omega), f0 4 (by omega), f0 5 (by omega), f0 33 (by omega), f0 35 (by omega)]
    exact hB
  · exact ps_fr (fun a j g1 g2 => ec a q j (by omega)) (fun a g1 g2 g3 => em a 0 q (by omega) (by omega)) (fun j hj => em 11 0 _ (by omega) (by omega)) (fun a j g1 g2 g3 => em a 0 _ (by omega) (by omega)) (hP q hq)
  · rw [hqM, qF_app]
    by_cases hqp : q = p
    · subst hqp
      simp only [if_pos]
      obtain ⟨g1, g2, g3⟩ := q3 q hq
      refine ⟨by rw [zu_rd, if_pos (by omega)], by omega, ?_⟩
      rw [← g3]
      unfold qC
      rw [List.range_succ, List.map_append]
      congr 1
      · refine List.map_congr_left (fun i hi => ?_)
        have := List.mem_range.mp hi
        have hne : i ≠ c q := by omega
        simp [zu_rd, hne]
      · simp [zu_rd]
    · have hne : ¬ nI p = nI q := fun g => hqp ((nI_eq (by omega) (by omega)).mp g).symm
      simp only [if_neg hqp, if_neg hne, List.append_nil]
      have e : ∀ a, zu (zu (zu (zu σ 20 p (c p) (nI d)) 21 p (c p) x) 22 p (c p) y) 19 p 3 (nI (c p + 1)) a q = σ a q := fun a => funext fun i => ec a q i (by omega)
      rw [e 19, e 20, e 21, e 22]
      exact q3 q hq
  · rw [hqM] at he
    rcases List.mem_append.mp he with he | he
    · obtain ⟨o, d', g1, g2, g3, g4, g5⟩ := q4 e he
      exact ⟨o, d', g1, g2, g3, g4, by rw [ec 15 o d' (by omega)]; exact g5⟩
    · have := List.mem_singleton.mp he
      subst this
      exact ⟨p, d, hp, hd, rfl, rfl, by rw [ec 15 p d (by omega)]; exact hf⟩
  · rw [ec 14 q j (by omega)]
    exact hZ q g1 g2 j hj
end UPCALL
