/-! a step, and run -/
section RUN
variable {σ τ : zS} {N u p : Nat} {c fr to ba si ke en po : Nat → Nat} {r w b : Nat → Nat → Nat}
/-- what the class does with the number that an instruction gave -/
def goOn (a1 : Int32) (K : zS → Int32 → Int32 → Option (zS × Int32)) (l2 l3 : Int32) (p : Nat) (s4 : zS) (r5 : Int32) : Option (zS × Int32) :=
  if r5 < 256 then
    k_GK_run_77 a1 K s4 l2 l3 p r5
  else
    bn (k_GK_serve s4 p (r5 - (256 : Int32))) fun (s6, r7) =>
    k_GK_run_77 a1 K s6 l2 l3 p r7
theorem act_ok (h : RL σ τ N u c fr to ba si ke en po r w b) (hp : p < N) (h15 : σ 11 p 15 = 0) (h37 : τ 0 0 37 = 0) : ∃ (σ' τ' : zS) (x : Int32) (u' : Nat) (c' : Nat → Nat) (r' w' b' : Nat → Nat → Nat), (∀ a1 K l2 l3, (bn (k_GK_doInstruction_17 p σ) fun (s4, r5) => goOn a1 K l2 l3 p s4 r5) = k_GK_run_77 a1 K σ' l2 l3 p x) ∧ k_GM_instruction τ (nI p) = some τ' ∧ RL σ' τ' N u' c' fr to ba si ke en po r' w' b' ∧ τ' 0 0 37 = x ∧ (x = 0 ∨ ¬ x ≤ 0) := by
  rcases exec_ok h hp h15 h37 with ⟨σ', τ', x, e1, e2, e3, e4, e5⟩ | ⟨σ1, τ1, n, hn, e1, e2, hG⟩
  · refine ⟨σ', τ', x, u, c, r, w, b, fun a1 K l2 l3 => ?_, e2, e3, e4, ?_⟩
    · unfold k_GK_doInstruction_17 goOn
      rw [e1, bn_s]
      dsimp only
      rw [bn_s]
      dsimp only
      rw [if_pos (by rcases e5 with g | g | g | g | g | g <;> rw [g] <;> decide)]
    · rcases e5 with g | g | g | g | g | g
      · exact Or.inl g
      all_goals rw [g]; exact Or.inr (by decide)
  · obtain ⟨σ', τ', x, u', c', r', w', b', k1, k2, k3, k4, k5⟩ := svc_ok hG hn
    refine ⟨σ', τ', x, u', c', r', w', b', fun a1 K l2 l3 => ?_, by rw [e2, k2], k3, k4, k5⟩
    unfold k_GK_doInstruction_17 goOn
    have es : (256 : Int32) + nI n - (256 : Int32) = nI n := by rw [show (256 : Int32) = nI 256 by decide, nI_add, pk_sub (by omega), show 256 + n - 256 = n by omega]
    have eg : ¬ (256 : Int32) + nI n < 256 := by rw [show (256 : Int32) = nI 256 by decide, nI_add]; exact nI_nlt (by omega) (by omega)
    rw [e1, bn_s]
    dsimp only
    rw [bn_s]
    dsimp only
    rw [if_neg eg, es, k1, bn_s]
theorem step_ok (h : RL σ τ N u c fr to ba si ke en po r w b) (hp : p < N) (h16 : σ 11 p 16 = 0) : ∃ σ' τ' : zS, (∀ a1 K l2 l3, (bn (k_GK_doInstruction σ p) fun (s4, r5) => goOn a1 K l2 l3 p s4 r5) = K σ' (l2 + 1) (l3 + 1)) ∧ k_GM_step τ (nI p) = some τ' ∧ Rel σ' τ' := by
  have h4 : N ≤ 4 := h.1.2.2.2.2.2.2.2.2.1
  have zp : zi (nI p) 4 = true := zi_n (by omega) (by omega)
  have cp : (nI p).toNatClampNeg = p := nI_clamp (by omega)
  have h0 := rl_scr (j := 37) (v := 0) h (by omega)
  have t37 : zu τ 0 0 37 0 0 0 37 = 0 := by rw [zu_rd, if_pos (by omega)]
  have e15 : σ 11 p 15 = zu τ 0 0 37 0 16 0 p := (h0.2.1 p hp).2.1.2.2.2.2.2.2.1
  have r77 : ∀ (s s' : zS) (x : Int32), k_GK_endStep s p x = some s' → ∀ a1 K l2 l3, k_GK_run_77 a1 K s l2 l3 p x = K s' (l2 + 1) (l3 + 1) := fun s s' x e a1 K l2 l3 => by
    unfold k_GK_run_77 k_GK_run_88
    rw [e, bn_s, lt_e, lt_e]
  unfold k_GM_step k_GK_doInstruction
  rw [lt_e, ck_p zp, cp, ← e15]
  by_cases hf : σ 11 p 15 = 0
  · obtain ⟨σ1, τ1, x, u', c', r', w', b', k1, k2, k3, k4, k5⟩ := act_ok h0 hp hf t37
    obtain ⟨σ', τ', q1, q2, q3⟩ := end_ok k3 hp k4 k5
    refine ⟨σ', τ', fun a1 K l2 l3 => ?_, ?_, q3⟩
    · rw [if_pos hf, k1, r77 _ _ _ q1]
    · unfold k_GM_step_19
      rw [if_pos hf, if_pos t37, k2, bn_s, q2]
  · have h15 : σ 11 p 15 = 1 := ((h.2.1 p hp).2.1.2.2.2.2.2.2.2.1).resolve_left hf
    rcases take_ok h0 hp h15 h16 with ⟨e1, e2⟩ | ⟨σ1, τ1, e1, e2, e3, e4, e5⟩
    · have t6 : zu (zu τ 0 0 37 0) 0 0 37 6 0 0 37 = 6 := by rw [zu_rd, if_pos (by omega)]
      obtain ⟨σ', τ', q1, q2, q3⟩ := end_ok (x := 6) (rl_scr (j := 37) (v := 6) h0 (by omega)) hp t6 (Or.inr (by decide))
      refine ⟨σ', τ', fun a1 K l2 l3 => ?_, ?_, q3⟩
      · rw [if_neg hf, e1, bn_s]
        dsimp only
        rw [if_pos rfl, bn_s]
        dsimp only
        unfold goOn
        rw [if_pos (by decide), r77 _ _ _ q1]
      · unfold k_GM_step_19
        rw [if_neg hf, e2, bn_s, if_neg (show ¬ zu (zu τ 0 0 37 0) 0 0 37 6 0 0 37 = 0 by rw [t6]; decide), q2]
    · obtain ⟨σ2, τ2, x, u', c', r', w', b', k1, k2, k3, k4, k5⟩ := act_ok e3 hp e4 (e5.trans t37)
      obtain ⟨σ', τ', q1, q2, q3⟩ := end_ok k3 hp k4 k5
      refine ⟨σ', τ', fun a1 K l2 l3 => ?_, ?_, q3⟩
      · rw [if_neg hf, e1, bn_s]
        dsimp only
        rw [if_neg (show ¬ (1 : Int32) = 0 by decide), k1, r77 _ _ _ q1]
      · unfold k_GM_step_19
        rw [if_neg hf, e2, bn_s, if_pos (e5.trans t37), k2, bn_s, q2]
end RUN
theorem run_loop {n : Nat} (hn : n ≤ 400) : ∀ (m k f f' : Nat) (σ τ : zS) (l : Int32), Rel σ τ → k + m = n → m < f → m < f' → ∃ (σ' τ' : zS) (x : Int32), k_GK_run_17 (nI n) f σ l (nI k) = some (σ', x) ∧ k_GM_run_17 (nI n) f' τ l (nI k) = some (τ', x) ∧ Rel σ' τ' := by
  intro m
  induction m with
  | zero =>
    intro k f f' σ τ l hR hk hf hf'
    obtain ⟨f, rfl⟩ : ∃ g, f = g + 1 := ⟨f - 1, by omega⟩
    obtain ⟨f', rfl⟩ : ∃ g, f' = g + 1 := ⟨f' - 1, by omega⟩
    refine ⟨σ, τ, l, ?_, ?_, hR⟩
    · rw [k_GK_run_17, if_pos (nI_le (by omega) (by omega))]
    · rw [k_GM_run_17, if_pos (nI_le (by omega) (by omega))]
  | succ m ih =>
    intro k f f' σ τ l hR hk hf hf'
    obtain ⟨f, rfl⟩ : ∃ g, f = g + 1 := ⟨f - 1, by omega⟩
    obtain ⟨f', rfl⟩ : ∃ g, f' = g + 1 := ⟨f' - 1, by omega⟩
    obtain ⟨N, u, c, fr, to, ba, si, ke, en, po, r, w, b, h⟩ := RL.of hR
    have h4 : N ≤ 4 := h.1.2.2.2.2.2.2.2.2.1
    obtain ⟨σ1, τ1, u1, c1, e1, e2, h1⟩ := tick_ok h
    rw [k_GK_run_17, k_GM_run_17, if_neg (nI_ge (by omega) (by omega)), if_neg (nI_ge (by omega) (by omega)), e1, lt_e, e2, bn_s, bn_s]
    rcases give_ok h1 with ⟨g1, g2⟩ | ⟨σ2, τ2, q, hq, g1, g2, h2, g3, g4, g5⟩
    · rw [g1, g2, bn_s, bn_s]
      dsimp only
      rw [if_pos rfl, if_pos rfl]
      unfold k_GK_run_88 k_GM_run_54
      rw [lt_e, lt_e, nI_1]
      exact ih (k + 1) f f' σ1 τ1 l h1.rel (by omega) (by omega) (by omega)
    · rw [g1, g2, bn_s, bn_s]
      dsimp only
      obtain ⟨σ3, τ3, s1, s2, s3⟩ := step_ok h2 hq g5
      have cq : (nI q).toNatClampNeg = q := nI_clamp (by omega)
      rw [if_neg (show ¬ (1 : Int32) = 0 by decide), if_neg (show ¬ (1 : Int32) = 0 by decide), g3, g4, ck_p (zi_n (show q < 4 by omega) (by omega)), cq, lt_e, s2, bn_s]
      unfold k_GM_run_54
      rw [lt_e, nI_1]
      have := s1 (nI n) (k_GK_run_17 (nI n) f) l (nI k)
      unfold goOn at this
      rw [this, nI_1]
      exact ih (k + 1) f f' σ3 τ3 (l + 1) s3 (by omega) (by omega) (by omega)
theorem k_run : ok1 Rel k_GK_run k_GM_run := fun σ τ a hR => by
  unfold k_GK_run k_GM_run
  by_cases h0 : a < 0
  · rw [if_pos h0, if_pos h0]
    exact ⟨σ, τ, -1, rfl, rfl, hR⟩
  · rw [if_neg h0, if_neg h0]
    by_cases h1 : a ≤ 400
    · rw [if_pos h1, if_pos h1]
      obtain ⟨n, hn, rfl⟩ := nI_of2 (M := 400) (n := 400) (by decide) h0 h1
      exact run_loop hn n 0 FU FU σ τ 0 hR (by omega) (by unfold FU; omega) (by unfold FU; omega)
    · rw [if_neg h1, if_neg h1]
      exact ⟨σ, τ, -1, rfl, rfl, hR⟩
