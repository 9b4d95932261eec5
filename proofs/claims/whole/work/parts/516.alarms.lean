/-! a tick begins -/
section ALARM
variable {N : Nat} {fr to ba si ke en po : Nat → Nat} {r w b : Nat → Nat → Nat}
theorem rl_now {σ τ : zS} {u : Nat} {c : Nat → Nat} (v : Int32) (h : RL σ τ N u c fr to ba si ke en po r w b) : RL (zu σ 8 0 3 v) (zu τ 0 0 2 v) N u c fr to ba si ke en po r w b := by
  obtain ⟨hB, hP, hQ, hZ⟩ := h
  have ec : ∀ a b i : Nat, a ≠ 8 → zu σ 8 0 3 v a b i = σ a b i := fun a b i g => by rw [zu_rd, if_neg (by omega)]
  have em : ∀ a b i : Nat, ¬ (a = 0 ∧ b = 0 ∧ i = 2) → zu τ 0 0 2 v a b i = τ a b i := fun a b i g => by rw [zu_rd, if_neg (by omega)]
  refine ⟨?_, fun q hq => ?_, ?_, fun q g1 g2 j hj => ?_⟩
  · obtain ⟨b1, b2, b3, b4, b5⟩ := hB
    have fl : ∀ a, a ≠ 8 → zu σ 8 0 3 v a 0 = σ a 0 := fun a ha => zu_k ha
    have fm : ∀ a, a ≠ 0 → zu τ 0 0 2 v a 0 = τ a 0 := fun a ha => zu_k ha
    have f0 : ∀ i, i ≠ 2 → zu τ 0 0 2 v 0 0 i = τ 0 0 i := fun i hi => em 0 0 i (by omega)
    unfold Bd
    rw [fl 2 (by omega), fl 3 (by omega), fl 0 (by omega), fl 5 (by omega), fl 6 (by omega), fl 7 (by omega), fm 1 (by omega), fm 2 (by omega), fm 29 (by omega), fm 30 (by omega), f0 3 (by omega), f0 4 (by omega), f0 5 (by omega), f0 33 (by omega), f0 35 (by omega)]
    exact ⟨b1, b2, b3, by rw [zu_rd, if_pos (by omega), zu_rd, if_pos (by omega)], b5⟩
  · exact ps_fr (fun a j g1 g2 => ec a q j (by omega)) (fun a g1 g2 g3 => em a 0 q (by omega)) (fun j hj => em 11 0 _ (by omega)) (fun a j g1 g2 g3 => em a 0 _ (by omega)) (hP q hq)
  · exact qs_fr (fun a q j g => ec a q j (by omega)) (em 0 0 28 (by omega)) (fun j => by unfold qe; rw [em 25 0 j (by omega), em 26 0 j (by omega), em 27 0 j (by omega), em 28 0 j (by omega)]) hQ
  · rw [ec 14 q j (by omega)]
    exact hZ q g1 g2 j hj
theorem tick_tail {σ : zS} (hZ : ∀ p, N ≤ p → p < 4 → ∀ i, i < 3 → σ 14 p i = 0) : ∀ (m k f : Nat), N ≤ k → k + m = 4 → m < f → k_Ke_beginTick_12 f σ (nI k) = some σ := by
  intro m
  induction m with
  | zero =>
    intro k f hk h4 hf
    obtain ⟨f, rfl⟩ : ∃ f', f = f' + 1 := ⟨f - 1, by omega⟩
    rw [k_Ke_beginTick_12, if_pos (show (4 : Int32) ≤ nI k from nI_le (a := 4) (by omega) (by omega))]
  | succ m ih =>
    intro k f hk h4 hf
    obtain ⟨f, rfl⟩ : ∃ f', f = f' + 1 := ⟨f - 1, by omega⟩
    rw [k_Ke_beginTick_12, if_neg (show ¬ (4 : Int32) ≤ nI k from nI_ge (b := 4) (by omega) (by omega)), ck_p (zi_n (by omega) (by omega)), nI_clamp (by omega), show k_Ke_isPending σ k 0 = k_Ke_isPending σ k (nI 0) from rfl, pend_0 (by omega) (hZ k hk (by omega) 0 (by omega)), bn_s]
    dsimp only
    rw [if_pos rfl]
    unfold k_Ke_beginTick_41
    rw [lt_e, nI_1]
    exact ih (k + 1) f (by omega) (by omega) (by omega)
theorem tick_loop : ∀ (m k f g : Nat) (σ τ : zS) (u : Nat) (c : Nat → Nat), RL σ τ N u c fr to ba si ke en po r w b → k + m = N → m + 5 < f → m < g → ∃ (σ' τ' : zS) (u' : Nat) (c' : Nat → Nat), k_Ke_beginTick_12 f σ (nI k) = some σ' ∧ k_GM_alarms_2 g τ (nI k) = some τ' ∧ RL σ' τ' N u' c' fr to ba si ke en po r w b := by
  intro m
  induction m with
  | zero =>
    intro k f g σ τ u c h hk hf hg
    have h4 : N ≤ 4 := h.1.2.2.2.2.2.2.2.2.1
    have h5 : τ 0 0 5 = nI N := h.1.2.2.2.2.2.2.2.1
    obtain ⟨g, rfl⟩ : ∃ g', g = g' + 1 := ⟨g - 1, by omega⟩
    refine ⟨σ, τ, u, c, tick_tail h.2.2.2 (4 - k) k f (by omega) (by omega) (by omega), ?_, h⟩
    rw [k_GM_alarms_2, h5, if_pos (nI_le (by omega) (by omega))]
  | succ m ih =>
    intro k f g σ τ u c h hk hf hg
    have h4 : N ≤ 4 := h.1.2.2.2.2.2.2.2.2.1
    have h5 : τ 0 0 5 = nI N := h.1.2.2.2.2.2.2.2.1
    obtain ⟨g, rfl⟩ : ∃ g', g = g' + 1 := ⟨g - 1, by omega⟩
    obtain ⟨f, rfl⟩ : ∃ f', f = f' + 1 := ⟨f - 1, by omega⟩
    have hkN : k < N := by omega
    have zk : zi (nI k) 4 = true := zi_n (by omega) (by omega)
    have ck' : (nI k).toNatClampNeg = k := nI_clamp (by omega)
    have ix : (3 : Int32) * nI k = nI (3 * k + 0) := by
      show (3 : Int32) * nI k = nI (3 * k)
      rw [show (3 : Int32) = nI 3 from rfl, pk_mul]
    have z12 : zi (nI (3 * k + 0)) 12 = true := zi_n (by omega) (by omega)
    have c12 : (nI (3 * k + 0)).toNatClampNeg = 3 * k + 0 := nI_clamp (by omega)
    have i4 : ¬ (4 : Int32) ≤ nI k := nI_ge (b := 4) (by omega) (by omega)
    have iN : ¬ nI N ≤ nI k := nI_ge hkN (by omega)
    have hpend := pend_n h hkN (show 0 < 3 by omega)
    rw [show (nI 0 : Int32) = 0 from rfl] at hpend
    obtain ⟨g1, g2, g3, g4⟩ := (h.2.1 k hkN).2.2.1 0 (by omega)
    have skip : ∃ (σ' τ' : zS) (u' : Nat) (c' : Nat → Nat), k_Ke_beginTick_41 (k_Ke_beginTick_12 f) σ (nI k) = some σ' ∧ k_GM_alarms_73 (k_GM_alarms_2 g) τ (nI k) = some τ' ∧ RL σ' τ' N u' c' fr to ba si ke en po r w b := by
      unfold k_Ke_beginTick_41 k_GM_alarms_73
      rw [lt_e, lt_e, nI_1]
      exact ih (k + 1) f g σ τ u c h (by omega) (by omega) (by omega)
    rw [k_Ke_beginTick_12, k_GM_alarms_2]
    simp only [if_neg i4, ck_p zk, ck', hpend, bn_s, h5, if_neg iN, ix, ck_p z12, c12, g3]
    by_cases hr : 0 < r k 0
    · obtain ⟨hg14, hlt, hnote, hwr⟩ := g_at h hkN (show 0 < 3 by omega) hr
      have hn0 := hnote 0 (by omega)
      have hn1 := hnote 1 (by omega)
      rw [Nat.add_zero, show (nI 0 : Int32) = 0 from rfl] at hn0
      rw [show (nI 1 : Int32) = 1 from rfl, show (nI 0 : Int32) = 0 from rfl] at hn1
      rw [if_neg (show ¬ nI (r k 0) ≤ 0 from nI_nle hr (by omega)), hn0, bn_s]
      dsimp only
      by_cases h1 : τ 2 0 (ba k + si k - 2 * r k 0) = 1
      · have hpos : 0 < r k 0 ∧ τ 2 0 (ba k + si k - 2 * r k 0) = 1 := ⟨hr, h1⟩
        have e3 : σ 3 0 = τ 2 0 := h.1.2.2.1
        have e8 : σ 8 0 3 = τ 0 0 2 := h.1.2.2.2.1
        simp only [if_pos hpos, if_neg (show ¬ (1 : Int32) = 0 by decide), if_pos h1, hn1, bn_s]
        unfold k_Ke_ringIfDue
        simp only [ck_p (show zi 0 3 = true by decide), show (0 : Int32).toNatClampNeg = 0 by decide, hg14, lt_e]
        generalize hgd : ba k + si k - 2 * r k 0 = gd at *
        have a1 : nI (4096 + 4 * gd) + (4 : Int32) = nI (4096 + 4 * (gd + 1)) := add4 (k := 1)
        rw [a1, me_get (by omega), bn_s]
        dsimp only
        rw [e3]
        by_cases hdue : τ 0 0 2 < τ 2 0 (gd + 1)
        · rw [if_pos (show σ 8 0 3 < τ 2 0 (gd + 1) by rw [e8]; exact hdue), if_pos hdue, bn_s]
          exact skip
        · rw [if_neg (show ¬ σ 8 0 3 < τ 2 0 (gd + 1) by rw [e8]; exact hdue), if_neg hdue]
          have k1 := rl_ram h gd 0
          obtain ⟨σ', τ', u', c', q1, q2, q3⟩ := upcall_ok (τ 0 0 2) (τ 2 0 (gd + 1)) k1 hkN (show 0 < 3 by omega)
          rw [show (nI 0 : Int32) = 0 from rfl] at q1 q2
          obtain ⟨σ2, τ2, u2, c2, e1, e2, e4⟩ := ih (k + 1) f g σ' τ' u' c' q3 (by omega) (by omega) (by omega)
          refine ⟨σ2, τ2, u2, c2, ?_, ?_, e4⟩
          · rw [me_set (by omega), bn_s, zu_rd σ 3 0 gd 0 8 0 3, if_neg (by omega), e8, q1, bn_s, bn_s]
            unfold k_Ke_beginTick_41
            rw [lt_e, nI_1]
            exact e1
          · have hw0 := hwr 0 0 (by omega)
            rw [Nat.add_zero, show (nI 0 : Int32) = 0 from rfl] at hw0
            rw [hw0, bn_s, zu_rd τ 2 0 gd 0 0 0 2, if_neg (by omega), q2, bn_s]
            unfold k_GM_alarms_73
            rw [lt_e, nI_1]
            exact e2
      · have hneg : ¬ (0 < r k 0 ∧ τ 2 0 (ba k + si k - 2 * r k 0) = 1) := fun g' => h1 g'.2
        simp only [if_neg hneg, if_neg h1, if_true]
        exact skip
    · have hr0 : r k 0 = 0 := by omega
      have hneg : ¬ (0 < r k 0 ∧ τ 2 0 (ba k + si k - 2 * r k 0) = 1) := fun g' => hr g'.1
      rw [if_neg hneg, hr0, if_pos (show nI 0 ≤ 0 by decide), if_pos rfl]
      exact skip
theorem tick_ok {σ τ : zS} {u : Nat} {c : Nat → Nat} (h : RL σ τ N u c fr to ba si ke en po r w b) : ∃ (σ' τ' : zS) (u' : Nat) (c' : Nat → Nat), k_Ke_beginTick σ = some σ' ∧ k_GM_alarms (zu τ 0 0 2 (τ 0 0 2 + 1)) = some τ' ∧ RL σ' τ' N u' c' fr to ba si ke en po r w b := by
  have h4 : N ≤ 4 := h.1.2.2.2.2.2.2.2.2.1
  have e8 : σ 8 0 3 = τ 0 0 2 := h.1.2.2.2.1
  have h1 := rl_now (τ 0 0 2 + 1) h
  obtain ⟨σ', τ', u', c', e1, e2, e3⟩ := tick_loop N 0 FU FU _ _ u c h1 (by omega) (by unfold FU; omega) (by unfold FU; omega)
  refine ⟨σ', τ', u', c', ?_, e2, e3⟩
  unfold k_Ke_beginTick
  rw [lt_e, e8]
  exact e1
end ALARM
