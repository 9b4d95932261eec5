/-! sample -/
section SAMPLE
variable {N : Nat} {fr to ba si ke en po : Nat → Nat} {r w b : Nat → Nat → Nat}
theorem samp_tail {v x : Int32} {σ : zS} (hZ : ∀ p, N ≤ p → p < 4 → ∀ i, i < 3 → σ 14 p i = 0) : ∀ (m k f : Nat), N ≤ k → k + m = 4 → m < f → k_Ke_takeSample_4 v f σ x (nI k) = some (σ, x) := by
  intro m
  induction m with
  | zero =>
    intro k f hk h4 hf
    obtain ⟨f, rfl⟩ : ∃ f', f = f' + 1 := ⟨f - 1, by omega⟩
    rw [k_Ke_takeSample_4, if_pos (show (4 : Int32) ≤ nI k from nI_le (a := 4) (by omega) (by omega))]
  | succ m ih =>
    intro k f hk h4 hf
    obtain ⟨f, rfl⟩ : ∃ f', f = f' + 1 := ⟨f - 1, by omega⟩
    rw [k_Ke_takeSample_4, if_neg (show ¬ (4 : Int32) ≤ nI k from nI_ge (b := 4) (by omega) (by omega)), ck_p (zi_n (by omega) (by omega)), nI_clamp (by omega), show k_Ke_isPending σ k 2 = k_Ke_isPending σ k (nI 2) from rfl, pend_0 (by omega) (hZ k hk (by omega) 2 (by omega)), bn_s]
    dsimp only
    rw [if_pos rfl]
    unfold k_Ke_takeSample_90
    rw [lt_e, nI_1]
    exact ih (k + 1) f (by omega) (by omega) (by omega)
theorem samp_loop {v : Int32} : ∀ (m k f g : Nat) (x : Int32) (σ τ : zS) (u : Nat) (c : Nat → Nat), RL σ τ N u c fr to ba si ke en po r w b → k + m = N → m + 5 < f → m < g → ∃ (σ' τ' : zS) (y : Int32), k_Ke_takeSample_4 v f σ x (nI k) = some (σ', y) ∧ k_GM_sample_4 v g τ x (nI k) = some (τ', y) ∧ Rel σ' τ' := by
  intro m
  induction m with
  | zero =>
    intro k f g x σ τ u c h hk hf hg
    have h4 : N ≤ 4 := h.1.2.2.2.2.2.2.2.2.1
    have h5 : τ 0 0 5 = nI N := h.1.2.2.2.2.2.2.2.1
    obtain ⟨g, rfl⟩ : ∃ g', g = g' + 1 := ⟨g - 1, by omega⟩
    refine ⟨σ, τ, x, samp_tail h.2.2.2 (4 - k) k f (by omega) (by omega) (by omega), ?_, h.rel⟩
    rw [k_GM_sample_4, h5, if_pos (nI_le (by omega) (by omega))]
  | succ m ih =>
    intro k f g x σ τ u c h hk hf hg
    have h4 : N ≤ 4 := h.1.2.2.2.2.2.2.2.2.1
    have h5 : τ 0 0 5 = nI N := h.1.2.2.2.2.2.2.2.1
    obtain ⟨g, rfl⟩ : ∃ g', g = g' + 1 := ⟨g - 1, by omega⟩
    obtain ⟨f, rfl⟩ : ∃ f', f = f' + 1 := ⟨f - 1, by omega⟩
    have hkN : k < N := by omega
    have zk : zi (nI k) 4 = true := zi_n (by omega) (by omega)
    have ck' : (nI k).toNatClampNeg = k := nI_clamp (by omega)
    have ix : (3 : Int32) * nI k + (2 : Int32) = nI (3 * k + 2) := ix3 (i := 2)
    have z12 : zi (nI (3 * k + 2)) 12 = true := zi_n (by omega) (by omega)
    have c12 : (nI (3 * k + 2)).toNatClampNeg = 3 * k + 2 := nI_clamp (by omega)
    have i4 : ¬ (4 : Int32) ≤ nI k := nI_ge (b := 4) (by omega) (by omega)
    have iN : ¬ nI N ≤ nI k := nI_ge hkN (by omega)
    have hpend := pend_n h hkN (show 2 < 3 by omega)
    rw [show (nI 2 : Int32) = 2 from rfl] at hpend
    obtain ⟨g1, g2, g3, g4⟩ := (h.2.1 k hkN).2.2.1 2 (by omega)
    rw [k_Ke_takeSample_4, k_GM_sample_4]
    simp only [if_neg i4, ck_p zk, ck', hpend, bn_s, h5, if_neg iN, ix, ck_p z12, c12, g3]
    by_cases hr : 0 < r k 2
    · obtain ⟨hg14, hlt, hnote, hwr⟩ := g_at h hkN (show 2 < 3 by omega) hr
      have hn0 := hnote 0 (by omega)
      have hn1 := hnote 1 (by omega)
      rw [Nat.add_zero, show (nI 0 : Int32) = 0 from rfl, show (nI 2 : Int32) = 2 from rfl] at hn0
      rw [show (nI 1 : Int32) = 1 from rfl, show (nI 2 : Int32) = 2 from rfl] at hn1
      rw [if_neg (show ¬ nI (r k 2) ≤ 0 from nI_nle hr (by omega)), hn0, bn_s]
      dsimp only
      by_cases h1 : τ 2 0 (ba k + si k - 2 * r k 2) = 1
      · have hpos : 0 < r k 2 ∧ τ 2 0 (ba k + si k - 2 * r k 2) = 1 := ⟨hr, h1⟩
        have e3 : σ 3 0 = τ 2 0 := h.1.2.2.1
        simp only [if_pos hpos, if_neg (show ¬ (1 : Int32) = 0 by decide), if_pos h1, ck_p (show zi 2 3 = true by decide), show (2 : Int32).toNatClampNeg = 2 by decide, hg14, lt_e, hn1, bn_s]
        generalize hgd : ba k + si k - 2 * r k 2 = gd at *
        have a1 : nI (4096 + 4 * gd) + (4 : Int32) = nI (4096 + 4 * (gd + 1)) := add4 (k := 1)
        have k1 := rl_ram h gd 0
        have k2 := rl_ram k1 (gd + 1) (τ 2 0 (gd + 1) + 1)
        obtain ⟨σ', τ', u', c', q1, q2, q3⟩ := upcall_ok v (τ 2 0 (gd + 1) + 1) k2 hkN (show 2 < 3 by omega)
        rw [show (nI 2 : Int32) = 2 from rfl] at q1 q2
        obtain ⟨σ2, τ2, y2, e1, e2, e4⟩ := ih (k + 1) f g (x + 1) σ' τ' u' c' q3 (by omega) (by omega) (by omega)
        refine ⟨σ2, τ2, y2, ?_, ?_, e4⟩
        · rw [a1, me_get (by omega), bn_s]
          dsimp only
          rw [e3, me_set (by omega), bn_s, me_set (by omega), bn_s, q1, bn_s]
          unfold k_Ke_takeSample_90
          rw [lt_e, nI_1]
          exact e1
        · have hw0 := hwr 0 0 (by omega)
          rw [Nat.add_zero, show (nI 0 : Int32) = 0 from rfl, show (nI 2 : Int32) = 2 from rfl] at hw0
          rw [hw0, bn_s]
          obtain ⟨-, -, -, hwr1⟩ := g_at k1 hkN (show 2 < 3 by omega) hr
          have hw1 := hwr1 1 (τ 2 0 (gd + 1) + 1) (by omega)
          rw [hgd, show (nI 1 : Int32) = 1 from rfl, show (nI 2 : Int32) = 2 from rfl] at hw1
          rw [hw1, bn_s, q2, bn_s]
          unfold k_GM_sample_76
          rw [lt_e, nI_1]
          exact e2
      · have hneg : ¬ (0 < r k 2 ∧ τ 2 0 (ba k + si k - 2 * r k 2) = 1) := fun g' => h1 g'.2
        obtain ⟨σ2, τ2, y2, e1, e2, e4⟩ := ih (k + 1) f g x σ τ u c h (by omega) (by omega) (by omega)
        simp only [if_neg hneg, if_neg h1, if_true]
        unfold k_Ke_takeSample_90 k_GM_sample_76
        rw [lt_e, lt_e, nI_1]
        exact ⟨σ2, τ2, y2, e1, e2, e4⟩
    · have hr0 : r k 2 = 0 := by omega
      have hneg : ¬ (0 < r k 2 ∧ τ 2 0 (ba k + si k - 2 * r k 2) = 1) := fun g' => hr g'.1
      obtain ⟨σ2, τ2, y2, e1, e2, e4⟩ := ih (k + 1) f g x σ τ u c h (by omega) (by omega) (by omega)
      rw [if_neg hneg, hr0, if_pos (show nI 0 ≤ 0 by decide), if_pos rfl]
      unfold k_Ke_takeSample_90 k_GM_sample_76
      rw [lt_e, lt_e, nI_1]
      exact ⟨σ2, τ2, y2, e1, e2, e4⟩
end SAMPLE
theorem k_sample : ok1 Rel k_GK_sample k_GM_sample := fun σ τ v hR => by
  obtain ⟨N, u, c, fr, to, ba, si, ke, en, po, r, w, b, h⟩ := RL.of hR
  have h4 : N ≤ 4 := h.1.2.2.2.2.2.2.2.2.1
  obtain ⟨σ', τ', x, e1, e2, e3⟩ := samp_loop (v := v) N 0 FU FU 0 σ τ u c h (by omega) (by unfold FU; omega) (by unfold FU; omega)
  refine ⟨σ', τ', x, ?_, e2, e3⟩
  unfold k_GK_sample k_Ke_takeSample
  rw [show k_Ke_takeSample_4 v FU σ 0 0 = k_Ke_takeSample_4 v FU σ 0 (nI 0) from rfl, e1, bn_s]
