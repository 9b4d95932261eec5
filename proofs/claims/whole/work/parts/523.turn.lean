/-! whose turn it is -/
section TURN
variable {σ τ : zS} {N u : Nat} {c fr to ba si ke en po : Nat → Nat} {r w b : Nat → Nat → Nat}
theorem scan_ok (h : RL σ τ N u c fr to ba si ke en po r w b) (g : Nat → Nat) (pr : Nat → Int32) (hg : ∀ k, k < N → g k < N) (hpr : ∀ k, pr (k + 1) = nI (g k)) (hnx : ∀ k, k < N → (if nI N ≤ pr k + (1 : Int32) then (0 : Int32) else pr k + (1 : Int32)) = nI (g k))
    (hrf : ∀ k, k < N → (if 0 ≤ τ 0 0 3 then ((τ 0 0 3 + nI (k + 1)) - (τ 0 0 3 + nI (k + 1)) / nI N * nI N) else nI (k + 1) - (1 : Int32)) = nI (g k)) :
    ∀ (m k f f' : Nat), k + m = N → m < f → m < f' → (k_GK_giveTurn_39 f σ (pr k) (nI k) = some (σ, 0) ∧ k_GM_choose_30 f' τ (nI (k + 1)) = some (τ, 0)) ∨ ∃ q, q < N ∧ σ 11 q 16 = 0 ∧ k_GK_giveTurn_39 f σ (pr k) (nI k) = some (zu (zu σ 0 0 7 (nI q)) 0 0 8 10, 1) ∧ k_GM_choose_30 f' τ (nI (k + 1)) = some (zu (zu τ 0 0 3 (nI q)) 0 0 4 10, 1) := by
  have h4 : N ≤ 4 := h.1.2.2.2.2.2.2.2.2.1
  have h6 : σ 0 0 6 = nI N := h.1.2.2.2.2.2.2.1
  have h5 : τ 0 0 5 = nI N := h.1.2.2.2.2.2.2.2.1
  intro m
  induction m with
  | zero =>
    intro k f f' hk hf hf'
    obtain ⟨f, rfl⟩ : ∃ g', f = g' + 1 := ⟨f - 1, by omega⟩
    obtain ⟨f', rfl⟩ : ∃ g', f' = g' + 1 := ⟨f' - 1, by omega⟩
    refine Or.inl ⟨?_, ?_⟩
    · rw [k_GK_giveTurn_39, h6, if_pos (nI_le (by omega) (by omega))]
    · rw [k_GM_choose_30, h5, if_pos (nI_lt (by omega) (by omega))]
  | succ m ih =>
    intro k f f' hk hf hf'
    obtain ⟨f, rfl⟩ : ∃ g', f = g' + 1 := ⟨f - 1, by omega⟩
    obtain ⟨f', rfl⟩ : ∃ g', f' = g' + 1 := ⟨f' - 1, by omega⟩
    have hkN : k < N := by omega
    have gk := hg k hkN
    have eC : k_GK_giveTurn_39 (f + 1) σ (pr k) (nI k) = k_GK_giveTurn_64 (k_GK_giveTurn_39 f) σ (nI k) (nI (g k)) := by
      have e := hnx k hkN
      rw [k_GK_giveTurn_39, h6, if_neg (nI_ge hkN (by omega))]
      by_cases hc : nI N ≤ pr k + (1 : Int32)
      · rw [if_pos hc] at e ⊢; rw [← e]
      · rw [if_neg hc] at e ⊢; rw [← e]
    have eM : k_GM_choose_30 (f' + 1) τ (nI (k + 1)) = k_GM_choose_62 (k_GM_choose_30 f') τ (nI (k + 1)) (nI (g k)) := by
      have e := hrf k hkN
      rw [k_GM_choose_30, h5, if_neg (nI_nlt (by omega) (by omega))]
      by_cases hc : 0 ≤ τ 0 0 3
      · rw [if_pos hc] at e ⊢; rw [ck_p (zn_n (by omega) (by omega)), ← e]
      · rw [if_neg hc] at e ⊢; rw [← e]
    have zg : zi (nI (g k)) 4 = true := zi_n (by omega) (by omega)
    have cg : (nI (g k)).toNatClampNeg = g k := nI_clamp (by omega)
    have e16 : σ 11 (g k) 16 = τ 10 0 (g k) := (h.2.1 (g k) gk).2.1.2.2.2.2.2.2.2.2.1
    rw [eC, eM]
    unfold k_GK_giveTurn_64 k_GM_choose_62
    rw [ck_p zg, ck_p zg, cg, ← e16]
    by_cases hs : σ 11 (g k) 16 = 0
    · rw [if_pos hs, if_pos hs, lt_e, lt_e, lt_e, lt_e]
      exact Or.inr ⟨g k, gk, hs, rfl, rfl⟩
    · rw [if_neg hs, if_neg hs, lt_e, lt_e, nI_1, nI_1, ← hpr k]
      exact ih (k + 1) f f' (by omega) (by omega) (by omega)
theorem give_ok (h : RL σ τ N u c fr to ba si ke en po r w b) : (k_GK_giveTurn σ = some (σ, 0) ∧ k_GM_choose τ = some (τ, 0)) ∨ ∃ (σ' τ' : zS) (q : Nat), q < N ∧ k_GK_giveTurn σ = some (σ', 1) ∧ k_GM_choose τ = some (τ', 1) ∧ RL σ' τ' N u c fr to ba si ke en po r w b ∧ σ' 0 0 7 = nI q ∧ τ' 0 0 3 = nI q ∧ σ' 11 q 16 = 0 := by
  have h4 : N ≤ 4 := h.1.2.2.2.2.2.2.2.2.1
  have e7 : σ 0 0 7 = τ 0 0 3 := h.1.2.2.2.2.1
  have e8 : σ 0 0 8 = τ 0 0 4 := h.1.2.2.2.2.2.1
  have hscan : (k_GK_giveTurn_32 σ = some (σ, 0) ∧ k_GM_choose_28 τ = some (τ, 0)) ∨ ∃ (σ' τ' : zS) (q : Nat), q < N ∧ k_GK_giveTurn_32 σ = some (σ', 1) ∧ k_GM_choose_28 τ = some (τ', 1) ∧ RL σ' τ' N u c fr to ba si ke en po r w b ∧ σ' 0 0 7 = nI q ∧ τ' 0 0 3 = nI q ∧ σ' 11 q 16 = 0 := by
    have key : (k_GK_giveTurn_39 FU σ (σ 0 0 7) (nI 0) = some (σ, 0) ∧ k_GM_choose_30 FU τ (nI (0 + 1)) = some (τ, 0)) ∨ ∃ q, q < N ∧ σ 11 q 16 = 0 ∧ k_GK_giveTurn_39 FU σ (σ 0 0 7) (nI 0) = some (zu (zu σ 0 0 7 (nI q)) 0 0 8 10, 1) ∧ k_GM_choose_30 FU τ (nI (0 + 1)) = some (zu (zu τ 0 0 3 (nI q)) 0 0 4 10, 1) := by
      rcases h.1.2.2.2.2.2.2.2.2.2.1 with h1 | ⟨t, ht, h1⟩
      · have key := scan_ok h (fun k => k) (fun k => if k = 0 then -1 else nI (k - 1)) (fun k hk => hk) (fun k => by simp) (fun k hk => ?_) (fun k hk => ?_) N 0 FU FU (by omega) (by unfold FU; omega) (by unfold FU; omega)
        · rw [h1]
          exact key
        · by_cases hk0 : k = 0
          · subst hk0
            rw [if_pos rfl, show (-1 : Int32) + (1 : Int32) = 0 by decide, if_neg (nI_nle (by omega) (by omega))]
            rfl
          · rw [if_neg hk0, nI_1, show k - 1 + 1 = k by omega, if_neg (nI_ge hk (by omega))]
        · rw [← e7, h1, if_neg (by decide), nI_pred]
      · have key := scan_ok h (fun k => (t + k + 1) % N) (fun k => nI ((t + k) % N)) (fun k hk => Nat.mod_lt _ (by omega)) (fun k => rfl) (fun k hk => ?_) (fun k hk => ?_) N 0 FU FU (by omega) (by unfold FU; omega) (by unfold FU; omega)
        · rw [Nat.add_zero, Nat.mod_eq_of_lt ht] at key
          rw [h1]
          exact key
        · have hm : (t + k) % N < N := Nat.mod_lt _ (by omega)
          have e : (t + k + 1) % N = ((t + k) % N + 1) % N := (Nat.mod_add_mod (t + k) N 1).symm
          rw [nI_1, e]
          by_cases hc : (t + k) % N + 1 < N
          · rw [if_neg (nI_ge hc (by omega)), Nat.mod_eq_of_lt hc]
          · have : (t + k) % N + 1 = N := by omega
            rw [this, if_pos (nI_le (by omega) (by omega)), Nat.mod_self]
            rfl
        · rw [← e7, h1, if_pos (nI_pos' (by omega)), nI_add, pk_rem (by omega) (by omega) (by omega), Nat.add_assoc]
    unfold k_GK_giveTurn_32 k_GM_choose_28
    rw [lt_e, show k_GK_giveTurn_39 FU σ (σ 0 0 7) 0 = k_GK_giveTurn_39 FU σ (σ 0 0 7) (nI 0) from rfl, show k_GM_choose_30 FU τ 1 = k_GM_choose_30 FU τ (nI (0 + 1)) from rfl]
    rcases key with k1 | ⟨q, hq, hs, k1, k2⟩
    · exact Or.inl k1
    · refine Or.inr ⟨_, _, q, hq, k1, k2, rl_left (rl_turn h rfl hq), ?_, ?_, ?_⟩
      · rw [zu_rd, if_neg (by omega), zu_rd, if_pos (by omega)]
      · rw [zu_rd, if_neg (by omega), zu_rd, if_pos (by omega)]
      · rw [zu_rd, if_neg (by omega), zu_rd, if_neg (by omega)]; exact hs
  rcases h.1.2.2.2.2.2.2.2.2.2.1 with h1 | ⟨t, ht, h1⟩
  · have eC : k_GK_giveTurn σ = k_GK_giveTurn_32 σ := by unfold k_GK_giveTurn; rw [if_pos h1]
    have eM : k_GM_choose τ = k_GM_choose_28 τ := by unfold k_GM_choose; rw [if_pos (by rw [← e7, h1]; decide)]
    rw [eC, eM]
    exact hscan
  · have n1 : ¬ nI t = (-1 : Int32) := fun g => absurd (show nI t < 0 by rw [g]; decide) (nI_pos (by omega))
    have zt : zi (nI t) 4 = true := zi_n (by omega) (by omega)
    have ct : (nI t).toNatClampNeg = t := nI_clamp (by omega)
    have e16 : σ 11 t 16 = τ 10 0 t := (h.2.1 t ht).2.1.2.2.2.2.2.2.2.2.1
    by_cases hg : σ 0 0 8 ≤ 0
    · have eC : k_GK_giveTurn σ = k_GK_giveTurn_32 σ := by unfold k_GK_giveTurn; rw [h1, if_neg n1, if_pos hg]
      have eM : k_GM_choose τ = k_GM_choose_28 τ := by
        unfold k_GM_choose
        rw [← e7, ← e8, h1, if_neg (nI_pos (by omega)), ck_p zt, if_pos hg]
        split <;> rfl
      rw [eC, eM]
      exact hscan
    · by_cases hs : σ 11 t 16 = 0
      · have eC : k_GK_giveTurn σ = some (σ, 1) := by unfold k_GK_giveTurn; rw [h1, if_neg n1, if_neg hg, ck_p zt, ct, if_pos hs]
        have eM : k_GM_choose τ = some (τ, 1) := by unfold k_GM_choose; rw [← e7, ← e8, h1, if_neg (nI_pos (by omega)), ck_p zt, ct, ← e16, if_pos hs, if_neg hg]
        exact Or.inr ⟨σ, τ, t, ht, eC, eM, h, h1, by rw [← e7]; exact h1, hs⟩
      · have eC : k_GK_giveTurn σ = k_GK_giveTurn_32 σ := by unfold k_GK_giveTurn; rw [h1, if_neg n1, if_neg hg, ck_p zt, ct, if_neg hs]
        have eM : k_GM_choose τ = k_GM_choose_28 τ := by unfold k_GM_choose; rw [← e7, ← e8, h1, if_neg (nI_pos (by omega)), ck_p zt, ct, ← e16, if_neg hs]
        rw [eC, eM]
        exact hscan
end TURN
