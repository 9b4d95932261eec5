/-! type -/
section TYPE
variable {σ τ : zS} {N u : Nat} {c fr to ba si ke en po : Nat → Nat} {r w b : Nat → Nat → Nat}
theorem rl_in {n : Nat} {v : Int32} (h : RL σ τ N u c fr to ba si ke en po r w b) (hn : n < 8) : RL (zu (zu σ 6 0 n v) 5 0 2 (nI (n + 1))) (zu (zu τ 29 0 n v) 0 0 33 (nI (n + 1))) N u c fr to ba si ke en po r w b := by
  obtain ⟨hB, hP, hQ, hZ⟩ := h
  have ec : ∀ a b i : Nat, ¬ ((a = 5 ∨ a = 6) ∧ b = 0) → zu (zu σ 6 0 n v) 5 0 2 (nI (n + 1)) a b i = σ a b i := fun a b i g => by rw [zu_rd, if_neg (by omega), zu_rd, if_neg (by omega)]
  have em : ∀ a b i : Nat, ¬ (a = 29 ∧ b = 0) → ¬ (a = 0 ∧ b = 0 ∧ i = 33) → zu (zu τ 29 0 n v) 0 0 33 (nI (n + 1)) a b i = τ a b i := fun a b i g g' => by rw [zu_rd, if_neg (by omega), zu_rd, if_neg (by omega)]
  refine ⟨?_, fun q hq => ?_, ?_, fun q g1 g2 j hj => ?_⟩
  · obtain ⟨b1, b2, b3, b4, b5, b6, b7, b8, b9, b10, b11, b12, b13, b14, b15, b16⟩ := hB
    have fl : ∀ a, ¬ (a = 5 ∨ a = 6) → zu (zu σ 6 0 n v) 5 0 2 (nI (n + 1)) a 0 = σ a 0 := fun a ha => funext fun i => ec a 0 i (by omega)
    have fm : ∀ a, (a = 1 ∨ a = 2 ∨ a = 30) → zu (zu τ 29 0 n v) 0 0 33 (nI (n + 1)) a 0 = τ a 0 := fun a ha => funext fun i => em a 0 i (by omega) (by omega)
    have f0 : ∀ i, i ≠ 33 → zu (zu τ 29 0 n v) 0 0 33 (nI (n + 1)) 0 0 i = τ 0 0 i := fun i hi => em 0 0 i (by omega) (by omega)
    unfold Bd
    rw [fl 2 (by omega), fl 3 (by omega), fl 8 (by omega), fl 0 (by omega), fl 7 (by omega), fm 1 (by omega), fm 2 (by omega), fm 30 (by omega), f0 2 (by omega), f0 3 (by omega), f0 4 (by omega), f0 5 (by omega), f0 35 (by omega)]
    refine ⟨b1, b2, b3, b4, b5, b6, b7, b8, b9, b10, b11, ?_, ⟨n + 1, by omega, ?_⟩, ?_, ?_, b16⟩
    · rw [zu_rd, if_pos (by omega), zu_rd, if_pos (by omega)]
    · rw [zu_rd, if_pos (by omega)]
    · rw [zu_k (by decide), zu_s, zu_k (by decide), zu_s, b14]
    · rw [zu_rd, if_neg (by omega), zu_rd, if_neg (by omega)]; exact b15
  · exact ps_fr (fun a j g1 g2 => ec a q j (by omega)) (fun a g1 g2 g3 => em a 0 q (by omega) (by omega)) (fun j hj => em 11 0 _ (by omega) (by omega)) (fun a j g1 g2 g3 => em a 0 _ (by omega) (by omega)) (hP q hq)
  · exact qs_fr (fun a q j g => ec a q j (by omega)) (em 0 0 28 (by omega) (by omega)) (fun j => by unfold qe; rw [em 25 0 j (by omega) (by omega), em 26 0 j (by omega) (by omega), em 27 0 j (by omega) (by omega), em 28 0 j (by omega) (by omega)]) hQ
  · rw [ec 14 q j (by omega)]
    exact hZ q g1 g2 j hj
theorem take_tail {v : Int32} (hZ : ∀ p, N ≤ p → p < 4 → ∀ i, i < 3 → σ 14 p i = 0) : ∀ (m k f : Nat), N ≤ k → k + m = 4 → m < f → k_Ke_takeInput_2 v f σ (nI k) = bn (k_Co_addInput σ v) fun (s1, r2) => ck (zb r2) <| some (s1, r2) := by
  intro m
  induction m with
  | zero =>
    intro k f hk h4 hf
    obtain ⟨f, rfl⟩ : ∃ f', f = f' + 1 := ⟨f - 1, by omega⟩
    rw [k_Ke_takeInput_2, if_pos (show (4 : Int32) ≤ nI k from nI_le (a := 4) (by omega) (by omega))]
  | succ m ih =>
    intro k f hk h4 hf
    obtain ⟨f, rfl⟩ : ∃ f', f = f' + 1 := ⟨f - 1, by omega⟩
    rw [k_Ke_takeInput_2, if_neg (show ¬ (4 : Int32) ≤ nI k from nI_ge (b := 4) (by omega) (by omega)), ck_p (zi_n (by omega) (by omega)), nI_clamp (by omega), show k_Ke_isPending σ k 1 = k_Ke_isPending σ k (nI 1) from rfl, pend_0 (by omega) (hZ k hk (by omega) 1 (by omega)), bn_s]
    dsimp only
    rw [if_pos rfl, lt_e, nI_1]
    exact ih (k + 1) f (by omega) (by omega) (by omega)
theorem type_loop {v : Int32} (h : RL σ τ N u c fr to ba si ke en po r w b) : ∀ (m k f g : Nat), k + m = N → m + 5 < f → m < g → ∃ (σ' τ' : zS) (x : Int32), k_Ke_takeInput_2 v f σ (nI k) = some (σ', x) ∧ zb x = true ∧ k_GM_type_2 v g τ (nI k) = some (τ', x) ∧ Rel σ' τ' := by
  have h4 : N ≤ 4 := h.1.2.2.2.2.2.2.2.2.1
  have h5 : τ 0 0 5 = nI N := h.1.2.2.2.2.2.2.2.1
  intro m
  induction m with
  | zero =>
    intro k f g hk hf hg
    obtain ⟨g, rfl⟩ : ∃ g', g = g' + 1 := ⟨g - 1, by omega⟩
    obtain ⟨n, hn, en'⟩ := h.1.2.2.2.2.2.2.2.2.2.2.2.2.1
    have e33 : σ 5 0 2 = τ 0 0 33 := h.1.2.2.2.2.2.2.2.2.2.2.2.1
    rw [take_tail h.2.2.2 (4 - k) k f (by omega) (by omega) (by omega), k_GM_type_2, h5, if_pos (nI_le (by omega) (by omega)), ← e33, en']
    unfold k_Co_addInput
    rw [en']
    by_cases h8 : n < 8
    · have z8 : zi (nI n) 8 = true := zi_n h8 (by omega)
      have i8 : nI n < (8 : Int32) := nI_lt (b := 8) h8 (by omega)
      have j8 : ¬ nI n = 8 := fun g' => by
        have := (nI_eq (a := n) (b := 8) (by omega) (by omega)).mp g'
        omega
      have r1 : zu σ 6 0 n v 5 0 2 = nI n := by rw [zu_rd, if_neg (by omega)]; exact en'
      have r2 : zu τ 29 0 n v 0 0 33 = nI n := by rw [zu_rd, if_neg (by omega), ← e33]; exact en'
      simp only [if_pos i8, if_neg j8, ck_p z8, lt_e, nI_clamp (show n < 2 ^ 31 by omega), r1, r2, nI_1, bn_s, ck_p (show zb 1 = true by decide)]
      exact ⟨_, _, 1, rfl, by decide, rfl, (rl_in h h8).rel⟩
    · obtain rfl : n = 8 := by omega
      rw [if_neg (by decide), if_pos (by decide), bn_s]
      exact ⟨σ, τ, 0, rfl, by decide, rfl, h.rel⟩
  | succ m ih =>
    intro k f g hk hf hg
    obtain ⟨g, rfl⟩ : ∃ g', g = g' + 1 := ⟨g - 1, by omega⟩
    obtain ⟨f, rfl⟩ : ∃ f', f = f' + 1 := ⟨f - 1, by omega⟩
    have hkN : k < N := by omega
    have zk : zi (nI k) 4 = true := zi_n (by omega) (by omega)
    have ck' : (nI k).toNatClampNeg = k := nI_clamp (by omega)
    have ix : (3 : Int32) * nI k + (1 : Int32) = nI (3 * k + 1) := ix3 (i := 1)
    have z12 : zi (nI (3 * k + 1)) 12 = true := zi_n (by omega) (by omega)
    have c12 : (nI (3 * k + 1)).toNatClampNeg = 3 * k + 1 := nI_clamp (by omega)
    have i4 : ¬ (4 : Int32) ≤ nI k := nI_ge (b := 4) (by omega) (by omega)
    have iN : ¬ nI N ≤ nI k := nI_ge hkN (by omega)
    have hpend := pend_n h hkN (show 1 < 3 by omega)
    rw [show (nI 1 : Int32) = 1 from rfl] at hpend
    obtain ⟨g1, g2, g3, g4⟩ := (h.2.1 k hkN).2.2.1 1 (by omega)
    obtain ⟨σ2, τ2, x2, e1, e2, e3, e4⟩ := ih (k + 1) f g (by omega) (by omega) (by omega)
    rw [k_Ke_takeInput_2, k_GM_type_2]
    simp only [if_neg i4, ck_p zk, ck', hpend, bn_s, h5, if_neg iN, ix, ck_p z12, c12, g3]
    by_cases hr : 0 < r k 1
    · obtain ⟨-, -, hnote, -⟩ := g_at h hkN (show 1 < 3 by omega) hr
      have hn0 := hnote 0 (by omega)
      rw [Nat.add_zero, show (nI 0 : Int32) = 0 from rfl, show (nI 1 : Int32) = 1 from rfl] at hn0
      rw [if_neg (show ¬ nI (r k 1) ≤ 0 from nI_nle hr (by omega)), hn0, bn_s]
      dsimp only
      by_cases h1 : τ 2 0 (ba k + si k - 2 * r k 1) = 1
      · obtain ⟨σ', τ', u', c', q1, q2, q3⟩ := receive_ok v h hkN hr
        have hpos : 0 < r k 1 ∧ τ 2 0 (ba k + si k - 2 * r k 1) = 1 := ⟨hr, h1⟩
        simp only [if_pos hpos, if_neg (show ¬ (1 : Int32) = 0 by decide), if_pos h1, q1, q2, bn_s]
        exact ⟨σ', τ', 1, rfl, by decide, rfl, q3.rel⟩
      · have hneg : ¬ (0 < r k 1 ∧ τ 2 0 (ba k + si k - 2 * r k 1) = 1) := fun g' => h1 g'.2
        simp only [if_neg hneg, if_neg h1, if_true]
        unfold k_GM_type_42
        rw [lt_e, lt_e, nI_1]
        exact ⟨σ2, τ2, x2, e1, e2, e3, e4⟩
    · have hr0 : r k 1 = 0 := by omega
      have hneg : ¬ (0 < r k 1 ∧ τ 2 0 (ba k + si k - 2 * r k 1) = 1) := fun g' => hr g'.1
      rw [if_neg hneg, hr0, if_pos (show nI 0 ≤ 0 by decide), if_pos rfl]
      unfold k_GM_type_42
      rw [lt_e, lt_e, nI_1]
      exact ⟨σ2, τ2, x2, e1, e2, e3, e4⟩
end TYPE
theorem k_type : ok1 Rel k_GK_type k_GM_type := fun σ τ v hR => by
  obtain ⟨N, u, c, fr, to, ba, si, ke, en, po, r, w, b, h⟩ := RL.of hR
  have h4 : N ≤ 4 := h.1.2.2.2.2.2.2.2.2.1
  obtain ⟨σ', τ', x, e1, e2, e3, e4⟩ := type_loop (v := v) h N 0 FU FU (by omega) (by unfold FU; omega) (by unfold FU; omega)
  refine ⟨σ', τ', x, ?_, e3, e4⟩
  unfold k_GK_type k_Ke_takeInput
  rw [show k_Ke_takeInput_2 v FU σ 0 = k_Ke_takeInput_2 v FU σ (nI 0) from rfl, e1, bn_s]
  exact ck_p e2
