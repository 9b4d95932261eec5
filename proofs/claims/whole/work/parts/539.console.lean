/-! the console's inputs -/
section CONS
variable {σ τ : zS} {N u p : Nat} {c fr to ba si ke en po : Nat → Nat} {r w b : Nat → Nat → Nat}
theorem rl_inw {i : Nat} {v : Int32} (h : RL σ τ N u c fr to ba si ke en po r w b) : RL (zu σ 6 0 i v) (zu τ 29 0 i v) N u c fr to ba si ke en po r w b := by
  obtain ⟨hB, hP, hQ, hZ⟩ := h
  have ec : ∀ a b j : Nat, a ≠ 6 → zu σ 6 0 i v a b j = σ a b j := fun a b j g => by rw [zu_rd, if_neg (by omega)]
  have em : ∀ a b j : Nat, a ≠ 29 → zu τ 29 0 i v a b j = τ a b j := fun a b j g => by rw [zu_rd, if_neg (by omega)]
  refine ⟨?_, fun q hq => ?_, ?_, fun q g1 g2 j hj => ?_⟩
  · obtain ⟨b1, b2, b3, b4, b5, b6, b7, b8, b9, b10, b11, b12, b13, b14, b15, b16⟩ := hB
    have fl : ∀ a, a ≠ 6 → zu σ 6 0 i v a 0 = σ a 0 := fun a ha => zu_k ha
    have fm : ∀ a, a ≠ 29 → zu τ 29 0 i v a 0 = τ a 0 := fun a ha => zu_k ha
    unfold Bd
    rw [fl 2 (by omega), fl 3 (by omega), fl 8 (by omega), fl 0 (by omega), fl 5 (by omega), fl 7 (by omega), fm 1 (by omega), fm 2 (by omega), fm 0 (by omega), fm 30 (by omega)]
    exact ⟨b1, b2, b3, b4, b5, b6, b7, b8, b9, b10, b11, b12, b13, by rw [zu_s, zu_s, b14], b15, b16⟩
  · exact ps_fr (fun a j g1 g2 => ec a q j (by omega)) (fun a g1 g2 g3 => em a 0 q (by omega)) (fun j hj => em 11 0 _ (by omega)) (fun a j g1 g2 g3 => em a 0 _ (by omega)) (hP q hq)
  · exact qs_fr (fun a q j g => ec a q j (by omega)) (em 0 0 28 (by omega)) (fun j => by unfold qe; rw [em 25 0 j (by omega), em 26 0 j (by omega), em 27 0 j (by omega), em 28 0 j (by omega)]) hQ
  · rw [ec 14 q j (by omega)]
    exact hZ q g1 g2 j hj
theorem rl_cnt {n : Nat} (h : RL σ τ N u c fr to ba si ke en po r w b) (hn : n ≤ 8) : RL (zu σ 5 0 2 (nI n)) (zu τ 0 0 33 (nI n)) N u c fr to ba si ke en po r w b := by
  obtain ⟨hB, hP, hQ, hZ⟩ := h
  have ec : ∀ a b j : Nat, a ≠ 5 → zu σ 5 0 2 (nI n) a b j = σ a b j := fun a b j g => by rw [zu_rd, if_neg (by omega)]
  have em : ∀ a b j : Nat, ¬ (a = 0 ∧ b = 0 ∧ j = 33) → zu τ 0 0 33 (nI n) a b j = τ a b j := fun a b j g => by rw [zu_rd, if_neg (by omega)]
  refine ⟨?_, fun q hq => ?_, ?_, fun q g1 g2 j hj => ?_⟩
  · obtain ⟨b1, b2, b3, b4, b5, b6, b7, b8, b9, b10, b11, b12, b13, b14, b15, b16⟩ := hB
    have fl : ∀ a, a ≠ 5 → zu σ 5 0 2 (nI n) a 0 = σ a 0 := fun a ha => zu_k ha
    have fm : ∀ a, a ≠ 0 → zu τ 0 0 33 (nI n) a 0 = τ a 0 := fun a ha => zu_k ha
    have f0 : ∀ j, j ≠ 33 → zu τ 0 0 33 (nI n) 0 0 j = τ 0 0 j := fun j hj => em 0 0 j (by omega)
    have f53 : zu σ 5 0 2 (nI n) 5 0 3 = σ 5 0 3 := by rw [zu_rd, if_neg (by omega)]
    have f52 : zu σ 5 0 2 (nI n) 5 0 2 = nI n := by rw [zu_rd, if_pos (by omega)]
    have g33 : zu τ 0 0 33 (nI n) 0 0 33 = nI n := by rw [zu_rd, if_pos (by omega)]
    unfold Bd
    rw [fl 2 (by omega), fl 3 (by omega), fl 8 (by omega), fl 0 (by omega), fl 6 (by omega), fl 7 (by omega), fm 1 (by omega), fm 2 (by omega), fm 29 (by omega), fm 30 (by omega), f0 2 (by omega), f0 3 (by omega), f0 4 (by omega), f0 5 (by omega), f0 35 (by omega), f53, f52, g33]
    exact ⟨b1, b2, b3, b4, b5, b6, b7, b8, b9, b10, b11, rfl, ⟨n, hn, rfl⟩, b14, b15, b16⟩
  · exact ps_fr (fun a j g1 g2 => ec a q j (by omega)) (fun a g1 g2 g3 => em a 0 q (by omega)) (fun j hj => em 11 0 _ (by omega)) (fun a j g1 g2 g3 => em a 0 _ (by omega)) (hP q hq)
  · exact qs_fr (fun a q j g => ec a q j (by omega)) (em 0 0 28 (by omega)) (fun j => by unfold qe; rw [em 25 0 j (by omega), em 26 0 j (by omega), em 27 0 j (by omega), em 28 0 j (by omega)]) hQ
  · rw [ec 14 q j (by omega)]
    exact hZ q g1 g2 j hj
theorem in_loop {n : Nat} {a1 a2 a3 a4 x : Int32} (hn : n < 8) : ∀ (m k f f' : Nat) (s t : zS), RL (zu s 5 0 2 (nI n)) t N u c fr to ba si ke en po r w b → s 5 0 2 = nI (n + 1) → k + m = n → m < f → m < f' → ∃ S T : zS, k_Co_removeInput_9 f s x (nI (k + 1)) = some (S, x) ∧ k_GM_command_187 a1 a2 a3 a4 f' t x (nI k) = (bn (k_GM_receive T a1 x) fun s13 => some (s13, 0)) ∧ RL S T N u c fr to ba si ke en po r w b ∧ Fr s S t T := by
  intro m
  induction m with
  | zero =>
    intro k f f' s t h h5 hk hf hf'
    obtain ⟨f, rfl⟩ : ∃ g, f = g + 1 := ⟨f - 1, by omega⟩
    obtain ⟨f', rfl⟩ : ∃ g, f' = g + 1 := ⟨f' - 1, by omega⟩
    have h33 : t 0 0 33 = nI n := by rw [← h.1.2.2.2.2.2.2.2.2.2.2.2.1, zu_rd, if_pos (by omega)]
    have zm : zmax (nI (n + 1) - (1 : Int32)) 0 = nI n := by
      unfold zmax
      rw [nI_pred, if_neg (nI_pos (by omega))]
    refine ⟨zu s 5 0 2 (nI n), t, ?_, ?_, h, ⟨fun q => ⟨by rw [zu_rd, if_neg (by omega)], by rw [zu_rd, if_neg (by omega)]⟩, rfl⟩⟩
    · rw [k_Co_removeInput_9, h5, if_pos (nI_le (by omega) (by omega)), lt_e, zm]
    · rw [k_GM_command_187, h33, if_pos (nI_le (by omega) (by omega))]
  | succ m ih =>
    intro k f f' s t h h5 hk hf hf'
    obtain ⟨f, rfl⟩ : ∃ g, f = g + 1 := ⟨f - 1, by omega⟩
    obtain ⟨f', rfl⟩ : ∃ g, f' = g + 1 := ⟨f' - 1, by omega⟩
    have h33 : t 0 0 33 = nI n := by rw [← h.1.2.2.2.2.2.2.2.2.2.2.2.1, zu_rd, if_pos (by omega)]
    have h6 : s 6 0 = t 29 0 := by rw [← h.1.2.2.2.2.2.2.2.2.2.2.2.2.2.1, zu_k (by decide)]
    have h' := rl_inw (i := k) (v := t 29 0 (k + 1)) h
    rw [zu_cm (by omega)] at h'
    obtain ⟨S, T, q1, q2, q3, q4⟩ := ih (k + 1) f f' (zu s 6 0 k (t 29 0 (k + 1))) (zu t 29 0 k (t 29 0 (k + 1))) h' (by rw [zu_rd, if_neg (by omega)]; exact h5) (by omega) (by omega) (by omega)
    refine ⟨S, T, ?_, ?_, q3, fr_tr ⟨fun q => ⟨by rw [zu_rd, if_neg (by omega)], by rw [zu_rd, if_neg (by omega)]⟩, by rw [zu_rd, if_neg (by omega)]⟩ q4⟩
    · rw [k_Co_removeInput_9, h5, if_neg (nI_ge (by omega) (by omega)), nI_pred, ck_p (zi_n (show k + 1 < 8 by omega) (by omega)), ck_p (zi_n (show k < 8 by omega) (by omega)), lt_e, lt_e, nI_clamp (by omega), nI_clamp (by omega), nI_1, h6]
      exact q1
    · rw [k_GM_command_187, h33, if_neg (nI_ge (by omega) (by omega)), nI_1, ck_p (zi_n (show k + 1 < 8 by omega) (by omega)), ck_p (zi_n (show k < 8 by omega) (by omega)), lt_e, lt_e, nI_clamp (by omega), nI_clamp (by omega)]
      exact q2
theorem k_cons (A1 A2 : Int32) (h : RL σ τ N u c fr to ba si ke en po r w b) (hp : p < N) (hr : 0 < r p 1) (hA : ¬ A1 = 0) : KO (k_Ke_commandConsole σ p A1 A2) (k_GM_command τ (nI p) (nI 1) A1 A2) σ τ N fr to ba si ke en po := by
  obtain ⟨e, hlt, hn, hw⟩ := g_at h hp (show 1 < 3 by omega) hr
  have hn0 := hn 0 (by omega)
  have hw0 := fun v => hw 0 v (by omega)
  have hpd := pend_n h hp (show 1 < 3 by omega)
  rw [Nat.add_zero] at hn0 hw0
  generalize hgd : ba p + si p - 2 * r p 1 = gd at *
  have i1 : nI 1 = (1 : Int32) := by decide
  rw [i1] at hn0 hw0 hpd ⊢
  rw [show (nI 0 : Int32) = 0 from rfl] at hn0 hw0
  unfold k_Ke_commandConsole k_GM_command k_GM_command_35 k_GM_command_49 k_GM_command_99
  rw [if_neg hA, if_neg (show ¬ (1 : Int32) = 0 by decide), if_neg (show ¬ (1 : Int32) = 0 by decide), if_neg (show ¬ (1 : Int32) = 0 by decide), if_pos rfl]
  by_cases h1 : A1 = 1
  · rw [if_pos h1, if_pos h1]
    by_cases h0 : 0 ≤ A2
    · obtain ⟨σ', τ', x, u', c', r', w', b', q1, q2, q3, q4⟩ := k_print A2 h hp hr h0
      rw [if_pos h0, if_pos h0, q1, q2, bn_s, bn_s]
      exact ⟨σ', τ', x, u', c', r', w', b', rfl, rfl, q3, q4⟩
    · rw [if_neg h0, if_neg h0]
      exact ko_s _ h
  · unfold k_GM_command_127
    rw [if_neg h1, if_neg h1, if_neg (show ¬ (1 : Int32) ≤ 0 by decide), ck_p (by decide), show ((1 : Int32) - 1 / 2 * 2) + (1 : Int32) = 2 by decide]
    by_cases h2 : A1 = 2
    · rw [if_pos h2, if_pos h2, hpd, bn_s, hn0, bn_s]
      dsimp only
      by_cases hq : τ 2 0 gd = 1
      · rw [if_pos (show 0 < r p 1 ∧ τ 2 0 gd = 1 from ⟨hr, hq⟩), if_pos hq, if_neg (show ¬ (1 : Int32) = 0 by decide)]
        exact ko_s _ h
      · obtain ⟨n, hn8, en5⟩ := h.1.2.2.2.2.2.2.2.2.2.2.2.2.1
        have e33 : σ 5 0 2 = τ 0 0 33 := h.1.2.2.2.2.2.2.2.2.2.2.2.1
        have e6 : σ 6 0 = τ 29 0 := h.1.2.2.2.2.2.2.2.2.2.2.2.2.2.1
        rw [if_neg (fun g : 0 < r p 1 ∧ τ 2 0 gd = 1 => hq g.2), if_neg hq, if_pos rfl, if_pos rfl, ← e33, en5]
        by_cases hz : n = 0
        · subst hz
          unfold k_GM_command_228
          rw [if_pos (show nI 0 ≤ 0 by decide), if_pos (show nI 0 ≤ 0 by decide), hw0, bn_s, ck_p (by decide), show (1 : Int32).toNatClampNeg = 1 by decide, e, me_set (by omega), bn_s]
          exact ⟨_, _, 0, u, c, r, w, b, rfl, rfl, rl_ram h gd 1, fr_ram⟩
        · obtain ⟨n', rfl⟩ : ∃ n', n = n' + 1 := ⟨n - 1, by omega⟩
          have hng : ¬ nI (n' + 1) ≤ 0 := nI_nle (by omega) (by omega)
          have hc := rl_cnt (n := n') h (by omega)
          obtain ⟨S, T, q1, q2, q3, q4⟩ := in_loop (a1 := nI p) (a2 := 1) (a3 := A1) (a4 := A2) (x := τ 29 0 0) (show n' < 8 by omega) n' 0 FU FU σ (zu τ 0 0 33 (nI n')) hc en5 (by omega) (by unfold FU; omega) (by unfold FU; omega)
          obtain ⟨σ', τ', u', c', k1, k2, k3, k4⟩ := receive_fr (τ 29 0 0) q3 hp hr
          unfold k_Co_removeInput
          rw [if_neg hng, if_neg hng, ck_p (by decide), lt_e, ck_p (by decide), lt_e, lt_e, show (0 : Int32).toNatClampNeg = 0 by decide, e6, nI_pred]
          rw [show k_Co_removeInput_9 FU σ (τ 29 0 0) 1 = k_Co_removeInput_9 FU σ (τ 29 0 0) (nI (0 + 1)) from rfl, q1, bn_s]
          dsimp only
          rw [k1, bn_s, show k_GM_command_187 (nI p) 1 A1 A2 FU (zu τ 0 0 33 (nI n')) (τ 29 0 0) 0 = k_GM_command_187 (nI p) 1 A1 A2 FU (zu τ 0 0 33 (nI n')) (τ 29 0 0) (nI 0) from rfl, q2, k2, bn_s]
          refine ⟨σ', τ', 0, u', c', r, w, b, rfl, rfl, k3, fr_tr (fr_tr ⟨fun q => ⟨rfl, rfl⟩, ?_⟩ q4) k4⟩
          rw [zu_rd, if_neg (by omega)]
    · rw [if_neg h2, if_neg h2]
      exact ko_s _ h
end CONS
