/-! commands to the drivers -/
def KO (C M : Option (zS × Int32)) (σ τ : zS) (N : Nat) (fr to ba si ke en po : Nat → Nat) : Prop := ∃ (σ' τ' : zS) (x : Int32) (u' : Nat) (c' : Nat → Nat) (r' w' b' : Nat → Nat → Nat), C = some (σ', x) ∧ M = some (τ', x) ∧ RL σ' τ' N u' c' fr to ba si ke en po r' w' b' ∧ Fr σ σ' τ τ'
section CMD
variable {σ τ : zS} {N u p : Nat} {c fr to ba si ke en po : Nat → Nat} {r w b : Nat → Nat → Nat}
theorem ko_s (x : Int32) (h : RL σ τ N u c fr to ba si ke en po r w b) : KO (some (σ, x)) (some (τ, x)) σ τ N fr to ba si ke en po := ⟨σ, τ, x, u, c, r, w, b, rfl, rfl, h, fr_rf⟩
theorem k_alarm (A1 A2 : Int32) (h : RL σ τ N u c fr to ba si ke en po r w b) (hp : p < N) (hr : 0 < r p 0) (hA : ¬ A1 = 0) : KO (k_Ke_commandAlarm σ p A1 A2) (k_GM_command τ (nI p) (nI 0) A1 A2) σ τ N fr to ba si ke en po := by
  obtain ⟨e, hlt, hn, hw⟩ := g_at h hp (show 0 < 3 by omega) hr
  have hn0 := hn 0 (by omega)
  have hw0 := fun v => hw 0 v (by omega)
  have e3 : σ 3 0 = τ 2 0 := h.1.2.2.1
  have e8 : σ 8 0 3 = τ 0 0 2 := h.1.2.2.2.1
  rw [Nat.add_zero] at hn0 hw0
  generalize hgd : ba p + si p - 2 * r p 0 = gd at *
  have z3 : zi (0 : Int32) 3 = true := by decide
  have c0 : (0 : Int32).toNatClampNeg = 0 := by decide
  have a1 : nI (4096 + 4 * gd) + (4 : Int32) = nI (4096 + 4 * (gd + 1)) := add4 (k := 1)
  have i00 : nI 0 = (0 : Int32) := by decide
  rw [i00] at hn0 hw0 ⊢
  unfold k_Ke_commandAlarm k_GM_command
  rw [ck_p z3, lt_e, c0, e, if_neg hA, if_pos rfl]
  by_cases h1 : A1 = 1
  · subst h1
    unfold k_GM_command_35 k_GM_command_49 k_Ke_setAlarm
    rw [if_pos rfl, if_neg (show ¬ (1 : Int32) = 2 by decide), if_pos rfl, if_neg (show ¬ (1 : Int32) = 3 by decide), if_pos rfl, if_pos rfl]
    by_cases hl : A2 < 1
    · rw [if_pos hl, if_pos hl, bn_s]
      exact ko_s _ h
    · rw [if_neg hl, if_neg hl]
      by_cases hm : A2 ≤ 1000
      · have k1 := rl_ram h gd 1
        obtain ⟨-, -, -, hwb⟩ := g_at k1 hp (show 0 < 3 by omega) hr
        have hw1 := fun v => hwb 1 v (by omega)
        rw [hgd, i00, show (nI 1 : Int32) = 1 from rfl] at hw1
        have r8 : zu σ 3 0 gd 1 8 0 3 = τ 0 0 2 := by rw [zu_rd, if_neg (by omega)]; exact e8
        have q2 : zu τ 2 0 gd 1 0 0 2 = τ 0 0 2 := by rw [zu_rd, if_neg (by omega)]
        rw [if_pos hm, if_pos hm, me_set (by omega), bn_s, a1, r8, me_set (by omega), bn_s, bn_s, hw0, bn_s, q2, hw1, bn_s]
        exact ⟨_, _, 0, u, c, r, w, b, rfl, rfl, rl_ram k1 (gd + 1) _, fr_tr fr_ram fr_ram⟩
      · rw [if_neg hm, if_neg hm, bn_s]
        exact ko_s _ h
  · by_cases h2 : A1 = 2
    · subst h2
      unfold k_Ke_cancelAlarm
      rw [if_neg (show ¬ (2 : Int32) = 1 by decide), if_pos rfl, if_pos rfl, me_get (by omega), bn_s]
      dsimp only
      rw [me_set (by omega), bn_s, bn_s, hn0, bn_s]
      dsimp only
      rw [hw0, bn_s, e3]
      exact ⟨_, _, _, u, c, r, w, b, rfl, rfl, rl_ram h gd 0, fr_ram⟩
    · unfold k_GM_command_35
      rw [if_neg h1, if_neg h2, if_neg h2, if_pos rfl]
      by_cases h3 : A1 = 3
      · rw [if_pos h3, if_pos h3, e8]
        exact ko_s _ h
      · unfold k_GM_command_49 k_GM_command_99 k_GM_command_127
        rw [if_neg h3, if_neg h3, if_pos rfl, if_neg h1, if_neg (show ¬ (0 : Int32) = 1 by decide), if_pos (by decide)]
        exact ko_s _ h
theorem k_sensor (A1 A2 : Int32) (h : RL σ τ N u c fr to ba si ke en po r w b) (hp : p < N) (hr : 0 < r p 2) (hA : ¬ A1 = 0) : KO (k_Ke_commandSensor σ p A1) (k_GM_command τ (nI p) (nI 2) A1 A2) σ τ N fr to ba si ke en po := by
  obtain ⟨e, hlt, hn, hw⟩ := g_at h hp (show 2 < 3 by omega) hr
  have hn0 := hn 0 (by omega)
  have hw0 := fun v => hw 0 v (by omega)
  have hpd := pend_n h hp (show 2 < 3 by omega)
  rw [Nat.add_zero] at hn0 hw0
  generalize hgd : ba p + si p - 2 * r p 2 = gd at *
  have i2 : nI 2 = (2 : Int32) := by decide
  rw [i2] at hn0 hw0 hpd ⊢
  rw [show (nI 0 : Int32) = 0 from rfl] at hn0 hw0
  unfold k_Ke_commandSensor k_GM_command k_GM_command_35 k_GM_command_49 k_GM_command_99 k_GM_command_127
  rw [if_neg hA, if_neg (show ¬ (2 : Int32) = 0 by decide), if_neg (show ¬ (2 : Int32) = 0 by decide), if_neg (show ¬ (2 : Int32) = 0 by decide), if_neg (show ¬ (2 : Int32) = 1 by decide), if_neg (show ¬ (2 : Int32) ≤ 0 by decide), ck_p (by decide), show ((2 : Int32) - 2 / 2 * 2) + (1 : Int32) = 1 by decide]
  by_cases h1 : A1 = 1
  · rw [if_pos h1, if_pos h1, hpd, bn_s, hn0, bn_s]
    dsimp only
    by_cases hq : τ 2 0 gd = 1
    · rw [if_pos (show 0 < r p 2 ∧ τ 2 0 gd = 1 from ⟨hr, hq⟩), if_pos hq, if_neg (show ¬ (1 : Int32) = 0 by decide)]
      exact ko_s _ h
    · unfold k_GM_command_228
      rw [if_neg (fun g : 0 < r p 2 ∧ τ 2 0 gd = 1 => hq g.2), if_neg hq, if_pos rfl, if_neg (show ¬ (2 : Int32) = 1 by decide), hw0, bn_s, ck_p (by decide), show (2 : Int32).toNatClampNeg = 2 by decide, e, me_set (by omega), bn_s]
      exact ⟨_, _, 0, u, c, r, w, b, rfl, rfl, rl_ram h gd 1, fr_ram⟩
  · rw [if_neg h1, if_neg h1]
    exact ko_s _ h
/-! the console -/
theorem rl_out {i : Nat} {v x : Int32} (h : RL σ τ N u c fr to ba si ke en po r w b) : RL (zu (zu σ 7 0 i v) 5 0 3 x) (zu (zu τ 30 0 i v) 0 0 35 x) N u c fr to ba si ke en po r w b := by
  obtain ⟨hB, hP, hQ, hZ⟩ := h
  have ec : ∀ a b j : Nat, ¬ ((a = 5 ∨ a = 7) ∧ b = 0) → zu (zu σ 7 0 i v) 5 0 3 x a b j = σ a b j := fun a b j g => by rw [zu_rd, if_neg (by omega), zu_rd, if_neg (by omega)]
  have em : ∀ a b j : Nat, ¬ (a = 30 ∧ b = 0) → ¬ (a = 0 ∧ b = 0 ∧ j = 35) → zu (zu τ 30 0 i v) 0 0 35 x a b j = τ a b j := fun a b j g g' => by rw [zu_rd, if_neg (by omega), zu_rd, if_neg (by omega)]
  refine ⟨?_, fun q hq => ?_, ?_, fun q g1 g2 j hj => ?_⟩
  · obtain ⟨b1, b2, b3, b4, b5, b6, b7, b8, b9, b10, b11, b12, b13, b14, b15, b16⟩ := hB
    have fl : ∀ a, ¬ (a = 5 ∨ a = 7) → zu (zu σ 7 0 i v) 5 0 3 x a 0 = σ a 0 := fun a ha => funext fun j => ec a 0 j (by omega)
    have fm : ∀ a, (a = 1 ∨ a = 2 ∨ a = 29) → zu (zu τ 30 0 i v) 0 0 35 x a 0 = τ a 0 := fun a ha => funext fun j => em a 0 j (by omega) (by omega)
    have f0 : ∀ j, j ≠ 35 → zu (zu τ 30 0 i v) 0 0 35 x 0 0 j = τ 0 0 j := fun j hj => em 0 0 j (by omega) (by omega)
    have f52 : zu (zu σ 7 0 i v) 5 0 3 x 5 0 2 = σ 5 0 2 := by rw [zu_rd, if_neg (by omega), zu_rd, if_neg (by omega)]
    unfold Bd
    rw [fl 2 (by omega), fl 3 (by omega), fl 8 (by omega), fl 0 (by omega), fl 6 (by omega), fm 1 (by omega), fm 2 (by omega), fm 29 (by omega), f0 2 (by omega), f0 3 (by omega), f0 4 (by omega), f0 5 (by omega), f0 33 (by omega), f52]
    refine ⟨b1, b2, b3, b4, b5, b6, b7, b8, b9, b10, b11, b12, b13, b14, ?_, ?_⟩
    · rw [zu_rd, if_pos (by omega), zu_rd, if_pos (by omega)]
    · rw [zu_k (by decide), zu_s, zu_k (by decide), zu_s, b16]
  · exact ps_fr (fun a j g1 g2 => ec a q j (by omega)) (fun a g1 g2 g3 => em a 0 q (by omega) (by omega)) (fun j hj => em 11 0 _ (by omega) (by omega)) (fun a j g1 g2 g3 => em a 0 _ (by omega) (by omega)) (hP q hq)
  · exact qs_fr (fun a q j g => ec a q j (by omega)) (em 0 0 28 (by omega) (by omega)) (fun j => by unfold qe; rw [em 25 0 j (by omega) (by omega), em 26 0 j (by omega) (by omega), em 27 0 j (by omega) (by omega), em 28 0 j (by omega) (by omega)]) hQ
  · rw [ec 14 q j (by omega)]
    exact hZ q g1 g2 j hj
theorem fr_out {i : Nat} {v x : Int32} : Fr σ (zu (zu σ 7 0 i v) 5 0 3 x) τ (zu (zu τ 30 0 i v) 0 0 35 x) := ⟨fun q => ⟨by rw [zu_rd, if_neg (by omega), zu_rd, if_neg (by omega)], by rw [zu_rd, if_neg (by omega), zu_rd, if_neg (by omega)]⟩, by rw [zu_rd, if_neg (by omega), zu_rd, if_neg (by omega)]⟩
/-- writing out: both loops -/
theorem out_loop {n B : Nat} {a2 : Int32} (hp : p < N) (hB : B + n ≤ 128) (hn : n ≤ 128) (hr : 0 < r p 1) : ∀ (m k f f' : Nat) (σ τ : zS), RL σ τ N u c fr to ba si ke en po r w b → (0 < n → τ 23 0 (3 * p + 1) = nI (4096 + 4 * B)) → k + m = n → m < f → m < f' → ∃ (σ' τ' : zS) (u' : Nat) (c' : Nat → Nat), k_Ke_putOut_28 p a2 f σ (nI n) (nI (4096 + 4 * B)) (nI k) = some (σ', 0) ∧ k_GM_print_32 (nI p) a2 f' τ (nI n) (nI k) = some (τ', 0) ∧ RL σ' τ' N u' c' fr to ba si ke en po r w b ∧ Fr σ σ' τ τ' := by
  intro m
  induction m with
  | zero =>
    intro k f f' σ τ h h23 hk hf hf'
    obtain ⟨f, rfl⟩ : ∃ g, f = g + 1 := ⟨f - 1, by omega⟩
    obtain ⟨f', rfl⟩ : ∃ g, f' = g + 1 := ⟨f' - 1, by omega⟩
    obtain ⟨e, hlt, hnt, hw⟩ := g_at h hp (show 1 < 3 by omega) hr
    have hn1 := hnt 1 (by omega)
    have hw1 := fun v => hw 1 v (by omega)
    rw [show (nI 1 : Int32) = 1 from rfl] at hn1 hw1
    generalize hgd : ba p + si p - 2 * r p 1 = gd at *
    have a1 : nI (4096 + 4 * gd) + (4 : Int32) = nI (4096 + 4 * (gd + 1)) := add4 (k := 1)
    have e3 : σ 3 0 = τ 2 0 := h.1.2.2.1
    rw [k_Ke_putOut_28, k_GM_print_32, if_pos (nI_le (by omega) (by omega)), if_pos (nI_le (by omega) (by omega)), ck_p (by decide), lt_e, show (1 : Int32).toNatClampNeg = 1 by decide, e, a1, me_get (by omega), bn_s, hn1, bn_s]
    dsimp only
    rw [lt_e, me_set (by omega), bn_s, hw1, bn_s, e3]
    obtain ⟨σ', τ', u', c', q1, q2, q3, q4⟩ := upcall_fr (nI n) 0 (rl_ram h (gd + 1) (τ 2 0 (gd + 1) + nI n)) hp (show 1 < 3 by omega)
    rw [show (nI 1 : Int32) = 1 from rfl] at q1 q2
    rw [q1, q2, bn_s, bn_s]
    exact ⟨σ', τ', u', c', rfl, rfl, q3, fr_tr fr_ram q4⟩
  | succ m ih =>
    intro k f f' σ τ h h23 hk hf hf'
    have h4 : N ≤ 4 := h.1.2.2.2.2.2.2.2.2.1
    obtain ⟨f, rfl⟩ : ∃ g, f = g + 1 := ⟨f - 1, by omega⟩
    obtain ⟨f', rfl⟩ : ∃ g, f' = g + 1 := ⟨f' - 1, by omega⟩
    have e3 : σ 3 0 = τ 2 0 := h.1.2.2.1
    have e35 : σ 5 0 3 = τ 0 0 35 := h.1.2.2.2.2.2.2.2.2.2.2.2.2.2.2.1
    have ix : (3 : Int32) * nI p + (1 : Int32) = nI (3 * p + 1) := ix3 (i := 1)
    obtain ⟨o, ho, eo⟩ := pk_andE (σ 5 0 3) (m := 15) 4 (by decide)
    have zo : zi (nI o) 16 = true := zi_n (by omega) (by omega)
    have co : (nI o).toNatClampNeg = o := nI_clamp (by omega)
    have r5 : zu σ 7 0 o (τ 2 0 (B + k)) 5 0 3 = σ 5 0 3 := by rw [zu_rd, if_neg (by omega)]
    have q35 : zu τ 30 0 o (τ 2 0 (B + k)) 0 0 35 = σ 5 0 3 := by rw [zu_rd, if_neg (by omega)]; exact e35.symm
    obtain ⟨σ', τ', u', c', q1, q2, q3, q4⟩ := ih (k + 1) f f' _ _ (rl_out (i := o) (v := τ 2 0 (B + k)) (x := σ 5 0 3 + (1 : Int32)) h) (fun g => by rw [zu_rd, if_neg (by omega), zu_rd, if_neg (by omega)]; exact h23 g) (by omega) (by omega) (by omega)
    refine ⟨σ', τ', u', c', ?_, ?_, q3, fr_tr fr_out q4⟩
    · rw [k_Ke_putOut_28, if_neg (nI_ge (by omega) (by omega)), mul4, add4, me_get (by omega), bn_s]
      dsimp only
      unfold k_Co_addOutput
      rw [eo, ck_p zo, lt_e, lt_e, co, e3, r5, bn_s, lt_e, nI_1]
      exact q1
    · rw [k_GM_print_32, if_neg (nI_ge (by omega) (by omega)), ix, ck_p (zi_n (by omega) (by omega)), nI_clamp (by omega), h23 (by omega), mul4, add4, gm_get (by omega), bn_s]
      dsimp only
      rw [← e35, eo, ck_p zo, lt_e, lt_e, co, q35, lt_e, nI_1]
      exact q2
theorem k_print (A2 : Int32) (h : RL σ τ N u c fr to ba si ke en po r w b) (hp : p < N) (hr : 0 < r p 1) (hA : 0 ≤ A2) : KO (k_Ke_putOut σ p A2) (k_GM_print τ (nI p) A2) σ τ N fr to ba si ke en po := by
  obtain ⟨o1, o2, o3, o4⟩ := op_le h hp
  obtain ⟨hS, hD, hN⟩ := h.2.1 p hp
  obtain ⟨w1, w2, w3⟩ := hN.2.2.2.2 1 (by omega)
  have ix : (3 : Int32) * nI p + (1 : Int32) = nI (3 * p + 1) := ix3 (i := 1)
  have z12 : zi (nI (3 * p + 1)) 12 = true := zi_n (by omega) (by omega)
  have c12 : (nI (3 * p + 1)).toNatClampNeg = 3 * p + 1 := nI_clamp (by omega)
  have c1 : (1 : Int32).toNatClampNeg = 1 := by decide
  obtain ⟨m, hm, rfl⟩ := nI_of (Int32.not_lt.mpr hA)
  have hwle : w p 1 ≤ 64 := by
    by_cases hw : 0 < w p 1
    · have := (w3 hw).2.2; omega
    · omega
  have key : ∀ n, n ≤ w p 1 → KO (k_Ke_putOut_28 p (nI m) FU σ (nI n) (σ 17 p 1) (nI 0)) (k_GM_print_32 (nI p) (nI m) FU τ (nI n) (nI 0)) σ τ N fr to ba si ke en po := fun n hn => by
    by_cases h0 : 0 < n
    · obtain ⟨b1, b2, b3⟩ := w3 (by omega)
      obtain ⟨σ', τ', u', c', q1, q2, q3, q4⟩ := out_loop (a2 := nI m) (B := ba p + b p 1) (n := n) hp (by omega) (by omega) hr n 0 FU FU σ τ h (fun _ => b2) (by omega) (by unfold FU; omega) (by unfold FU; omega)
      rw [b1]
      exact ⟨σ', τ', 0, u', c', r, w, b, q1, q2, q3, q4⟩
    · obtain rfl : n = 0 := by omega
      obtain ⟨σ', τ', u', c', q1, q2, q3, q4⟩ := out_loop (a2 := nI m) (B := 0) (n := 0) hp (by omega) (by omega) hr 0 0 FU FU σ τ h (fun g => absurd g (by omega)) (by omega) (by unfold FU; omega) (by unfold FU; omega)
      refine ⟨σ', τ', 0, u', c', r, w, b, ?_, q2, q3, q4⟩
      rw [← q1, show FU = 999 + 1 from rfl, k_Ke_putOut_28, k_Ke_putOut_28, if_pos (show nI 0 ≤ nI 0 by decide), if_pos (show nI 0 ≤ nI 0 by decide)]
  unfold k_Ke_putOut k_GM_print k_GM_print_28
  rw [ck_p (by decide), lt_e, ck_p (by decide), lt_e, c1, w1, ix, ck_p z12, c12, w2, ck_p z12]
  unfold zmin
  by_cases hmn : w p 1 ≤ m
  · rw [if_pos (nI_le hmn (by omega))]
    by_cases hlt : w p 1 < m
    · rw [if_pos (nI_lt hlt (by omega))]
      exact key _ (Nat.le_refl _)
    · have : w p 1 = m := by omega
      rw [if_neg (nI_nlt (by omega) (by omega)), ← this]
      rw [← this] at key
      exact key _ (Nat.le_refl _)
  · rw [if_neg (nI_ge (by omega) (by omega)), if_neg (nI_nlt (by omega) (by omega))]
    exact key m (by omega)
end CMD
