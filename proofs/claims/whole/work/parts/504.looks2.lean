/-! grant, queued, register -/
theorem look2 {f g : zS → Int32 → Int32 → Option (zS × Int32)} (d : Int32) (hf : ∀ (σ τ : zS) (a x : Int32), k_GK_find σ a = some (σ, none) → k_GM_there τ a = some (τ, 0) → f σ a x = some (σ, d) ∧ g τ a x = some (τ, d)) (hg : ∀ (σ τ : zS) (N u p : Nat) (x : Int32) (c fr to ba si ke en po : Nat → Nat) (r w b : Nat → Nat → Nat), p < N → N ≤ 4 → Bd σ τ N → Ps σ τ p (fr p) (to p) (ba p) (si p) (ke p) (en p) (po p) (r p) (w p) (b p) → Qs σ τ N u c → k_GK_find σ (nI p) = some (σ, some p) → k_GM_there τ (nI p) = some (τ, 1) → ∃ v, f σ (nI p) x = some (σ, v) ∧ g τ (nI p) x = some (τ, v)) : ok2 Rel f g := by
  intro σ τ a x hR
  have hR' := hR
  obtain ⟨N, u, c, fr, to, ba, si, ke, en, po, r, w, b, hB, hP, hQ, hZ⟩ := hR
  have h4 := hB.2.2.2.2.2.2.2.2.1
  rcases q_find hB.2.2.2.2.2.2.1 h4 a with ⟨e, h⟩ | ⟨j, hj, rfl, e⟩
  · obtain ⟨h1, h2⟩ := hf σ τ a x e ((q_there hB.2.2.2.2.2.2.2.1 a).1 h)
    exact ⟨σ, τ, d, h1, h2, hR'⟩
  · obtain ⟨v, h1, h2⟩ := hg σ τ N u j x c fr to ba si ke en po r w b hj h4 hB (hP j hj) hQ e ((q_there hB.2.2.2.2.2.2.2.1 (nI j)).2 j hj h4 rfl)
    exact ⟨σ, τ, v, h1, h2, hR'⟩
theorem gm_ga {τ : zS} {p i ba si r : Nat} (hp : p < 4) (hi : i < 3) (hb : τ 5 0 p = nI ba) (hs : τ 6 0 p = nI si) (hr : τ 20 0 (3 * p + i) = nI r) (h : 2 * r ≤ ba + si) : k_GM_grantAddress τ (nI p) (nI i) = some (τ, nI (4096 + 4 * (ba + si - 2 * r))) := by
  unfold k_GM_grantAddress
  rw [ck_p (zi_n hp (by omega)), ck_p (zi_n hp (by omega)), ix3, ck_p (zi_n (by omega) (by omega)), nI_clamp (by omega), nI_clamp (by omega), hb, hs, hr, nI_add, show (2 : Int32) = nI 2 from rfl, pk_mul, pk_sub h, show (4 : Int32) = nI 4 from rfl, pk_mul, show (4096 : Int32) = nI 4096 from rfl, nI_add]
theorem no_has {σ : zS} {p i : Nat} (hi : i < 3) : k_No_hasGrant σ p (nI i) = some (σ, if σ 14 p i = 0 then 0 else 1) := by
  unfold k_No_hasGrant
  rw [ck_p (zi_n hi (by omega)), nI_clamp (by omega)]
  split <;> rfl
theorem k_grant : ok2 Rel k_GK_grant k_GM_grant := look2 (-1) (fun σ τ a x h1 h2 => ⟨by unfold k_GK_grant; rw [h1]; rfl, by unfold k_GM_grant; rw [h2]; rfl⟩) (fun σ τ N u p x c fr to ba si ke en po r w b hp h4 hB hP hQ h1 h2 => by
  unfold k_GK_grant k_GM_grant
  rw [h1, h2, bn_s, bn_s]
  dsimp only
  rw [if_neg (show ¬ (1 : Int32) = 0 by decide)]
  rcases pk_ix x (n := 3) (by omega) with h | h | ⟨j, hj, rfl⟩
  · exact ⟨-1, by rw [if_pos h], by rw [if_pos h]⟩
  · have h : (3 : Int32) ≤ x := h
    have h0 : ¬ x < 0 := fun h' => absurd (Int32.lt_of_le_of_lt h h') (by decide)
    have h3 : (2 : Int32) < x := Int32.lt_of_lt_of_le (by decide) h
    exact ⟨-1, by rw [if_neg h0, if_pos h], by rw [if_neg h0, if_pos h3]⟩
  · obtain ⟨g1, g2, g3, g4⟩ := hP.2.2.1 j hj
    have e5 := hP.1.2.2.2.2.2.2.2.2.2.1
    have e6 := hP.1.2.2.2.2.2.2.2.2.2.2.1
    have hsi := hP.1.2.2.2.2.2.2.2.2.2.2.2.2.2.2.2.2.1
    have hba := hP.1.2.2.2.2.2.2.2.2.2.2.2.2.2.2.2.2.2.1
    have z3 : zi (nI j) 3 = true := zi_n hj (by omega)
    have z12 : zi (nI (3 * p + j)) 12 = true := zi_n (by omega) (by omega)
    have c1 : (nI j).toNatClampNeg = j := nI_clamp (by omega)
    have c2 : (nI (3 * p + j)).toNatClampNeg = 3 * p + j := nI_clamp (by omega)
    have i1 : ¬ nI j < 0 := nI_pos (by omega)
    have i2 : ¬ (3 : Int32) ≤ nI j := nI_ge (b := 3) hj (by omega)
    have i3 : ¬ (2 : Int32) < nI j := nI_nlt (a := 2) (by omega) (by omega)
    simp only [if_neg i1, if_neg i2, if_neg i3, no_has hj, bn_s, ix3, ck_p z3, ck_p z12, c1, c2, g3]
    by_cases hr : r p j = 0
    · rw [g4, if_pos hr, if_pos rfl, if_pos rfl, hr]
      exact ⟨-1, rfl, by rw [if_pos (by decide)]⟩
    · have hne : ¬ σ 14 p j = 0 := by rw [g4, if_neg hr]; exact nI_ne0 (by omega) (by omega)
      rw [if_neg hne, if_neg (show ¬ (1 : Int32) = 0 by decide), if_neg (nI_nle (by omega) (by omega)), gm_ga (by omega) hj e5 e6 g3 (by omega), bn_s, g4, if_neg hr]
      exact ⟨_, rfl, rfl⟩)
theorem qM_len (τ : zS) (u : Nat) : (qM τ u).length = u := by simp [qM]
theorem qM_at {τ : zS} {u k : Nat} (h : k < u) : (qM τ u)[k]'(by rw [qM_len]; exact h) = (τ 25 0 k, τ 26 0 k, τ 27 0 k, τ 28 0 k) := by simp [qM]
theorem qF_cons (e : Int32 × Int32 × Int32 × Int32) (l : List (Int32 × Int32 × Int32 × Int32)) (p : Nat) : qF (e :: l) p = if e.1 = nI p then e.2 :: qF l p else qF l p := by
  unfold qF
  rw [List.filterMap_cons]
  split <;> rename_i h <;> split at h <;> simp_all
theorem wait_loop {τ : zS} {u p : Nat} (hu : τ 0 0 28 = nI u) (h16 : u ≤ 16) : ∀ (m n k l : Nat), k + m = u → m < n → k_GM_waiting_4 (nI p) n τ (nI l) (nI k) = some (τ, nI (l + (qF ((qM τ u).drop k) p).length)) := by
  intro m
  induction m with
  | zero =>
    intro n k l hk hn
    obtain ⟨n, rfl⟩ : ∃ n', n = n' + 1 := ⟨n - 1, by omega⟩
    rw [k_GM_waiting_4, hu, if_pos (nI_le (by omega) (by omega)), List.drop_eq_nil_of_le (by rw [qM_len]; omega)]
    rfl
  | succ m ih =>
    intro n k l hk hn
    obtain ⟨n, rfl⟩ : ∃ n', n = n' + 1 := ⟨n - 1, by omega⟩
    have hku : k < u := by omega
    rw [k_GM_waiting_4, hu, if_neg (nI_ge hku (by omega)), ck_p (zi_n (by omega) (by omega)), nI_clamp (by omega), List.drop_eq_getElem_cons (by rw [qM_len]; exact hku), qM_at hku, qF_cons]
    dsimp only
    by_cases he : τ 25 0 k = nI p
    · rw [if_pos he, if_pos he]
      unfold k_GM_waiting_28
      rw [lt_e, lt_e, nI_1, nI_1, ih n (k + 1) (l + 1) (by omega) (by omega), List.length_cons]
      congr 3; omega
    · rw [if_neg he, if_neg he]
      unfold k_GM_waiting_28
      rw [lt_e, lt_e, nI_1, show (0 : Int32) = nI 0 from rfl, nI_add, ih n (k + 1) (l + 0) (by omega) (by omega)]
      congr 3
theorem gm_waiting {τ : zS} {u p : Nat} (hu : τ 0 0 28 = nI u) (h16 : u ≤ 16) : k_GM_waiting τ (nI p) = some (τ, nI (qF (qM τ u) p).length) := by
  unfold k_GM_waiting
  have := wait_loop (p := p) hu h16 u FU 0 0 (by omega) (by unfold FU; omega)
  rw [Nat.zero_add] at this
  exact this
theorem k_queued : ok1 Rel k_GK_queued k_GM_queued := look1 (-1) (fun σ τ a N _ h1 h2 => ⟨by unfold k_GK_queued; rw [h1]; rfl, by unfold k_GM_queued; rw [h2]; rfl⟩) (fun σ τ N u p c fr to ba si ke en po r w b hp h4 hB hP hQ h1 h2 => ⟨σ 19 p 3, by unfold k_GK_queued; rw [h1]; rfl, by
  unfold k_GM_queued
  rw [h2, bn_s]
  dsimp only
  rw [if_neg (show ¬ (1 : Int32) = 0 by decide), gm_waiting hQ.1 hQ.2.1, bn_s]
  dsimp only
  obtain ⟨q1, q2, q3⟩ := hQ.2.2.1 p hp
  rw [q1, ← q3]
  simp [qC]⟩)
/-- a word of the frame, on both sides -/
theorem bp_fw {σ : zS} {p q k : Nat} (hs : σ 11 p 11 = nI (4096 + 4 * q)) (hq : q + k < 128) : k_BP_frameWord σ p (nI k) = some (σ, σ 3 0 (q + k)) := by
  unfold k_BP_frameWord
  rw [hs, show (4 : Int32) = nI 4 from rfl, pk_mul, nI_add, show 4096 + 4 * q + 4 * k = 4096 + 4 * (q + k) by omega, me_get hq, bn_s]
theorem gm_fw {τ : zS} {q k : Nat} (hq : q + k < 128) : k_GM_get τ (nI (4096 + 4 * q) + nI (4 * k)) = some (τ, τ 2 0 (q + k)) := by
  rw [nI_add, show 4096 + 4 * q + 4 * k = 4096 + 4 * (q + k) by omega, gm_get hq]
set_option maxHeartbeats 1000000 in
theorem k_register : ok2 Rel k_GK_register k_GM_register := look2 0 (fun σ τ a x h1 h2 => ⟨by unfold k_GK_register; rw [h1]; rfl, by unfold k_GM_register; rw [h2]; rfl⟩) (fun σ τ N u p x c fr to ba si ke en po r w b hp h4 hB hP hQ h1 h2 => by
  have e3 := hB.2.2.1
  have hba := hP.1.2.2.2.2.2.2.2.2.2.2.2.2.2.2.2.2.2.1
  obtain ⟨d1, d2, d3, d4, d5, -, d7, d8, -, -, -, d12, -⟩ := hP.2.1
  have zp : zi (nI p) 4 = true := zi_n (by omega) (by omega)
  have cp : (nI p).toNatClampNeg = p := nI_clamp (by omega)
  unfold k_GK_register k_GM_register
  rw [h1, h2, bn_s, bn_s]
  dsimp only
  rw [if_neg (show ¬ (1 : Int32) = 0 by decide)]
  unfold k_BP_registerValue k_BP_registerValue_38
  rcases pk_ix x (n := 12) (by omega) with h | h | ⟨j, hj, rfl⟩
  · exact ⟨0, by rw [if_pos h]; rfl, by rw [if_pos h]⟩
  · have h : (12 : Int32) ≤ x := h
    have h0 : ¬ x < 0 := fun h' => absurd (Int32.lt_of_le_of_lt h h') (by decide)
    have h3 : ¬ x ≤ 11 := fun h' => absurd (Int32.le_trans h h') (by decide)
    exact ⟨0, by rw [if_neg h0, if_neg h3]; rfl, by rw [if_neg h0, if_neg h3]⟩
  · have i1 : ¬ nI j < 0 := nI_pos (by omega)
    have i2 : nI j ≤ (11 : Int32) := nI_le (b := 11) (by omega) (by omega)
    simp only [if_neg i1, if_pos i2, ck_p zp, cp, lt_e, ← d2, ← d7]
    rcases d8 with f0 | f1
    · simp only [f0, if_pos]
      unfold k_GM_register_107
      by_cases h8 : 8 ≤ j
      · have i8 : (8 : Int32) ≤ nI j := nI_le (a := 8) h8 (by omega)
        simp only [if_pos i8, ck_p zp, cp]
        obtain rfl | rfl | rfl | rfl : j = 8 ∨ j = 9 ∨ j = 10 ∨ j = 11 := by omega
        · exact ⟨σ 11 p 11, rfl, rfl⟩
        · exact ⟨σ 11 p 12, rfl, by rw [if_neg (by decide), if_pos (by decide), d3]⟩
        · exact ⟨σ 11 p 13, rfl, by rw [if_neg (by decide), if_neg (by decide), if_pos (by decide), d4 f0]⟩
        · exact ⟨σ 11 p 14, rfl, by rw [if_neg (by decide), if_neg (by decide), if_neg (by decide), d5]⟩
      · have i8 : ¬ (8 : Int32) ≤ nI j := nI_ge (b := 8) (by omega) (by omega)
        have z8 : zi (nI j) 8 = true := zi_n (by omega) (by omega)
        have z32 : zi (nI (8 * p + j)) 32 = true := zi_n (by omega) (by omega)
        simp only [if_neg i8, ck_p z8, ix8, ck_p z32, nI_clamp (show j < 2 ^ 31 by omega), nI_clamp (show 8 * p + j < 2 ^ 31 by omega), bn_s]
        exact ⟨_, rfl, by rw [d1 j (by omega)]⟩
    · obtain ⟨f, hf, hsp⟩ := d12 f1
      have n1 : ¬ (1 : Int32) = 0 := by decide
      simp only [f1, if_neg n1]
      unfold k_GM_register_107 k_GM_register_47 k_GM_register_84
      by_cases hj4 : j < 4
      · have i8 : ¬ (8 : Int32) ≤ nI j := nI_ge (b := 8) (by omega) (by omega)
        have i4 : ¬ (4 : Int32) ≤ nI j := nI_ge (b := 4) (by omega) (by omega)
        have j4 : nI j < (4 : Int32) := nI_lt (b := 4) (by omega) (by omega)
        have j11 : ¬ nI j = 11 := fun h => by
          have := (nI_eq (a := j) (b := 11) (by omega) (by omega)).mp h
          omega
        simp only [if_neg i8, if_neg i4, if_pos j4, if_neg j11, bp_fw hsp (show ba p + f + j < 128 by omega), bn_s, hsp]
        rw [show (4 : Int32) * nI j = nI (4 * j) by rw [show (4 : Int32) = nI 4 from rfl, pk_mul], gm_fw (show ba p + f + j < 128 by omega), bn_s]
        exact ⟨_, rfl, by rw [e3]⟩
      · have i4 : (4 : Int32) ≤ nI j := nI_le (a := 4) (by omega) (by omega)
        have j4 : ¬ nI j < (4 : Int32) := nI_nlt (b := 4) (by omega) (by omega)
        by_cases h9 : 9 ≤ j
        · have i8 : (8 : Int32) ≤ nI j := nI_le (a := 8) (by omega) (by omega)
          have j8 : ¬ nI j ≤ (8 : Int32) := nI_ge (a := 8) (by omega) (by omega)
          have b5 := bp_fw (k := 5) hsp (show ba p + f + 5 < 128 by omega)
          have b6 := bp_fw (k := 6) hsp (show ba p + f + 6 < 128 by omega)
          have b7 := bp_fw (k := 7) hsp (show ba p + f + 7 < 128 by omega)
          have g5 := gm_fw (τ := τ) (k := 5) (show ba p + f + 5 < 128 by omega)
          have g6 := gm_fw (τ := τ) (k := 6) (show ba p + f + 6 < 128 by omega)
          have g7 := gm_fw (τ := τ) (k := 7) (show ba p + f + 7 < 128 by omega)
          simp only [if_pos i8, if_pos i4, if_neg j4, if_neg j8, hsp]
          obtain rfl | rfl | rfl : j = 9 ∨ j = 10 ∨ j = 11 := by omega
          · refine ⟨σ 3 0 (ba p + f + 5), ?_, ?_⟩
            · rw [if_neg (by decide), if_pos (by decide), show (5 : Int32) = nI 5 from rfl, b5]; rfl
            · rw [if_pos (by decide), show (20 : Int32) = nI (4 * 5) from rfl, g5, bn_s, e3]; rfl
          · refine ⟨σ 3 0 (ba p + f + 6), ?_, ?_⟩
            · rw [if_neg (by decide), if_neg (by decide), if_pos (by decide), show (6 : Int32) = nI 6 from rfl, b6]; rfl
            · rw [if_neg (by decide), if_pos (by decide), show (24 : Int32) = nI (4 * 6) from rfl, g6, bn_s, e3]; rfl
          · refine ⟨((σ 3 0 (ba p + f + 7)).toUInt32 >>> ((28 : Int32).toUInt32 &&& Int32.toUInt32 31)).toInt32, ?_, ?_⟩
            · rw [if_neg (by decide), if_neg (by decide), if_neg (by decide), show (7 : Int32) = nI 7 from rfl, b7]; rfl
            · rw [if_neg (by decide), if_neg (by decide), show (28 : Int32) = nI (4 * 7) from rfl, g7, bn_s, e3]; rfl
        · have j8 : nI j ≤ (8 : Int32) := nI_le (b := 8) (by omega) (by omega)
          simp only [if_pos i4, if_neg j4, if_pos j8]
          by_cases h8 : j = 8
          · subst h8
            exact ⟨σ 11 p 11, by rw [if_pos (by decide), if_pos (by decide)]; rfl, by rw [if_pos (by decide), if_pos (by decide)]⟩
          · have i8 : ¬ (8 : Int32) ≤ nI j := nI_ge (b := 8) (by omega) (by omega)
            have z8 : zi (nI j) 8 = true := zi_n (by omega) (by omega)
            have z32 : zi (nI (8 * p + j)) 32 = true := zi_n (by omega) (by omega)
            simp only [if_neg i8, ck_p z8, ix8, ck_p z32, nI_clamp (show j < 2 ^ 31 by omega), nI_clamp (show 8 * p + j < 2 ^ 31 by omega), bn_s]
            exact ⟨_, rfl, by rw [d1 j (by omega)]⟩)
