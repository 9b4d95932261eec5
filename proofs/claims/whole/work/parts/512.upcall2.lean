/-! an upcall, on both sides: done -/
/-- what an upcall leaves as it was -/
def Fr (σ σ' τ τ' : zS) : Prop := (∀ q, σ' 11 q 11 = σ 11 q 11 ∧ σ' 11 q 15 = σ 11 q 15) ∧ τ' 0 0 37 = τ 0 0 37
theorem fr_rf {σ τ : zS} : Fr σ σ τ τ := ⟨fun _ => ⟨rfl, rfl⟩, rfl⟩
theorem fr_tr {σ σ' σ'' τ τ' τ'' : zS} (h1 : Fr σ σ' τ τ') (h2 : Fr σ' σ'' τ' τ'') : Fr σ σ'' τ τ'' := ⟨fun q => ⟨(h2.1 q).1.trans (h1.1 q).1, (h2.1 q).2.trans (h1.1 q).2⟩, h2.2.trans h1.2⟩
theorem fr_ram {σ τ : zS} {i : Nat} {v : Int32} : Fr σ (zu σ 3 0 i v) τ (zu τ 2 0 i v) := ⟨fun q => ⟨by rw [zu_rd, if_neg (by omega)], by rw [zu_rd, if_neg (by omega)]⟩, by rw [zu_rd, if_neg (by omega)]⟩
section UPC
variable {σ τ : zS} {N u : Nat} {c fr to ba si ke en po : Nat → Nat} {r w b : Nat → Nat → Nat}
theorem upcall_fr {p d : Nat} (x y : Int32) (h : RL σ τ N u c fr to ba si ke en po r w b) (hp : p < N) (hd : d < 3) : ∃ (σ' τ' : zS) (u' : Nat) (c' : Nat → Nat), k_Ke_upcall σ p (nI d) x y = some σ' ∧ k_GM_upcall τ (nI p) (nI d) x y = some τ' ∧ RL σ' τ' N u' c' fr to ba si ke en po r w b ∧ Fr σ σ' τ τ' := by
  have h4 : N ≤ 4 := h.1.2.2.2.2.2.2.2.2.1
  obtain ⟨hS, hD, hN⟩ := h.2.1 p hp
  have zd : zi (nI d) 3 = true := zi_n hd (by omega)
  have zp : zi (nI p) 4 = true := zi_n (by omega) (by omega)
  have z12 : zi (nI (3 * p + d)) 12 = true := zi_n (by omega) (by omega)
  have cd : (nI d).toNatClampNeg = d := nI_clamp (by omega)
  have cp : (nI p).toNatClampNeg = p := nI_clamp (by omega)
  have c3 : (nI (3 * p + d)).toNatClampNeg = 3 * p + d := nI_clamp (by omega)
  obtain ⟨n4a, n4b⟩ := hN.2.2.2.1 d hd
  have e16 : σ 11 p 16 = τ 10 0 p := hD.2.2.2.2.2.2.2.2.1
  have e11 : σ 11 p 11 = τ 12 0 p := hD.2.1
  unfold k_Ke_upcall k_GM_upcall
  simp only [ck_p zd, ck_p zp, ix3, ck_p z12, cd, cp, c3, lt_e, ← n4a, ← e16]
  by_cases hf : σ 15 p d = 0
  · rw [if_pos hf, if_pos hf]
    exact ⟨σ, τ, u, c, rfl, rfl, h, fr_rf⟩
  rw [if_neg hf, if_neg hf]
  by_cases hs : σ 11 p 16 = 1
  · rw [if_pos hs, if_pos hs]
    obtain ⟨f, hf8, hsp⟩ := hD.2.2.2.2.2.2.2.2.2.2.2.1 (hD.2.2.2.2.2.2.2.2.2.2.1 hs)
    have hba := hS.2.2.2.2.2.2.2.2.2.2.2.2.2.2.2.2.2.1
    have A : ∀ k, nI (4096 + 4 * (ba p + f)) + nI (4 * k) = nI (4096 + 4 * (ba p + f + k)) := fun k => add4
    unfold k_GM_deliver
    simp only [ck_p zp, cp, lt_e, ix3, ck_p z12, c3, ← e11, hsp, show (4 : Int32) = nI (4 * 1) from rfl, show (8 : Int32) = nI (4 * 2) from rfl, show (12 : Int32) = nI (4 * 3) from rfl, show (20 : Int32) = nI (4 * 5) from rfl, show (24 : Int32) = nI (4 * 6) from rfl, A]
    have h1 := rl_ram h (ba p + f) x
    have h2 := rl_ram h1 (ba p + f + 1) y
    have h3 := rl_ram h2 (ba p + f + 2) (nI d)
    have h4' := rl_ram h3 (ba p + f + 3) (σ 16 p d)
    have er : zu (zu (zu (zu τ 2 0 (ba p + f) x) 2 0 (ba p + f + 1) y) 2 0 (ba p + f + 2) (nI d)) 2 0 (ba p + f + 3) (σ 16 p d) 2 0 = zu (zu (zu (zu σ 3 0 (ba p + f) x) 3 0 (ba p + f + 1) y) 3 0 (ba p + f + 2) (nI d)) 3 0 (ba p + f + 3) (σ 16 p d) 3 0 := h4'.1.2.2.1.symm
    generalize hv : zu (zu (zu (zu σ 3 0 (ba p + f) x) 3 0 (ba p + f + 1) y) 3 0 (ba p + f + 2) (nI d)) 3 0 (ba p + f + 3) (σ 16 p d) 3 0 (ba p + f + 6) = v at *
    have h5 := rl_ram h4' (ba p + f + 5) (v + 1)
    have h6 := rl_ram h5 (ba p + f + 6) (σ 15 p d &&& (-2 : Int32))
    have h7 := rl_st h6 hp 0 (Or.inl rfl)
    refine ⟨_, _, u, c, ?_, ?_, h7, ?_⟩
    · rw [me_set (by omega), bn_s, me_set (by omega), bn_s, me_set (by omega), bn_s]
      have e : zu (zu (zu σ 3 0 (ba p + f) x) 3 0 (ba p + f + 1) y) 3 0 (ba p + f + 2) (nI d) 16 p d = σ 16 p d := by rw [zu_rd, if_neg (by omega), zu_rd, if_neg (by omega), zu_rd, if_neg (by omega)]
      rw [e, me_set (by omega), bn_s, me_get (by omega), bn_s]
      dsimp only
      rw [hv, me_set (by omega), bn_s, me_set (by omega), bn_s]
    · rw [gm_set (by omega), bn_s, gm_set (by omega), bn_s, gm_set (by omega), bn_s]
      have e : zu (zu (zu τ 2 0 (ba p + f) x) 2 0 (ba p + f + 1) y) 2 0 (ba p + f + 2) (nI d) 22 0 (3 * p + d) = σ 16 p d := by rw [zu_rd, if_neg (by omega), zu_rd, if_neg (by omega), zu_rd, if_neg (by omega)]; exact (n4b hf).symm
      rw [e, gm_set (by omega), bn_s, gm_get (by omega), bn_s]
      dsimp only
      rw [er, hv, gm_set (by omega), bn_s]
      have e2 : zu (zu (zu (zu (zu τ 2 0 (ba p + f) x) 2 0 (ba p + f + 1) y) 2 0 (ba p + f + 2) (nI d)) 2 0 (ba p + f + 3) (σ 16 p d)) 2 0 (ba p + f + 5) (v + 1) 21 0 (3 * p + d) = σ 15 p d := by
        rw [zu_rd, if_neg (by omega), zu_rd, if_neg (by omega), zu_rd, if_neg (by omega), zu_rd, if_neg (by omega), zu_rd, if_neg (by omega)]; exact n4a.symm
      rw [e2, gm_set (by omega), bn_s]
      rfl
    · refine ⟨fun q => ⟨?_, ?_⟩, ?_⟩
      · rw [zu_rd, if_neg (by omega), zu_rd, if_neg (by omega), zu_rd, if_neg (by omega), zu_rd, if_neg (by omega), zu_rd, if_neg (by omega), zu_rd, if_neg (by omega), zu_rd, if_neg (by omega)]
      · rw [zu_rd, if_neg (by omega), zu_rd, if_neg (by omega), zu_rd, if_neg (by omega), zu_rd, if_neg (by omega), zu_rd, if_neg (by omega), zu_rd, if_neg (by omega), zu_rd, if_neg (by omega)]
      · rw [zu_rd, if_neg (by omega), zu_rd, if_neg (by omega), zu_rd, if_neg (by omega), zu_rd, if_neg (by omega), zu_rd, if_neg (by omega), zu_rd, if_neg (by omega), zu_rd, if_neg (by omega)]
  · rw [if_neg hs, if_neg hs]
    obtain ⟨q1, q2, q3⟩ := h.2.2.1.2.2.1 p hp
    rw [gm_waiting h.2.2.1.1 h.2.2.1.2.1, ← q3]
    have hl : (qC (σ 20 p) (σ 21 p) (σ 22 p) (c p)).length = c p := by simp [qC]
    rw [hl, bn_s]
    dsimp only
    unfold k_UQ_enqueue
    simp only [q1]
    by_cases hc : c p < 4
    · have h16 := q_room h hp hc
      have hu := h.2.2.1.1
      have i4 : ¬ (4 : Int32) ≤ nI (c p) := nI_ge (b := 4) hc (by omega)
      have zc : zi (nI (c p)) 4 = true := zi_n hc (by omega)
      have zu' : zi (nI u) 16 = true := zi_n h16 (by omega)
      have w1 : ∀ v1 : Int32, zu σ 20 p (c p) v1 19 p 3 = nI (c p) := fun v1 => by rw [zu_rd, if_neg (by omega)]; exact q1
      have w2 : ∀ v1 v2 : Int32, zu (zu σ 20 p (c p) v1) 21 p (c p) v2 19 p 3 = nI (c p) := fun v1 v2 => by rw [zu_rd, if_neg (by omega)]; exact w1 v1
      have w3 : ∀ v1 v2 v3 : Int32, zu (zu (zu σ 20 p (c p) v1) 21 p (c p) v2) 22 p (c p) v3 19 p 3 = nI (c p) := fun v1 v2 v3 => by rw [zu_rd, if_neg (by omega)]; exact w2 v1 v2
      have m1 : ∀ v1 : Int32, zu τ 25 0 u v1 0 0 28 = nI u := fun v1 => by rw [zu_rd, if_neg (by omega)]; exact hu
      have m2 : ∀ v1 v2 : Int32, zu (zu τ 25 0 u v1) 26 0 u v2 0 0 28 = nI u := fun v1 v2 => by rw [zu_rd, if_neg (by omega)]; exact m1 v1
      have m3 : ∀ v1 v2 v3 : Int32, zu (zu (zu τ 25 0 u v1) 26 0 u v2) 27 0 u v3 0 0 28 = nI u := fun v1 v2 v3 => by rw [zu_rd, if_neg (by omega)]; exact m2 v1 v2
      have m4 : ∀ v1 v2 v3 v4 : Int32, zu (zu (zu (zu τ 25 0 u v1) 26 0 u v2) 27 0 u v3) 28 0 u v4 0 0 28 = nI u := fun v1 v2 v3 v4 => by rw [zu_rd, if_neg (by omega)]; exact m3 v1 v2 v3
      have cc : (nI (c p)).toNatClampNeg = c p := nI_clamp (by omega)
      have cu : (nI u).toNatClampNeg = u := nI_clamp (by omega)
      refine ⟨_, _, u + 1, _, ?_, ?_, rl_enq (x := x) (y := y) h hp hd hc hf, ?_⟩
      · simp only [lt_e, if_neg i4, ck_p zc, cc, w1, w2, w3, nI_1, bn_s]
      · simp only [lt_e, if_neg i4, hu, ck_p zu', cu, m1, m2, m3, m4, nI_1]
      · refine ⟨fun q => ⟨?_, ?_⟩, ?_⟩
        · rw [zu_rd, if_neg (by omega), zu_rd, if_neg (by omega), zu_rd, if_neg (by omega), zu_rd, if_neg (by omega)]
        · rw [zu_rd, if_neg (by omega), zu_rd, if_neg (by omega), zu_rd, if_neg (by omega), zu_rd, if_neg (by omega)]
        · rw [zu_rd, if_neg (by omega), zu_rd, if_neg (by omega), zu_rd, if_neg (by omega), zu_rd, if_neg (by omega), zu_rd, if_neg (by omega)]
    · have hc4 : c p = 4 := by omega
      rw [hc4, if_pos (show (4 : Int32) ≤ nI 4 by decide), if_pos (show (4 : Int32) ≤ nI 4 by decide)]
      exact ⟨σ, τ, u, c, rfl, rfl, h, fr_rf⟩
theorem upcall_ok {p d : Nat} (x y : Int32) (h : RL σ τ N u c fr to ba si ke en po r w b) (hp : p < N) (hd : d < 3) : ∃ (σ' τ' : zS) (u' : Nat) (c' : Nat → Nat), k_Ke_upcall σ p (nI d) x y = some σ' ∧ k_GM_upcall τ (nI p) (nI d) x y = some τ' ∧ RL σ' τ' N u' c' fr to ba si ke en po r w b := by
  obtain ⟨σ', τ', u', c', e1, e2, e3, -⟩ := upcall_fr x y h hp hd
  exact ⟨σ', τ', u', c', e1, e2, e3⟩
end UPC
