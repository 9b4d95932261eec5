/-! the grants' words, receiving -/
section GRANTS
variable {σ τ : zS} {N u : Nat} {c fr to ba si ke en po : Nat → Nat} {r w b : Nat → Nat → Nat}
theorem g_at {p d : Nat} (h : RL σ τ N u c fr to ba si ke en po r w b) (hp : p < N) (hd : d < 3) (hr : 0 < r p d) : σ 14 p d = nI (4096 + 4 * (ba p + si p - 2 * r p d)) ∧ ba p + si p - 2 * r p d + 1 < 128 ∧ (∀ k, k ≤ 1 → k_GM_note τ (nI p) (nI d) (nI k) = some (τ, τ 2 0 (ba p + si p - 2 * r p d + k))) ∧ ∀ k v, k ≤ 1 → k_GM_write τ (nI p) (nI d) (nI k) v = some (zu τ 2 0 (ba p + si p - 2 * r p d + k) v) := by
  have h4 : N ≤ 4 := h.1.2.2.2.2.2.2.2.2.1
  obtain ⟨hS, hD, hN⟩ := h.2.1 p hp
  obtain ⟨g1, g2, g3, g4⟩ := hN.1 d hd
  have hba := hS.2.2.2.2.2.2.2.2.2.2.2.2.2.2.2.2.2.1
  have hsi := hS.2.2.2.2.2.2.2.2.2.2.2.2.2.2.2.2.1
  have t5 := hS.2.2.2.2.2.2.2.2.2.1
  have t6 := hS.2.2.2.2.2.2.2.2.2.2.1
  have ga := gm_ga (τ := τ) (p := p) (i := d) (by omega) hd t5 t6 g3 (by omega)
  refine ⟨by rw [g4, if_neg (by omega)], by omega, fun k hk => ?_, fun k v hk => ?_⟩
  · unfold k_GM_note
    rw [ga, bn_s]
    dsimp only
    rw [show (4 : Int32) * nI k = nI (4 * k) by rw [show (4 : Int32) = nI 4 from rfl, pk_mul], add4, gm_get (by omega), bn_s]
  · unfold k_GM_write
    rw [ga, bn_s]
    dsimp only
    rw [show (4 : Int32) * nI k = nI (4 * k) by rw [show (4 : Int32) = nI 4 from rfl, pk_mul], add4, gm_set (by omega), bn_s]
theorem pend_0 {p d : Nat} (hd : d < 3) (h0 : σ 14 p d = 0) : k_Ke_isPending σ p (nI d) = some (σ, 0) := by
  unfold k_Ke_isPending
  rw [no_has hd, h0, if_pos rfl, bn_s]
  rfl
theorem pend_n {p d : Nat} (h : RL σ τ N u c fr to ba si ke en po r w b) (hp : p < N) (hd : d < 3) : k_Ke_isPending σ p (nI d) = some (σ, if 0 < r p d ∧ τ 2 0 (ba p + si p - 2 * r p d) = 1 then 1 else 0) := by
  by_cases hr : 0 < r p d
  · obtain ⟨e, hlt, -, -⟩ := g_at h hp hd hr
    have hne : ¬ σ 14 p d = 0 := by rw [e]; exact nI_ne0 (by omega) (by omega)
    unfold k_Ke_isPending
    rw [no_has hd, if_neg hne, bn_s]
    dsimp only
    rw [if_neg (show ¬ (1 : Int32) = 0 by decide), ck_p (zi_n hd (by omega)), nI_clamp (by omega), e, me_get (by omega), bn_s]
    dsimp only
    rw [h.1.2.2.1]
    by_cases h1 : τ 2 0 (ba p + si p - 2 * r p d) = 1
    · rw [if_pos h1, if_pos ⟨hr, h1⟩]
    · rw [if_neg h1, if_neg (fun g => h1 g.2)]
  · obtain ⟨hS, hD, hN⟩ := h.2.1 p hp
    obtain ⟨g1, g2, g3, g4⟩ := hN.1 d hd
    rw [pend_0 hd (by rw [g4, if_pos (by omega)]), if_neg (fun g => hr g.1)]
theorem receive_fr {p : Nat} (v : Int32) (h : RL σ τ N u c fr to ba si ke en po r w b) (hp : p < N) (hr : 0 < r p 1) : ∃ (σ' τ' : zS) (u' : Nat) (c' : Nat → Nat), k_Ke_receive σ p v = some σ' ∧ k_GM_receive τ (nI p) v = some τ' ∧ RL σ' τ' N u' c' fr to ba si ke en po r w b ∧ Fr σ σ' τ τ' := by
  have h4 : N ≤ 4 := h.1.2.2.2.2.2.2.2.2.1
  have z1 : zi 1 3 = true := by decide
  have c1 : (1 : Int32).toNatClampNeg = 1 := by decide
  have ix : (3 : Int32) * nI p + (1 : Int32) = nI (3 * p + 1) := ix3 (i := 1)
  have z12 : zi (nI (3 * p + 1)) 12 = true := zi_n (by omega) (by omega)
  have c12 : (nI (3 * p + 1)).toNatClampNeg = 3 * p + 1 := nI_clamp (by omega)
  -- the rest, from a state where the buffer is written
  have rest : ∀ {σ τ : zS}, RL σ τ N u c fr to ba si ke en po r w b → ∃ (σ' τ' : zS) (u' : Nat) (c' : Nat → Nat), k_Ke_receive_29 p v σ = some σ' ∧ k_GM_receive_28 (nI p) v τ = some τ' ∧ RL σ' τ' N u' c' fr to ba si ke en po r w b ∧ Fr σ σ' τ τ' := by
    intro σ τ h
    obtain ⟨e, hlt, -, hw⟩ := g_at h hp (show 1 < 3 by omega) hr
    have h1 := rl_ram h (ba p + si p - 2 * r p 1) 0
    obtain ⟨σ', τ', u', c', e1, e2, h2, h3⟩ := upcall_fr v 1 h1 hp (show 1 < 3 by omega)
    refine ⟨σ', τ', u', c', ?_, ?_, h2, fr_tr fr_ram h3⟩
    · unfold k_Ke_receive_29
      rw [ck_p z1, c1, e, me_set (by omega), bn_s]
      rw [show (1 : Int32) = nI 1 from rfl] at e1 ⊢
      rw [e1, bn_s]
    · unfold k_GM_receive_28
      have := hw 0 0 (by omega)
      rw [Nat.add_zero] at this
      rw [show k_GM_write τ (nI p) 1 0 0 = k_GM_write τ (nI p) (nI 1) (nI 0) 0 from rfl, this, bn_s]
      rw [show (1 : Int32) = nI 1 from rfl] at e2 ⊢
      rw [e2, bn_s]
  obtain ⟨hS, hD, hN⟩ := h.2.1 p hp
  obtain ⟨w1, w2, w3⟩ := hN.2.2.2.2 1 (by omega)
  have hsi := hS.2.2.2.2.2.2.2.2.2.2.2.2.2.2.2.2.1
  have hba := hS.2.2.2.2.2.2.2.2.2.2.2.2.2.2.2.2.2.1
  unfold k_Ke_receive k_GM_receive
  simp only [ck_p z1, c1, ix, ck_p z12, c12, w1, w2]
  by_cases hw : 0 < w p 1
  · obtain ⟨b1, b2, b3⟩ := w3 hw
    have := zop_le (g := gW (r p)) hsi
    have i0 : ¬ nI (w p 1) ≤ 0 := nI_nle hw (by omega)
    rw [if_neg i0, if_neg i0, b1, b2, me_set (by omega), gm_set (by omega), bn_s, bn_s]
    obtain ⟨σ', τ', u', c', q1, q2, q3, q4⟩ := rest (rl_ram h (ba p + b p 1) v)
    exact ⟨σ', τ', u', c', q1, q2, q3, fr_tr fr_ram q4⟩
  · have hw0 : w p 1 = 0 := by omega
    rw [hw0, if_pos (by decide), if_pos (by decide)]
    exact rest h
theorem receive_ok {p : Nat} (v : Int32) (h : RL σ τ N u c fr to ba si ke en po r w b) (hp : p < N) (hr : 0 < r p 1) : ∃ (σ' τ' : zS) (u' : Nat) (c' : Nat → Nat), k_Ke_receive σ p v = some σ' ∧ k_GM_receive τ (nI p) v = some τ' ∧ RL σ' τ' N u' c' fr to ba si ke en po r w b := by
  obtain ⟨σ', τ', u', c', e1, e2, e3, -⟩ := receive_fr v h hp hr
  exact ⟨σ', τ', u', c', e1, e2, e3⟩
end GRANTS
