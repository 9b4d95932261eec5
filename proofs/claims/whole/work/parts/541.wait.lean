/-! waiting for an upcall -/
section WAIT
variable {σ τ : zS} {N u p : Nat} {c fr to ba si ke en po : Nat → Nat} {r w b : Nat → Nat → Nat}
theorem zu_c6 {s : zS} {K p q : Nat} {v x1 x2 x3 x4 x5 x6 : Int32} {i1 i2 i3 i4 i5 i6 : Nat} (hK : K ≠ 2) : zu (zu (zu (zu (zu (zu (zu s K p q v) 2 0 i1 x1) 2 0 i2 x2) 2 0 i3 x3) 2 0 i4 x4) 2 0 i5 x5) 2 0 i6 x6 = zu (zu (zu (zu (zu (zu (zu s 2 0 i1 x1) 2 0 i2 x2) 2 0 i3 x3) 2 0 i4 x4) 2 0 i5 x5) 2 0 i6 x6) K p q v := by
  rw [zu_cm (s := s) (by omega), zu_cm (s := zu s 2 0 i1 x1) (by omega), zu_cm (s := zu (zu s 2 0 i1 x1) 2 0 i2 x2) (by omega), zu_cm (s := zu (zu (zu s 2 0 i1 x1) 2 0 i2 x2) 2 0 i3 x3) (by omega), zu_cm (s := zu (zu (zu (zu s 2 0 i1 x1) 2 0 i2 x2) 2 0 i3 x3) 2 0 i4 x4) (by omega), zu_cm (s := zu (zu (zu (zu (zu s 2 0 i1 x1) 2 0 i2 x2) 2 0 i3 x3) 2 0 i4 x4) 2 0 i5 x5) (by omega)]
theorem dl_M {t : zS} {q d : Nat} {x y : Int32} (hp : p < 4) (hd : d < 3) (ht : t 12 0 p = nI (4096 + 4 * q)) (hq : q + 8 ≤ 128) : k_GM_deliver t (nI p) (nI d) x y = some (zu (zu (zu (zu (zu (zu (zu t 2 0 q x) 2 0 (q + 1) y) 2 0 (q + 2) (nI d)) 2 0 (q + 3) (t 22 0 (3 * p + d))) 2 0 (q + 5) (t 2 0 (q + 6) + (1 : Int32))) 2 0 (q + 6) (t 21 0 (3 * p + d) &&& (-2 : Int32))) 10 0 p 0) := by
  have zp : zi (nI p) 4 = true := zi_n hp (by omega)
  have cp : (nI p).toNatClampNeg = p := nI_clamp (by omega)
  have z12 : zi (nI (3 * p + d)) 12 = true := zi_n (by omega) (by omega)
  have c3 : (nI (3 * p + d)).toNatClampNeg = 3 * p + d := nI_clamp (by omega)
  have A : ∀ k, nI (4096 + 4 * q) + nI (4 * k) = nI (4096 + 4 * (q + k)) := fun k => add4
  unfold k_GM_deliver
  simp only [ck_p zp, cp, lt_e, ix3, ck_p z12, c3, ht, show (4 : Int32) = nI (4 * 1) from rfl, show (8 : Int32) = nI (4 * 2) from rfl, show (12 : Int32) = nI (4 * 3) from rfl, show (20 : Int32) = nI (4 * 5) from rfl, show (24 : Int32) = nI (4 * 6) from rfl, A]
  rw [gm_set (by omega), bn_s, gm_set (by omega), bn_s, gm_set (by omega), bn_s]
  have e : zu (zu (zu t 2 0 q x) 2 0 (q + 1) y) 2 0 (q + 2) (nI d) 22 0 (3 * p + d) = t 22 0 (3 * p + d) := by rw [zu_rd, if_neg (by omega), zu_rd, if_neg (by omega), zu_rd, if_neg (by omega)]
  rw [e, gm_set (by omega), bn_s, gm_get (by omega), bn_s]
  dsimp only
  have e6 : zu (zu (zu (zu t 2 0 q x) 2 0 (q + 1) y) 2 0 (q + 2) (nI d)) 2 0 (q + 3) (t 22 0 (3 * p + d)) 2 0 (q + 6) = t 2 0 (q + 6) := by rw [zu_rd, if_neg (by omega), zu_rd, if_neg (by omega), zu_rd, if_neg (by omega), zu_rd, if_neg (by omega)]
  rw [e6, gm_set (by omega), bn_s]
  have e2 : zu (zu (zu (zu (zu t 2 0 q x) 2 0 (q + 1) y) 2 0 (q + 2) (nI d)) 2 0 (q + 3) (t 22 0 (3 * p + d))) 2 0 (q + 5) (t 2 0 (q + 6) + (1 : Int32)) 21 0 (3 * p + d) = t 21 0 (3 * p + d) := by
    rw [zu_rd, if_neg (by omega), zu_rd, if_neg (by omega), zu_rd, if_neg (by omega), zu_rd, if_neg (by omega), zu_rd, if_neg (by omega)]
  rw [e2, gm_set (by omega), bn_s]
theorem dl_st {t : zS} {q d : Nat} {x y v : Int32} (hp : p < 4) (hd : d < 3) (ht : t 12 0 p = nI (4096 + 4 * q)) (hq : q + 8 ≤ 128) : k_GM_deliver (zu t 10 0 p v) (nI p) (nI d) x y = k_GM_deliver t (nI p) (nI d) x y := by
  rw [dl_M hp hd (q := q) (by rw [zu_rd, if_neg (by omega)]; exact ht) hq, dl_M hp hd ht hq, zu_rd, if_neg (by omega), zu_rd, if_neg (by omega), zu_rd, if_neg (by omega), zu_c6 (by omega), zu_2]
/-- where the frame of a stopped process lies -/
theorem fr_at (h : RL σ τ N u c fr to ba si ke en po r w b) (hp : p < N) (h15 : σ 11 p 15 = 1) : ∃ q, q + 8 ≤ 128 ∧ σ 11 p 11 = nI (4096 + 4 * q) ∧ τ 12 0 p = nI (4096 + 4 * q) := by
  obtain ⟨hS, hD, hN⟩ := h.2.1 p hp
  obtain ⟨f, hf, e⟩ := hD.2.2.2.2.2.2.2.2.2.2.2.1 h15
  have hba := hS.2.2.2.2.2.2.2.2.2.2.2.2.2.2.2.2.2.1
  exact ⟨ba p + f, by omega, e, by rw [← hD.2.1]; exact e⟩
theorem wait_ok (h : RL σ τ N u c fr to ba si ke en po r w b) (hp : p < N) (h15 : σ 11 p 15 = 1) : ∃ (σ' τ' : zS) (u' : Nat) (c' : Nat → Nat), k_Ke_waitForUpcall σ p = some σ' ∧ k_GM_kernel τ (nI p) 0 = some τ' ∧ RL σ' τ' N u' c' fr to ba si ke en po r w b ∧ Fr σ σ' τ τ' := by
  have h4 : N ≤ 4 := h.1.2.2.2.2.2.2.2.2.1
  have zp : zi (nI p) 4 = true := zi_n (by omega) (by omega)
  have cp : (nI p).toNatClampNeg = p := nI_clamp (by omega)
  obtain ⟨q, hq, e11, e12⟩ := fr_at h hp h15
  obtain ⟨hu, h16, hQ3, hQ4⟩ := h.2.2.1
  obtain ⟨g1, g2, g3⟩ := hQ3 p hp
  have eM : k_GM_kernel τ (nI p) 0 = bn (k_GM_oldest τ (nI p)) fun (s16, r17) => if 0 ≤ r17 then ck (zi r17 16) <| lt (s16 26 0 r17.toNatClampNeg) fun x18 => ck (zi r17 16) <| lt (s16 27 0 r17.toNatClampNeg) fun x19 => ck (zi r17 16) <| lt (s16 28 0 r17.toNatClampNeg) fun x20 => lt (r17 + (1 : Int32)) fun x21 => k_GM_kernel_92 (nI p) 0 FU s16 x18 x19 x20 x21 else ck (zi (nI p) 4) <| lt (zu s16 10 0 (nI p).toNatClampNeg 1) fun s22 => some s22 := by
    unfold k_GM_kernel
    rw [ck_p zp, cp, e12, lt_e, gm_get (by omega), bn_s]
    dsimp only
    rw [show (4 : Int32) = nI (4 * 1) from rfl, add4, gm_get (by omega), bn_s]
    dsimp only
    rw [show (8 : Int32) = nI (4 * 2) from rfl, add4, gm_get (by omega), bn_s]
    dsimp only
    rw [if_pos rfl]
  have h1 := rl_wt (v := 1) h hp h15 (Or.inr rfl)
  have r19 : zu σ 11 p 16 1 19 p 3 = nI (c p) := by rw [zu_rd, if_neg (by omega)]; exact g1
  rw [eM]
  unfold k_Ke_waitForUpcall
  rw [lt_e, r19]
  rcases gm_oldest (p := p) hu h16 with ⟨j, hj, ho, hno, eo⟩ | ⟨hno, eo⟩
  · obtain ⟨t', k1, k2, k3, k4⟩ := km_rem (p := p) (a2 := 0) (d := τ 26 0 j) (x := τ 27 0 j) (y := τ 28 0 j) h16 (u - (j + 1)) (j + 1) FU τ (by omega) (by omega) (by unfold FU; omega) hu
    have hc0 : 0 < c p := by
      refine Nat.pos_of_ne_zero (fun g => ?_)
      rw [g] at g3
      have hm : (qe τ j) ∈ qM τ u := by rw [qM_en]; exact List.mem_map.mpr ⟨j, List.mem_range.mpr hj, rfl⟩
      have h0 : qF (qM τ u) p = [] := g3.symm
      unfold qF at h0
      have := (List.filterMap_eq_nil_iff.mp h0) _ hm
      rw [if_pos (show (qe τ j).1 = nI p from ho)] at this
      exact absurd this (by simp)
    obtain ⟨s', m1, m2, m3, m4⟩ := uq_rem (p := p) g2 (c p - 1) 1 FU (zu σ 11 p 16 1) (by omega) (by omega) (by unfold FU; omega) r19
    have dq := rl_deq (σ' := s') (τ' := zu t' 10 0 p 1) (j := j) h1 hp hj (by rw [zu_rd, if_neg (by omega)]; exact ho) (fun i hi => by rw [zu_rd, if_neg (by omega)]; exact hno i hi) m2 m3 (fun i hi => by rw [m4 i hi, if_pos (by omega)]) (by rw [zu_rd, if_neg (by omega)]; exact k2) (fun a b i g1 g2 => by
        rw [zu_rd, zu_rd, k3 a b i g1 g2]) (fun i hi => by
        have qz : ∀ (s : zS) (i : Nat), qe (zu s 10 0 p 1) i = qe s i := fun s i => by
          unfold qe
          rw [zu_rd, if_neg (by omega), zu_rd, if_neg (by omega), zu_rd, if_neg (by omega), zu_rd, if_neg (by omega)]
        rw [qz, qz, qz, k4 i hi]
        by_cases hji : j ≤ i
        · rw [if_pos hji, if_pos (by omega)]
        · rw [if_neg hji, if_neg (by omega)])
    obtain ⟨-, hd, h2⟩ := dq
    have qz : qe (zu τ 10 0 p 1) j = qe τ j := by
      unfold qe
      rw [zu_rd, if_neg (by omega), zu_rd, if_neg (by omega), zu_rd, if_neg (by omega), zu_rd, if_neg (by omega)]
    rw [qz] at hd
    have hm : (qe τ j) ∈ qM τ u := by rw [qM_en]; exact List.mem_map.mpr ⟨j, List.mem_range.mpr hj, rfl⟩
    obtain ⟨o, d, o1, o2, o3, o4, o5⟩ := hQ4 _ hm
    have hop : o = p := by
      have : τ 25 0 j = nI o := o3
      rw [ho] at this
      exact ((nI_eq (by omega) (by omega)).mp this).symm
    subst hop
    have ed : τ 26 0 j = nI d := o4
    have x20 : zu σ 11 o 16 1 20 o 0 = nI d := by rw [← ed]; exact congrArg (fun z => z.1) hd
    have x21 : zu σ 11 o 16 1 21 o 0 = τ 27 0 j := congrArg (fun z => z.2.1) hd
    have x22 : zu σ 11 o 16 1 22 o 0 = τ 28 0 j := congrArg (fun z => z.2.2) hd
    have f15 : ¬ s' 15 o d = 0 := by rw [m3 15 o d (by omega), zu_rd, if_neg (by omega)]; exact o5
    have f16 : s' 11 o 16 = 1 := by rw [m3 11 o 16 (by omega), zu_rd, if_pos (by omega)]
    obtain ⟨σ', τ', u', c', q1, q2, q3, q4⟩ := upcall_fr (τ 27 0 j) (τ 28 0 j) h2 hp o2
    have t12 : t' 12 0 o = nI (4096 + 4 * q) := by rw [k3 12 0 o (by omega) (by omega)]; exact e12
    have q2' : k_GM_deliver t' (nI o) (nI d) (τ 27 0 j) (τ 28 0 j) = some τ' := by
      obtain ⟨n4a, -⟩ := (h2.2.1 o hp).2.2.2.2.2.1 d o2
      have e16 : s' 11 o 16 = zu t' 10 0 o 1 10 0 o := (h2.2.1 o hp).2.1.2.2.2.2.2.2.2.2.1
      unfold k_GM_upcall at q2
      rw [ix3, ck_p (zi_n (show 3 * o + d < 12 by omega) (by omega)), nI_clamp (show 3 * o + d < 2 ^ 31 by omega), ← n4a, if_neg f15, ck_p zp, cp, ← e16, if_pos f16, dl_st (by omega) o2 t12 hq] at q2
      cases hh : k_GM_deliver t' (nI o) (nI d) (τ 27 0 j) (τ 28 0 j) with
      | none => rw [hh] at q2; exact absurd q2 (by simp [bn])
      | some z => rw [hh, bn_s] at q2; exact q2
    refine ⟨σ', τ', u', c', ?_, ?_, q3, fr_tr (σ' := s') (τ' := zu t' 10 0 o 1) ⟨fun z => ⟨?_, ?_⟩, ?_⟩ q4⟩
    · unfold k_UQ_removeOldest
      rw [if_neg (nI_nle hc0 (by omega)), ck_p (by decide), lt_e, ck_p (by decide), lt_e, ck_p (by decide), lt_e, show (0 : Int32).toNatClampNeg = 0 by decide, show k_UQ_removeOldest_2 o FU (zu σ 11 o 16 1) 1 = k_UQ_removeOldest_2 o FU (zu σ 11 o 16 1) (nI 1) from rfl, m1, bn_s, x20, x21, x22, q1, bn_s]
    · rw [eo, bn_s]
      dsimp only
      rw [if_pos (nI_pos' (by omega)), ck_p (zi_n (show j < 16 by omega) (by omega)), lt_e, ck_p (zi_n (show j < 16 by omega) (by omega)), lt_e, ck_p (zi_n (show j < 16 by omega) (by omega)), lt_e, lt_e, nI_clamp (show j < 2 ^ 31 by omega), nI_1, k1, ed, q2', bn_s]
    · rw [m3 11 z 11 (by omega), zu_rd, if_neg (by omega)]
    · rw [m3 11 z 15 (by omega), zu_rd, if_neg (by omega)]
    · rw [zu_rd, if_neg (by omega)]; exact k3 0 0 37 (by omega) (by omega)
  · have hc0 : c p = 0 := by
      have h0 : qF (qM τ u) p = [] := qF_nil (fun e he => by
        rw [qM_en] at he
        obtain ⟨i, hi, rfl⟩ := List.mem_map.mp he
        exact hno i (List.mem_range.mp hi))
      rw [h0] at g3
      have := congrArg List.length g3
      simpa [qC] using this
    refine ⟨zu σ 11 p 16 1, zu τ 10 0 p 1, u, c, ?_, ?_, h1, ⟨fun z => ⟨by rw [zu_rd, if_neg (by omega)], by rw [zu_rd, if_neg (by omega)]⟩, by rw [zu_rd, if_neg (by omega)]⟩⟩
    · rw [hc0, if_pos (show nI 0 ≤ 0 by decide)]
    · rw [eo, bn_s]
      dsimp only
      rw [if_neg (by decide), ck_p zp, cp, lt_e]
end WAIT
