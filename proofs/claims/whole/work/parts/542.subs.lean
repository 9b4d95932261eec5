/-! subscribing, allowing -/
def kd1 (d : Nat) (e : Int32 × Int32 × Int32) : Bool := !decide (e.1 = nI d)
theorem uq_drop {p d c : Nat} (h4 : c ≤ 4) : ∀ (m n k j : Nat) (s : zS), k + m = c → m < n → j ≤ k → s 19 p 3 = nI c → ∃ (s' : zS) (v : Nat), k_UQ_removeDriver_4 p (nI d) n s (nI j) (nI k) = some s' ∧ (∀ a b i, ¬ (19 ≤ a ∧ a ≤ 22 ∧ b = p) → s' a b i = s a b i) ∧ s' 19 p 3 = nI v ∧ v ≤ j + m ∧ (List.range v).map (qc s' p) = (List.range j).map (qc s p) ++ ((List.range' k m).map (qc s p)).filter (kd1 d) := by
  intro m
  induction m with
  | zero =>
    intro n k j s hk hn hj hu
    obtain ⟨n, rfl⟩ : ∃ n', n = n' + 1 := ⟨n - 1, by omega⟩
    refine ⟨zu s 19 p 3 (nI j), j, ?_, fun a b i g => by rw [zu_rd, if_neg (by omega)], ?_, by omega, ?_⟩
    · rw [k_UQ_removeDriver_4, hu, if_pos (nI_le (by omega) (by omega)), lt_e]
    · rw [zu_rd, if_pos (by omega)]
    · simp only [List.range'_zero, List.map_nil, List.filter_nil, List.append_nil]
      refine List.map_congr_left (fun i _ => ?_)
      unfold qc
      rw [zu_rd, if_neg (by omega), zu_rd, if_neg (by omega), zu_rd, if_neg (by omega)]
  | succ m ih =>
    intro n k j s hk hn hj hu
    obtain ⟨n, rfl⟩ : ∃ n', n = n' + 1 := ⟨n - 1, by omega⟩
    have zk : zi (nI k) 4 = true := zi_n (by omega) (by omega)
    have ck' : (nI k).toNatClampNeg = k := nI_clamp (by omega)
    have hcons : (List.range' k (m + 1)).map (qc s p) = qc s p k :: (List.range' (k + 1) m).map (qc s p) := by rw [List.range'_succ, List.map_cons]
    rw [k_UQ_removeDriver_4, hu, if_neg (nI_ge (by omega) (by omega)), ck_p zk, ck', hcons]
    by_cases hd : s 20 p k = nI d
    · obtain ⟨s', v, e1, e2, e3, e4, e5⟩ := ih n (k + 1) j s (by omega) (by omega) (by omega) hu
      refine ⟨s', v, ?_, e2, e3, by omega, ?_⟩
      · rw [if_pos hd]
        unfold k_UQ_removeDriver_31
        rw [lt_e, nI_1]
        exact e1
      · have hkp : ¬ kd1 d (qc s p k) = true := by simp [kd1, qc, hd]
        rw [List.filter_cons_of_neg hkp]
        exact e5
    · obtain ⟨s', v, e1, e2, e3, e4, e5⟩ := ih n (k + 1) (j + 1) (mvC s p k j) (by omega) (by omega) (by omega) (by rw [mvC_o _ _ _ _ _ _ _ (by omega)]; exact hu)
      have hkp : kd1 d (qc s p k) = true := by simp [kd1, qc, hd]
      refine ⟨s', v, ?_, fun a b i g => by rw [e2 a b i g, mvC_o _ _ _ _ _ _ _ (by omega)], e3, by omega, ?_⟩
      · rw [if_neg hd, uq_move (by omega) (by omega), bn_s, lt_e]
        unfold k_UQ_removeDriver_31
        rw [lt_e, nI_1, nI_1]
        exact e1
      · rw [e5, List.filter_cons_of_pos hkp, List.range_succ, List.map_append, List.append_assoc]
        congr 1
        · refine List.map_congr_left (fun i hi => ?_)
          rw [qc_mv, if_neg (by have := List.mem_range.mp hi; omega)]
        · show [qc (mvC s p k j) p j] ++ _ = _
          rw [qc_mv, if_pos rfl]
          have hm : List.map (qc (mvC s p k j) p) (List.range' (k + 1) m) = List.map (qc s p) (List.range' (k + 1) m) := by
            refine List.map_congr_left (fun i hi => ?_)
            have := (List.mem_range'_1.mp hi).1
            rw [qc_mv, if_neg (by omega)]
          rw [hm]
          rfl
theorem qF_kp (p d : Nat) : ∀ l : List (Int32 × Int32 × Int32 × Int32), qF (l.filter (kp p d)) p = (qF l p).filter (kd1 d) := by
  intro l
  induction l with
  | nil => rfl
  | cons e l ih =>
    by_cases h1 : e.1 = nI p
    · rw [qF_cons, if_pos h1]
      by_cases h2 : e.2.1 = nI d
      · have a1 : ¬ kp p d e = true := by simp [kp, h1, h2]
        have a2 : ¬ kd1 d e.2 = true := by simp [kd1, h2]
        rw [List.filter_cons_of_neg a1, List.filter_cons_of_neg a2, ih]
      · have a1 : kp p d e = true := by simp [kp, h2]
        have a2 : kd1 d e.2 = true := by simp [kd1, h2]
        rw [List.filter_cons_of_pos a1, List.filter_cons_of_pos a2, qF_cons, if_pos h1, ih]
    · have a1 : kp p d e = true := by simp [kp, h1]
      rw [List.filter_cons_of_pos a1, qF_cons, qF_cons, if_neg h1, if_neg h1, ih]
section SUBS
variable {σ τ : zS} {N u p : Nat} {c fr to ba si ke en po : Nat → Nat} {r w b : Nat → Nat → Nat}
theorem rl_sub {σ' τ' : zS} {d v v' : Nat} {A1 A2 : Int32} (h : RL σ τ N u c fr to ba si ke en po r w b) (hp : p < N) (hd : d < 3) (hs : ∀ a b i, ¬ (19 ≤ a ∧ a ≤ 22 ∧ b = p) → σ' a b i = zu (zu σ 15 p d A1) 16 p d A2 a b i) (hs1 : σ' 19 p 3 = nI v') (hv4 : v' ≤ 4) (hs2 : (List.range v').map (qc σ' p) = ((List.range (c p)).map (qc σ p)).filter (kd1 d)) (ht : sm (zu (zu τ 21 0 (3 * p + d) A1) 22 0 (3 * p + d) A2) τ') (ht1 : τ' 0 0 28 = nI v) (hv : v ≤ u) (ht2 : qM τ' v = (qM τ u).filter (kp p d)) : RL σ' τ' N v (fun q => if q = p then v' else c q) fr to ba si ke en po r w b := by
  obtain ⟨hB, hP, ⟨q1, q2, q3, q4⟩, hZ⟩ := h
  have h4 : N ≤ 4 := hB.2.2.2.2.2.2.2.2.1
  have ec : ∀ a b i : Nat, ¬ (19 ≤ a ∧ a ≤ 22 ∧ b = p) → ¬ ((a = 15 ∨ a = 16) ∧ b = p ∧ i = d) → σ' a b i = σ a b i := fun a b i g1 g2 => by rw [hs a b i g1, zu_rd, if_neg (by omega), zu_rd, if_neg (by omega)]
  have em : ∀ a b i : Nat, ¬ (a = 0 ∧ b = 0 ∧ i = 28) → ¬ (25 ≤ a ∧ a ≤ 28 ∧ b = 0) → ¬ ((a = 21 ∨ a = 22) ∧ b = 0 ∧ i = 3 * p + d) → τ' a b i = τ a b i := fun a b i g1 g2 g3 => by rw [ht a b i g1 g2, zu_rd, if_neg (by omega), zu_rd, if_neg (by omega)]
  refine ⟨?_, fun q hq => ?_, ⟨ht1, by omega, fun q hq => ?_, fun e he => ?_⟩, fun q g1 g2 i hi => ?_⟩
  · have fl : ∀ a, a < 11 → σ' a 0 = σ a 0 := fun a ha => funext fun i => ec a 0 i (by omega) (by omega)
    have fm : ∀ a, (a = 1 ∨ a = 2 ∨ a = 29 ∨ a = 30) → τ' a 0 = τ a 0 := fun a ha => funext fun i => em a 0 i (by omega) (by omega) (by omega)
    have f0 : ∀ i, i ≠ 28 → τ' 0 0 i = τ 0 0 i := fun i hi => em 0 0 i (by omega) (by omega) (by omega)
    unfold Bd at hB ⊢
    rw [fl 2 (by omega), fl 3 (by omega), fl 8 (by omega), fl 0 (by omega), fl 5 (by omega), fl 6 (by omega), fl 7 (by omega), fm 1 (by omega), fm 2 (by omega), fm 29 (by omega), fm 30 (by omega), f0 2 (by omega), f0 3 (by omega), f0 4 (by omega), f0 5 (by omega), f0 33 (by omega), f0 35 (by omega)]
    exact hB
  · by_cases hqp : q = p
    · subst hqp
      obtain ⟨hS, hD, n1, n2, n3, n4, n5⟩ := hP q hq
      have e11 : σ' 11 q = σ 11 q := funext fun i => ec 11 q i (by omega) (by omega)
      have e12 : σ' 12 q = σ 12 q := funext fun i => ec 12 q i (by omega) (by omega)
      have e13 : σ' 13 q = σ 13 q := funext fun i => ec 13 q i (by omega) (by omega)
      have e14 : σ' 14 q = σ 14 q := funext fun i => ec 14 q i (by omega) (by omega)
      have e17 : σ' 17 q = σ 17 q := funext fun i => ec 17 q i (by omega) (by omega)
      have e18 : σ' 18 q = σ 18 q := funext fun i => ec 18 q i (by omega) (by omega)
      have et : ∀ a i, a ≠ 0 → a ≠ 21 → a ≠ 22 → ¬ (25 ≤ a ∧ a ≤ 28) → τ' a 0 i = τ a 0 i := fun a i g0 g1 g2 g3 => em a 0 i (by omega) (by omega) (by omega)
      unfold Ps
      rw [e11, e12, e13, e14, e17, e18]
      refine ⟨?_, ?_, fun i hi => ?_, n2, n3, fun i hi => ?_, fun i hi => ?_⟩
      · unfold St at hS ⊢
        rw [et 3 q (by omega) (by omega) (by omega) (by omega), et 4 q (by omega) (by omega) (by omega) (by omega), et 5 q (by omega) (by omega) (by omega) (by omega), et 6 q (by omega) (by omega) (by omega) (by omega), et 7 q (by omega) (by omega) (by omega) (by omega), et 8 q (by omega) (by omega) (by omega) (by omega), et 9 q (by omega) (by omega) (by omega) (by omega)]
        exact hS
      · unfold Dy at hD ⊢
        rw [et 12 q (by omega) (by omega) (by omega) (by omega), et 13 q (by omega) (by omega) (by omega) (by omega), et 14 q (by omega) (by omega) (by omega) (by omega), et 15 q (by omega) (by omega) (by omega) (by omega), et 16 q (by omega) (by omega) (by omega) (by omega), et 10 q (by omega) (by omega) (by omega) (by omega), et 17 q (by omega) (by omega) (by omega) (by omega), et 18 q (by omega) (by omega) (by omega) (by omega), et 19 q (by omega) (by omega) (by omega) (by omega)]
        exact ⟨fun i hi => by rw [et 11 _ (by omega) (by omega) (by omega) (by omega)]; exact hD.1 i hi, hD.2⟩
      · rw [et 20 _ (by omega) (by omega) (by omega) (by omega)]; exact n1 i hi
      · by_cases hid : i = d
        · subst hid
          rw [hs 15 q i (by omega), hs 16 q i (by omega), ht 21 0 _ (by omega) (by omega), ht 22 0 _ (by omega) (by omega)]
          rw [zu_rd, if_neg (by omega), zu_rd, if_pos (by omega), zu_rd, if_neg (by omega), zu_rd, if_pos (by omega), zu_rd, if_pos (by omega), zu_rd, if_pos (by omega)]
          exact ⟨rfl, fun _ => rfl⟩
        · rw [ec 15 q i (by omega) (by omega), ec 16 q i (by omega) (by omega), em 21 0 _ (by omega) (by omega) (by omega), em 22 0 _ (by omega) (by omega) (by omega)]
          exact n4 i hi
      · rw [et 24 _ (by omega) (by omega) (by omega) (by omega), et 23 _ (by omega) (by omega) (by omega) (by omega)]; exact n5 i hi
    · exact ps_fr (fun a i g1 g2 => ec a q i (by omega) (by omega)) (fun a g1 g2 g3 => em a 0 q (by omega) (by omega) (by omega)) (fun i hi => em 11 0 _ (by omega) (by omega) (by omega)) (fun a i g1 g2 g3 => em a 0 _ (by omega) (by omega) (by omega)) (hP q hq)
  · by_cases hqp : q = p
    · subst hqp
      simp only [if_pos]
      refine ⟨hs1, hv4, ?_⟩
      have e1 : qC (σ' 20 q) (σ' 21 q) (σ' 22 q) v' = (List.range v').map (qc σ' q) := rfl
      have e2 : qC (σ 20 q) (σ 21 q) (σ 22 q) (c q) = (List.range (c q)).map (qc σ q) := rfl
      rw [e1, hs2, ← e2, (q3 q hq).2.2, ht2, qF_kp]
    · simp only [if_neg hqp]
      have e : ∀ a, 19 ≤ a → σ' a q = σ a q := fun a ha => funext fun i => ec a q i (by omega) (by omega)
      rw [e 19 (by omega), e 20 (by omega), e 21 (by omega), e 22 (by omega), ht2, qF_keep (fun x _ hx => by
        have hne : ¬ nI q = nI p := fun g => hqp ((nI_eq (by omega) (by omega)).mp g)
        simp [kp, hx, hne])]
      exact q3 q hq
  · rw [ht2] at he
    obtain ⟨he, k0⟩ := List.mem_filter.mp he
    obtain ⟨o, d', k1, k2, k3, k4, k5⟩ := q4 e he
    refine ⟨o, d', k1, k2, k3, k4, ?_⟩
    have hne : ¬ (o = p ∧ d' = d) := fun ⟨g1, g2⟩ => by
      rw [g1] at k3
      rw [g2] at k4
      simp [kp, k3, k4] at k0
    rw [ec 15 o d' (by omega) (by omega)]
    exact k5
  · rw [ec 14 q i (by omega) (by omega)]
    exact hZ q g1 g2 i hi
theorem k_subs {d : Nat} (A1 A2 : Int32) (h : RL σ τ N u c fr to ba si ke en po r w b) (hp : p < N) (hd : d < 3) : KO (k_Ke_subscribe σ p (nI d) A1 A2) (k_GM_subscribe τ (nI p) (nI d) A1 A2) σ τ N fr to ba si ke en po := by
  have h4 : N ≤ 4 := h.1.2.2.2.2.2.2.2.2.1
  have z3 : zi (nI d) 3 = true := zi_n hd (by omega)
  have cd : (nI d).toNatClampNeg = d := nI_clamp (by omega)
  have z12 : zi (nI (3 * p + d)) 12 = true := zi_n (by omega) (by omega)
  have c12 : (nI (3 * p + d)).toNatClampNeg = 3 * p + d := nI_clamp (by omega)
  obtain ⟨hu, h16, hQ3, hQ4⟩ := h.2.2.1
  obtain ⟨g1, g2, g3⟩ := hQ3 p hp
  have qs : ∀ i, qe (zu (zu τ 21 0 (3 * p + d) A1) 22 0 (3 * p + d) A2) i = qe τ i := fun i => by
    unfold qe
    rw [zu_rd, if_neg (by omega), zu_rd, if_neg (by omega), zu_rd, if_neg (by omega), zu_rd, if_neg (by omega), zu_rd, if_neg (by omega), zu_rd, if_neg (by omega), zu_rd, if_neg (by omega), zu_rd, if_neg (by omega)]
  obtain ⟨t', v, m1, m2, m3, m4, m5⟩ := gm_drop (s := zu (zu τ 21 0 (3 * p + d) A1) 22 0 (3 * p + d) A2) (p := p) (d := d) h16 (by rw [zu_rd, if_neg (by omega), zu_rd, if_neg (by omega)]; exact hu)
  rw [qM_en, qM_en, List.map_congr_left (fun i _ => qs i), ← qM_en, ← qM_en] at m5
  obtain ⟨s', v', k1, k2, k3, k4, k5⟩ := uq_drop (p := p) (d := d) g2 (c p) FU 0 0 (zu (zu σ 15 p d A1) 16 p d A2) (by omega) (by unfold FU; omega) (by omega) (by rw [zu_rd, if_neg (by omega), zu_rd, if_neg (by omega)]; exact g1)
  have k5' : (List.range v').map (qc s' p) = ((List.range (c p)).map (qc σ p)).filter (kd1 d) := by
    rw [k5, List.range_zero, List.map_nil, List.nil_append, ← List.range_eq_range']
    congr 1
  have hR := rl_sub (A1 := A1) (A2 := A2) h hp hd k2 k3 (by omega) k5' m2 m3 m4 m5
  refine ⟨s', t', 0, v, _, r, w, b, ?_, ?_, hR, ⟨fun q => ⟨?_, ?_⟩, ?_⟩⟩
  · unfold k_Ke_subscribe k_UQ_removeDriver
    rw [ck_p z3, lt_e, ck_p z3, lt_e, cd, show k_UQ_removeDriver_4 p (nI d) FU (zu (zu σ 15 p d A1) 16 p d A2) 0 0 = k_UQ_removeDriver_4 p (nI d) FU (zu (zu σ 15 p d A1) 16 p d A2) (nI 0) (nI 0) from rfl, k1, bn_s]
  · unfold k_GM_subscribe
    rw [ix3, ck_p z12, lt_e, ck_p z12, lt_e, c12, m1, bn_s]
  · rw [k2 11 q 11 (by omega), zu_rd, if_neg (by omega), zu_rd, if_neg (by omega)]
  · rw [k2 11 q 15 (by omega), zu_rd, if_neg (by omega), zu_rd, if_neg (by omega)]
  · rw [m2 0 0 37 (by omega) (by omega), zu_rd, if_neg (by omega), zu_rd, if_neg (by omega)]
end SUBS
