/-! the queues: the oldest out, a driver's out -/
def qc (s : zS) (p i : Nat) : Int32 × Int32 × Int32 := (s 20 p i, s 21 p i, s 22 p i)
def mvC (s : zS) (p k j : Nat) : zS := zu (zu (zu s 20 p j (s 20 p k)) 21 p j (s 21 p k)) 22 p j (s 22 p k)
theorem qc_mv (s : zS) (p k j i : Nat) : qc (mvC s p k j) p i = if i = j then qc s p k else qc s p i := by
  unfold qc mvC
  by_cases h : i = j
  · simp [zu_rd, h]
  · simp [zu_rd, h]
theorem mvC_o (s : zS) (p k j a b i : Nat) (h : ¬ (20 ≤ a ∧ a ≤ 22 ∧ b = p)) : mvC s p k j a b i = s a b i := by
  unfold mvC
  rw [zu_rd, if_neg (by omega), zu_rd, if_neg (by omega), zu_rd, if_neg (by omega)]
theorem uq_move {s : zS} {p k j : Nat} (hk : k < 4) (hj : j < 4) : k_UQ_move s p (nI k) (nI j) = some (mvC s p k j) := by
  have zk : zi (nI k) 4 = true := zi_n hk (by omega)
  have zj : zi (nI j) 4 = true := zi_n hj (by omega)
  unfold k_UQ_move mvC
  simp only [ck_p zk, ck_p zj, lt_e, nI_clamp (show k < 2 ^ 31 by omega), nI_clamp (show j < 2 ^ 31 by omega)]
  rfl
theorem uq_rem {p c : Nat} (hc : c ≤ 4) : ∀ (m k f : Nat) (s : zS), 1 ≤ k → k + m = c → m < f → s 19 p 3 = nI c → ∃ s' : zS, k_UQ_removeOldest_2 p f s (nI k) = some s' ∧ s' 19 p 3 = nI (c - 1) ∧ (∀ a b i, ¬ (19 ≤ a ∧ a ≤ 22 ∧ b = p) → s' a b i = s a b i) ∧ ∀ i, i + 1 < c → qc s' p i = if k ≤ i + 1 then qc s p (i + 1) else qc s p i := by
  intro m
  induction m with
  | zero =>
    intro k f s h1 hk hf hs
    obtain ⟨f, rfl⟩ : ∃ g, f = g + 1 := ⟨f - 1, by omega⟩
    obtain ⟨c', rfl⟩ : ∃ c', c = c' + 1 := ⟨c - 1, by omega⟩
    have zm : zmax (nI (c' + 1) - (1 : Int32)) 0 = nI c' := by
      unfold zmax
      rw [nI_pred, if_neg (nI_pos (by omega))]
    refine ⟨zu s 19 p 3 (nI c'), ?_, ?_, fun a b i g => ?_, fun i hi => ?_⟩
    · rw [k_UQ_removeOldest_2, hs, if_pos (nI_le (by omega) (by omega)), lt_e, zm]
    · rw [zu_rd, if_pos (by omega)]; rfl
    · rw [zu_rd, if_neg (by omega)]
    · rw [if_neg (by omega)]
      unfold qc
      rw [zu_rd, if_neg (by omega), zu_rd, if_neg (by omega), zu_rd, if_neg (by omega)]
  | succ m ih =>
    intro k f s h1 hk hf hs
    obtain ⟨f, rfl⟩ : ∃ g, f = g + 1 := ⟨f - 1, by omega⟩
    obtain ⟨k', rfl⟩ : ∃ k', k = k' + 1 := ⟨k - 1, by omega⟩
    obtain ⟨s', e1, e2, e3, e4⟩ := ih (k' + 1 + 1) f (mvC s p (k' + 1) k') (by omega) (by omega) (by omega) (by rw [mvC_o _ _ _ _ _ _ _ (by omega)]; exact hs)
    refine ⟨s', ?_, e2, fun a b i g => by rw [e3 a b i g, mvC_o _ _ _ _ _ _ _ (by omega)], fun i hi => ?_⟩
    · rw [k_UQ_removeOldest_2, hs, if_neg (nI_ge (by omega) (by omega)), nI_pred, uq_move (by omega) (by omega), bn_s, lt_e, nI_1]
      exact e1
    · rw [e4 i hi, qc_mv, qc_mv]
      by_cases h2 : k' + 1 + 1 ≤ i + 1
      · rw [if_pos h2, if_neg (by omega), if_pos (by omega)]
      · rw [if_neg h2]
        by_cases h3 : i = k'
        · subst h3
          rw [if_pos rfl, if_pos (by omega)]
        · rw [if_neg h3, if_neg (by omega)]
theorem km_rem {p u : Nat} {a2 d x y : Int32} (h16 : u ≤ 16) : ∀ (m k f : Nat) (s : zS), 1 ≤ k → k + m = u → m < f → s 0 0 28 = nI u → ∃ s' : zS, k_GM_kernel_92 (nI p) a2 f s d x y (nI k) = (bn (k_GM_deliver s' (nI p) d x y) fun s25 => some s25) ∧ s' 0 0 28 = nI (u - 1) ∧ sm s s' ∧ ∀ i, i + 1 < u → qe s' i = if k ≤ i + 1 then qe s (i + 1) else qe s i := by
  intro m
  induction m with
  | zero =>
    intro k f s h1 hk hf hs
    obtain ⟨f, rfl⟩ : ∃ g, f = g + 1 := ⟨f - 1, by omega⟩
    obtain ⟨u', rfl⟩ : ∃ u', u = u' + 1 := ⟨u - 1, by omega⟩
    refine ⟨zu s 0 0 28 (nI u'), ?_, ?_, sm_u _ _, fun i hi => ?_⟩
    · rw [k_GM_kernel_92, hs, if_pos (nI_le (by omega) (by omega)), lt_e, nI_pred]
    · rw [zu_rd, if_pos (by omega)]; rfl
    · rw [if_neg (by omega)]
      unfold qe
      rw [zu_rd, if_neg (by omega), zu_rd, if_neg (by omega), zu_rd, if_neg (by omega), zu_rd, if_neg (by omega)]
  | succ m ih =>
    intro k f s h1 hk hf hs
    obtain ⟨f, rfl⟩ : ∃ g, f = g + 1 := ⟨f - 1, by omega⟩
    obtain ⟨k', rfl⟩ : ∃ k', k = k' + 1 := ⟨k - 1, by omega⟩
    obtain ⟨s', e1, e2, e3, e4⟩ := ih (k' + 1 + 1) f (mv s (k' + 1) k') (by omega) (by omega) (by omega) ((mv_u s _ _).trans hs)
    refine ⟨s', ?_, e2, sm_tr (sm_mv s _ _) e3, fun i hi => ?_⟩
    · rw [k_GM_kernel_92, hs, if_neg (nI_ge (by omega) (by omega)), nI_pred, gm_move (by omega) (by omega), bn_s, lt_e, nI_1]
      exact e1
    · rw [e4 i hi, qe_mv, qe_mv]
      by_cases h2 : k' + 1 + 1 ≤ i + 1
      · rw [if_pos h2, if_neg (by omega), if_pos (by omega)]
      · rw [if_neg h2]
        by_cases h3 : i = k'
        · subst h3
          rw [if_pos rfl, if_pos (by omega)]
        · rw [if_neg h3, if_neg (by omega)]
theorem gm_oldest {τ : zS} {p u : Nat} (hu : τ 0 0 28 = nI u) (h16 : u ≤ 16) : (∃ j, j < u ∧ τ 25 0 j = nI p ∧ (∀ i, i < j → ¬ τ 25 0 i = nI p) ∧ k_GM_oldest τ (nI p) = some (τ, nI j)) ∨ ((∀ i, i < u → ¬ τ 25 0 i = nI p) ∧ k_GM_oldest τ (nI p) = some (τ, -1)) := by
  have lp : ∀ (m k f : Nat), k + m = u → m < f → (∀ i, i < k → ¬ τ 25 0 i = nI p) → (∃ j, j < u ∧ τ 25 0 j = nI p ∧ (∀ i, i < j → ¬ τ 25 0 i = nI p) ∧ k_GM_oldest_2 (nI p) f τ (nI k) = some (τ, nI j)) ∨ ((∀ i, i < u → ¬ τ 25 0 i = nI p) ∧ k_GM_oldest_2 (nI p) f τ (nI k) = some (τ, -1)) := by
    intro m
    induction m with
    | zero =>
      intro k f hk hf hno
      obtain ⟨f, rfl⟩ : ∃ g, f = g + 1 := ⟨f - 1, by omega⟩
      refine Or.inr ⟨fun i hi => hno i (by omega), ?_⟩
      rw [k_GM_oldest_2, hu, if_pos (nI_le (by omega) (by omega))]
    | succ m ih =>
      intro k f hk hf hno
      obtain ⟨f, rfl⟩ : ∃ g, f = g + 1 := ⟨f - 1, by omega⟩
      rw [k_GM_oldest_2, hu, if_neg (nI_ge (by omega) (by omega)), ck_p (zi_n (by omega) (by omega)), nI_clamp (by omega)]
      by_cases h : τ 25 0 k = nI p
      · rw [if_pos h]
        exact Or.inl ⟨k, by omega, h, hno, rfl⟩
      · rw [if_neg h, lt_e, nI_1]
        refine ih (k + 1) f (by omega) (by omega) (fun i hi => ?_)
        by_cases hik : i = k
        · rw [hik]; exact h
        · exact hno i (by omega)
  exact lp u 0 FU (by omega) (by unfold FU; omega) (fun i hi => absurd hi (Nat.not_lt_zero i))
/-- a list without its j-th entry -/
theorem rem_l {E : Type} (e e' : Nat → E) (j U : Nat) (h' : ∀ i, i + 1 < U → e' i = if j ≤ i then e (i + 1) else e i) : ∀ d, j + 1 + d ≤ U → (List.range (j + 1 + d)).map e = (List.range j).map e ++ (e j :: (List.range d).map (fun i => e (j + 1 + i))) ∧ (List.range (j + d)).map e' = (List.range j).map e ++ (List.range d).map (fun i => e (j + 1 + i)) := by
  intro d
  induction d with
  | zero =>
    intro hU
    refine ⟨?_, ?_⟩
    · rw [Nat.add_zero, List.range_succ, List.map_append]
      rfl
    · rw [Nat.add_zero, List.range_zero, List.map_nil, List.append_nil]
      refine List.map_congr_left (fun i hi => ?_)
      have := List.mem_range.mp hi
      rw [h' i (by omega), if_neg (by omega)]
  | succ d ih =>
    intro hU
    obtain ⟨i1, i2⟩ := ih (by omega)
    refine ⟨?_, ?_⟩
    · rw [← Nat.add_assoc, List.range_succ, List.map_append, i1, List.range_succ, List.map_append, List.append_assoc]
      rfl
    · rw [← Nat.add_assoc, List.range_succ, List.map_append, i2, List.range_succ, List.map_append, List.append_assoc]
      congr 2
      show [e' (j + d)] = [e (j + 1 + d)]
      rw [h' (j + d) (by omega), if_pos (by omega), show j + d + 1 = j + 1 + d by omega]
theorem qF_ap (l l' : List (Int32 × Int32 × Int32 × Int32)) (q : Nat) : qF (l ++ l') q = qF l q ++ qF l' q := by
  unfold qF
  exact List.filterMap_append
section QUE
variable {σ τ : zS} {N u p : Nat} {c fr to ba si ke en po : Nat → Nat} {r w b : Nat → Nat → Nat}
/-- the oldest entry of a process goes, on both sides -/
theorem rl_deq {σ' τ' : zS} {j : Nat} (h : RL σ τ N u c fr to ba si ke en po r w b) (hp : p < N) (hj : j < u) (ho : τ 25 0 j = nI p) (hno : ∀ i, i < j → ¬ τ 25 0 i = nI p) (hs1 : σ' 19 p 3 = nI (c p - 1)) (hs2 : ∀ a b i, ¬ (19 ≤ a ∧ a ≤ 22 ∧ b = p) → σ' a b i = σ a b i) (hs3 : ∀ i, i + 1 < c p → qc σ' p i = qc σ p (i + 1)) (ht1 : τ' 0 0 28 = nI (u - 1)) (ht2 : sm τ τ') (ht3 : ∀ i, i + 1 < u → qe τ' i = if j ≤ i then qe τ (i + 1) else qe τ i) : 0 < c p ∧ qc σ p 0 = (qe τ j).2 ∧ RL σ' τ' N (u - 1) (fun q => if q = p then c p - 1 else c q) fr to ba si ke en po r w b := by
  obtain ⟨hB, hP, ⟨q1, q2, q3, q4⟩, hZ⟩ := h
  have h4 : N ≤ 4 := hB.2.2.2.2.2.2.2.2.1
  obtain ⟨d, hd⟩ : ∃ d, u = j + 1 + d := ⟨u - (j + 1), by omega⟩
  obtain ⟨l1, l2⟩ := rem_l (qe τ) (qe τ') j u ht3 d (by omega)
  have m1 : qM τ u = (List.range j).map (qe τ) ++ (qe τ j :: (List.range d).map (fun i => qe τ (j + 1 + i))) := by rw [qM_en, hd]; exact l1
  have m2 : qM τ' (u - 1) = (List.range j).map (qe τ) ++ (List.range d).map (fun i => qe τ (j + 1 + i)) := by rw [qM_en, show u - 1 = j + d by omega]; exact l2
  have hA : qF ((List.range j).map (qe τ)) p = [] := qF_nil (fun e he => by
    obtain ⟨i, hi, rfl⟩ := List.mem_map.mp he
    exact hno i (List.mem_range.mp hi))
  have eP : qF (qM τ u) p = (qe τ j).2 :: qF ((List.range d).map (fun i => qe τ (j + 1 + i))) p := by
    rw [m1, qF_ap, hA, List.nil_append, qF_cons, if_pos (show (qe τ j).1 = nI p from ho)]
  have eP' : qF (qM τ' (u - 1)) p = qF ((List.range d).map (fun i => qe τ (j + 1 + i))) p := by rw [m2, qF_ap, hA, List.nil_append]
  obtain ⟨g1, g2, g3⟩ := q3 p hp
  have hc0 : 0 < c p := by
    have := congrArg List.length g3
    rw [eP, List.length_cons] at this
    have e : (qC (σ 20 p) (σ 21 p) (σ 22 p) (c p)).length = c p := by simp [qC]
    omega
  obtain ⟨c', hc'⟩ : ∃ c', c p = c' + 1 := ⟨c p - 1, by omega⟩
  have eC : qC (σ 20 p) (σ 21 p) (σ 22 p) (c p) = qc σ p 0 :: (List.range c').map (fun i => qc σ p (i + 1)) := by
    unfold qC
    rw [hc', List.range_succ_eq_map, List.map_cons, List.map_map]
    rfl
  rw [eC, eP] at g3
  obtain ⟨hh, ht⟩ := List.cons.inj g3
  refine ⟨hc0, hh, ?_, fun q hq => ?_, ⟨ht1, by omega, fun q hq => ?_, fun e he => ?_⟩, fun q g1 g2 i hi => ?_⟩
  · have fl : ∀ a, a < 11 → σ' a 0 = σ a 0 := fun a ha => funext fun i => hs2 a 0 i (by omega)
    have fm : ∀ a, (a = 1 ∨ a = 2 ∨ a = 29 ∨ a = 30) → τ' a 0 = τ a 0 := fun a ha => funext fun i => ht2 a 0 i (by omega) (by omega)
    have f0 : ∀ i, i ≠ 28 → τ' 0 0 i = τ 0 0 i := fun i hi => ht2 0 0 i (by omega) (by omega)
    unfold Bd at hB ⊢
    rw [fl 2 (by omega), fl 3 (by omega), fl 8 (by omega), fl 0 (by omega), fl 5 (by omega), fl 6 (by omega), fl 7 (by omega), fm 1 (by omega), fm 2 (by omega), fm 29 (by omega), fm 30 (by omega), f0 2 (by omega), f0 3 (by omega), f0 4 (by omega), f0 5 (by omega), f0 33 (by omega), f0 35 (by omega)]
    exact hB
  · exact ps_fr (fun a i g1 g2 => hs2 a q i (by omega)) (fun a g1 g2 g3 => ht2 a 0 q (by omega) (by omega)) (fun i hi => ht2 11 0 _ (by omega) (by omega)) (fun a i g1 g2 g3 => ht2 a 0 _ (by omega) (by omega)) (hP q hq)
  · by_cases hqp : q = p
    · subst hqp
      simp only [if_pos]
      refine ⟨hs1, by omega, ?_⟩
      rw [eP', ← ht]
      unfold qC
      rw [show c q - 1 = c' by omega]
      refine List.map_congr_left (fun i hi => ?_)
      have := List.mem_range.mp hi
      exact hs3 i (by omega)
    · have hne : ¬ (qe τ j).1 = nI q := fun g => by
        have : (qe τ j).1 = nI p := ho
        rw [this] at g
        exact hqp ((nI_eq (by omega) (by omega)).mp g).symm
      simp only [if_neg hqp]
      have e : ∀ a, σ' a q = σ a q := fun a => funext fun i => hs2 a q i (by omega)
      have eq : qF (qM τ' (u - 1)) q = qF (qM τ u) q := by rw [m1, m2, qF_ap, qF_ap, qF_cons, if_neg hne]
      rw [e 19, e 20, e 21, e 22, eq]
      exact q3 q hq
  · have he' : e ∈ qM τ u := by
      rw [m2] at he
      rw [m1]
      rcases List.mem_append.mp he with g | g
      · exact List.mem_append.mpr (Or.inl g)
      · exact List.mem_append.mpr (Or.inr (List.mem_cons_of_mem _ g))
    obtain ⟨o, d', k1, k2, k3, k4, k5⟩ := q4 e he'
    exact ⟨o, d', k1, k2, k3, k4, by rw [hs2 15 o d' (by omega)]; exact k5⟩
  · rw [hs2 14 q i (by omega)]
    exact hZ q g1 g2 i hi
end QUE
