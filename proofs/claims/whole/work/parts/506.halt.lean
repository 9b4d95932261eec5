/-! a process that stops: both sides -/
theorem ps_fr {σ σ' τ τ' : zS} {p fr to ba si ke en po : Nat} {r w b : Nat → Nat} (h1 : ∀ a i, 11 ≤ a → a ≤ 18 → σ' a p i = σ a p i) (h2 : ∀ a, 3 ≤ a → a ≤ 19 → a ≠ 11 → τ' a 0 p = τ a 0 p) (h3 : ∀ i, i < 8 → τ' 11 0 (8 * p + i) = τ 11 0 (8 * p + i)) (h4 : ∀ a i, 20 ≤ a → a ≤ 24 → i < 3 → τ' a 0 (3 * p + i) = τ a 0 (3 * p + i)) (h : Ps σ τ p fr to ba si ke en po r w b) : Ps σ' τ' p fr to ba si ke en po r w b := by
  have e : ∀ a, 11 ≤ a → a ≤ 18 → σ' a p = σ a p := fun a g1 g2 => funext fun i => h1 a i g1 g2
  obtain ⟨hS, hD, hN⟩ := h
  unfold Ps
  rw [e 11 (by omega) (by omega), e 12 (by omega) (by omega), e 13 (by omega) (by omega), e 14 (by omega) (by omega), e 15 (by omega) (by omega), e 16 (by omega) (by omega), e 17 (by omega) (by omega), e 18 (by omega) (by omega)]
  refine ⟨?_, ?_, ?_⟩
  · unfold St at hS ⊢
    rw [h2 3 (by omega) (by omega) (by omega), h2 4 (by omega) (by omega) (by omega), h2 5 (by omega) (by omega) (by omega), h2 6 (by omega) (by omega) (by omega), h2 7 (by omega) (by omega) (by omega), h2 8 (by omega) (by omega) (by omega), h2 9 (by omega) (by omega) (by omega)]
    exact hS
  · unfold Dy at hD ⊢
    rw [h2 12 (by omega) (by omega) (by omega), h2 13 (by omega) (by omega) (by omega), h2 14 (by omega) (by omega) (by omega), h2 15 (by omega) (by omega) (by omega), h2 16 (by omega) (by omega) (by omega), h2 10 (by omega) (by omega) (by omega), h2 17 (by omega) (by omega) (by omega), h2 18 (by omega) (by omega) (by omega), h2 19 (by omega) (by omega) (by omega)]
    exact ⟨fun i hi => (hD.1 i hi).trans (h3 i hi).symm, hD.2⟩
  · obtain ⟨n1, n2, n3, n4, n5⟩ := hN
    refine ⟨fun i hi => ?_, n2, n3, fun i hi => ?_, fun i hi => ?_⟩
    · rw [h4 20 i (by omega) (by omega) hi]; exact n1 i hi
    · rw [h4 21 i (by omega) (by omega) hi, h4 22 i (by omega) (by omega) hi]; exact n4 i hi
    · rw [h4 24 i (by omega) (by omega) hi, h4 23 i (by omega) (by omega) hi]; exact n5 i hi
def cl1 (σ : zS) (p d : Nat) : zS := zu (zu (zu (zu (zu σ 14 p d 0) 15 p d 0) 16 p d 0) 17 p d 0) 18 p d 0
def clr (σ : zS) (p : Nat) : zS := zu (zu (cl1 (cl1 (cl1 σ p 0) p 1) p 2) 13 p 6 0) 19 p 3 0
theorem cl1_rd (σ : zS) (p d a b i : Nat) : cl1 σ p d a b i = if (14 ≤ a ∧ a ≤ 18) ∧ b = p ∧ i = d then 0 else σ a b i := by
  unfold cl1
  simp only [zu_rd]
  by_cases h : (14 ≤ a ∧ a ≤ 18) ∧ b = p ∧ i = d
  · rw [if_pos h]
    repeat' split
    all_goals first | rfl | omega
  · rw [if_neg h, if_neg (by omega), if_neg (by omega), if_neg (by omega), if_neg (by omega), if_neg (by omega)]
theorem clr_rd (σ : zS) (p a b i : Nat) : clr σ p a b i = if b = p ∧ ((14 ≤ a ∧ a ≤ 18 ∧ i < 3) ∨ (a = 13 ∧ i = 6) ∨ (a = 19 ∧ i = 3)) then 0 else σ a b i := by
  unfold clr
  simp only [zu_rd, cl1_rd]
  by_cases h : b = p ∧ ((14 ≤ a ∧ a ≤ 18 ∧ i < 3) ∨ (a = 13 ∧ i = 6) ∨ (a = 19 ∧ i = 3))
  · rw [if_pos h]
    repeat' split
    all_goals first | rfl | omega
  · rw [if_neg h, if_neg (by omega), if_neg (by omega), if_neg (by omega), if_neg (by omega), if_neg (by omega)]
theorem no_step {σ : zS} {p d : Nat} (n : Nat) (hd : d < 3) : k_No_clear_2 p (n + 1) σ (nI d) = k_No_clear_2 p n (cl1 σ p d) (nI (d + 1)) := by
  have z3 : zi (nI d) 3 = true := zi_n hd (by omega)
  rw [k_No_clear_2, if_neg (show ¬ (3 : Int32) ≤ nI d from nI_ge (b := 3) hd (by omega))]
  simp only [ck_p z3, lt_e, nI_clamp (show d < 2 ^ 31 by omega), nI_1]
  rfl
theorem no_clear (σ : zS) (p : Nat) : k_No_clear σ p = some (clr σ p) := by
  unfold k_No_clear
  rw [show FU = 996 + 1 + 1 + 1 + 1 from rfl, show k_No_clear_2 p (996 + 1 + 1 + 1 + 1) σ 0 = k_No_clear_2 p (996 + 1 + 1 + 1 + 1) σ (nI 0) from rfl, no_step _ (by omega), no_step _ (by omega), no_step _ (by omega), k_No_clear_2, if_pos (show (3 : Int32) ≤ nI (0 + 1 + 1 + 1) by decide), lt_e, lt_e]
  rfl
/-- the notes are lost -/
def los (σ : zS) (p : Nat) : zS := zu (clr σ p) 11 p 8 (σ 11 p 6)
theorem bp_lose (σ : zS) (p : Nat) : k_BP_loseNotes σ p = some (los σ p) := by
  unfold k_BP_loseNotes los
  rw [no_clear, bn_s, lt_e, clr_rd σ p 11 p 6, if_neg (by omega)]
theorem los_rd (σ : zS) (p a b i : Nat) : los σ p a b i = if b = p ∧ a = 11 ∧ i = 8 then σ 11 p 6 else if b = p ∧ ((14 ≤ a ∧ a ≤ 18 ∧ i < 3) ∨ (a = 13 ∧ i = 6) ∨ (a = 19 ∧ i = 3)) then 0 else σ a b i := by
  unfold los
  rw [zu_rd, clr_rd]
  by_cases h : b = p ∧ a = 11 ∧ i = 8
  · rw [if_pos (by omega), if_pos h]
  · rw [if_neg (by omega), if_neg h]
/-- what forgetting does to the reference's state -/
def fgt (s s' : zS) (p u v : Nat) : Prop :=
  (∀ a b i : Nat, ¬ (a = 0 ∧ b = 0 ∧ i = 28) → ¬ (25 ≤ a ∧ a ≤ 28 ∧ b = 0) → ¬ ((a = 20 ∨ a = 21 ∨ a = 24) ∧ b = 0 ∧ 3 * p ≤ i ∧ i < 3 * p + 3) → s' a b i = s a b i) ∧ (∀ a d, (a = 20 ∨ a = 21 ∨ a = 24) → d < 3 → s' a 0 (3 * p + d) = 0) ∧ s' 0 0 28 = nI v ∧ v ≤ u ∧ qM s' v = (((qM s u).filter (kp p 0)).filter (kp p 1)).filter (kp p 2)
theorem fg_step {s : zS} {p d u : Nat} (n : Nat) (hp : p < 4) (hd : d < 3) (h16 : u ≤ 16) (hu : s 0 0 28 = nI u) : ∃ (s' : zS) (v : Nat), k_GM_forget_2 (nI p) (n + 1) s (nI d) = k_GM_forget_2 (nI p) n s' (nI (d + 1)) ∧ (∀ a b i : Nat, ¬ (a = 0 ∧ b = 0 ∧ i = 28) → ¬ (25 ≤ a ∧ a ≤ 28 ∧ b = 0) → ¬ ((a = 20 ∨ a = 21 ∨ a = 24) ∧ b = 0 ∧ i = 3 * p + d) → s' a b i = s a b i) ∧ (∀ a, (a = 20 ∨ a = 21 ∨ a = 24) → s' a 0 (3 * p + d) = 0) ∧ s' 0 0 28 = nI v ∧ v ≤ u ∧ qM s' v = (qM s u).filter (kp p d) := by
  have z : zi (nI (3 * p + d)) 12 = true := zi_n (by omega) (by omega)
  have hq : ∀ i, qe (zu (zu (zu s 20 0 (3 * p + d) 0) 21 0 (3 * p + d) 0) 24 0 (3 * p + d) 0) i = qe s i := fun i => by
    unfold qe
    simp only [zu_rd]
    simp
  obtain ⟨s', v, e1, e2, e3, e4, e5⟩ := gm_drop (s := zu (zu (zu s 20 0 (3 * p + d) 0) 21 0 (3 * p + d) 0) 24 0 (3 * p + d) 0) (p := p) (d := d) h16 (by rw [zu_rd, if_neg (by omega), zu_rd, if_neg (by omega), zu_rd, if_neg (by omega)]; exact hu)
  refine ⟨s', v, ?_, fun a b i g1 g2 g3 => ?_, fun a ha => ?_, e3, e4, ?_⟩
  · rw [k_GM_forget_2, if_neg (show ¬ (3 : Int32) ≤ nI d from nI_ge (b := 3) hd (by omega))]
    simp only [ix3, ck_p z, lt_e, nI_clamp (show 3 * p + d < 2 ^ 31 by omega), nI_1]
    rw [e1, bn_s]
  · rw [e2 a b i g1 g2, zu_rd, if_neg (by omega), zu_rd, if_neg (by omega), zu_rd, if_neg (by omega)]
  · rw [e2 a 0 (3 * p + d) (by omega) (by omega)]
    obtain rfl | rfl | rfl := ha
    all_goals simp [zu_rd]
  · rw [e5, qM_en, qM_en, List.map_congr_left (fun i _ => hq i)]
theorem gm_forget {s : zS} {p u : Nat} (hp : p < 4) (h16 : u ≤ 16) (hu : s 0 0 28 = nI u) : ∃ (s' : zS) (v : Nat), k_GM_forget s (nI p) = some s' ∧ fgt s s' p u v := by
  obtain ⟨s1, v1, a1, a2, a3, a4, a5, a6⟩ := fg_step (s := s) (d := 0) (996 + 1 + 1 + 1) hp (by omega) h16 hu
  obtain ⟨s2, v2, b1, b2, b3, b4, b5, b6⟩ := fg_step (s := s1) (d := 1) (996 + 1 + 1) hp (by omega) (by omega) a4
  obtain ⟨s3, v3, c1, c2, c3, c4, c5, c6⟩ := fg_step (s := s2) (d := 2) (996 + 1) hp (by omega) (by omega) b4
  refine ⟨s3, v3, ?_, fun a b i g1 g2 g3 => ?_, fun a d ha hd => ?_, c4, by omega, by rw [c6, b6, a6]⟩
  · unfold k_GM_forget
    rw [show FU = 996 + 1 + 1 + 1 + 1 from rfl, show k_GM_forget_2 (nI p) (996 + 1 + 1 + 1 + 1) s 0 = k_GM_forget_2 (nI p) (996 + 1 + 1 + 1 + 1) s (nI 0) from rfl, a1, b1, c1, k_GM_forget_2, if_pos (show (3 : Int32) ≤ nI (0 + 1 + 1 + 1) by decide)]
  · rw [c2 a b i g1 g2 (by omega), b2 a b i g1 g2 (by omega), a2 a b i g1 g2 (by omega)]
  · obtain rfl | rfl | rfl : d = 0 ∨ d = 1 ∨ d = 2 := by omega
    · rw [c2 a 0 (3 * p + 0) (by omega) (by omega) (by omega), b2 a 0 (3 * p + 0) (by omega) (by omega) (by omega)]; exact a3 a ha
    · rw [c2 a 0 (3 * p + 1) (by omega) (by omega) (by omega)]; exact b3 a ha
    · exact c3 a ha
