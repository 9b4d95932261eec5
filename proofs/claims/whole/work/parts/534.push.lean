/-! push -/
section PUSH
variable {σ τ : zS} {N u p : Nat} {c fr to ba si ke en po : Nat → Nat} {r w b : Nat → Nat → Nat}
theorem cnt_s1 {B : Nat → Bool} {k : Nat} (h : B k = true) : cnt B (k + 1) = cnt B k + 1 := by
  rw [show cnt B (k + 1) = cnt B k + (if B k = true then 1 else 0) from rfl, if_pos h]
theorem cnt_s0 {B : Nat → Bool} {k : Nat} (h : ¬ B k = true) : cnt B (k + 1) = cnt B k := by
  rw [show cnt B (k + 1) = cnt B k + (if B k = true then 1 else 0) from rfl, if_neg h]
  rfl
/-- the reference looks at every word first -/
theorem pu_yes {v X : Int32} (h : RL σ τ N u c fr to ba si ke en po r w b) (hp : p < N) (h37 : τ 0 0 37 = 0) (hX : X.toInt % 4 = 0) (hA : ∀ k, k < 9 → v.toBitVec.getLsbD k = true → Al (fr p) (to p) (ba p) (si p) (r p) (X + nI (4 * cnt (fun k => v.toBitVec.getLsbD k) k)) 1) : ∀ (m k f : Nat), k + m = 9 → m < f → k_GM_push_20 (nI p) (v &&& (511 : Int32)) f τ X (X + nI (4 * cnt (fun k => v.toBitVec.getLsbD k) k)) (nI k) = k_GM_push_69 (nI p) (v &&& (511 : Int32)) FU τ X X 0 := by
  intro m
  induction m with
  | zero =>
    intro k f hk hf
    obtain ⟨f, rfl⟩ : ∃ f', f = f' + 1 := ⟨f - 1, by omega⟩
    rw [k_GM_push_20, if_pos (show (9 : Int32) ≤ nI k from nI_le (a := 9) (by omega) (by omega)), if_pos (show τ 0 0 37 ≤ 0 by rw [h37]; decide)]
  | succ m ih =>
    intro k f hk hf
    obtain ⟨f, rfl⟩ : ∃ f', f = f' + 1 := ⟨f - 1, by omega⟩
    have ih := ih (k + 1) f (by omega) (by omega)
    have hl := cnt_le (fun k => v.toBitVec.getLsbD k) k
    rw [k_GM_push_20, if_neg (show ¬ (9 : Int32) ≤ nI k from nI_ge (b := 9) (by omega) (by omega))]
    unfold k_GM_push_49
    by_cases hb : v.toBitVec.getLsbD k = true
    · have m1 := (may_ok (k := 1) (X + nI (4 * cnt (fun k => v.toBitVec.getLsbD k) k)) h hp (of_al (al_add hX (by omega))) (by omega) (Or.inl h37)).1 (hA k (by omega) hb)
      rw [show (nI 1 : Int32) = 1 from rfl] at m1
      rw [if_pos ((b_sr1 _ (by omega)).mpr (by rw [b_511 v (by omega)]; exact hb)), m1, bn_s]
      dsimp only
      rw [lt_e, lt_e, nI_1, a4_1]
      rw [cnt_s1 (B := fun k => v.toBitVec.getLsbD k) hb] at ih
      exact ih
    · rw [if_neg (fun g => hb (by rw [← b_511 v (by omega)]; exact (b_sr1 _ (by omega)).mp g)), lt_e, nI_1]
      rw [cnt_s0 (B := fun k => v.toBitVec.getLsbD k) hb] at ih
      exact ih
theorem pu_4 {v X : Int32} (h : RL σ τ N u c fr to ba si ke en po r w b) (hp : p < N) (h37 : τ 0 0 37 = 4) (hX : X.toInt % 4 = 0) : ∀ (m k f : Nat), k + m = 9 → m < f → k_GM_push_20 (nI p) (v &&& (511 : Int32)) f τ X (X + nI (4 * cnt (fun k => v.toBitVec.getLsbD k) k)) (nI k) = some τ := by
  intro m
  induction m with
  | zero =>
    intro k f hk hf
    obtain ⟨f, rfl⟩ : ∃ f', f = f' + 1 := ⟨f - 1, by omega⟩
    rw [k_GM_push_20, if_pos (show (9 : Int32) ≤ nI k from nI_le (a := 9) (by omega) (by omega)), if_neg (show ¬ τ 0 0 37 ≤ 0 by rw [h37]; decide)]
  | succ m ih =>
    intro k f hk hf
    obtain ⟨f, rfl⟩ : ∃ f', f = f' + 1 := ⟨f - 1, by omega⟩
    have ih := ih (k + 1) f (by omega) (by omega)
    have hl := cnt_le (fun k => v.toBitVec.getLsbD k) k
    rw [k_GM_push_20, if_neg (show ¬ (9 : Int32) ≤ nI k from nI_ge (b := 9) (by omega) (by omega))]
    unfold k_GM_push_49
    by_cases hb : v.toBitVec.getLsbD k = true
    · obtain ⟨m1, m2⟩ := may_ok (k := 1) (X + nI (4 * cnt (fun k => v.toBitVec.getLsbD k) k)) h hp (of_al (al_add hX (by omega))) (by omega) (Or.inr h37)
      have m3 : ∃ y, k_GM_may τ (nI p) (X + nI (4 * cnt (fun k => v.toBitVec.getLsbD k) k)) 1 = some (τ, y) := by
        by_cases hA : Al (fr p) (to p) (ba p) (si p) (r p) (X + nI (4 * cnt (fun k => v.toBitVec.getLsbD k) k)) 1
        · exact ⟨1, m1 hA⟩
        · exact ⟨0, by have := m2 hA; rw [zu_id h37] at this; exact this⟩
      obtain ⟨y, m3⟩ := m3
      rw [if_pos ((b_sr1 _ (by omega)).mpr (by rw [b_511 v (by omega)]; exact hb)), m3, bn_s]
      dsimp only
      rw [lt_e, lt_e, nI_1, a4_1]
      rw [cnt_s1 (B := fun k => v.toBitVec.getLsbD k) hb] at ih
      exact ih
    · rw [if_neg (fun g => hb (by rw [← b_511 v (by omega)]; exact (b_sr1 _ (by omega)).mp g)), lt_e, nI_1]
      rw [cnt_s0 (B := fun k => v.toBitVec.getLsbD k) hb] at ih
      exact ih
theorem pu_no {v X : Int32} (h : RL σ τ N u c fr to ba si ke en po r w b) (hp : p < N) (h37 : τ 0 0 37 = 0) (hX : X.toInt % 4 = 0) : ∀ (m k f : Nat), k + m = 9 → m < f → (∃ j, k ≤ j ∧ j < 9 ∧ v.toBitVec.getLsbD j = true ∧ ¬ Al (fr p) (to p) (ba p) (si p) (r p) (X + nI (4 * cnt (fun k => v.toBitVec.getLsbD k) j)) 1) → k_GM_push_20 (nI p) (v &&& (511 : Int32)) f τ X (X + nI (4 * cnt (fun k => v.toBitVec.getLsbD k) k)) (nI k) = some (zu τ 0 0 37 4) := by
  intro m
  induction m with
  | zero =>
    intro k f hk hf ⟨j, j1, j2, _⟩
    omega
  | succ m ih =>
    intro k f hk hf ⟨j, j1, j2, j3, j4⟩
    obtain ⟨f, rfl⟩ : ∃ f', f = f' + 1 := ⟨f - 1, by omega⟩
    have ih := ih (k + 1) f (by omega) (by omega)
    have hl := cnt_le (fun k => v.toBitVec.getLsbD k) k
    rw [k_GM_push_20, if_neg (show ¬ (9 : Int32) ≤ nI k from nI_ge (b := 9) (by omega) (by omega))]
    unfold k_GM_push_49
    by_cases hb : v.toBitVec.getLsbD k = true
    · obtain ⟨m1, m2⟩ := may_ok (k := 1) (X + nI (4 * cnt (fun k => v.toBitVec.getLsbD k) k)) h hp (of_al (al_add hX (by omega))) (by omega) (Or.inl h37)
      rw [show (nI 1 : Int32) = 1 from rfl] at m1 m2
      rw [if_pos ((b_sr1 _ (by omega)).mpr (by rw [b_511 v (by omega)]; exact hb))]
      by_cases hA : Al (fr p) (to p) (ba p) (si p) (r p) (X + nI (4 * cnt (fun k => v.toBitVec.getLsbD k) k)) 1
      · have hjk : j ≠ k := fun g => by rw [g] at j4; exact j4 hA
        have ih := ih ⟨j, by omega, j2, j3, j4⟩
        rw [m1 hA, bn_s]
        dsimp only
        rw [lt_e, lt_e, nI_1, a4_1]
        rw [cnt_s1 (B := fun k => v.toBitVec.getLsbD k) hb] at ih
        exact ih
      · rw [m2 hA, bn_s]
        dsimp only
        rw [lt_e, lt_e, nI_1, a4_1]
        have := pu_4 (v := v) (rl_scr (j := 37) (v := 4) h (by omega)) hp (by rw [zu_rd, if_pos (by omega)]) hX m (k + 1) f (by omega) (by omega)
        rw [cnt_s1 (B := fun k => v.toBitVec.getLsbD k) hb] at this
        exact this
    · have hjk : j ≠ k := fun g => by rw [g] at j3; exact hb j3
      have ih := ih ⟨j, by omega, j2, j3, j4⟩
      rw [if_neg (fun g => hb (by rw [← b_511 v (by omega)]; exact (b_sr1 _ (by omega)).mp g)), lt_e, nI_1]
      rw [cnt_s0 (B := fun k => v.toBitVec.getLsbD k) hb] at ih
      exact ih
/-- then both write -/
theorem pu_wr {v X : Int32} (hA : ∀ k, k < 9 → v.toBitVec.getLsbD k = true → ∃ q, q < 128 ∧ X + nI (4 * cnt (fun k => v.toBitVec.getLsbD k) k) = nI (4096 + 4 * q)) : ∀ (m k f f' : Nat) (σ τ : zS), G σ τ N u c fr to ba si ke en po r w b p → k + m = 8 → m < f → m + 1 < f' → ∃ (g g' : Nat) (σ' τ' : zS), k_Pr_push_53 p v f σ X (X + nI (4 * cnt (fun k => v.toBitVec.getLsbD k) k)) (nI k) = k_Pr_push_53 p v (g + 1) σ' X (X + nI (4 * cnt (fun k => v.toBitVec.getLsbD k) 8)) (nI 8) ∧ k_GM_push_69 (nI p) (v &&& (511 : Int32)) f' τ X (X + nI (4 * cnt (fun k => v.toBitVec.getLsbD k) k)) (nI k) = k_GM_push_69 (nI p) (v &&& (511 : Int32)) (g' + 1 + 1) τ' X (X + nI (4 * cnt (fun k => v.toBitVec.getLsbD k) 8)) (nI 8) ∧ G σ' τ' N u c fr to ba si ke en po r w b p := by
  intro m
  induction m with
  | zero =>
    intro k f f' σ τ h hk hf hf'
    obtain ⟨f, rfl⟩ : ∃ g, f = g + 1 := ⟨f - 1, by omega⟩
    obtain ⟨f', rfl⟩ : ∃ g, f' = g + 1 + 1 := ⟨f' - 2, by omega⟩
    obtain rfl : k = 8 := by omega
    exact ⟨f, f', σ, τ, rfl, rfl, h⟩
  | succ m ih =>
    intro k f f' σ τ h hk hf hf'
    obtain ⟨f, rfl⟩ : ∃ g, f = g + 1 := ⟨f - 1, by omega⟩
    obtain ⟨f', rfl⟩ : ∃ g, f' = g + 1 := ⟨f' - 1, by omega⟩
    have p4 := g_p4 h
    obtain ⟨lo, -⟩ := g_rg h
    rw [k_Pr_push_53, k_GM_push_69, if_neg (show ¬ (8 : Int32) ≤ nI k from nI_ge (b := 8) (by omega) (by omega)), if_neg (show ¬ (9 : Int32) ≤ nI k from nI_ge (b := 9) (by omega) (by omega))]
    unfold k_Pr_push_89 k_GM_push_117 k_GM_push_123
    by_cases hb : v.toBitVec.getLsbD k = true
    · obtain ⟨q, hq, eq⟩ := hA k (by omega) hb
      have ih := ih (k + 1) f f' (zu σ 3 0 q (σ 12 p k)) (zu τ 2 0 q (σ 12 p k)) (g_ram h) (by omega) (by omega) (by omega)
      have n8 : ¬ nI k = (8 : Int32) := fun g => by have := (nI_eq (a := k) (b := 8) (by omega) (by omega)).mp g; omega
      rw [cnt_s1 (B := fun k => v.toBitVec.getLsbD k) hb, ← a4_1] at ih
      rw [eq] at ih ⊢
      rw [if_pos ((b_sr1 _ (by omega)).mpr hb), if_pos ((b_sr1 _ (by omega)).mpr (by rw [b_511 v (by omega)]; exact hb)), if_neg n8, ck_p (zi_n (show k < 8 by omega) (by omega)), ix8, ck_p (zi_n (show 8 * p + k < 32 by omega) (by omega)), nI_clamp (by omega), nI_clamp (by omega), lo k (by omega), me_set hq, gm_set hq, bn_s, bn_s, lt_e, lt_e, lt_e, lt_e, nI_1]
      exact ih
    · have ih := ih (k + 1) f f' σ τ h (by omega) (by omega) (by omega)
      rw [cnt_s0 (B := fun k => v.toBitVec.getLsbD k) hb] at ih
      rw [if_neg (fun g => hb ((b_sr1 _ (by omega)).mp g)), if_neg (fun g => hb (by rw [← b_511 v (by omega)]; exact (b_sr1 _ (by omega)).mp g)), lt_e, lt_e, nI_1]
      exact ih
theorem o_push {v : Int32} (h : G σ τ N u c fr to ba si ke en po r w b p) (hop : v >>> ((9 : Int32) &&& 31) = 90) : OkD (k_Pr_push σ p v) (bn (k_GM_push τ (nI p) (v &&& (511 : Int32))) fun s => k_GM_instruction_322 (nI p) s) N u c fr to ba si ke en po r w b p := by
  have p4 := g_p4 h
  have zp := g_zp h
  have cp := g_cp h
  obtain ⟨lo, e12, e13, e14, e15, hal⟩ := g_rg h
  obtain ⟨o1, o2, o3, o4⟩ := op_le h.1 h.2.1
  obtain ⟨hS, hD, hN⟩ := h.1.2.1 p h.2.1
  have s5 := hS.2.2.2.1
  have s8 := hN.2.2.1
  have hn9 := cnt_le (fun k => v.toBitVec.getLsbD k) 9
  have hX := al_sub' (k := cnt (fun k => v.toBitVec.getLsbD k) 9) hal (by omega)
  generalize hn : cnt (fun k => v.toBitVec.getLsbD k) 9 = n at *
  generalize hXe : σ 11 p 11 - nI (4 * n) = X at *
  have x0 : X + nI (4 * cnt (fun k => v.toBitVec.getLsbD k) 0) = X := Int32.add_zero X
  have eM : k_GM_push τ (nI p) (v &&& (511 : Int32)) = k_GM_push_20 (nI p) (v &&& (511 : Int32)) FU τ X (X + nI (4 * cnt (fun k => v.toBitVec.getLsbD k) 0)) (nI 0) := by
    unfold k_GM_push
    rw [ck_p zp, gm_named, bn_s]
    dsimp only
    rw [cp, e12, lt_e, hn, mul4, hXe, x0]
    rfl
  have eC : k_Pr_push σ p v = if nI n ≤ 0 then k_Pr_push_46 p v σ X else bn (k_BP_areOpen σ p X (nI n)) fun (s4, r5) => if r5 = 0 then some (s4, 4) else k_Pr_push_46 p v s4 X := by
    unfold k_Pr_push
    rw [if_pos hop, bc_ok, bn_s]
    dsimp only
    rw [lt_e, hn, mul4, hXe]
  -- both write, where all is open
  have good : (∀ k, k < 9 → v.toBitVec.getLsbD k = true → ∃ i, i < zop (si p) (gW (r p)) ∧ X + nI (4 * cnt (fun k => v.toBitVec.getLsbD k) k) = nI (4096 + 4 * (ba p + i))) → OkD (k_Pr_push_46 p v σ X) (bn (k_GM_push τ (nI p) (v &&& (511 : Int32))) fun s => k_GM_instruction_322 (nI p) s) N u c fr to ba si ke en po r w b p := fun hA => by
    have hA2 : ∀ k, k < 9 → v.toBitVec.getLsbD k = true → ∃ q, q < 128 ∧ X + nI (4 * cnt (fun k => v.toBitVec.getLsbD k) k) = nI (4096 + 4 * q) := fun k hk hb => by
      obtain ⟨i, hi, e⟩ := hA k hk hb
      exact ⟨ba p + i, by omega, e⟩
    have y := pu_yes (v := v) h.1 h.2.1 h.2.2.2.1 hX (fun k hk hb => Or.inl (hA k hk hb)) 9 0 FU (by omega) (by unfold FU; omega)
    obtain ⟨g, g', σ', τ', q1, q2, h'⟩ := pu_wr (v := v) (X := X) hA2 8 0 FU FU σ τ h (by omega) (by unfold FU; omega) (by unfold FU; omega)
    obtain ⟨-, f12, f13, -, -, -⟩ := g_rg h'
    rw [eM, y]
    unfold k_Pr_push_46
    rw [x0] at q1 q2
    rw [show k_Pr_push_53 p v FU σ X X 0 = k_Pr_push_53 p v FU σ X X (nI 0) from rfl, show k_GM_push_69 (nI p) (v &&& (511 : Int32)) FU τ X X 0 = k_GM_push_69 (nI p) (v &&& (511 : Int32)) FU τ X X (nI 0) from rfl, q1, q2, k_Pr_push_53, k_GM_push_69, if_pos (show (8 : Int32) ≤ nI 8 by decide), if_neg (show ¬ (9 : Int32) ≤ nI 8 by decide)]
    unfold k_Pr_push_116 k_GM_push_117 k_GM_push_123
    by_cases hb : v.toBitVec.getLsbD 8 = true
    · obtain ⟨q, hq, eq⟩ := hA2 8 (by omega) hb
      rw [if_neg (fun g => by rw [(b_256 v).mp g] at hb; exact absurd hb (by decide)), if_pos ((b_sr1 _ (by omega)).mpr (by rw [b_511 v (by omega)]; exact hb)), if_pos (by decide), eq, me_set hq, bn_s, lt_e, ck_p zp, cp, f13, gm_set hq, bn_s, lt_e, lt_e, nI_1, k_GM_push_69, if_pos (show (9 : Int32) ≤ nI (8 + 1) by decide), ck_p zp, cp, lt_e, bn_s]
      exact ok_0 (g_sp (g_ram h') hX)
    · have hbf : v.toBitVec.getLsbD 8 = false := by
        cases hh : v.toBitVec.getLsbD 8
        · rfl
        · exact absurd hh hb
      rw [if_pos ((b_256 v).mpr hbf), if_neg (fun g => hb (by rw [← b_511 v (by omega)]; exact (b_sr1 _ (by omega)).mp g)), lt_e, lt_e, nI_1, k_GM_push_69, if_pos (show (9 : Int32) ≤ nI (8 + 1) by decide), ck_p zp, cp, lt_e, bn_s]
      exact ok_0 (g_sp h' hX)
  rw [eC]
  by_cases hn0 : n = 0
  · rw [hn0, if_pos (show nI 0 ≤ 0 by decide)]
    refine good (fun k hk hb => ?_)
    have := cnt_lt (fun k => v.toBitVec.getLsbD k) hk hb
    omega
  · rw [if_neg (nI_nle (by omega) (by omega))]
    by_cases hx : ∃ i, i + n ≤ zop (si p) (gW (r p)) ∧ X = nI (4096 + 4 * (ba p + i))
    · obtain ⟨i, hi, eX⟩ := hx
      have ar : k_BP_areOpen σ p X (nI n) = some (σ, 1) := by rw [eX]; exact ar_yes s5 s8 (by omega) (by omega) (by omega) hi
      rw [ar, bn_s]
      dsimp only
      rw [if_neg (show ¬ (1 : Int32) = 0 by decide)]
      refine good (fun k hk hb => ?_)
      have := cnt_lt (fun k => v.toBitVec.getLsbD k) hk hb
      exact ⟨i + cnt (fun k => v.toBitVec.getLsbD k) k, by omega, by rw [eX, add4, Nat.add_assoc]⟩
    · have ar : k_BP_areOpen σ p X (nI n) = some (σ, 0) := ar_no s5 s8 (by omega) (by omega) (by omega) hX (fun i g1 g2 g3 => hx ⟨i, g1, g3⟩)
      rw [ar, bn_s]
      dsimp only
      rw [if_pos rfl, eM]
      have hbad : ∃ j, 0 ≤ j ∧ j < 9 ∧ v.toBitVec.getLsbD j = true ∧ ¬ Al (fr p) (to p) (ba p) (si p) (r p) (X + nI (4 * cnt (fun k => v.toBitVec.getLsbD k) j)) 1 := by
        refine Classical.byContradiction (fun hno => ?_)
        have all : ∀ j, j < 9 → v.toBitVec.getLsbD j = true → ∃ i, i < zop (si p) (gW (r p)) ∧ X + nI (4 * cnt (fun k => v.toBitVec.getLsbD k) j) = nI (4096 + 4 * (ba p + i)) := fun j hj hb => by
          refine Classical.byContradiction (fun hno2 => hno ⟨j, by omega, hj, hb, fun g => ?_⟩)
          rcases g with g | ⟨g, -⟩
          · exact hno2 g
          · omega
        obtain ⟨k0, a1, a2, a3⟩ := cnt_first (fun k => v.toBitVec.getLsbD k) 9 (by omega)
        obtain ⟨k1, b1, b2, b3⟩ := cnt_last (fun k => v.toBitVec.getLsbD k) 9 (by omega)
        obtain ⟨i0, c1, c2⟩ := all k0 a1 a2
        obtain ⟨i1, d1, d2⟩ := all k1 b1 b2
        rw [a3] at c2
        have c3 : X = nI (4096 + 4 * (ba p + i0)) := by rw [← c2]; exact (Int32.add_zero X).symm
        rw [c3, add4] at d2
        have := (nI_eq (by omega) (by omega)).mp d2
        exact hx ⟨i0, by omega, c3⟩
      rw [pu_no (v := v) h.1 h.2.1 h.2.2.2.1 hX 9 0 FU (by omega) (by unfold FU; omega) hbad, bn_s]
      exact ok_x h (by decide)
end PUSH
