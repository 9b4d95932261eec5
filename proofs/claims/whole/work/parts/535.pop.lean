/-! pop -/
section POP
variable {σ τ : zS} {N u p : Nat} {c fr to ba si ke en po : Nat → Nat} {r w b : Nat → Nat → Nat}
theorem po_C {v : Int32} {n : Nat} (h : RL σ τ N u c fr to ba si ke en po r w b) (hp : p < N) (hal : (σ 11 p 11).toInt % 4 = 0) (hn : n ≤ 9) : ∀ (m k f : Nat), k + m = n → m < f → ((∀ j, k ≤ j → j < n → Al (fr p) (to p) (ba p) (si p) (r p) (σ 11 p 11 + nI (4 * j)) 0) → ∃ g, k_Pr_pop_23 p v f σ (nI n) (nI k) = k_Pr_pop_23 p v (g + 1) σ (nI n) (nI n)) ∧ ((∃ j, k ≤ j ∧ j < n ∧ ¬ Al (fr p) (to p) (ba p) (si p) (r p) (σ 11 p 11 + nI (4 * j)) 0) → k_Pr_pop_23 p v f σ (nI n) (nI k) = some (σ, 4)) := by
  intro m
  induction m with
  | zero =>
    intro k f hk hf
    obtain ⟨f, rfl⟩ : ∃ g, f = g + 1 := ⟨f - 1, by omega⟩
    obtain rfl : k = n := by omega
    exact ⟨fun _ => ⟨f, rfl⟩, fun ⟨j, g1, g2, _⟩ => by omega⟩
  | succ m ih =>
    intro k f hk hf
    obtain ⟨f, rfl⟩ : ∃ g, f = g + 1 := ⟨f - 1, by omega⟩
    obtain ⟨i1, i2⟩ := ih (k + 1) f (by omega) (by omega)
    obtain ⟨l1, l2⟩ := ml_ok (σ 11 p 11 + nI (4 * k)) h hp (of_al (al_add hal (by omega)))
    have st : Al (fr p) (to p) (ba p) (si p) (r p) (σ 11 p 11 + nI (4 * k)) 0 → k_Pr_pop_23 p v (f + 1) σ (nI n) (nI k) = k_Pr_pop_23 p v f σ (nI n) (nI (k + 1)) := fun hA => by
      rw [k_Pr_pop_23, if_neg (nI_ge (by omega) (by omega)), mul4, l1 hA, bn_s]
      dsimp only
      rw [if_neg (show ¬ (1 : Int32) = 0 by decide), lt_e, nI_1]
    refine ⟨fun hA => ?_, fun ⟨j, g1, g2, g3⟩ => ?_⟩
    · rw [st (hA k (by omega) (by omega))]
      exact i1 (fun j g1 g2 => hA j (by omega) g2)
    · by_cases hA : Al (fr p) (to p) (ba p) (si p) (r p) (σ 11 p 11 + nI (4 * k)) 0
      · rw [st hA]
        have hjk : j ≠ k := fun g => by rw [g] at g3; exact g3 hA
        exact i2 ⟨j, by omega, g2, g3⟩
      · rw [k_Pr_pop_23, if_neg (nI_ge (by omega) (by omega)), mul4, l2 hA, bn_s]
        dsimp only
        rw [if_pos rfl]
theorem po_4 {v : Int32} {n : Nat} (h : RL σ τ N u c fr to ba si ke en po r w b) (hp : p < N) (hal : (τ 12 0 p).toInt % 4 = 0) (h37 : τ 0 0 37 = 4) (hn : n ≤ 9) : ∀ (m k f : Nat), k + m = n → m < f → k_GM_pop_8 (nI p) v f τ (nI n) (nI k) = some τ := by
  have h4 : N ≤ 4 := h.1.2.2.2.2.2.2.2.2.1
  have zp : zi (nI p) 4 = true := zi_n (by omega) (by omega)
  have cp : (nI p).toNatClampNeg = p := nI_clamp (by omega)
  intro m
  induction m with
  | zero =>
    intro k f hk hf
    obtain ⟨f, rfl⟩ : ∃ g, f = g + 1 := ⟨f - 1, by omega⟩
    rw [k_GM_pop_8, if_pos (nI_le (by omega) (by omega)), if_neg (show ¬ τ 0 0 37 ≤ 0 by rw [h37]; decide)]
  | succ m ih =>
    intro k f hk hf
    obtain ⟨f, rfl⟩ : ∃ g, f = g + 1 := ⟨f - 1, by omega⟩
    obtain ⟨m1, m2⟩ := may_ok (k := 0) (τ 12 0 p + nI (4 * k)) h hp (of_al (al_add hal (by omega))) (by omega) (Or.inr h37)
    have m3 : ∃ y, k_GM_may τ (nI p) (τ 12 0 p + nI (4 * k)) 0 = some (τ, y) := by
      by_cases hA : Al (fr p) (to p) (ba p) (si p) (r p) (τ 12 0 p + nI (4 * k)) 0
      · exact ⟨1, m1 hA⟩
      · exact ⟨0, by have := m2 hA; rw [zu_id h37] at this; exact this⟩
    obtain ⟨y, m3⟩ := m3
    rw [k_GM_pop_8, if_neg (nI_ge (by omega) (by omega)), ck_p zp, cp, mul4, m3, bn_s]
    dsimp only
    rw [lt_e, nI_1]
    exact ih (k + 1) f (by omega) (by omega)
theorem po_M {v : Int32} {n : Nat} (h : RL σ τ N u c fr to ba si ke en po r w b) (hp : p < N) (hal : (τ 12 0 p).toInt % 4 = 0) (h37 : τ 0 0 37 = 0) (hn : n ≤ 9) : ∀ (m k f : Nat), k + m = n → m < f → ((∀ j, k ≤ j → j < n → Al (fr p) (to p) (ba p) (si p) (r p) (τ 12 0 p + nI (4 * j)) 0) → ∃ g, k_GM_pop_8 (nI p) v f τ (nI n) (nI k) = k_GM_pop_8 (nI p) v (g + 1) τ (nI n) (nI n)) ∧ ((∃ j, k ≤ j ∧ j < n ∧ ¬ Al (fr p) (to p) (ba p) (si p) (r p) (τ 12 0 p + nI (4 * j)) 0) → k_GM_pop_8 (nI p) v f τ (nI n) (nI k) = some (zu τ 0 0 37 4)) := by
  have h4 : N ≤ 4 := h.1.2.2.2.2.2.2.2.2.1
  have zp : zi (nI p) 4 = true := zi_n (by omega) (by omega)
  have cp : (nI p).toNatClampNeg = p := nI_clamp (by omega)
  intro m
  induction m with
  | zero =>
    intro k f hk hf
    obtain ⟨f, rfl⟩ : ∃ g, f = g + 1 := ⟨f - 1, by omega⟩
    obtain rfl : k = n := by omega
    exact ⟨fun _ => ⟨f, rfl⟩, fun ⟨j, g1, g2, _⟩ => by omega⟩
  | succ m ih =>
    intro k f hk hf
    obtain ⟨f, rfl⟩ : ∃ g, f = g + 1 := ⟨f - 1, by omega⟩
    obtain ⟨i1, i2⟩ := ih (k + 1) f (by omega) (by omega)
    obtain ⟨m1, m2⟩ := may_ok (k := 0) (τ 12 0 p + nI (4 * k)) h hp (of_al (al_add hal (by omega))) (by omega) (Or.inl h37)
    rw [show (nI 0 : Int32) = 0 from rfl] at m1 m2
    have st : Al (fr p) (to p) (ba p) (si p) (r p) (τ 12 0 p + nI (4 * k)) 0 → k_GM_pop_8 (nI p) v (f + 1) τ (nI n) (nI k) = k_GM_pop_8 (nI p) v f τ (nI n) (nI (k + 1)) := fun hA => by
      rw [k_GM_pop_8, if_neg (nI_ge (by omega) (by omega)), ck_p zp, cp, mul4, m1 hA, bn_s]
      dsimp only
      rw [lt_e, nI_1]
    refine ⟨fun hA => ?_, fun ⟨j, g1, g2, g3⟩ => ?_⟩
    · rw [st (hA k (by omega) (by omega))]
      exact i1 (fun j g1 g2 => hA j (by omega) g2)
    · by_cases hA : Al (fr p) (to p) (ba p) (si p) (r p) (τ 12 0 p + nI (4 * k)) 0
      · rw [st hA]
        have hjk : j ≠ k := fun g => by rw [g] at g3; exact g3 hA
        exact i2 ⟨j, by omega, g2, g3⟩
      · rw [k_GM_pop_8, if_neg (nI_ge (by omega) (by omega)), ck_p zp, cp, mul4, m2 hA, bn_s]
        dsimp only
        rw [lt_e, nI_1]
        exact po_4 (rl_scr h (by omega)) hp (by rw [zu_rd, if_neg (by omega)]; exact hal) (by rw [zu_rd, if_pos (by omega)]) hn m (k + 1) f (by omega) (by omega)
/-- both load the registers -/
theorem po_rd {v S X l3 l4 : Int32} (hp : p < N) (hS : S.toInt % 4 = 0) (hA : ∀ k, k < 8 → v.toBitVec.getLsbD k = true → Al (fr p) (to p) (ba p) (si p) (r p) (S + nI (4 * cnt (fun k => v.toBitVec.getLsbD k) k)) 0) : ∀ (m k f f' : Nat) (σ τ : zS), RL σ τ N u c fr to ba si ke en po r w b → k + m = 8 → m < f → m < f' → ∃ (g g' : Nat) (σ' τ' : zS), k_Pr_pop_107 p v f σ X (S + nI (4 * cnt (fun k => v.toBitVec.getLsbD k) k)) (nI k) = k_Pr_pop_107 p v (g + 1) σ' X (S + nI (4 * cnt (fun k => v.toBitVec.getLsbD k) 8)) (nI 8) ∧ k_GM_pop_96 (nI p) (v &&& (511 : Int32)) f' τ l3 l4 (S + nI (4 * cnt (fun k => v.toBitVec.getLsbD k) k)) (nI k) = k_GM_pop_96 (nI p) (v &&& (511 : Int32)) (g' + 1) τ' l3 l4 (S + nI (4 * cnt (fun k => v.toBitVec.getLsbD k) 8)) (nI 8) ∧ RL σ' τ' N u c fr to ba si ke en po r w b ∧ (∀ a b i, a ≠ 12 → σ' a b i = σ a b i) ∧ (∀ a b i, a ≠ 11 → τ' a b i = τ a b i) := by
  intro m
  induction m with
  | zero =>
    intro k f f' σ τ h hk hf hf'
    obtain ⟨f, rfl⟩ : ∃ g, f = g + 1 := ⟨f - 1, by omega⟩
    obtain ⟨f', rfl⟩ : ∃ g, f' = g + 1 := ⟨f' - 1, by omega⟩
    obtain rfl : k = 8 := by omega
    exact ⟨f, f', σ, τ, rfl, rfl, h, fun _ _ _ _ => rfl, fun _ _ _ _ => rfl⟩
  | succ m ih =>
    intro k f f' σ τ h hk hf hf'
    obtain ⟨f, rfl⟩ : ∃ g, f = g + 1 := ⟨f - 1, by omega⟩
    obtain ⟨f', rfl⟩ : ∃ g, f' = g + 1 := ⟨f' - 1, by omega⟩
    have h4 : N ≤ 4 := h.1.2.2.2.2.2.2.2.2.1
    have hl := cnt_le (fun k => v.toBitVec.getLsbD k) k
    rw [k_Pr_pop_107, k_GM_pop_96, if_neg (show ¬ (8 : Int32) ≤ nI k from nI_ge (b := 8) (by omega) (by omega)), if_neg (show ¬ (8 : Int32) ≤ nI k from nI_ge (b := 8) (by omega) (by omega))]
    unfold k_Pr_pop_140 k_GM_pop_134
    by_cases hb : v.toBitVec.getLsbD k = true
    · obtain ⟨V, v1, v2, -⟩ := rd_ok (S + nI (4 * cnt (fun k => v.toBitVec.getLsbD k) k)) h hp (of_al (al_add hS (by omega))) (hA k (by omega) hb)
      obtain ⟨g, g', σ', τ', q1, q2, q3, q4, q5⟩ := ih (k + 1) f f' (zu σ 12 p k V) (zu τ 11 0 (8 * p + k) V) (rl_low h hp (by omega)) (by omega) (by omega) (by omega)
      rw [cnt_s1 (B := fun k => v.toBitVec.getLsbD k) hb, ← a4_1] at q1 q2
      refine ⟨g, g', σ', τ', ?_, ?_, q3, fun a b i ha => by rw [q4 a b i ha, zu_rd, if_neg (by omega)], fun a b i ha => by rw [q5 a b i ha, zu_rd, if_neg (by omega)]⟩
      · rw [if_pos ((b_sr1 _ (by omega)).mpr hb), v1, bn_s]
        dsimp only
        rw [ck_p (zi_n (show k < 8 by omega) (by omega)), lt_e, lt_e, lt_e, nI_clamp (by omega), nI_1]
        exact q1
      · rw [if_pos ((b_sr1 _ (by omega)).mpr (by rw [b_511 v (by omega)]; exact hb)), v2, bn_s]
        dsimp only
        rw [ix8, ck_p (zi_n (show 8 * p + k < 32 by omega) (by omega)), lt_e, lt_e, lt_e, nI_clamp (by omega), nI_1]
        exact q2
    · obtain ⟨g, g', σ', τ', q1, q2, q3, q4, q5⟩ := ih (k + 1) f f' σ τ h (by omega) (by omega) (by omega)
      rw [cnt_s0 (B := fun k => v.toBitVec.getLsbD k) hb] at q1 q2
      refine ⟨g, g', σ', τ', ?_, ?_, q3, q4, q5⟩
      · rw [if_neg (fun g => hb ((b_sr1 _ (by omega)).mp g)), lt_e, nI_1]
        exact q1
      · rw [if_neg (fun g => hb (by rw [← b_511 v (by omega)]; exact (b_sr1 _ (by omega)).mp g)), lt_e, nI_1]
        exact q2
theorem o_pop {v : Int32} (h : G σ τ N u c fr to ba si ke en po r w b p) (hop : v >>> ((9 : Int32) &&& 31) = 94) : OkD (k_Pr_pop σ p v) (bn (k_GM_pop τ (nI p) (v &&& (511 : Int32))) fun s => k_GM_instruction_322 (nI p) s) N u c fr to ba si ke en po r w b p := by
  have p4 := g_p4 h
  have zp := g_zp h
  have cp := g_cp h
  obtain ⟨lo, e12, e13, e14, e15, hal⟩ := g_rg h
  have hn9 := cnt_le (fun k => v.toBitVec.getLsbD k) 9
  have hal' : (τ 12 0 p).toInt % 4 = 0 := by rw [e12]; exact hal
  generalize hn : cnt (fun k => v.toBitVec.getLsbD k) 9 = n at *
  have eC : k_Pr_pop σ p v = k_Pr_pop_23 p v FU σ (nI n) (nI 0) := by
    unfold k_Pr_pop
    rw [if_pos hop, bc_ok, bn_s]
    dsimp only
    rw [hn]
    rfl
  have eM : k_GM_pop τ (nI p) (v &&& (511 : Int32)) = k_GM_pop_8 (nI p) (v &&& (511 : Int32)) FU τ (nI n) (nI 0) := by
    unfold k_GM_pop
    rw [gm_named, bn_s]
    dsimp only
    rw [hn]
    rfl
  obtain ⟨c1, c2⟩ := po_C (v := v) h.1 h.2.1 hal hn9 n 0 FU (by omega) (by unfold FU; omega)
  obtain ⟨m1, m2⟩ := po_M (v := v &&& (511 : Int32)) h.1 h.2.1 hal' h.2.2.2.1 hn9 n 0 FU (by omega) (by unfold FU; omega)
  rw [e12] at m1 m2
  rw [eC, eM]
  by_cases hall : ∀ j, 0 ≤ j → j < n → Al (fr p) (to p) (ba p) (si p) (r p) (σ 11 p 11 + nI (4 * j)) 0
  · obtain ⟨g1, q1⟩ := c1 hall
    obtain ⟨g2, q2⟩ := m1 hall
    rw [q1, q2, k_Pr_pop_23, k_GM_pop_8, if_pos (nI_le (Nat.le_refl n) (by omega)), if_pos (nI_le (Nat.le_refl n) (by omega)), if_pos (show τ 0 0 37 ≤ 0 by rw [h.2.2.2.1]; decide), ck_p zp, cp, e12, mul4, lt_e, lt_e]
    have hS : σ 11 p 11 + nI (4 * cnt (fun k => v.toBitVec.getLsbD k) 0) = σ 11 p 11 := Int32.add_zero _
    have hA8 : ∀ k, k < 8 → v.toBitVec.getLsbD k = true → Al (fr p) (to p) (ba p) (si p) (r p) (σ 11 p 11 + nI (4 * cnt (fun k => v.toBitVec.getLsbD k) k)) 0 := fun k hk hb => by
      have := cnt_lt (fun k => v.toBitVec.getLsbD k) (show k < 9 by omega) hb
      exact hall _ (by omega) (by omega)
    have hX : (σ 11 p 11 + nI (4 * n)).toInt % 4 = 0 := al_add hal (by omega)
    by_cases hb : v.toBitVec.getLsbD 8 = true
    · have n1 : ¬ v &&& (256 : Int32) = 0 := fun g => by rw [(b_256 v).mp g] at hb; exact absurd hb (by decide)
      have n2 : ¬ (v &&& (511 : Int32)) &&& (256 : Int32) = 0 := fun g => by rw [(b_256' v).mp g] at hb; exact absurd hb (by decide)
      have h89 := cnt_lt (fun k => v.toBitVec.getLsbD k) (show 8 < 9 by omega) hb
      have ex : σ 11 p 11 + nI (4 * n) - (4 : Int32) = σ 11 p 11 + nI (4 * (n - 1)) := by
        obtain ⟨n', rfl⟩ : ∃ n', n = n' + 1 := ⟨n - 1, by omega⟩
        rw [← a4_1, Int32.add_sub_cancel]
        rfl
      obtain ⟨V, v1, v2, v3⟩ := rd_ok (σ 11 p 11 + nI (4 * (n - 1))) h.1 h.2.1 (of_al (al_add hal (by omega))) (hall (n - 1) (by omega) (by omega))
      rw [if_neg n1, if_neg n2, ex, v1, v2, bn_s, bn_s]
      dsimp only
      by_cases hV : V &&& (1 : Int32) = 0
      · rw [if_pos hV, if_pos hV, lt_e, bn_s]
        exact ok_x h (by decide)
      · rw [if_neg hV, if_neg hV, lt_e]
        unfold k_Pr_pop_98 k_GM_pop_85
        have r11 : zu σ 10 0 1 (V - (1 : Int32)) 11 p 11 = σ 11 p 11 := by rw [zu_rd, if_neg (by omega)]
        rw [lt_e, ck_p zp, cp, e12, lt_e, r11]
        obtain ⟨a, a', σ', τ', b1, b2, b3, b4, b5⟩ := po_rd (v := v) (S := σ 11 p 11) (X := σ 11 p 11 + nI (4 * n)) (l3 := nI n) (l4 := σ 11 p 11 + nI (4 * (n - 1))) h.2.1 hal hA8 8 0 FU FU (zu σ 10 0 1 (V - (1 : Int32))) τ (rl_next h.1) (by omega) (by unfold FU; omega) (by unfold FU; omega)
        rw [hS] at b1 b2
        rw [show k_Pr_pop_107 p v FU (zu σ 10 0 1 (V - (1 : Int32))) (σ 11 p 11 + nI (4 * n)) (σ 11 p 11) 0 = k_Pr_pop_107 p v FU (zu σ 10 0 1 (V - (1 : Int32))) (σ 11 p 11 + nI (4 * n)) (σ 11 p 11) (nI 0) from rfl, show k_GM_pop_96 (nI p) (v &&& (511 : Int32)) FU τ (nI n) (σ 11 p 11 + nI (4 * (n - 1))) (σ 11 p 11) 0 = k_GM_pop_96 (nI p) (v &&& (511 : Int32)) FU τ (nI n) (σ 11 p 11 + nI (4 * (n - 1))) (σ 11 p 11) (nI 0) from rfl, b1, b2, k_Pr_pop_107, k_GM_pop_96, if_pos (show (8 : Int32) ≤ nI 8 by decide), if_pos (show (8 : Int32) ≤ nI 8 by decide), if_neg n2, v3 τ' (funext fun i => b5 1 0 i (by omega)) (funext fun i => b5 2 0 i (by omega)), bn_s, lt_e]
        dsimp only
        unfold k_GM_pop_164
        have t12 : ∀ x : Int32, zu τ' 0 0 39 x 12 0 p = σ 11 p 11 := fun x => by rw [zu_rd, if_neg (by omega), b5 12 0 p (by omega)]; exact e12
        rw [lt_e, ck_p zp, ck_p zp, cp, t12, mul4, lt_e, bn_s]
        have s15 : σ' 11 p 15 = 0 := by rw [b4 11 p 15 (by omega), zu_rd, if_neg (by omega)]; exact h.2.2.1
        refine ⟨_, _, 0, rfl, rfl, rl_sp (rl_scr b3 (by omega)) h.2.1 s15 hX, ?_, ?_, fun _ => ?_, Or.inl rfl⟩
        · rw [zu_rd, if_neg (by omega)]; exact s15
        · rw [zu_rd, if_neg (by omega), zu_rd, if_neg (by omega), b5 0 0 37 (by omega)]; exact h.2.2.2.1
        · rw [zu_rd, if_neg (by omega), b4 10 0 1 (by omega), zu_rd, if_pos (by omega), zu_rd, if_neg (by omega), zu_rd, if_pos (by omega)]
    · have hbf : v.toBitVec.getLsbD 8 = false := by
        cases hh : v.toBitVec.getLsbD 8
        · rfl
        · exact absurd hh hb
      rw [if_pos ((b_256 v).mpr hbf), if_pos ((b_256' v).mpr hbf)]
      unfold k_Pr_pop_98 k_GM_pop_85
      rw [lt_e, ck_p zp, cp, e12, lt_e]
      obtain ⟨a, a', σ', τ', b1, b2, b3, b4, b5⟩ := po_rd (v := v) (S := σ 11 p 11) (X := σ 11 p 11 + nI (4 * n)) (l3 := nI n) (l4 := σ 11 p 11 + nI (4 * n) - (4 : Int32)) h.2.1 hal hA8 8 0 FU FU σ τ h.1 (by omega) (by unfold FU; omega) (by unfold FU; omega)
      rw [hS] at b1 b2
      rw [show k_Pr_pop_107 p v FU σ (σ 11 p 11 + nI (4 * n)) (σ 11 p 11) 0 = k_Pr_pop_107 p v FU σ (σ 11 p 11 + nI (4 * n)) (σ 11 p 11) (nI 0) from rfl, show k_GM_pop_96 (nI p) (v &&& (511 : Int32)) FU τ (nI n) (σ 11 p 11 + nI (4 * n) - (4 : Int32)) (σ 11 p 11) 0 = k_GM_pop_96 (nI p) (v &&& (511 : Int32)) FU τ (nI n) (σ 11 p 11 + nI (4 * n) - (4 : Int32)) (σ 11 p 11) (nI 0) from rfl, b1, b2, k_Pr_pop_107, k_GM_pop_96, if_pos (show (8 : Int32) ≤ nI 8 by decide), if_pos (show (8 : Int32) ≤ nI 8 by decide), if_pos ((b_256' v).mpr hbf), lt_e]
      unfold k_GM_pop_164
      have t12 : τ' 12 0 p = σ 11 p 11 := by rw [b5 12 0 p (by omega)]; exact e12
      rw [lt_e, zu_id rfl, ck_p zp, ck_p zp, cp, t12, mul4, lt_e, bn_s]
      have s15 : σ' 11 p 15 = 0 := by rw [b4 11 p 15 (by omega)]; exact h.2.2.1
      refine ⟨_, _, 0, rfl, rfl, rl_sp b3 h.2.1 s15 hX, ?_, ?_, fun _ => ?_, Or.inl rfl⟩
      · rw [zu_rd, if_neg (by omega)]; exact s15
      · rw [zu_rd, if_neg (by omega), b5 0 0 37 (by omega)]; exact h.2.2.2.1
      · rw [zu_rd, if_neg (by omega), b4 10 0 1 (by omega), zu_rd, if_neg (by omega), b5 0 0 39 (by omega)]; exact h.2.2.2.2
  · have hno : ∃ j, 0 ≤ j ∧ j < n ∧ ¬ Al (fr p) (to p) (ba p) (si p) (r p) (σ 11 p 11 + nI (4 * j)) 0 := by
      refine Classical.byContradiction (fun g => hall (fun j g1 g2 => Classical.byContradiction (fun g3 => g ⟨j, g1, g2, g3⟩)))
    rw [c2 hno, m2 hno, bn_s]
    exact ok_x h (by decide)
end POP
