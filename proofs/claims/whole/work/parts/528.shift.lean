/-! shifting: the reference's loop, the class's longs -/
theorem sh_loop {p n : Nat} {v0 kd v : Int32} (hn : n ≤ 255) : ∀ (m k f : Nat) (s : zS), k + m = n → m < f → ∃ g, k_GM_shifted_20 (nI p) v0 (nI n) kd f s (itv kd v k) (nI k) = k_GM_shifted_20 (nI p) v0 (nI n) kd (g + 1) (if m = 0 then s else zu s 0 0 38 (cry kd (itv kd v (n - 1)))) (itv kd v n) (nI n) := by
  intro m
  induction m with
  | zero =>
    intro k f s hk hf
    obtain ⟨f, rfl⟩ : ∃ f', f = f' + 1 := ⟨f - 1, by omega⟩
    obtain rfl : k = n := by omega
    exact ⟨f, by rw [if_pos rfl]⟩
  | succ m ih =>
    intro k f s hk hf
    obtain ⟨f, rfl⟩ : ∃ f', f = f' + 1 := ⟨f - 1, by omega⟩
    have body : ∀ x : Int32, k_GM_shifted_20 (nI p) v0 (nI n) kd (f + 1) s x (nI k) = k_GM_shifted_20 (nI p) v0 (nI n) kd f (zu s 0 0 38 (cry kd x)) (stp kd x) (nI (k + 1)) := fun x => by
      rw [k_GM_shifted_20, if_neg (nI_ge (by omega) (by omega))]
      unfold k_GM_shifted_44 k_GM_shifted_95 cry stp
      by_cases h0 : kd = 0
      · simp only [if_pos h0, lt_e, nI_1]
      · by_cases h1 : kd = 1
        · simp only [if_neg h0, if_pos h1, lt_e, nI_1]
        · by_cases h2 : kd = 2
          · simp only [if_neg h0, if_neg h1, if_pos h2, lt_e, nI_1]
          · simp only [if_neg h0, if_neg h1, if_neg h2, lt_e, nI_1]
    obtain ⟨g, e⟩ := ih (k + 1) f (zu s 0 0 38 (cry kd (itv kd v k))) (by omega) (by omega)
    refine ⟨g, ?_⟩
    have e2 : stp kd (itv kd v k) = itv kd v (k + 1) := rfl
    rw [body, e2, e, if_neg (show ¬ m + 1 = 0 by omega)]
    by_cases hm : m = 0
    · rw [if_pos hm, show n - 1 = k by omega]
    · rw [if_neg hm, zu_2]
/-- the carry behind k steps -/
def cyN (kd v : Int32) (g k : Nat) : Nat := if k = 0 then g / 2 % 2 else if (itv kd v (k - 1)).toBitVec.getLsbD (if kd = 0 then 31 else 0) = true then 1 else 0
theorem cyN_lt (kd v : Int32) (g k : Nat) : cyN kd v g k < 2 := by
  unfold cyN
  split
  · omega
  · generalize (itv kd v (k - 1)).toBitVec.getLsbD (if kd = 0 then 31 else 0) = B
    cases B <;> decide
theorem gm_shifted {τ : zS} {p g k : Nat} {kd v : Int32} (hp : p < 4) (hg : g < 16) (hfl : τ 15 0 p = nI g) (hk : k ≤ 255) : k_GM_shifted τ (nI p) v (nI k) kd = some (zu (zu τ 0 0 38 (nI (cyN kd v g k))) 15 0 p (nI (g % 2 + 2 * cyN kd v g k + 8 * bN (itv kd v k) + 4 * bZ (itv kd v k))), itv kd v k) := by
  have zp : zi (nI p) 4 = true := zi_n hp (by omega)
  have cp : (nI p).toNatClampNeg = p := nI_clamp (by omega)
  obtain ⟨g', e⟩ := sh_loop (p := p) (v0 := v) (kd := kd) (v := v) hk k 0 FU (zu τ 0 0 38 (nI (g / 2 % 2))) (by omega) (by unfold FU; omega)
  have e' : k_GM_shifted_20 (nI p) v (nI k) kd FU (zu τ 0 0 38 (nI (g / 2 % 2))) v 0 = _ := e
  have hS : (if k = 0 then zu τ 0 0 38 (nI (g / 2 % 2)) else zu (zu τ 0 0 38 (nI (g / 2 % 2))) 0 0 38 (cry kd (itv kd v (k - 1)))) = zu τ 0 0 38 (nI (cyN kd v g k)) := by
    unfold cyN
    by_cases h0 : k = 0
    · rw [if_pos h0, if_pos h0]
    · rw [if_neg h0, if_neg h0, zu_2, cr_b]
      generalize (itv kd v (k - 1)).toBitVec.getLsbD (if kd = 0 then 31 else 0) = B
      cases B <;> rfl
  unfold k_GM_shifted
  rw [ck_p zp, cp, hfl, lt_e, (fl_c g hg).2.2, e', hS, k_GM_shifted_20, if_pos (nI_le (Nat.le_refl k) (by omega)), gm_nz hp, bn_s]
  have r15 : zu τ 0 0 38 (nI (cyN kd v g k)) 15 0 p = nI g := by rw [zu_rd, if_neg (by omega)]; exact hfl
  rw [r15, (fl_a g hg _ (bN_lt _) _ (bZ_lt _)).2]
  have r38 : ∀ x : Int32, zu (zu τ 0 0 38 (nI (cyN kd v g k))) 15 0 p x 0 0 38 = nI (cyN kd v g k) := fun x => by rw [zu_rd, if_neg (by omega), zu_rd, if_pos (by omega)]
  have r15' : ∀ x : Int32, zu (zu τ 0 0 38 (nI (cyN kd v g k))) 15 0 p x 15 0 p = x := fun x => by rw [zu_rd, if_pos (by omega)]
  unfold k_GM_setCarry
  rw [r38]
  simp only [ck_p zp, cp, lt_e, bn_s]
  rw [r15', fl_b g hg _ (bN_lt _) _ (bZ_lt _) _ (cyN_lt _ _ _ _), zu_2]
/-- the class: carry and signs -/
theorem pr_fin {σ : zS} {p g e : Nat} (a2 a3 a4 x : Int32) (hg : g < 16) (hfl : σ 11 p 14 = nI g) (he : e < 2) : k_Pr_shift_106 p a2 a3 a4 σ x (nI e) p = some (zu σ 11 p 14 (nI (g % 2 + 2 * e + 8 * bN x + 4 * bZ x)), x) := by
  have r : ∀ y : Int32, zu σ 11 p 14 y 11 p 14 = y := fun y => by rw [zu_rd, if_pos (by omega)]
  unfold k_Pr_shift_106 k_Pr_setCarry k_Pr_setCarry_21 k_Pr_shift_109
  rw [hfl]
  obtain ⟨c1, c2, -⟩ := fl_c g hg
  obtain rfl | rfl : e = 0 ∨ e = 1 := by omega
  · rw [if_pos (by decide), lt_e, bn_s, pr_signs, r, c2, bn_s, zu_2, (fl_a (g / 4 * 4 + g % 2) (by omega) _ (bN_lt _) _ (bZ_lt _)).1, show (g / 4 * 4 + g % 2) % 4 = g % 2 + 2 * 0 by omega]
  · rw [if_neg (by decide), lt_e, bn_s, pr_signs, r, c1, bn_s, zu_2, (fl_a (g / 4 * 4 + 2 + g % 2) (by omega) _ (bN_lt _) _ (bZ_lt _)).1, show (g / 4 * 4 + 2 + g % 2) % 4 = g % 2 + 2 * 1 by omega]
theorem pr_96 {σ : zS} {p g e : Nat} (a2 a3 a4 x : Int32) (t : Int64) (hg : g < 16) (hfl : σ 11 p 14 = nI g) (he : e < 2) (ht : t = 1 ↔ e = 1) : k_Pr_shift_96 p a2 a3 a4 σ x t p = some (zu σ 11 p 14 (nI (g % 2 + 2 * e + 8 * bN x + 4 * bZ x)), x) := by
  unfold k_Pr_shift_96
  by_cases h : t = 1
  · obtain rfl := ht.mp h
    rw [if_pos ((cmp_eq _ _).mpr h), show (1 : Int32) = nI 1 by decide]
    exact pr_fin a2 a3 a4 x hg hfl he
  · have h0 : e = 0 := by
      have : ¬ e = 1 := fun g => h (ht.mpr g)
      omega
    subst h0
    rw [if_neg (fun g => h ((cmp_eq _ _).mp g)), show (0 : Int32) = nI 0 by decide]
    exact pr_fin a2 a3 a4 x hg hfl he
theorem l_shl1 (L : Int64) (i : Nat) : (L <<< ((1 : Int32).toInt64 &&& 63)).toBitVec.getLsbD i = (decide (i < 64) && !decide (i < 1) && L.toBitVec.getLsbD (i - 1)) := by
  rw [show (1 : Int32) = nI 1 by decide]
  exact l_shl L i (by omega)
theorem l_shr1 (L : Int64) (i : Nat) : (L >>> ((1 : Int32).toInt64 &&& 63)).toBitVec.getLsbD i = (!decide (64 ≤ i) && if 1 + i < 64 then L.toBitVec.getLsbD (1 + i) else L.toBitVec.getLsbD 63) := by
  rw [show (1 : Int32) = nI 1 by decide]
  exact l_shr L i (by omega)
theorem l_shr32 (L : Int64) (i : Nat) : (L >>> ((32 : Int32).toInt64 &&& 63)).toBitVec.getLsbD i = (!decide (64 ≤ i) && if 32 + i < 64 then L.toBitVec.getLsbD (32 + i) else L.toBitVec.getLsbD 63) := by
  rw [show (32 : Int32) = nI 32 by decide]
  exact l_shr L i (by omega)
theorem zmin33 {k : Nat} (hk : k ≤ 255) : zmin (nI k) (33 : Int32) = nI (min k 33) := by
  unfold zmin
  rw [show (33 : Int32) = nI 33 by decide]
  by_cases h : 33 < k
  · rw [if_pos (nI_lt h (by omega)), show min k 33 = 33 by omega]
  · rw [if_neg (nI_nlt (by omega) (by omega)), show min k 33 = k by omega]
theorem pr_sh0 {σ : zS} {p g k : Nat} {v : Int32} (hg : g < 16) (hfl : σ 11 p 14 = nI g) (h1 : 1 ≤ k) (hk : k ≤ 255) : k_Pr_shift σ p 0 v (nI k) = some (zu σ 11 p 14 (nI (g % 2 + 2 * cyN 0 v g k + 8 * bN (itv 0 v k) + 4 * bZ (itv 0 v k))), itv 0 v k) := by
  have B : ∀ j, j < 64 → ((v.toInt64 &&& (4294967295 : Int64)) <<< ((nI (min k 33)).toInt64 &&& 63)).toBitVec.getLsbD j = (!decide (j < min k 33) && v.toBitVec.getLsbD (j - min k 33)) := fun j hj => by
    rw [l_shl _ _ (by omega), l_zx, decide_eq_true hj]
    rfl
  have eC : k_Pr_shift σ p 0 v (nI k) = k_Pr_shift_96 p 0 v (nI k) σ (((v.toInt64 &&& (4294967295 : Int64)) <<< ((nI (min k 33)).toInt64 &&& 63)).toInt32) (((((v.toInt64 &&& (4294967295 : Int64)) <<< ((nI (min k 33)).toInt64 &&& 63)) >>> ((32 : Int32).toInt64 &&& 63)) &&& (1 : Int64))) p := by
    unfold k_Pr_shift k_Pr_shift_26 k_Pr_shift_37 k_Pr_shift_58 k_Pr_shift_73
    rw [if_neg (nI_nle (by omega) (by omega)), lt_e, zmin33 hk]
    rfl
  have hx : ((v.toInt64 &&& (4294967295 : Int64)) <<< ((nI (min k 33)).toInt64 &&& 63)).toInt32 = itv 0 v k := i_ext (fun i hi => by
    rw [l_int _ hi, B i (by omega), it0 v k i hi]
    by_cases h : k ≤ i
    · rw [decide_eq_true h, decide_eq_false (show ¬ i < min k 33 by omega), show min k 33 = k by omega]
      rfl
    · rw [decide_eq_false h, decide_eq_true (show i < min k 33 by omega)]
      rfl)
  rw [eC, hx]
  refine pr_96 0 v (nI k) _ _ hg hfl (cyN_lt _ _ _ _) ?_
  rw [l_and1, l_shr32, if_pos (by omega), B 32 (by omega)]
  unfold cyN
  rw [if_neg (by omega), if_pos rfl, it0 v (k - 1) 31 (by omega)]
  by_cases h : k ≤ 32
  · rw [decide_eq_false (show ¬ 64 ≤ 0 by omega), decide_eq_false (show ¬ 32 < min k 33 by omega), decide_eq_true (show k - 1 ≤ 31 by omega), show 32 - min k 33 = 31 - (k - 1) by omega]
    cases v.toBitVec.getLsbD (31 - (k - 1)) <;> simp
  · rw [decide_eq_false (show ¬ 64 ≤ 0 by omega), decide_eq_true (show 32 < min k 33 by omega), decide_eq_false (show ¬ k - 1 ≤ 31 by omega)]
    simp
theorem pr_sh1 {σ : zS} {p g k : Nat} {v : Int32} (hg : g < 16) (hfl : σ 11 p 14 = nI g) (h1 : 1 ≤ k) (hk : k ≤ 255) : k_Pr_shift σ p 1 v (nI k) = some (zu σ 11 p 14 (nI (g % 2 + 2 * cyN 1 v g k + 8 * bN (itv 1 v k) + 4 * bZ (itv 1 v k))), itv 1 v k) := by
  have A : ∀ j, 1 ≤ j → j < 64 → ((v.toInt64 &&& (4294967295 : Int64)) <<< ((1 : Int32).toInt64 &&& 63)).toBitVec.getLsbD j = v.toBitVec.getLsbD (j - 1) := fun j g1 g2 => by
    rw [l_shl1, l_zx, decide_eq_true g2, decide_eq_false (show ¬ j < 1 by omega)]
    rfl
  have B : ∀ j, j < 40 → (((v.toInt64 &&& (4294967295 : Int64)) <<< ((1 : Int32).toInt64 &&& 63)) >>> ((nI (min k 33)).toInt64 &&& 63)).toBitVec.getLsbD j = if min k 33 + j < 64 then v.toBitVec.getLsbD (min k 33 + j - 1) else v.toBitVec.getLsbD 62 := fun j hj => by
    rw [l_shr _ _ (by omega), decide_eq_false (show ¬ 64 ≤ j by omega)]
    by_cases h : min k 33 + j < 64
    · rw [if_pos h, if_pos h, A _ (by omega) h]; rfl
    · rw [if_neg h, if_neg h, A 63 (by omega) (by omega)]; rfl
  have eC : k_Pr_shift σ p 1 v (nI k) = k_Pr_shift_96 p 1 v (nI k) σ (((((v.toInt64 &&& (4294967295 : Int64)) <<< ((1 : Int32).toInt64 &&& 63)) >>> ((nI (min k 33)).toInt64 &&& 63)) >>> ((1 : Int32).toInt64 &&& 63)).toInt32) ((((v.toInt64 &&& (4294967295 : Int64)) <<< ((1 : Int32).toInt64 &&& 63)) >>> ((nI (min k 33)).toInt64 &&& 63)) &&& (1 : Int64)) p := by
    unfold k_Pr_shift k_Pr_shift_26 k_Pr_shift_37 k_Pr_shift_58 k_Pr_shift_73
    rw [if_neg (nI_nle (by omega) (by omega)), lt_e, zmin33 hk, if_neg (by decide), if_pos rfl, if_neg (by decide), if_neg (by decide), lt_e, if_neg (by decide)]
  have hx : ((((v.toInt64 &&& (4294967295 : Int64)) <<< ((1 : Int32).toInt64 &&& 63)) >>> ((nI (min k 33)).toInt64 &&& 63)) >>> ((1 : Int32).toInt64 &&& 63)).toInt32 = itv 1 v k := i_ext (fun i hi => by
    rw [l_int _ hi, l_shr1, decide_eq_false (show ¬ 64 ≤ i by omega), if_pos (by omega), B (1 + i) (by omega), it1]
    by_cases h : i + k < 32
    · rw [if_pos (by omega), show min k 33 + (1 + i) - 1 = i + k by omega]
      rfl
    · rw [BitVec.getLsbD_of_ge v.toBitVec (i + k) (by omega)]
      split
      · rw [BitVec.getLsbD_of_ge v.toBitVec _ (by omega)]; rfl
      · rw [BitVec.getLsbD_of_ge v.toBitVec _ (by omega)]; rfl)
  rw [eC, hx]
  refine pr_96 1 v (nI k) _ _ hg hfl (cyN_lt _ _ _ _) ?_
  rw [l_and1, B 0 (by omega), if_pos (by omega)]
  unfold cyN
  rw [if_neg (show ¬ k = 0 by omega), if_neg (show ¬ (1 : Int32) = 0 by decide), it1]
  by_cases h : k ≤ 33
  · rw [show min k 33 + 0 - 1 = 0 + (k - 1) by omega]
    cases v.toBitVec.getLsbD (0 + (k - 1)) <;> simp
  · rw [BitVec.getLsbD_of_ge v.toBitVec (min k 33 + 0 - 1) (by omega), BitVec.getLsbD_of_ge v.toBitVec (0 + (k - 1)) (by omega)]
    simp
theorem pr_sh2 {σ : zS} {p g k : Nat} {v : Int32} (hg : g < 16) (hfl : σ 11 p 14 = nI g) (h1 : 1 ≤ k) (hk : k ≤ 255) : k_Pr_shift σ p 2 v (nI k) = some (zu σ 11 p 14 (nI (g % 2 + 2 * cyN 2 v g k + 8 * bN (itv 2 v k) + 4 * bZ (itv 2 v k))), itv 2 v k) := by
  have A : ∀ j, 1 ≤ j → j < 64 → (v.toInt64 <<< ((1 : Int32).toInt64 &&& 63)).toBitVec.getLsbD j = if j - 1 < 32 then v.toBitVec.getLsbD (j - 1) else v.toBitVec.getLsbD 31 := fun j g1 g2 => by
    rw [l_shl1, l_sx, decide_eq_true g2, decide_eq_false (show ¬ j < 1 by omega), decide_eq_true (show j - 1 < 64 by omega)]
    rfl
  have B : ∀ j, j < 40 → ((v.toInt64 <<< ((1 : Int32).toInt64 &&& 63)) >>> ((nI (min k 33)).toInt64 &&& 63)).toBitVec.getLsbD j = if min k 33 + j - 1 < 32 then v.toBitVec.getLsbD (min k 33 + j - 1) else v.toBitVec.getLsbD 31 := fun j hj => by
    rw [l_shr _ _ (by omega), decide_eq_false (show ¬ 64 ≤ j by omega)]
    by_cases h : min k 33 + j < 64
    · rw [if_pos h, A _ (by omega) h]; rfl
    · rw [if_neg h, A 63 (by omega) (by omega), if_neg (by omega), if_neg (by omega)]; rfl
  have eC : k_Pr_shift σ p 2 v (nI k) = k_Pr_shift_96 p 2 v (nI k) σ ((((v.toInt64 <<< ((1 : Int32).toInt64 &&& 63)) >>> ((nI (min k 33)).toInt64 &&& 63)) >>> ((1 : Int32).toInt64 &&& 63)).toInt32) (((v.toInt64 <<< ((1 : Int32).toInt64 &&& 63)) >>> ((nI (min k 33)).toInt64 &&& 63)) &&& (1 : Int64)) p := by
    unfold k_Pr_shift k_Pr_shift_37 k_Pr_shift_58 k_Pr_shift_73
    rw [if_neg (nI_nle (by omega) (by omega)), lt_e, zmin33 hk, if_neg (by decide), if_neg (by decide), if_neg (by decide), if_neg (by decide), lt_e, if_neg (by decide)]
  have hx : (((v.toInt64 <<< ((1 : Int32).toInt64 &&& 63)) >>> ((nI (min k 33)).toInt64 &&& 63)) >>> ((1 : Int32).toInt64 &&& 63)).toInt32 = itv 2 v k := i_ext (fun i hi => by
    rw [l_int _ hi, l_shr1, decide_eq_false (show ¬ 64 ≤ i by omega), if_pos (by omega), B (1 + i) (by omega), it2 v k i hi]
    by_cases h : i + k < 32
    · rw [if_pos (by omega), if_pos h, show min k 33 + (1 + i) - 1 = i + k by omega]
      rfl
    · rw [if_neg (by omega), if_neg h]
      rfl)
  rw [eC, hx]
  refine pr_96 2 v (nI k) _ _ hg hfl (cyN_lt _ _ _ _) ?_
  rw [l_and1, B 0 (by omega)]
  unfold cyN
  rw [if_neg (show ¬ k = 0 by omega), if_neg (show ¬ (2 : Int32) = 0 by decide), it2 v (k - 1) 0 (by omega)]
  by_cases h : k ≤ 32
  · rw [if_pos (show min k 33 + 0 - 1 < 32 by omega), if_pos (show 0 + (k - 1) < 32 by omega), show min k 33 + 0 - 1 = 0 + (k - 1) by omega]
    cases v.toBitVec.getLsbD (0 + (k - 1)) <;> simp
  · rw [if_neg (show ¬ min k 33 + 0 - 1 < 32 by omega), if_neg (show ¬ 0 + (k - 1) < 32 by omega)]
    cases v.toBitVec.getLsbD 31 <;> simp
theorem pr_shk {σ : zS} {p g k : Nat} {kd v : Int32} (hg : g < 16) (hfl : σ 11 p 14 = nI g) (hkd : kd = 0 ∨ kd = 1 ∨ kd = 2) (hk : k ≤ 255) : k_Pr_shift σ p kd v (nI k) = some (zu σ 11 p 14 (nI (g % 2 + 2 * cyN kd v g k + 8 * bN (itv kd v k) + 4 * bZ (itv kd v k))), itv kd v k) := by
  by_cases h0 : k = 0
  · subst h0
    unfold k_Pr_shift k_Pr_shift_109
    rw [if_pos (show nI 0 ≤ 0 by decide), pr_signs, bn_s, hfl, (fl_a g hg _ (bN_lt _) _ (bZ_lt _)).1]
    unfold cyN
    rw [if_pos rfl, show g % 2 + 2 * (g / 2 % 2) = g % 4 by omega]
    rfl
  · rcases hkd with rfl | rfl | rfl
    · exact pr_sh0 hg hfl (by omega) hk
    · exact pr_sh1 hg hfl (by omega) hk
    · exact pr_sh2 hg hfl (by omega) hk
theorem ro_n : ∀ n, n < 32 → (((nI n).toUInt32 &&& Int32.toUInt32 31).toBitVec % 32).toNat = n := by decide +kernel
theorem ro_m : ∀ n, n < 31 → ((((32 : Int32) - nI (n + 1)) &&& 31).toBitVec.smod 32).toNat = 32 - (n + 1) := by decide +kernel
theorem pr_rot {σ : zS} {p g k : Nat} {v : Int32} (hg : g < 16) (hfl : σ 11 p 14 = nI g) (hk : k ≤ 255) : k_Pr_rotate σ p v (nI k) = some (zu σ 11 p 14 (nI (g % 2 + 2 * cyN 3 v g k + 8 * bN (itv 3 v k) + 4 * bZ (itv 3 v k))), itv 3 v k) := by
  have ex : nI k &&& (31 : Int32) = nI (k % 32) := pk_andN (by omega) 5 (by decide)
  have e27 : k_Pr_rotate σ p v (nI k) = k_Pr_rotate_27 p v (nI k) σ (itv 3 v k) := by
    unfold k_Pr_rotate
    rw [ex, lt_e]
    by_cases h0 : k % 32 = 0
    · rw [h0, if_pos (show nI 0 = 0 by decide)]
      congr 1
      exact i_ext (fun i hi => by rw [it3 v k i hi, show (i + k) % 32 = i by omega])
    · rw [if_neg (nI_ne0 (by omega) (by omega))]
      congr 1
      refine i_ext (fun i hi => ?_)
      obtain ⟨m, hm⟩ : ∃ m, k % 32 = m + 1 := ⟨k % 32 - 1, by omega⟩
      rw [it3 v k i hi, Int32.toBitVec_or, BitVec.getLsbD_or, s_u _ _ (k % 32) _ (ro_n _ (by omega)), hm, s_lk _ _ (32 - (m + 1)) _ (ro_m m (by omega)), decide_eq_true hi]
      by_cases h1 : i + (m + 1) < 32
      · rw [decide_eq_true (show i < 32 - (m + 1) by omega), show (i + k) % 32 = m + 1 + i by omega]
        cases v.toBitVec.getLsbD (m + 1 + i) <;> rfl
      · rw [decide_eq_false (show ¬ i < 32 - (m + 1) by omega), BitVec.getLsbD_of_ge v.toBitVec (m + 1 + i) (by omega), show (i + k) % 32 = i - (32 - (m + 1)) by omega]
        rfl
  rw [e27]
  unfold k_Pr_rotate_27
  by_cases h0 : k = 0
  · subst h0
    unfold k_Pr_rotate_48
    rw [if_pos (show nI 0 ≤ 0 by decide), pr_signs, bn_s, hfl, (fl_a g hg _ (bN_lt _) _ (bZ_lt _)).1]
    unfold cyN
    rw [if_pos rfl, show g % 2 + 2 * (g / 2 % 2) = g % 4 by omega]
  · rw [if_neg (nI_nle (by omega) (by omega))]
    have hb : (itv 3 v k).toBitVec.getLsbD 31 = (itv 3 v (k - 1)).toBitVec.getLsbD 0 := by
      rw [it3 v k 31 (by omega), it3 v (k - 1) 0 (by omega), show (31 + k) % 32 = (0 + (k - 1)) % 32 by omega]
    have fin : ∀ e, e < 2 → k_Pr_rotate_45 p v (nI k) σ (itv 3 v k) (nI e) p = some (zu σ 11 p 14 (nI (g % 2 + 2 * e + 8 * bN (itv 3 v k) + 4 * bZ (itv 3 v k))), itv 3 v k) := fun e he => by
      have := pr_fin (σ := σ) (p := p) 0 0 0 (itv 3 v k) hg hfl he
      unfold k_Pr_shift_106 k_Pr_shift_109 at this
      unfold k_Pr_rotate_45 k_Pr_rotate_48
      exact this
    unfold cyN
    rw [if_neg h0, if_neg (show ¬ (3 : Int32) = 0 by decide), ← hb]
    by_cases h2 : 0 ≤ itv 3 v k
    · rw [if_pos h2, (b_neg _).mp h2, show (0 : Int32) = nI 0 by decide]
      exact fin 0 (by omega)
    · have hb2 : (itv 3 v k).toBitVec.getLsbD 31 = true := by
        cases hh : (itv 3 v k).toBitVec.getLsbD 31
        · exact absurd ((b_neg _).mpr hh) h2
        · rfl
      rw [if_neg h2, hb2, show (1 : Int32) = nI 1 by decide]
      exact fin 1 (by omega)
section SHIFT
variable {σ τ : zS} {N u : Nat} {c fr to ba si ke en po : Nat → Nat} {r w b : Nat → Nat → Nat}
theorem shift_ok {p k : Nat} {kd : Int32} (v : Int32) (h : RL σ τ N u c fr to ba si ke en po r w b) (hp : p < N) (hkd : kd = 0 ∨ kd = 1 ∨ kd = 2) (hk : k ≤ 255) : ∃ f cc x, f < 16 ∧ k_Pr_shift σ p kd v (nI k) = some (zu σ 11 p 14 (nI f), x) ∧ k_GM_shifted τ (nI p) v (nI k) kd = some (zu (zu τ 0 0 38 cc) 15 0 p (nI f), x) := by
  have h4 : N ≤ 4 := h.1.2.2.2.2.2.2.2.2.1
  obtain ⟨g, hg, e1, e2⟩ := flg h hp
  have a1 := cyN_lt kd v g k
  have a2 := bN_lt (itv kd v k)
  have a3 := bZ_lt (itv kd v k)
  exact ⟨_, _, _, by omega, pr_shk hg e1 hkd hk, gm_shifted (by omega) hg e2 hk⟩
theorem rot_ok {p k : Nat} (v : Int32) (h : RL σ τ N u c fr to ba si ke en po r w b) (hp : p < N) (hk : k ≤ 255) : ∃ f cc x, f < 16 ∧ k_Pr_rotate σ p v (nI k) = some (zu σ 11 p 14 (nI f), x) ∧ k_GM_shifted τ (nI p) v (nI k) 3 = some (zu (zu τ 0 0 38 cc) 15 0 p (nI f), x) := by
  have h4 : N ≤ 4 := h.1.2.2.2.2.2.2.2.2.1
  obtain ⟨g, hg, e1, e2⟩ := flg h hp
  have a1 := cyN_lt 3 v g k
  have a2 := bN_lt (itv 3 v k)
  have a3 := bZ_lt (itv 3 v k)
  exact ⟨_, _, _, by omega, pr_rot hg e1 hk, gm_shifted (by omega) hg e2 hk⟩
end SHIFT
