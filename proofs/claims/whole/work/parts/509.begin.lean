/-! a process begins: both sides -/
def rz (s : zS) (K P : Nat) : Nat → Nat → zS
  | _, 0 => s
  | q, m + 1 => rz (zu s K P q 0) K P (q + 1) m
theorem rz_rd (K P : Nat) : ∀ (m q : Nat) (s : zS) (a b i : Nat), rz s K P q m a b i = if (a = K ∧ b = P) ∧ q ≤ i ∧ i < q + m then 0 else s a b i := by
  intro m
  induction m with
  | zero => intro q s a b i; rw [if_neg (by omega)]; rfl
  | succ m ih =>
    intro q s a b i
    show rz (zu s K P q 0) K P (q + 1) m a b i = _
    rw [ih, zu_rd]
    by_cases h : (a = K ∧ b = P) ∧ q ≤ i ∧ i < q + (m + 1)
    · rw [if_pos h]
      repeat' split
      all_goals first | rfl | omega
    · rw [if_neg h, if_neg (by omega), if_neg (by omega)]
theorem rz_z {s : zS} {K P q : Nat} : rz s K P q 0 = s := by unfold rz; rfl
theorem rz_s {s : zS} {K P q m : Nat} : rz (zu s K P q 0) K P (q + 1) m = rz s K P q (m + 1) := by rw [rz]
theorem me_clear {q n : Nat} (hq : q + n ≤ 128) : ∀ (m f k : Nat) (s : zS), k + m = n → m < f → k_Me_clearRam_2 (nI (4096 + 4 * q)) (nI n) f s (nI k) = some (rz s 3 0 (q + k) m) := by
  intro m
  induction m with
  | zero =>
    intro f k s hk hf
    obtain ⟨f, rfl⟩ : ∃ f', f = f' + 1 := ⟨f - 1, by omega⟩
    rw [k_Me_clearRam_2, if_pos (nI_le (by omega) (by omega)), rz_z]
  | succ m ih =>
    intro f k s hk hf
    obtain ⟨f, rfl⟩ : ∃ f', f = f' + 1 := ⟨f - 1, by omega⟩
    rw [k_Me_clearRam_2, if_neg (nI_ge (by omega) (by omega)), show (4 : Int32) = nI 4 from rfl, pk_mul, nI_add, show 4096 + 4 * q + 4 * k = 4096 + 4 * (q + k) by omega, me_set (by omega), bn_s, lt_e, nI_1, ih f (k + 1) _ (by omega) (by omega), ← rz_s]
    rfl
theorem bp_low {p : Nat} : ∀ (m f k : Nat) (s : zS), k + m = 8 → m < f → ∃ f', k_BP_begin_17 p f s (nI k) = k_BP_begin_17 p (f' + 1) (rz s 12 p k m) (nI 8) := by
  intro m
  induction m with
  | zero =>
    intro f k s hk hf
    obtain ⟨f, rfl⟩ : ∃ f', f = f' + 1 := ⟨f - 1, by omega⟩
    obtain rfl : k = 8 := by omega
    exact ⟨f, by rw [rz_z]⟩
  | succ m ih =>
    intro f k s hk hf
    obtain ⟨f, rfl⟩ : ∃ f', f = f' + 1 := ⟨f - 1, by omega⟩
    obtain ⟨f', e⟩ := ih f (k + 1) (zu s 12 p k 0) (by omega) (by omega)
    refine ⟨f', ?_⟩
    rw [k_BP_begin_17, if_neg (show ¬ (8 : Int32) ≤ nI k from nI_ge (b := 8) (by omega) (by omega)), ck_p (zi_n (by omega) (by omega)), lt_e, lt_e, nI_clamp (by omega), nI_1, e, rz_s]
theorem gm_ram {p q n : Nat} (hp : p < 4) (hq : q + n ≤ 128) : ∀ (m f k : Nat) (s : zS), k + m = n → m < f → s 6 0 p = nI n → s 5 0 p = nI q → k_GM_begin_2 (nI p) f s (nI k) = k_GM_begin_34 (nI p) FU (rz s 2 0 (q + k) m) 0 := by
  intro m
  induction m with
  | zero =>
    intro f k s hk hf h6 h5
    obtain ⟨f, rfl⟩ : ∃ f', f = f' + 1 := ⟨f - 1, by omega⟩
    rw [k_GM_begin_2, ck_p (zi_n hp (by omega)), nI_clamp (by omega), h6, if_pos (nI_le (by omega) (by omega)), rz_z]
  | succ m ih =>
    intro f k s hk hf h6 h5
    obtain ⟨f, rfl⟩ : ∃ f', f = f' + 1 := ⟨f - 1, by omega⟩
    have zp : zi (nI p) 4 = true := zi_n hp (by omega)
    have zq : zi (nI (q + k)) 128 = true := zi_n (by omega) (by omega)
    rw [k_GM_begin_2]
    simp only [ck_p zp, nI_clamp (show p < 2 ^ 31 by omega), h6, h5, if_neg (show ¬ nI n ≤ nI k from nI_ge (by omega) (by omega)), nI_add, ck_p zq, nI_clamp (show q + k < 2 ^ 31 by omega), lt_e, nI_1]
    rw [ih f (k + 1) _ (by omega) (by omega) (by rw [zu_rd, if_neg (by omega)]; exact h6) (by rw [zu_rd, if_neg (by omega)]; exact h5), ← rz_s]
    rfl
theorem gm_gen {p : Nat} (hp : p < 4) : ∀ (m f k : Nat) (s : zS), k + m = 8 → m < f → ∃ f', k_GM_begin_34 (nI p) f s (nI k) = k_GM_begin_34 (nI p) (f' + 1) (rz s 11 0 (8 * p + k) m) (nI 8) := by
  intro m
  induction m with
  | zero =>
    intro f k s hk hf
    obtain ⟨f, rfl⟩ : ∃ f', f = f' + 1 := ⟨f - 1, by omega⟩
    obtain rfl : k = 8 := by omega
    exact ⟨f, by rw [rz_z]⟩
  | succ m ih =>
    intro f k s hk hf
    obtain ⟨f, rfl⟩ : ∃ f', f = f' + 1 := ⟨f - 1, by omega⟩
    obtain ⟨f', e⟩ := ih f (k + 1) (zu s 11 0 (8 * p + k) 0) (by omega) (by omega)
    refine ⟨f', ?_⟩
    rw [k_GM_begin_34, if_neg (show ¬ (8 : Int32) ≤ nI k from nI_ge (b := 8) (by omega) (by omega)), ix8, ck_p (zi_n (by omega) (by omega)), lt_e, lt_e, nI_clamp (by omega), nI_1, e, ← rz_s]
    rfl
/-- the class's state behind begin -/
def bgC (s : zS) (p ba si : Nat) (x : Int32) : zS :=
  zu (los (zu (zu (zu (zu (zu (rz (rz s 3 0 ba si) 12 p 0 8) 11 p 11 x) 11 p 12 0) 11 p 13 (s 11 p 4)) 11 p 14 0) 11 p 15 0) p) 11 p 16 0
theorem bp_begin {s : zS} {p ba si ke : Nat} (h5 : s 11 p 5 = nI (4096 + 4 * ba)) (h6 : s 11 p 6 = nI si) (h7 : s 11 p 7 = nI ke) (hb : ba + si ≤ 128) : k_BP_begin s p = some (bgC s p ba si (nI (4096 + 4 * (ba + ke)))) := by
  unfold k_BP_begin k_Me_clearRam
  rw [h5, h6, show k_Me_clearRam_2 (nI (4096 + 4 * ba)) (nI si) FU s 0 = k_Me_clearRam_2 (nI (4096 + 4 * ba)) (nI si) FU s (nI 0) from rfl, me_clear hb si FU 0 s (by omega) (by unfold FU; omega), bn_s]
  obtain ⟨f', e⟩ := bp_low (p := p) 8 FU 0 (rz s 3 0 (ba + 0) si) (by omega) (by unfold FU; omega)
  rw [show k_BP_begin_17 p FU (rz s 3 0 (ba + 0) si) 0 = k_BP_begin_17 p FU (rz s 3 0 (ba + 0) si) (nI 0) from rfl, e, k_BP_begin_17, if_pos (show (8 : Int32) ≤ nI 8 by decide)]
  have e5 : rz (rz s 3 0 (ba + 0) si) 12 p 0 8 11 p 5 = nI (4096 + 4 * ba) := by rw [rz_rd, if_neg (by omega), rz_rd, if_neg (by omega)]; exact h5
  have e7 : rz (rz s 3 0 (ba + 0) si) 12 p 0 8 11 p 7 = nI ke := by rw [rz_rd, if_neg (by omega), rz_rd, if_neg (by omega)]; exact h7
  simp only [lt_e]
  rw [bp_lose, bn_s, e5, e7, show (4 : Int32) = nI 4 from rfl, pk_mul, nI_add, show 4096 + 4 * ba + 4 * ke = 4096 + 4 * (ba + ke) by omega]
  have e4 : ∀ x y : Int32, zu (zu (rz (rz s 3 0 (ba + 0) si) 12 p 0 8) 11 p 11 x) 11 p 12 y 11 p 4 = s 11 p 4 := fun x y => by rw [zu_rd, if_neg (by omega), zu_rd, if_neg (by omega), rz_rd, if_neg (by omega), rz_rd, if_neg (by omega)]
  rw [e4]
  rfl
