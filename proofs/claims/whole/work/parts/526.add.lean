/-! adding: add and sum; signs: setSigns and nz -/
theorem zu_2 {s : zS} {a b i : Nat} {v v' : Int32} : zu (zu s a b i v) a b i v' = zu s a b i v' := by
  funext x y z
  rw [zu_rd, zu_rd, zu_rd]
  split <;> rfl
theorem cmp_le (x y : Int64) : lg_cmp x y ≤ 0 ↔ x.toInt ≤ y.toInt := by
  unfold lg_cmp
  by_cases h1 : x > y
  · rw [if_pos h1]
    have := Int64.lt_iff_toInt_lt.mp h1
    exact ⟨fun g => absurd g (by decide), fun g => by omega⟩
  · rw [if_neg h1]
    have h2 : x.toInt ≤ y.toInt := Int.not_lt.mp (fun g => h1 (Int64.lt_iff_toInt_lt.mpr g))
    by_cases e : x = y
    · rw [if_pos e]; exact ⟨fun _ => h2, fun _ => by decide⟩
    · rw [if_neg e]; exact ⟨fun _ => h2, fun _ => by decide⟩
theorem cmp_lt (x y : Int64) : lg_cmp x y < 0 ↔ x.toInt < y.toInt := by
  unfold lg_cmp
  by_cases h1 : x > y
  · rw [if_pos h1]
    have := Int64.lt_iff_toInt_lt.mp h1
    exact ⟨fun g => absurd g (by decide), fun g => by omega⟩
  · rw [if_neg h1]
    have h2 : x.toInt ≤ y.toInt := Int.not_lt.mp (fun g => h1 (Int64.lt_iff_toInt_lt.mpr g))
    by_cases e : x = y
    · rw [if_pos e]; exact ⟨fun g => absurd g (by decide), fun g => by rw [e] at g; omega⟩
    · have hne : x.toInt ≠ y.toInt := fun g => e (Int64.toInt_inj.mp g)
      rw [if_neg e]; exact ⟨fun _ => by omega, fun _ => by decide⟩
theorem cmp_eq (x y : Int64) : lg_cmp x y = 0 ↔ x = y := by
  unfold lg_cmp
  by_cases h1 : x > y
  · rw [if_pos h1]
    have := Int64.lt_iff_toInt_lt.mp h1
    exact ⟨fun g => absurd g (by decide), fun g => by rw [g] at this; omega⟩
  · rw [if_neg h1]
    by_cases e : x = y
    · rw [if_pos e]; exact ⟨fun _ => e, fun _ => rfl⟩
    · rw [if_neg e]; exact ⟨fun g => absurd g (by decide), fun g => absurd g e⟩
theorem cmp_cy (x : Int64) : lg_cmp x (4294967295 : Int64) ≤ 0 ↔ lg_cmp x (4294967296 : Int64) < 0 := by
  rw [cmp_le, cmp_lt, show (4294967295 : Int64).toInt = 4294967295 from by decide, show (4294967296 : Int64).toInt = 4294967296 from by decide]
  omega
def bN (x : Int32) : Nat := if 0 ≤ x then 0 else 1
def bZ (x : Int32) : Nat := if x = 0 then 1 else 0
theorem bN_lt (x : Int32) : bN x < 2 := by unfold bN; split <;> omega
theorem bZ_lt (x : Int32) : bZ x < 2 := by unfold bZ; split <;> omega
theorem fl_a : ∀ g, g < 16 → ∀ n, n < 2 → ∀ z, z < 2 → (nI g &&& (3 : Int32)) ||| (nI (8 * n) + nI (4 * z)) = nI (g % 4 + 8 * n + 4 * z) ∧ ((nI g &&& (3 : Int32)) ||| nI (8 * n)) ||| nI (4 * z) = nI (g % 4 + 8 * n + 4 * z) := by decide +kernel
theorem fl_b : ∀ g, g < 16 → ∀ n, n < 2 → ∀ z, z < 2 → ∀ c, c < 2 → (nI (g % 4 + 8 * n + 4 * z) &&& (13 : Int32)) ||| (nI c <<< ((1 : Int32) &&& 31)) = nI (g % 2 + 2 * c + 8 * n + 4 * z) := by decide +kernel
theorem fl_c : ∀ g, g < 16 → nI g ||| (2 : Int32) = nI (g / 4 * 4 + 2 + g % 2) ∧ nI g &&& (-3 : Int32) = nI (g / 4 * 4 + g % 2) ∧ (nI g >>> ((1 : Int32) &&& 31)) &&& (1 : Int32) = nI (g / 2 % 2) := by decide +kernel
theorem fl_e : ∀ n, n < 2 → ∀ z, z < 2 → ∀ c, c < 2 → ∀ o, o < 2 → ((nI (8 * n) ||| nI (4 * z)) ||| nI (2 * c)) ||| nI o = nI (2 * c + o + 8 * n + 4 * z) := by decide +kernel
theorem pr_signs (s : zS) (p : Nat) (v : Int32) : k_Pr_setSigns s p v = some (zu s 11 p 14 ((s 11 p 14 &&& (3 : Int32)) ||| (nI (8 * bN v) + nI (4 * bZ v)))) := by
  unfold k_Pr_setSigns k_Pr_setSigns_10 k_Pr_setSigns_19 bN bZ
  by_cases h1 : 0 ≤ v
  · by_cases h2 : v = 0
    · simp only [if_pos h1, if_pos h2, lt_e]; rfl
    · simp only [if_pos h1, if_neg h2, lt_e]; rfl
  · by_cases h2 : v = 0
    · simp only [if_neg h1, if_pos h2, lt_e]; rfl
    · simp only [if_neg h1, if_neg h2, lt_e]; rfl
theorem gm_nz {s : zS} {p : Nat} (hp : p < 4) (v : Int32) : k_GM_nz s (nI p) v = some (zu s 15 0 p (((s 15 0 p &&& (3 : Int32)) ||| nI (8 * bN v)) ||| nI (4 * bZ v))) := by
  have zp : zi (nI p) 4 = true := zi_n hp (by omega)
  have cp : (nI p).toNatClampNeg = p := nI_clamp (by omega)
  unfold k_GM_nz k_GM_nz_23 k_GM_nz_33 bN bZ
  by_cases h1 : 0 ≤ v
  · by_cases h2 : v = 0
    · simp only [if_pos h1, if_pos h2, lt_e, ck_p zp, cp]; rfl
    · simp only [if_pos h1, if_neg h2, lt_e, ck_p zp, cp]; rfl
  · by_cases h2 : v = 0
    · simp only [if_neg h1, if_pos h2, lt_e, ck_p zp, cp]; rfl
    · simp only [if_neg h1, if_neg h2, lt_e, ck_p zp, cp]; rfl
section ADD
variable {σ τ : zS} {N u : Nat} {c fr to ba si ke en po : Nat → Nat} {r w b : Nat → Nat → Nat}
/-- the flags, both sides -/
theorem flg {p : Nat} (h : RL σ τ N u c fr to ba si ke en po r w b) (hp : p < N) : ∃ g, g < 16 ∧ σ 11 p 14 = nI g ∧ τ 15 0 p = nI g := by
  obtain ⟨-, -, -, -, d5, ⟨g, hg, d6⟩, -⟩ := (h.2.1 p hp).2.1
  exact ⟨g, hg, d6, by rw [← d5]; exact d6⟩
theorem signs_ok {p : Nat} (v : Int32) (h : RL σ τ N u c fr to ba si ke en po r w b) (hp : p < N) : ∃ f, f < 16 ∧ k_Pr_setSigns σ p v = some (zu σ 11 p 14 (nI f)) ∧ k_GM_nz τ (nI p) v = some (zu τ 15 0 p (nI f)) := by
  have h4 : N ≤ 4 := h.1.2.2.2.2.2.2.2.2.1
  obtain ⟨g, hg, e1, e2⟩ := flg h hp
  have hn := bN_lt v
  have hz := bZ_lt v
  obtain ⟨a1, a2⟩ := fl_a g hg (bN v) hn (bZ v) hz
  refine ⟨g % 4 + 8 * bN v + 4 * bZ v, by omega, ?_, ?_⟩
  · rw [pr_signs, e1, a1]
  · rw [gm_nz (by omega), e2, a2]
theorem add_ok {p : Nat} (x y z : Int32) (h : RL σ τ N u c fr to ba si ke en po r w b) (hp : p < N) : ∃ f v, f < 16 ∧ k_Pr_add σ p x y z = some (zu σ 11 p 14 (nI f), v) ∧ k_GM_sum τ (nI p) x y z = some (zu τ 15 0 p (nI f), v) := by
  have h4 : N ≤ 4 := h.1.2.2.2.2.2.2.2.2.1
  have zp : zi (nI p) 4 = true := zi_n (by omega) (by omega)
  have cp : (nI p).toNatClampNeg = p := nI_clamp (by omega)
  unfold k_Pr_add k_Pr_add_50 k_Pr_add_64 k_GM_sum k_GM_sum_51 k_GM_sum_61 k_GM_sum_76 k_GM_sum_91
  simp only [lt_e]
  generalize (((x.toInt64) + (y.toInt64)) + (z.toInt64)) = A
  generalize ((((x.toInt64) &&& (4294967295 : Int64)) + ((y.toInt64) &&& (4294967295 : Int64))) + (z.toInt64)) = B
  have hn := bN_lt A.toInt32
  have hz := bZ_lt A.toInt32
  have key : ∀ cc, cc < 2 → ∀ oo, oo < 2 → ∀ C O : Int32, C = nI (2 * cc) → O = nI oo → ∃ f v, f < 16 ∧ (bn (k_Pr_setSigns (zu σ 11 p 14 (C + O)) p A.toInt32) fun s5 => some (s5, A.toInt32)) = some (zu σ 11 p 14 (nI f), v) ∧ some (zu τ 15 0 p (((nI (8 * bN A.toInt32) ||| nI (4 * bZ A.toInt32)) ||| C) ||| O), A.toInt32) = some (zu τ 15 0 p (nI f), v) := by
    intro cc hc oo ho C O hC hO
    subst hC hO
    refine ⟨2 * cc + oo + 8 * bN A.toInt32 + 4 * bZ A.toInt32, A.toInt32, by omega, ?_, ?_⟩
    · rw [pr_signs, bn_s, zu_2, zu_rd, if_pos (by omega), nI_add, (fl_a (2 * cc + oo) (by omega) _ hn _ hz).1, show (2 * cc + oo) % 4 = 2 * cc + oo by omega]
    · rw [fl_e _ hn _ hz _ hc _ ho]
  have e8 : (if 0 ≤ A.toInt32 then (0 : Int32) else 8) = nI (8 * bN A.toInt32) := by unfold bN; split <;> rfl
  have e4 : (if A.toInt32 = 0 then (4 : Int32) else 0) = nI (4 * bZ A.toInt32) := by unfold bZ; split <;> rfl
  by_cases h1 : lg_cmp B (4294967296 : Int64) < 0
  · have h1' := (cmp_cy B).mpr h1
    by_cases h2 : lg_cmp A (A.toInt32.toInt64) = 0
    · have := key 0 (by omega) 0 (by omega) 0 0 (by decide) (by decide)
      rw [← e8, ← e4] at this
      by_cases h3 : 0 ≤ A.toInt32
      · by_cases h5 : A.toInt32 = 0
        · simp only [if_pos h1, if_pos h1', if_pos h2, if_pos h3, if_pos h5, ck_p zp, cp, lt_e] at this ⊢; exact this
        · simp only [if_pos h1, if_pos h1', if_pos h2, if_pos h3, if_neg h5, ck_p zp, cp, lt_e] at this ⊢; exact this
      · by_cases h5 : A.toInt32 = 0
        · simp only [if_pos h1, if_pos h1', if_pos h2, if_neg h3, if_pos h5, ck_p zp, cp, lt_e] at this ⊢; exact this
        · simp only [if_pos h1, if_pos h1', if_pos h2, if_neg h3, if_neg h5, ck_p zp, cp, lt_e] at this ⊢; exact this
    · have := key 0 (by omega) 1 (by omega) 0 1 (by decide) (by decide)
      rw [← e8, ← e4] at this
      by_cases h3 : 0 ≤ A.toInt32
      · by_cases h5 : A.toInt32 = 0
        · simp only [if_pos h1, if_pos h1', if_neg h2, if_pos h3, if_pos h5, ck_p zp, cp, lt_e] at this ⊢; exact this
        · simp only [if_pos h1, if_pos h1', if_neg h2, if_pos h3, if_neg h5, ck_p zp, cp, lt_e] at this ⊢; exact this
      · by_cases h5 : A.toInt32 = 0
        · simp only [if_pos h1, if_pos h1', if_neg h2, if_neg h3, if_pos h5, ck_p zp, cp, lt_e] at this ⊢; exact this
        · simp only [if_pos h1, if_pos h1', if_neg h2, if_neg h3, if_neg h5, ck_p zp, cp, lt_e] at this ⊢; exact this
  · have h1' : ¬ lg_cmp B (4294967295 : Int64) ≤ 0 := fun g => h1 ((cmp_cy B).mp g)
    by_cases h2 : lg_cmp A (A.toInt32.toInt64) = 0
    · have := key 1 (by omega) 0 (by omega) 2 0 (by decide) (by decide)
      rw [← e8, ← e4] at this
      by_cases h3 : 0 ≤ A.toInt32
      · by_cases h5 : A.toInt32 = 0
        · simp only [if_neg h1, if_neg h1', if_pos h2, if_pos h3, if_pos h5, ck_p zp, cp, lt_e] at this ⊢; exact this
        · simp only [if_neg h1, if_neg h1', if_pos h2, if_pos h3, if_neg h5, ck_p zp, cp, lt_e] at this ⊢; exact this
      · by_cases h5 : A.toInt32 = 0
        · simp only [if_neg h1, if_neg h1', if_pos h2, if_neg h3, if_pos h5, ck_p zp, cp, lt_e] at this ⊢; exact this
        · simp only [if_neg h1, if_neg h1', if_pos h2, if_neg h3, if_neg h5, ck_p zp, cp, lt_e] at this ⊢; exact this
    · have := key 1 (by omega) 1 (by omega) 2 1 (by decide) (by decide)
      rw [← e8, ← e4] at this
      by_cases h3 : 0 ≤ A.toInt32
      · by_cases h5 : A.toInt32 = 0
        · simp only [if_neg h1, if_neg h1', if_neg h2, if_pos h3, if_pos h5, ck_p zp, cp, lt_e] at this ⊢; exact this
        · simp only [if_neg h1, if_neg h1', if_neg h2, if_pos h3, if_neg h5, ck_p zp, cp, lt_e] at this ⊢; exact this
      · by_cases h5 : A.toInt32 = 0
        · simp only [if_neg h1, if_neg h1', if_neg h2, if_neg h3, if_pos h5, ck_p zp, cp, lt_e] at this ⊢; exact this
        · simp only [if_neg h1, if_neg h1', if_neg h2, if_neg h3, if_neg h5, ck_p zp, cp, lt_e] at this ⊢; exact this
end ADD
