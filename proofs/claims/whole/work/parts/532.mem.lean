/-! loads and stores -/
theorem al_of {a : Int32} (h : a &&& (3 : Int32) = 0) : a.toInt % 4 = 0 := by
  rw [pk_and a 2 (by decide)] at h
  have hx := a.toBitVec.isLt
  have h2 : a.toBitVec.toNat % 2 ^ 2 = 0 := (nI_eq (a := a.toBitVec.toNat % 2 ^ 2) (b := 0) (by omega) (by omega)).mp h
  have e3 : a.toInt = a.toBitVec.toInt := rfl
  rw [e3, BitVec.toInt_eq_toNat_cond]
  split <;> omega
theorem of_al {a : Int32} (h : a.toInt % 4 = 0) : a &&& (3 : Int32) = 0 := by
  rw [pk_and a 2 (by decide)]
  have hx := a.toBitVec.isLt
  have e3 : a.toInt = a.toBitVec.toInt := rfl
  rw [e3, BitVec.toInt_eq_toNat_cond] at h
  have : a.toBitVec.toNat % 2 ^ 2 = 0 := by
    split at h <;> omega
  rw [this]
  rfl
section MEM
variable {σ τ : zS} {N u p : Nat} {c fr to ba si ke en po : Nat → Nat} {r w b : Nat → Nat → Nat}
/-- in the process's code -/
theorem ic_ok (a : Int32) (h : RL σ τ N u c fr to ba si ke en po r w b) (hp : p < N) : ((∃ m, 2 * fr p ≤ m ∧ m < 2 * (fr p + to p) ∧ a = nI m) → k_BP_isInCode σ p a = some (σ, 1) ∧ k_GM_inCode τ (nI p) a = some (τ, 1)) ∧ ((¬ ∃ m, 2 * fr p ≤ m ∧ m < 2 * (fr p + to p) ∧ a = nI m) → k_BP_isInCode σ p a = some (σ, 0) ∧ k_GM_inCode τ (nI p) a = some (τ, 0)) := by
  have h4 : N ≤ 4 := h.1.2.2.2.2.2.2.2.2.1
  obtain ⟨s2, s3, s4, s5, s6, s7, s9, t3, t4, t5, t6, t7, t8, t9, x1, x2, x3, x4, x5⟩ := (h.2.1 p hp).1
  have zp : zi (nI p) 4 = true := zi_n (by omega) (by omega)
  have cp : (nI p).toNatClampNeg = p := nI_clamp (by omega)
  have m1 : (2 : Int32) * nI (fr p) = nI (2 * fr p) := by rw [show (2 : Int32) = nI 2 from rfl, pk_mul]
  have m2 : (2 : Int32) * nI (fr p + to p) = nI (2 * (fr p + to p)) := by rw [show (2 : Int32) = nI 2 from rfl, pk_mul]
  unfold k_BP_isInCode k_GM_inCode
  rw [ck_p zp, cp, ck_p zp, ck_p zp, s2, s3, t3, t4, nI_add, m1, m2]
  refine ⟨fun ⟨m, g1, g2, e⟩ => ?_, fun hn => ?_⟩
  · subst e
    rw [if_neg (nI_nlt g1 (by omega)), if_neg (nI_ge g2 (by omega)), if_neg (nI_nlt g1 (by omega)), if_neg (nI_ge g2 (by omega))]
    exact ⟨rfl, rfl⟩
  · by_cases h1 : a < nI (2 * fr p)
    · rw [if_pos h1, if_pos h1]; exact ⟨rfl, rfl⟩
    · rw [if_neg h1, if_neg h1]
      by_cases h2 : nI (2 * (fr p + to p)) ≤ a
      · rw [if_pos h2, if_pos h2]; exact ⟨rfl, rfl⟩
      · exfalso
        have h0 : ¬ a < 0 := fun g => h1 (Int32.lt_of_lt_of_le g (nI_pos' (by omega)))
        obtain ⟨m, hm, rfl⟩ := nI_of h0
        exact hn ⟨m, Nat.not_lt.mp (fun g => h1 (nI_lt g (by omega))), Nat.not_le.mp (fun g => h2 (nI_le g hm)), rfl⟩
/-- open, a word -/
theorem op_ok (a : Int32) (h : RL σ τ N u c fr to ba si ke en po r w b) (hp : p < N) (hal : a &&& (3 : Int32) = 0) : ((∃ i, i < zop (si p) (gW (r p)) ∧ a = nI (4096 + 4 * (ba p + i))) → k_BP_areOpen σ p a 1 = some (σ, 1) ∧ k_GM_isOpen τ (nI p) a = some (τ, 1)) ∧ ((¬ ∃ i, i < zop (si p) (gW (r p)) ∧ a = nI (4096 + 4 * (ba p + i))) → k_BP_areOpen σ p a 1 = some (σ, 0) ∧ k_GM_isOpen τ (nI p) a = some (τ, 0)) := by
  obtain ⟨o1, o2, o3, o4⟩ := op_le h hp
  obtain ⟨hS, hD, hN⟩ := h.2.1 p hp
  have s5 := hS.2.2.2.1
  have s8 := hN.2.2.1
  rw [show (1 : Int32) = nI 1 from rfl]
  refine ⟨fun ⟨i, hi, e⟩ => ?_, fun hn => ?_⟩
  · subst e
    exact ⟨ar_yes s5 s8 (by omega) (by omega) (by omega) (by omega), io_yes h hp hi⟩
  · exact ⟨ar_no s5 s8 (by omega) (by omega) (by omega) (al_of hal) (fun i g1 g2 g3 => hn ⟨i, g2, g3⟩), io_no h hp (fun i g1 g2 => hn ⟨i, g1, g2⟩)⟩
/-- what may be read (k = 0) or written (k = 1) -/
def Al (fr to ba si : Nat) (r : Nat → Nat) (a : Int32) (k : Nat) : Prop := (∃ i, i < zop si (gW r) ∧ a = nI (4096 + 4 * (ba + i))) ∨ (k = 0 ∧ ∃ m, 2 * fr ≤ m ∧ m < 2 * (fr + to) ∧ a = nI m)
theorem may_37 {a1 a2 a3 x : Int32} {t : zS} (hx : x = 3 ∨ x = 4) (h : t 0 0 37 = 0 ∨ (t 0 0 37 = 4 ∧ x = 4)) : k_GM_may_37 a1 a2 a3 t x = some (zu t 0 0 37 x, 0) := by
  have h0 : ¬ x ≤ 0 := by rcases hx with e | e <;> rw [e] <;> decide
  have h1 : ¬ x = 0 := by rcases hx with e | e <;> rw [e] <;> decide
  unfold k_GM_may_37 k_GM_may_61 k_GM_may_66 k_GM_may_70
  rw [if_neg h0]
  rcases h with e | ⟨e, ex⟩
  · rw [if_pos e, lt_e, if_neg h1]
  · rw [if_neg (show ¬ t 0 0 37 = 0 by rw [e]; decide), if_pos (show t 0 0 37 ≤ x by rw [e, ex]; decide), lt_e, if_neg h1, e, ex]
theorem may_ok {k : Nat} (a : Int32) (h : RL σ τ N u c fr to ba si ke en po r w b) (hp : p < N) (hal : a &&& (3 : Int32) = 0) (hk : k < 2) (hB : τ 0 0 37 = 0 ∨ τ 0 0 37 = 4) : (Al (fr p) (to p) (ba p) (si p) (r p) a k → k_GM_may τ (nI p) a (nI k) = some (τ, 1)) ∧ (¬ Al (fr p) (to p) (ba p) (si p) (r p) a k → k_GM_may τ (nI p) a (nI k) = some (zu τ 0 0 37 4, 0)) := by
  obtain ⟨i1, i2⟩ := ic_ok a h hp
  obtain ⟨o1, o2⟩ := op_ok a h hp hal
  have yes : k_GM_may_32 (nI p) a (nI k) τ = some (τ, 1) := by
    unfold k_GM_may_32 k_GM_may_37 k_GM_may_66 k_GM_may_70
    rw [if_pos (by decide), lt_e, zu_id rfl, if_pos rfl]
  have no : k_GM_may_36 (nI p) a (nI k) τ = some (zu τ 0 0 37 4, 0) := by
    unfold k_GM_may_36
    exact may_37 (Or.inr rfl) (hB.elim Or.inl (fun g => Or.inr ⟨g, rfl⟩))
  unfold k_GM_may
  rw [if_pos hal]
  by_cases ho : ∃ i, i < zop (si p) (gW (r p)) ∧ a = nI (4096 + 4 * (ba p + i))
  · rw [(o1 ho).2, bn_s]
    dsimp only
    rw [if_neg (show ¬ (1 : Int32) = 0 by decide), yes]
    exact ⟨fun _ => rfl, fun g => absurd (Or.inl ho) g⟩
  · rw [(o2 ho).2, bn_s]
    dsimp only
    rw [if_pos rfl]
    obtain rfl | rfl : k = 0 ∨ k = 1 := by omega
    · rw [if_pos (show nI 0 = 0 by decide)]
      by_cases hc : ∃ m, 2 * fr p ≤ m ∧ m < 2 * (fr p + to p) ∧ a = nI m
      · rw [(i1 hc).2, bn_s]
        dsimp only
        rw [if_neg (show ¬ (1 : Int32) = 0 by decide), yes]
        exact ⟨fun _ => rfl, fun g => absurd (Or.inr ⟨rfl, hc⟩) g⟩
      · rw [(i2 hc).2, bn_s]
        dsimp only
        rw [if_pos rfl, no]
        exact ⟨fun g => by rcases g with g | ⟨-, g⟩; exact absurd g ho; exact absurd g hc, fun _ => rfl⟩
    · rw [if_neg (show ¬ nI 1 = 0 by decide), no]
      exact ⟨fun g => by rcases g with g | ⟨g, -⟩; exact absurd g ho; exact absurd g (by omega), fun _ => rfl⟩
theorem ml_ok (a : Int32) (h : RL σ τ N u c fr to ba si ke en po r w b) (hp : p < N) (hal : a &&& (3 : Int32) = 0) : (Al (fr p) (to p) (ba p) (si p) (r p) a 0 → k_BP_mayLoad σ p a = some (σ, 1)) ∧ (¬ Al (fr p) (to p) (ba p) (si p) (r p) a 0 → k_BP_mayLoad σ p a = some (σ, 0)) := by
  obtain ⟨i1, i2⟩ := ic_ok a h hp
  obtain ⟨o1, o2⟩ := op_ok a h hp hal
  unfold k_BP_mayLoad k_BP_mayLoad_17
  by_cases hc : ∃ m, 2 * fr p ≤ m ∧ m < 2 * (fr p + to p) ∧ a = nI m
  · rw [(i1 hc).1, bn_s]
    dsimp only
    rw [if_neg (show ¬ (1 : Int32) = 0 by decide)]
    exact ⟨fun _ => rfl, fun g => absurd (Or.inr ⟨rfl, hc⟩) g⟩
  · rw [(i2 hc).1, bn_s]
    dsimp only
    rw [if_pos rfl]
    by_cases ho : ∃ i, i < zop (si p) (gW (r p)) ∧ a = nI (4096 + 4 * (ba p + i))
    · rw [(o1 ho).1, bn_s]
      dsimp only
      rw [if_neg (show ¬ (1 : Int32) = 0 by decide)]
      exact ⟨fun _ => rfl, fun g => absurd (Or.inl ho) g⟩
    · rw [(o2 ho).1, bn_s]
      dsimp only
      rw [if_pos rfl]
      exact ⟨fun g => by rcases g with g | ⟨-, g⟩; exact absurd g ho; exact absurd g hc, fun _ => rfl⟩
theorem rd_ok (a : Int32) (h : RL σ τ N u c fr to ba si ke en po r w b) (hp : p < N) (hal : a &&& (3 : Int32) = 0) (hA : Al (fr p) (to p) (ba p) (si p) (r p) a 0) : ∃ V : Int32, k_BP_readWord σ p a = some (σ, V) ∧ k_GM_get τ a = some (τ, V) ∧ ∀ t : zS, t 1 0 = τ 1 0 → t 2 0 = τ 2 0 → k_GM_get t a = some (t, V) := by
  obtain ⟨i1, i2⟩ := ic_ok a h hp
  obtain ⟨o1, o2, o3, o4⟩ := op_le h hp
  obtain ⟨s2, s3, s4, s5, s6, s7, s9, t3, t4, t5, t6, t7, t8, t9, x1, x2, x3, x4, x5⟩ := (h.2.1 p hp).1
  unfold k_BP_readWord
  by_cases hc : ∃ m, 2 * fr p ≤ m ∧ m < 2 * (fr p + to p) ∧ a = nI m
  · rw [(i1 hc).1, bn_s]
    dsimp only
    obtain ⟨m, g1, g2, rfl⟩ := hc
    have h4 := al_of hal
    rw [nI_toInt (by omega)] at h4
    obtain ⟨k, rfl⟩ : ∃ k, m = 2 * k := ⟨m / 2, by omega⟩
    rw [if_neg (show ¬ (1 : Int32) = 0 by decide), me_flash (by omega), gm_getF (by omega), bn_s, h.1.1]
    exact ⟨_, rfl, rfl, fun t g _ => by rw [gm_getF (by omega), g]⟩
  · rw [(i2 hc).1, bn_s]
    dsimp only
    rcases hA with ⟨i, hi, rfl⟩ | ⟨-, g⟩
    · rw [if_pos rfl, me_get (by omega), gm_get (by omega), bn_s, h.1.2.2.1]
      exact ⟨_, rfl, rfl, fun t _ g => by rw [gm_get (by omega), g]⟩
    · exact absurd g hc
theorem ld_ok {j : Nat} (a : Int32) (h : G σ τ N u c fr to ba si ke en po r w b p) (hj : j < 8) : OkD (k_Pr_loadInto σ p (nI j) a) (bn (k_GM_access τ (nI p) (nI j) a 0) fun s => k_GM_instruction_322 (nI p) s) N u c fr to ba si ke en po r w b p := by
  have p4 := g_p4 h
  have zj8 : zi (nI j) 8 = true := zi_n (by omega) (by omega)
  have cj : (nI j).toNatClampNeg = j := nI_clamp (by omega)
  have z32 : zi (nI (8 * p + j)) 32 = true := zi_n (by omega) (by omega)
  have c32 : (nI (8 * p + j)).toNatClampNeg = 8 * p + j := nI_clamp (by omega)
  unfold k_Pr_loadInto k_GM_access
  by_cases hal : a &&& (3 : Int32) = 0
  · obtain ⟨m1, m2⟩ := may_ok (k := 0) a h.1 h.2.1 hal (by omega) (Or.inl h.2.2.2.1)
    obtain ⟨l1, l2⟩ := ml_ok a h.1 h.2.1 hal
    rw [show (nI 0 : Int32) = 0 from rfl] at m1 m2
    rw [if_pos hal]
    by_cases hA : Al (fr p) (to p) (ba p) (si p) (r p) a 0
    · obtain ⟨V, v1, v2, -⟩ := rd_ok a h.1 h.2.1 hal hA
      rw [m1 hA, l1 hA, bn_s, bn_s]
      dsimp only
      rw [if_neg (show ¬ (1 : Int32) = 0 by decide), if_neg (show ¬ (1 : Int32) = 0 by decide), if_pos rfl, v1, v2, bn_s, bn_s]
      dsimp only
      rw [ck_p zj8, lt_e, cj, ix8, ck_p z32, lt_e, c32, bn_s]
      exact ok_0 (g_low h hj)
    · rw [m2 hA, l2 hA, bn_s, bn_s]
      dsimp only
      rw [if_pos rfl, if_pos rfl, bn_s]
      exact ok_x h (by decide)
  · have e : k_GM_may τ (nI p) a 0 = some (zu τ 0 0 37 3, 0) := by
      unfold k_GM_may
      rw [if_neg hal]
      exact may_37 (Or.inl rfl) (Or.inl h.2.2.2.1)
    rw [if_neg hal, e, bn_s]
    dsimp only
    rw [if_pos rfl, bn_s]
    exact ok_x h (by decide)
theorem st_ok {j : Nat} (a : Int32) (h : G σ τ N u c fr to ba si ke en po r w b p) (hj : j < 8) : OkD (k_Pr_storeFrom σ p (nI j) a) (bn (k_GM_access τ (nI p) (nI j) a 1) fun s => k_GM_instruction_322 (nI p) s) N u c fr to ba si ke en po r w b p := by
  have p4 := g_p4 h
  obtain ⟨lo, -⟩ := g_rg h
  obtain ⟨q1, q2, q3, q4⟩ := op_le h.1 h.2.1
  have zj8 : zi (nI j) 8 = true := zi_n (by omega) (by omega)
  have cj : (nI j).toNatClampNeg = j := nI_clamp (by omega)
  have z32 : zi (nI (8 * p + j)) 32 = true := zi_n (by omega) (by omega)
  have c32 : (nI (8 * p + j)).toNatClampNeg = 8 * p + j := nI_clamp (by omega)
  unfold k_Pr_storeFrom k_GM_access
  by_cases hal : a &&& (3 : Int32) = 0
  · obtain ⟨m1, m2⟩ := may_ok (k := 1) a h.1 h.2.1 hal (by omega) (Or.inl h.2.2.2.1)
    obtain ⟨o1, o2⟩ := op_ok a h.1 h.2.1 hal
    rw [show (nI 1 : Int32) = 1 from rfl] at m1 m2
    rw [if_pos hal]
    by_cases hA : ∃ i, i < zop (si p) (gW (r p)) ∧ a = nI (4096 + 4 * (ba p + i))
    · rw [m1 (Or.inl hA), (o1 hA).1, bn_s, bn_s]
      dsimp only
      obtain ⟨i, hi, rfl⟩ := hA
      rw [if_neg (show ¬ (1 : Int32) = 0 by decide), if_neg (show ¬ (1 : Int32) = 0 by decide), if_neg (show ¬ (1 : Int32) = 0 by decide), ck_p zj8, cj, ix8, ck_p z32, c32, lo j hj, me_set (by omega), gm_set (by omega), bn_s, bn_s, bn_s]
      exact ok_0 (g_ram h)
    · have hB : ¬ Al (fr p) (to p) (ba p) (si p) (r p) a 1 := fun g => by
        rcases g with g | ⟨g, -⟩
        · exact hA g
        · omega
      rw [m2 hB, (o2 hA).1, bn_s, bn_s]
      dsimp only
      rw [if_pos rfl, if_pos rfl, bn_s]
      exact ok_x h (by decide)
  · have e : k_GM_may τ (nI p) a 1 = some (zu τ 0 0 37 3, 0) := by
      unfold k_GM_may
      rw [if_neg hal]
      exact may_37 (Or.inl rfl) (Or.inl h.2.2.2.1)
    rw [if_neg hal, e, bn_s]
    dsimp only
    rw [if_pos rfl, bn_s]
    exact ok_x h (by decide)
end MEM
