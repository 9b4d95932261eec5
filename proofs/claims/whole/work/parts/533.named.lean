/-! the registers that push and pop name -/
theorem sr_n : ∀ k, k < 32 → ((nI k &&& 31).toBitVec.smod 32).toNat = k := by decide +kernel
theorem b_sr (x : Int32) {k : Nat} (hk : k < 32) : (x >>> (nI k &&& 31)) &&& (1 : Int32) = if x.toBitVec.getLsbD k = true then 1 else 0 := by
  have e : (x >>> (nI k &&& 31)).toBitVec.getLsbD 0 = x.toBitVec.getLsbD k := by
    show (x.toBitVec.sshiftRight ((nI k &&& 31).toBitVec.smod 32).toNat).getLsbD 0 = _
    rw [sr_n k hk, BitVec.getLsbD_sshiftRight, decide_eq_false (show ¬ 32 ≤ 0 by omega), if_pos (by omega)]
    rfl
  rw [b_and1, e]
theorem b_sr1 (x : Int32) {k : Nat} (hk : k < 32) : (x >>> (nI k &&& 31)) &&& (1 : Int32) = 1 ↔ x.toBitVec.getLsbD k = true := by
  rw [b_sr x hk]
  cases x.toBitVec.getLsbD k
  · exact ⟨fun g => absurd g (by decide), fun g => absurd g (by decide)⟩
  · exact ⟨fun _ => rfl, fun _ => rfl⟩
theorem m511 (i : Nat) : (511 : Int32).toBitVec.getLsbD i = decide (i < 9) := by
  show (BitVec.ofNat 32 (2 ^ 9 - 1)).getLsbD i = _
  rw [BitVec.getLsbD_ofNat, Nat.testBit_two_pow_sub_one]
  by_cases h : i < 9
  · have h2 : i < 32 := by omega
    simp [h, h2]
  · simp [h]
theorem b_511 (v : Int32) {k : Nat} (hk : k < 9) : (v &&& (511 : Int32)).toBitVec.getLsbD k = v.toBitVec.getLsbD k := by
  rw [Int32.toBitVec_and, BitVec.getLsbD_and, m511, decide_eq_true hk, Bool.and_true]
theorem b_256n : ∀ m, m < 512 → (nI m &&& (256 : Int32) = 0 ↔ (nI m).toBitVec.getLsbD 8 = false) := by decide +kernel
theorem b_256' (v : Int32) : (v &&& (511 : Int32)) &&& (256 : Int32) = 0 ↔ v.toBitVec.getLsbD 8 = false := by
  obtain ⟨m, hm, e⟩ := pk_andE v (m := 511) 9 (by decide)
  have := b_511 v (show 8 < 9 by omega)
  rw [e] at this ⊢
  rw [b_256n m (by omega), this]
theorem b_256 (v : Int32) : v &&& (256 : Int32) = 0 ↔ v.toBitVec.getLsbD 8 = false := by
  rw [← b_256', Int32.and_assoc, show (511 : Int32) &&& (256 : Int32) = 256 by decide]
/-- how many bits below k -/
def cnt (B : Nat → Bool) : Nat → Nat
  | 0 => 0
  | k + 1 => cnt B k + (if B k = true then 1 else 0)
theorem cnt_le (B : Nat → Bool) : ∀ k, cnt B k ≤ k := by
  intro k
  induction k with
  | zero => exact Nat.le_refl 0
  | succ k ih => unfold cnt; split <;> omega
theorem cnt_mono (B : Nat → Bool) : ∀ n k, k ≤ n → cnt B k ≤ cnt B n := by
  intro n
  induction n with
  | zero => intro k hk; obtain rfl : k = 0 := by omega
            exact Nat.le_refl _
  | succ n ih =>
    intro k hk
    by_cases h : k = n + 1
    · rw [h]; exact Nat.le_refl _
    · have := ih k (by omega)
      rw [show cnt B (n + 1) = cnt B n + (if B n = true then 1 else 0) from rfl]
      omega
theorem cnt_lt (B : Nat → Bool) {n k : Nat} (hk : k < n) (hb : B k = true) : cnt B k < cnt B n := by
  have h1 := cnt_mono B n (k + 1) (by omega)
  have h2 : cnt B (k + 1) = cnt B k + 1 := by
    rw [show cnt B (k + 1) = cnt B k + (if B k = true then 1 else 0) from rfl, if_pos hb]
  omega
theorem cnt_first (B : Nat → Bool) : ∀ n, 0 < cnt B n → ∃ k, k < n ∧ B k = true ∧ cnt B k = 0 := by
  intro n
  induction n with
  | zero => intro h; exact absurd h (Nat.lt_irrefl 0)
  | succ n ih =>
    intro h
    by_cases h0 : 0 < cnt B n
    · obtain ⟨k, g1, g2, g3⟩ := ih h0
      exact ⟨k, by omega, g2, g3⟩
    · have e : cnt B (n + 1) = cnt B n + (if B n = true then 1 else 0) := rfl
      rw [e] at h
      refine ⟨n, by omega, ?_, by omega⟩
      cases hb : B n
      · rw [hb, if_neg (by decide)] at h; omega
      · rfl
theorem cnt_last (B : Nat → Bool) : ∀ n, 0 < cnt B n → ∃ k, k < n ∧ B k = true ∧ cnt B k + 1 = cnt B n := by
  intro n
  induction n with
  | zero => intro h; exact absurd h (Nat.lt_irrefl 0)
  | succ n ih =>
    intro h
    have e : cnt B (n + 1) = cnt B n + (if B n = true then 1 else 0) := rfl
    by_cases hb : B n = true
    · exact ⟨n, by omega, hb, by rw [e, if_pos hb]⟩
    · rw [if_neg hb, Nat.add_zero] at e
      rw [e] at h ⊢
      obtain ⟨k, g1, g2, g3⟩ := ih h
      exact ⟨k, by omega, g2, g3⟩
/-- the JDK's way to count -/
def bcx (a : Int32) : Int32 :=
  let x1 := a - (((a.toUInt32 >>> ((1 : Int32).toUInt32 &&& Int32.toUInt32 31)).toInt32) &&& (1431655765 : Int32))
  let x2 := (x1 &&& (858993459 : Int32)) + (((x1.toUInt32 >>> ((2 : Int32).toUInt32 &&& Int32.toUInt32 31)).toInt32) &&& (858993459 : Int32))
  let x3 := (x2 + ((x2.toUInt32 >>> ((4 : Int32).toUInt32 &&& Int32.toUInt32 31)).toInt32)) &&& (252645135 : Int32)
  let x4 := x3 + ((x3.toUInt32 >>> ((8 : Int32).toUInt32 &&& Int32.toUInt32 31)).toInt32)
  let x5 := x4 + ((x4.toUInt32 >>> ((16 : Int32).toUInt32 &&& Int32.toUInt32 31)).toInt32)
  x5 &&& (63 : Int32)
theorem ji_bc (s : zS) (a : Int32) : k_JI_bitCount s a = some (s, bcx a) := rfl
theorem bcn : ∀ m, m < 512 → bcx (nI m) = nI (cnt (fun k => (nI m).toBitVec.getLsbD k) 9) := by decide +kernel
theorem cnt_cg {B D : Nat → Bool} : ∀ n, (∀ k, k < n → B k = D k) → cnt B n = cnt D n := by
  intro n
  induction n with
  | zero => intro _; rfl
  | succ n ih =>
    intro h
    rw [show cnt B (n + 1) = cnt B n + (if B n = true then 1 else 0) from rfl, show cnt D (n + 1) = cnt D n + (if D n = true then 1 else 0) from rfl, ih (fun k hk => h k (by omega)), h n (by omega)]
theorem bc_ok (s : zS) (v : Int32) : k_JI_bitCount s (v &&& (511 : Int32)) = some (s, nI (cnt (fun k => v.toBitVec.getLsbD k) 9)) := by
  obtain ⟨m, hm, e⟩ := pk_andE v (m := 511) 9 (by decide)
  rw [ji_bc, e, bcn m (by omega)]
  rw [cnt_cg 9 (fun k hk => ?_)]
  have := b_511 v hk
  rw [e] at this
  exact this
theorem gm_named {s : zS} (v : Int32) : k_GM_named s (v &&& (511 : Int32)) = some (s, nI (cnt (fun k => v.toBitVec.getLsbD k) 9)) := by
  have lp : ∀ (m k f : Nat), k + m = 9 → m < f → k_GM_named_4 (v &&& (511 : Int32)) f s (nI (cnt (fun k => v.toBitVec.getLsbD k) k)) (nI k) = some (s, nI (cnt (fun k => v.toBitVec.getLsbD k) 9)) := by
    intro m
    induction m with
    | zero =>
      intro k f hk hf
      obtain ⟨f, rfl⟩ : ∃ f', f = f' + 1 := ⟨f - 1, by omega⟩
      obtain rfl : k = 9 := by omega
      rw [k_GM_named_4, if_pos (by decide)]
    | succ m ih =>
      intro k f hk hf
      obtain ⟨f, rfl⟩ : ∃ f', f = f' + 1 := ⟨f - 1, by omega⟩
      rw [k_GM_named_4, if_neg (show ¬ (9 : Int32) ≤ nI k from nI_ge (b := 9) (by omega) (by omega)), lt_e, lt_e, b_sr _ (by omega), b_511 v (by omega), nI_1]
      have e : nI (cnt (fun k => v.toBitVec.getLsbD k) k) + (if v.toBitVec.getLsbD k = true then (1 : Int32) else 0) = nI (cnt (fun k => v.toBitVec.getLsbD k) (k + 1)) := by
        rw [show cnt (fun k => v.toBitVec.getLsbD k) (k + 1) = cnt (fun k => v.toBitVec.getLsbD k) k + (if v.toBitVec.getLsbD k = true then 1 else 0) from rfl]
        split
        · exact nI_1 _
        · exact Int32.add_zero _
      rw [e]
      exact ih (k + 1) f (by omega) (by omega)
  exact lp 9 0 FU (by omega) (by unfold FU; omega)
theorem al_add {a : Int32} {k : Nat} (ha : a.toInt % 4 = 0) (hk : k < 1000) : (a + nI (4 * k)).toInt % 4 = 0 := by
  rw [Int32.toInt_add, nI_toInt (by omega)]
  unfold Int.bmod
  dsimp only
  split <;> omega
theorem al_sub' {a : Int32} {k : Nat} (ha : a.toInt % 4 = 0) (hk : k < 1000) : (a - nI (4 * k)).toInt % 4 = 0 := by
  rw [Int32.toInt_sub, nI_toInt (by omega)]
  unfold Int.bmod
  dsimp only
  split <;> omega
theorem mul4 (k : Nat) : (4 : Int32) * nI k = nI (4 * k) := by rw [show (4 : Int32) = nI 4 from rfl, pk_mul]
theorem a4_1 (X : Int32) (k : Nat) : X + nI (4 * k) + (4 : Int32) = X + nI (4 * (k + 1)) := by
  rw [Int32.add_assoc, show (4 : Int32) = nI 4 from rfl, nI_add, show 4 * k + 4 = 4 * (k + 1) by omega]
