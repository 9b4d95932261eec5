/-! bits of ints and longs -/
theorem b_and1 (x : Int32) : x &&& (1 : Int32) = if x.toBitVec.getLsbD 0 = true then 1 else 0 := by
  rw [pk_and x 1 (by decide)]
  have e : x.toBitVec.getLsbD 0 = decide (x.toBitVec.toNat % 2 = 1) := by
    unfold BitVec.getLsbD
    exact Nat.testBit_zero _
  rw [e, show 2 ^ 1 = 2 from rfl]
  rcases Nat.mod_two_eq_zero_or_one x.toBitVec.toNat with h | h
  · rw [h]; rfl
  · rw [h]; rfl
theorem b_31 (x : Int32) : (x.toUInt32 >>> ((31 : Int32).toUInt32 &&& Int32.toUInt32 31)).toInt32 = if x.toBitVec.getLsbD 31 = true then 1 else 0 := by
  have hx := x.toBitVec.isLt
  have e : x.toBitVec.getLsbD 31 = decide (x.toBitVec.toNat / 2 ^ 31 % 2 = 1) := by
    unfold BitVec.getLsbD
    exact Nat.testBit_eq_decide_div_mod_eq
  have e2 : (x.toUInt32 >>> ((31 : Int32).toUInt32 &&& Int32.toUInt32 31)).toInt32 = nI (x.toBitVec.toNat / 2 ^ 31) := by
    apply Int32.toBitVec_inj.mp
    apply BitVec.eq_of_toNat_eq
    rw [pk_ushr _ _ 31 (by decide), pk_tn (by omega)]
  rw [e, e2]
  have h2 : x.toBitVec.toNat / 2 ^ 31 < 2 := by omega
  generalize x.toBitVec.toNat / 2 ^ 31 = m at h2
  obtain rfl | rfl : m = 0 ∨ m = 1 := by omega
  · rfl
  · rfl
theorem b_neg (x : Int32) : 0 ≤ x ↔ x.toBitVec.getLsbD 31 = false := by
  have hx := x.toBitVec.isLt
  have e : x.toBitVec.getLsbD 31 = decide (x.toBitVec.toNat / 2 ^ 31 % 2 = 1) := by
    unfold BitVec.getLsbD
    exact Nat.testBit_eq_decide_div_mod_eq
  rw [e, decide_eq_false_iff_not, Int32.le_iff_toInt_le]
  have e3 : x.toInt = x.toBitVec.toInt := rfl
  rw [e3, BitVec.toInt_eq_toNat_cond, show (0 : Int32).toInt = 0 from rfl]
  split <;> omega
theorem l_and1 (L : Int64) : L &&& (1 : Int64) = 1 ↔ L.toBitVec.getLsbD 0 = true := by
  have e : L.toBitVec.getLsbD 0 = decide (L.toBitVec.toNat % 2 = 1) := by
    unfold BitVec.getLsbD
    exact Nat.testBit_zero _
  have h3 : (L &&& (1 : Int64)).toBitVec.toNat = L.toBitVec.toNat % 2 := by
    rw [Int64.toBitVec_and, BitVec.toNat_and]
    exact Nat.and_one_is_mod _
  rw [e, decide_eq_true_iff]
  constructor
  · intro h
    rw [h] at h3
    exact h3.symm
  · intro h
    apply Int64.toBitVec_inj.mp
    apply BitVec.eq_of_toNat_eq
    rw [h3, h]
    rfl
theorem s_l1 (x : Int32) (i : Nat) : (x <<< ((1 : Int32) &&& 31)).toBitVec.getLsbD i = (decide (i < 32) && !decide (i < 1) && x.toBitVec.getLsbD (i - 1)) := by
  show (x.toBitVec <<< (((1 : Int32) &&& 31).toBitVec.smod 32).toNat).getLsbD i = _
  rw [show (((1 : Int32) &&& 31).toBitVec.smod 32).toNat = 1 from by decide, BitVec.getLsbD_shiftLeft]
theorem s_lk (x : Int32) (s : Int32) (k i : Nat) (hs : (s.toBitVec.smod 32).toNat = k) : (x <<< s).toBitVec.getLsbD i = (decide (i < 32) && !decide (i < k) && x.toBitVec.getLsbD (i - k)) := by
  show (x.toBitVec <<< (s.toBitVec.smod 32).toNat).getLsbD i = _
  rw [hs, BitVec.getLsbD_shiftLeft]
theorem s_u (x : Int32) (s : Int32) (k i : Nat) (hs : ((s.toUInt32 &&& Int32.toUInt32 31).toBitVec % 32).toNat = k) : (x.toUInt32 >>> (s.toUInt32 &&& Int32.toUInt32 31)).toInt32.toBitVec.getLsbD i = x.toBitVec.getLsbD (k + i) := by
  have e : (x.toUInt32 >>> (s.toUInt32 &&& Int32.toUInt32 31)).toInt32.toBitVec = x.toBitVec >>> k := by
    rw [← hs]
    exact UInt32.toBitVec_shiftRight _ _
  rw [e, BitVec.getLsbD_ushiftRight]
theorem b_msb (x : Int32) : x.toBitVec.msb = x.toBitVec.getLsbD 31 := BitVec.msb_eq_getLsbD_last _
theorem s_r1 (x : Int32) (i : Nat) : (x >>> ((1 : Int32) &&& 31)).toBitVec.getLsbD i = (!decide (32 ≤ i) && if 1 + i < 32 then x.toBitVec.getLsbD (1 + i) else x.toBitVec.getLsbD 31) := by
  show (x.toBitVec.sshiftRight (((1 : Int32) &&& 31).toBitVec.smod 32).toNat).getLsbD i = _
  rw [show (((1 : Int32) &&& 31).toBitVec.smod 32).toNat = 1 from by decide, BitVec.getLsbD_sshiftRight, b_msb]
theorem l_mask (i : Nat) : (4294967295 : Int64).toBitVec.getLsbD i = decide (i < 32) := by
  show (BitVec.ofNat 64 (2 ^ 32 - 1)).getLsbD i = _
  rw [BitVec.getLsbD_ofNat, Nat.testBit_two_pow_sub_one]
  by_cases h : i < 32
  · have h2 : i < 64 := by omega
    simp [h, h2]
  · simp [h]
theorem l_sx (v : Int32) (i : Nat) : v.toInt64.toBitVec.getLsbD i = (decide (i < 64) && if i < 32 then v.toBitVec.getLsbD i else v.toBitVec.getLsbD 31) := by
  rw [Int32.toBitVec_toInt64, BitVec.getLsbD_signExtend, b_msb]
theorem l_zx (v : Int32) (i : Nat) : (v.toInt64 &&& (4294967295 : Int64)).toBitVec.getLsbD i = v.toBitVec.getLsbD i := by
  rw [Int64.toBitVec_and, BitVec.getLsbD_and, l_mask, l_sx]
  by_cases h : i < 32
  · have h2 : i < 64 := by omega
    simp [h, h2]
  · rw [BitVec.getLsbD_of_ge v.toBitVec i (by omega)]
    simp [h]
theorem l_n : ∀ n, n < 34 → (((nI n).toInt64 &&& 63).toBitVec.smod 64).toNat = n := by decide +kernel
theorem l_shl (L : Int64) {n : Nat} (i : Nat) (hn : n < 34) : (L <<< ((nI n).toInt64 &&& 63)).toBitVec.getLsbD i = (decide (i < 64) && !decide (i < n) && L.toBitVec.getLsbD (i - n)) := by
  show (L.toBitVec <<< (((nI n).toInt64 &&& 63).toBitVec.smod 64).toNat).getLsbD i = _
  rw [l_n n hn, BitVec.getLsbD_shiftLeft]
theorem l_shr (L : Int64) {n : Nat} (i : Nat) (hn : n < 34) : (L >>> ((nI n).toInt64 &&& 63)).toBitVec.getLsbD i = (!decide (64 ≤ i) && if n + i < 64 then L.toBitVec.getLsbD (n + i) else L.toBitVec.getLsbD 63) := by
  show (L.toBitVec.sshiftRight (((nI n).toInt64 &&& 63).toBitVec.smod 64).toNat).getLsbD i = _
  rw [l_n n hn, BitVec.getLsbD_sshiftRight]
  rfl
theorem l_int (L : Int64) {i : Nat} (hi : i < 32) : L.toInt32.toBitVec.getLsbD i = L.toBitVec.getLsbD i := by
  have h2 : i < 64 := by omega
  rw [Int64.toBitVec_toInt32, BitVec.getLsbD_signExtend]
  simp [hi, h2]
theorem i_ext {x y : Int32} (h : ∀ i, i < 32 → x.toBitVec.getLsbD i = y.toBitVec.getLsbD i) : x = y := Int32.toBitVec_inj.mp (BitVec.eq_of_getLsbD_eq h)
/-! the reference's shifting, a step at a time -/
def stp (kd x : Int32) : Int32 := if kd = 0 then x <<< ((1 : Int32) &&& 31) else if kd = 1 then (x.toUInt32 >>> ((1 : Int32).toUInt32 &&& Int32.toUInt32 31)).toInt32 else if kd = 2 then x >>> ((1 : Int32) &&& 31) else ((x.toUInt32 >>> ((1 : Int32).toUInt32 &&& Int32.toUInt32 31)).toInt32) ||| (x <<< ((31 : Int32) &&& 31))
def cry (kd x : Int32) : Int32 := if kd = 0 then (x.toUInt32 >>> ((31 : Int32).toUInt32 &&& Int32.toUInt32 31)).toInt32 else x &&& (1 : Int32)
def itv (kd v : Int32) : Nat → Int32
  | 0 => v
  | k + 1 => stp kd (itv kd v k)
theorem it0 (v : Int32) : ∀ (k i : Nat), i < 32 → (itv 0 v k).toBitVec.getLsbD i = (decide (k ≤ i) && v.toBitVec.getLsbD (i - k)) := by
  intro k
  induction k with
  | zero => intro i hi; simp [itv]
  | succ k ih =>
    intro i hi
    show (stp 0 (itv 0 v k)).toBitVec.getLsbD i = _
    unfold stp
    rw [if_pos rfl, s_l1]
    by_cases h1 : i < 1
    · have h2 : ¬ k + 1 ≤ i := by omega
      simp [h1, h2]
    · rw [ih (i - 1) (by omega), show i - 1 - k = i - (k + 1) by omega]
      by_cases h2 : k + 1 ≤ i
      · have h3 : k ≤ i - 1 := by omega
        simp [hi, h1, h2, h3]
      · have h3 : ¬ k ≤ i - 1 := by omega
        simp [h2, h3]
theorem it1 (v : Int32) : ∀ (k i : Nat), (itv 1 v k).toBitVec.getLsbD i = v.toBitVec.getLsbD (i + k) := by
  intro k
  induction k with
  | zero => intro i; rfl
  | succ k ih =>
    intro i
    show (stp 1 (itv 1 v k)).toBitVec.getLsbD i = _
    unfold stp
    rw [if_neg (by decide), if_pos rfl, s_u _ _ 1 _ (by decide), ih, show 1 + i + k = i + (k + 1) by omega]
theorem it2 (v : Int32) : ∀ (k i : Nat), i < 32 → (itv 2 v k).toBitVec.getLsbD i = if i + k < 32 then v.toBitVec.getLsbD (i + k) else v.toBitVec.getLsbD 31 := by
  intro k
  induction k with
  | zero => intro i hi; rw [if_pos (by omega)]; rfl
  | succ k ih =>
    intro i hi
    show (stp 2 (itv 2 v k)).toBitVec.getLsbD i = _
    unfold stp
    rw [if_neg (by decide), if_neg (by decide), if_pos rfl, s_r1, decide_eq_false (show ¬ 32 ≤ i by omega)]
    by_cases h1 : 1 + i < 32
    · rw [if_pos h1, ih (1 + i) h1, show 1 + i + k = i + (k + 1) by omega]
      rfl
    · rw [if_neg h1, ih 31 (by omega)]
      by_cases h2 : 31 + k < 32
      · obtain rfl : k = 0 := by omega
        rw [if_pos h2, if_neg (by omega)]
        rfl
      · rw [if_neg h2, if_neg (by omega)]
        rfl
theorem it3 (v : Int32) : ∀ (k i : Nat), i < 32 → (itv 3 v k).toBitVec.getLsbD i = v.toBitVec.getLsbD ((i + k) % 32) := by
  intro k
  induction k with
  | zero => intro i hi; rw [show (i + 0) % 32 = i by omega]; rfl
  | succ k ih =>
    intro i hi
    show (stp 3 (itv 3 v k)).toBitVec.getLsbD i = _
    unfold stp
    rw [if_neg (by decide), if_neg (by decide), if_neg (by decide), Int32.toBitVec_or, BitVec.getLsbD_or, s_u _ _ 1 _ (by decide), s_lk _ _ 31 _ (by decide)]
    by_cases h1 : i < 31
    · rw [ih (1 + i) (by omega), show (1 + i + k) % 32 = (i + (k + 1)) % 32 by omega]
      simp [h1]
    · obtain rfl : i = 31 := by omega
      rw [BitVec.getLsbD_of_ge _ (1 + 31) (by omega), show 31 - 31 = 0 from rfl, ih 0 (by omega), show (0 + k) % 32 = (31 + (k + 1)) % 32 by omega]
      simp
theorem cr_b (kd x : Int32) : cry kd x = if x.toBitVec.getLsbD (if kd = 0 then 31 else 0) = true then 1 else 0 := by
  unfold cry
  by_cases h : kd = 0
  · rw [if_pos h, if_pos h, b_31]
  · rw [if_neg h, if_neg h, b_and1]
