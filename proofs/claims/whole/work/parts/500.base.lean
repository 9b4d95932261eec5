/-! base rows of the mathematics: reads of states, checks, the two memories -/
theorem zu_rd (σ : zS) (k p i : Nat) (v : Int32) (a b j : Nat) : zu σ k p i v a b j = if (a = k ∧ b = p) ∧ j = i then v else σ a b j := by
  unfold zu
  by_cases h : a = k ∧ b = p
  · rw [if_pos h]
    obtain ⟨rfl, rfl⟩ := h
    unfold upd
    by_cases hj : j = i
    · rw [if_pos hj, if_pos ⟨⟨rfl, rfl⟩, hj⟩]
    · rw [if_neg hj, if_neg (fun h => hj h.2)]
  · rw [if_neg h, if_neg (fun h' => h h'.1)]
theorem lt_e {α β : Type} (e : α) (k : α → Option β) : lt e k = k e := rfl
theorem ck_p {β : Type} {b : Bool} {x : Option β} (h : b = true) : ck b x = x := if_pos h
theorem bn_s {α β : Type} (a : α) (k : α → Option β) : bn (some a) k = k a := rfl
theorem bn_e {α β : Type} {x : Option α} {a : α} {k : α → Option β} (h : x = some a) : bn x k = k a := by rw [h]; rfl
theorem zi_n {n N : Nat} (h : n < N) (hN : N < 2 ^ 31) : zi (nI n) N = true := decide_eq_true (vp_in_nI h hN)
theorem ram_ix {i : Nat} (hi : i < 128) : (nI (4096 + 4 * i) - (4096 : Int32)) >>> ((2 : Int32) &&& 31) = nI i := by
  have h1 : nI (4096 + 4 * i) - (4096 : Int32) = nI (4 * i) := by
    rw [show (4096 : Int32) = nI 4096 from rfl, pk_sub (by omega), show 4096 + 4 * i - 4096 = 4 * i by omega]
  rw [h1, pk_shrN (by omega) ((2 : Int32) &&& 31) 2 (by decide)]
  congr 1; omega
theorem ram_ix4 {i : Nat} (hi : i < 128) : (nI (4096 + 4 * i) - (4096 : Int32)) / 4 = nI i := by
  have h1 : nI (4096 + 4 * i) - (4096 : Int32) = nI (4 * i) := by
    rw [show (4096 : Int32) = nI 4096 from rfl, pk_sub (by omega), show 4096 + 4 * i - 4096 = 4 * i by omega]
  rw [h1, show (4 : Int32) = nI 4 from rfl, pk_div (by omega) (by omega) (by omega)]
  congr 1; omega
theorem nI_lt_lit {n m : Nat} (h : n < m) (hm : m < 2 ^ 31) : nI n < nI m := nI_lt h hm
theorem me_set {σ : zS} {i : Nat} {v : Int32} (hi : i < 128) : k_Me_setRamWord σ (nI (4096 + 4 * i)) v = some (zu σ 3 0 i v) := by
  unfold k_Me_setRamWord
  rw [ram_ix hi, lt_e, if_neg (nI_pos (by omega)), if_neg (show ¬ (128 : Int32) ≤ nI i from nI_ge (b := 128) (by omega) (by omega)), ck_p (zi_n hi (by omega)), lt_e, nI_clamp (by omega)]
theorem me_get {σ : zS} {i : Nat} (hi : i < 128) : k_Me_ramWord σ (nI (4096 + 4 * i)) = some (σ, σ 3 0 i) := by
  unfold k_Me_ramWord
  rw [ram_ix hi, lt_e, if_neg (nI_pos (by omega)), if_pos (show nI i < (128 : Int32) from nI_lt (b := 128) (by omega) (by omega)), ck_p (zi_n hi (by omega)), nI_clamp (by omega)]
theorem gm_set {τ : zS} {i : Nat} {v : Int32} (hi : i < 128) : k_GM_set τ (nI (4096 + 4 * i)) v = some (zu τ 2 0 i v) := by
  unfold k_GM_set
  rw [ck_p (by decide), ram_ix4 hi, ck_p (zi_n hi (by omega)), lt_e, nI_clamp (by omega)]
theorem gm_get {τ : zS} {i : Nat} (hi : i < 128) : k_GM_get τ (nI (4096 + 4 * i)) = some (τ, τ 2 0 i) := by
  unfold k_GM_get
  rw [if_neg (show ¬ nI (4096 + 4 * i) < (4096 : Int32) from nI_nlt (b := 4096) (by omega) (by omega)), ck_p (by decide), ram_ix4 hi, ck_p (zi_n hi (by omega)), nI_clamp (by omega)]
/-- the flash's word at an even halfword -/
def fw (f : Nat → Int32) (k : Nat) : Int32 := f k ||| (f (k + 1) <<< ((16 : Int32) &&& 31))
theorem gm_getF {τ : zS} {k : Nat} (hk : k + 1 < 256) : k_GM_get τ (nI (2 * k)) = some (τ, fw (τ 1 0) k) := by
  have h2 : nI (2 * k) / 2 = nI k := by
    rw [show (2 : Int32) = nI 2 from rfl, pk_div (by omega) (by omega) (by omega)]
    congr 1; omega
  have h3 : nI k + (1 : Int32) = nI (k + 1) := nI_1 k
  unfold k_GM_get
  rw [if_pos (show nI (2 * k) < (4096 : Int32) from nI_lt (b := 4096) (by omega) (by omega)), ck_p (by decide), h2, ck_p (zi_n (by omega) (by omega)), ck_p (by decide), h3, ck_p (zi_n (by omega) (by omega)), nI_clamp (by omega), nI_clamp (by omega)]
  rfl
theorem me_flash {σ : zS} {k : Nat} (hk : k + 1 < 256) : k_Me_flashWord σ (nI (2 * k)) = some (σ, fw (σ 2 0) k) := by
  have h2 : nI (2 * k) >>> ((1 : Int32) &&& 31) = nI k := by
    rw [pk_shrN (by omega) ((1 : Int32) &&& 31) 1 (by decide)]
    congr 1; omega
  have h3 : nI k + (1 : Int32) = nI (k + 1) := nI_1 k
  unfold k_Me_flashWord
  rw [h2, lt_e, if_neg (nI_pos (by omega)), h3, if_pos (show nI (k + 1) < (256 : Int32) from nI_lt (b := 256) (by omega) (by omega)), ck_p (zi_n (by omega) (by omega)), ck_p (zi_n (by omega) (by omega)), nI_clamp (by omega), nI_clamp (by omega)]
  rfl
