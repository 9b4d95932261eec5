/-! what is open -/
theorem ar_yes {σ : zS} {p ba o i n : Nat} (h5 : σ 11 p 5 = nI (4096 + 4 * ba)) (h8 : σ 11 p 8 = nI o) (hb : ba ≤ 128) (ho : o ≤ 64) (h1 : 1 ≤ n) (hi : i + n ≤ o) : k_BP_areOpen σ p (nI (4096 + 4 * (ba + i))) (nI n) = some (σ, 1) := by
  have e1 : nI (4096 + 4 * (ba + i)) - nI (4096 + 4 * ba) = nI (4 * i) := by rw [pk_sub (by omega), show 4096 + 4 * (ba + i) - (4096 + 4 * ba) = 4 * i by omega]
  have e2 : (4 : Int32) * nI o = nI (4 * o) := by rw [show (4 : Int32) = nI 4 from rfl, pk_mul]
  have e3 : (nI (4 * o) - nI (4 * i)) >>> ((2 : Int32) &&& 31) = nI (o - i) := by rw [pk_sub (by omega), pk_shrN (by omega) ((2 : Int32) &&& 31) 2 (by decide), show (4 * o - 4 * i) / 2 ^ 2 = o - i by omega]
  unfold k_BP_areOpen
  rw [h5, h8, e1, e2, lt_e, lt_e, e3, if_neg (nI_pos (by omega)), if_neg (nI_ge (by omega) (by omega)), if_neg (nI_nlt (by omega) (by omega))]
theorem ar_no {σ : zS} {p ba o n : Nat} {a : Int32} (h5 : σ 11 p 5 = nI (4096 + 4 * ba)) (h8 : σ 11 p 8 = nI o) (hb : ba ≤ 128) (ho : o ≤ 64) (hn : n ≤ 512) (hal : a.toInt % 4 = 0) (hno : ∀ i, i + n ≤ o → i < o → a ≠ nI (4096 + 4 * (ba + i))) : k_BP_areOpen σ p a (nI n) = some (σ, 0) := by
  have e2 : (4 : Int32) * nI o = nI (4 * o) := by rw [show (4 : Int32) = nI 4 from rfl, pk_mul]
  unfold k_BP_areOpen
  rw [h5, h8, e2, lt_e, lt_e]
  rcases pk_ix (a - nI (4096 + 4 * ba)) (n := 4 * o) (by omega) with h | h | ⟨t, ht, e⟩
  · rw [if_pos h]
  · by_cases h0 : a - nI (4096 + 4 * ba) < 0
    · rw [if_pos h0]
    · rw [if_neg h0, if_pos h]
  · have ea : a = nI (4096 + 4 * ba + t) := by
      have : a = (a - nI (4096 + 4 * ba)) + nI (4096 + 4 * ba) := (Int32.sub_add_cancel a _).symm
      rw [this, e, nI_add, Nat.add_comm]
    rw [ea, nI_toInt (by omega)] at hal
    obtain ⟨i, rfl⟩ : ∃ i, t = 4 * i := ⟨t / 4, by omega⟩
    have e3 : (nI (4 * o) - nI (4 * i)) >>> ((2 : Int32) &&& 31) = nI (o - i) := by rw [pk_sub (by omega), pk_shrN (by omega) ((2 : Int32) &&& 31) 2 (by decide), show (4 * o - 4 * i) / 2 ^ 2 = o - i by omega]
    rw [e, if_neg (nI_pos (by omega)), if_neg (nI_ge (by omega) (by omega)), e3]
    have hlt : o - i < n := by
      refine Nat.not_le.mp (fun h => hno i (by omega) (by omega) ?_)
      rw [ea]
      congr 1; omega
    rw [if_pos (nI_lt hlt (by omega))]
theorem wi_yes {τ : zS} {p ba o i : Nat} (hp : p < 4) (h5 : τ 5 0 p = nI ba) (hb : ba ≤ 128) (ho : o ≤ 64) (hi : i < o) : k_GM_within τ (nI p) (nI (4096 + 4 * (ba + i))) (nI o) = some (τ, 1) := by
  have e1 : (4096 : Int32) + (4 : Int32) * nI ba = nI (4096 + 4 * ba) := by rw [show (4 : Int32) = nI 4 from rfl, pk_mul, show (4096 : Int32) = nI 4096 from rfl, nI_add]
  have e2 : nI (4096 + 4 * ba) + (4 : Int32) * nI o = nI (4096 + 4 * (ba + o)) := by rw [show (4 : Int32) = nI 4 from rfl, pk_mul, add4]
  have e3 : nI (4096 + 4 * (ba + i)) &&& (3 : Int32) = 0 := by
    rw [pk_andN (by omega) 2 (by decide), show (4096 + 4 * (ba + i)) % 2 ^ 2 = 0 by omega]; rfl
  unfold k_GM_within
  rw [ck_p (zi_n hp (by omega)), nI_clamp (by omega), h5, e1, lt_e, if_pos e3, if_neg (nI_nlt (by omega) (by omega)), e2, if_neg (nI_ge (by omega) (by omega))]
theorem wi_no {τ : zS} {p ba o : Nat} {a : Int32} (hp : p < 4) (h5 : τ 5 0 p = nI ba) (hb : ba ≤ 128) (ho : o ≤ 64) (hno : ∀ i, i < o → a ≠ nI (4096 + 4 * (ba + i))) : k_GM_within τ (nI p) a (nI o) = some (τ, 0) := by
  have e1 : (4096 : Int32) + (4 : Int32) * nI ba = nI (4096 + 4 * ba) := by rw [show (4 : Int32) = nI 4 from rfl, pk_mul, show (4096 : Int32) = nI 4096 from rfl, nI_add]
  have e2 : nI (4096 + 4 * ba) + (4 : Int32) * nI o = nI (4096 + 4 * (ba + o)) := by rw [show (4 : Int32) = nI 4 from rfl, pk_mul, add4]
  unfold k_GM_within
  rw [ck_p (zi_n hp (by omega)), nI_clamp (by omega), h5, e1, lt_e, e2]
  by_cases ha : a &&& (3 : Int32) = 0
  · rw [if_pos ha]
    by_cases hlt : a < nI (4096 + 4 * ba)
    · rw [if_pos hlt]
    · rw [if_neg hlt]
      by_cases hge : nI (4096 + 4 * (ba + o)) ≤ a
      · rw [if_pos hge]
      · exfalso
        have h0 : ¬ a < 0 := fun h => hlt (Int32.lt_trans h (show (0 : Int32) < nI (4096 + 4 * ba) from nI_lt (a := 0) (by omega) (by omega)))
        obtain ⟨m, hm, rfl⟩ := nI_of h0
        rw [pk_andN (by omega) 2 (by decide)] at ha
        have ha' : m % 2 ^ 2 = 0 := (nI_eq (a := m % 2 ^ 2) (b := 0) (by omega) (by omega)).mp ha
        have h1 : 4096 + 4 * ba ≤ m := Nat.not_lt.mp (fun h => hlt (nI_lt h (by omega)))
        have h2 : m < 4096 + 4 * (ba + o) := Nat.not_le.mp (fun h => hge (nI_le h hm))
        exact hno ((m - (4096 + 4 * ba)) / 4) (by omega) (by congr 1; omega)
  · rw [if_neg ha]
section OPEN
variable {σ τ : zS} {N u : Nat} {c fr to ba si ke en po : Nat → Nat} {r w b : Nat → Nat → Nat}
/-- the open words of a process -/
theorem op_le {p : Nat} (h : RL σ τ N u c fr to ba si ke en po r w b) (hp : p < N) : zop (si p) (gW (r p)) ≤ si p ∧ ba p + si p ≤ 128 ∧ si p ≤ 64 ∧ N ≤ 4 := by
  obtain ⟨hS, -, -⟩ := h.2.1 p hp
  have hba := hS.2.2.2.2.2.2.2.2.2.2.2.2.2.2.2.2.2.1
  have hsi := hS.2.2.2.2.2.2.2.2.2.2.2.2.2.2.2.2.1
  exact ⟨zop_le hsi, hba, by omega, h.1.2.2.2.2.2.2.2.2.1⟩
theorem io_of {p : Nat} {a x : Int32} (h : RL σ τ N u c fr to ba si ke en po r w b) (hp : p < N) (hx : zb x = true) (hw : k_GM_within τ (nI p) a (nI (zop (si p) (gW (r p)))) = some (τ, x)) : k_GM_isOpen τ (nI p) a = some (τ, x) := by
  obtain ⟨hS, -, hN⟩ := h.2.1 p hp
  have h4 : N ≤ 4 := h.1.2.2.2.2.2.2.2.2.1
  unfold k_GM_isOpen
  rw [gm_granted (by omega) (fun i hi => (hN.1 i hi).2.2.1) (fun i hi => (hN.1 i hi).1), bn_s]
  dsimp only
  rw [gm_openWords (by omega) hS.2.2.2.2.2.2.2.2.2.2.1 hS.2.2.2.2.2.2.2.2.2.2.2.2.2.2.2.2.1 (gW_le _), bn_s]
  dsimp only
  rw [hw, bn_s]
  exact ck_p hx
theorem io_yes {p i : Nat} (h : RL σ τ N u c fr to ba si ke en po r w b) (hp : p < N) (hi : i < zop (si p) (gW (r p))) : k_GM_isOpen τ (nI p) (nI (4096 + 4 * (ba p + i))) = some (τ, 1) := by
  obtain ⟨o1, o2, o3, o4⟩ := op_le h hp
  exact io_of h hp (by decide) (wi_yes (by omega) (h.2.1 p hp).1.2.2.2.2.2.2.2.2.2.1 (by omega) (by omega) hi)
theorem io_no {p : Nat} {a : Int32} (h : RL σ τ N u c fr to ba si ke en po r w b) (hp : p < N) (hno : ∀ i, i < zop (si p) (gW (r p)) → a ≠ nI (4096 + 4 * (ba p + i))) : k_GM_isOpen τ (nI p) a = some (τ, 0) := by
  obtain ⟨o1, o2, o3, o4⟩ := op_le h hp
  exact io_of h hp (by decide) (wi_no (by omega) (h.2.1 p hp).1.2.2.2.2.2.2.2.2.2.1 (by omega) (by omega) hno)
end OPEN
/-- eight words in a row -/
theorem ei_0 {τ : zS} {p a : Int32} : ∀ (m f k : Nat), k + m = 8 → m < f → k_GM_eight_5 p a f τ 0 (nI k) = some (τ, 0) := by
  intro m
  induction m with
  | zero =>
    intro f k hk hf
    obtain ⟨f, rfl⟩ : ∃ f', f = f' + 1 := ⟨f - 1, by omega⟩
    rw [k_GM_eight_5, if_pos (show (8 : Int32) ≤ nI k from nI_le (a := 8) (by omega) (by omega)), ck_p (by decide)]
  | succ m ih =>
    intro f k hk hf
    obtain ⟨f, rfl⟩ : ∃ f', f = f' + 1 := ⟨f - 1, by omega⟩
    rw [k_GM_eight_5, if_neg (show ¬ (8 : Int32) ≤ nI k from nI_ge (b := 8) (by omega) (by omega)), if_pos rfl]
    unfold k_GM_eight_34 k_GM_eight_35
    rw [lt_e, nI_1]
    exact ih f (k + 1) (by omega) (by omega)
theorem ei_loop {τ : zS} {p a : Int32} {v : Nat → Int32} (hv : ∀ k, k < 8 → k_GM_isOpen τ p (a + (4 : Int32) * nI k) = some (τ, v k)) : ∀ (m f k : Nat), k + m = 8 → m < f → ((∀ j, k ≤ j → j < 8 → v j = 1) → k_GM_eight_5 p a f τ 1 (nI k) = some (τ, 1)) ∧ ((∃ j, k ≤ j ∧ j < 8 ∧ v j = 0) → (∀ j, j < 8 → v j = 0 ∨ v j = 1) → k_GM_eight_5 p a f τ 1 (nI k) = some (τ, 0)) := by
  intro m
  induction m with
  | zero =>
    intro f k hk hf
    obtain ⟨f, rfl⟩ : ∃ f', f = f' + 1 := ⟨f - 1, by omega⟩
    refine ⟨fun _ => ?_, fun ⟨j, h1, h2, _⟩ => by omega⟩
    rw [k_GM_eight_5, if_pos (show (8 : Int32) ≤ nI k from nI_le (a := 8) (by omega) (by omega)), ck_p (by decide)]
  | succ m ih =>
    intro f k hk hf
    obtain ⟨f, rfl⟩ : ∃ f', f = f' + 1 := ⟨f - 1, by omega⟩
    obtain ⟨ih1, ih2⟩ := ih f (k + 1) (by omega) (by omega)
    have st : v k = 1 → k_GM_eight_5 p a (f + 1) τ 1 (nI k) = k_GM_eight_5 p a f τ 1 (nI (k + 1)) := fun e => by
      rw [k_GM_eight_5, if_neg (show ¬ (8 : Int32) ≤ nI k from nI_ge (b := 8) (by omega) (by omega)), if_neg (show ¬ (1 : Int32) = 0 by decide), hv k (by omega), bn_s]
      dsimp only
      rw [e, if_neg (show ¬ (1 : Int32) = 0 by decide)]
      unfold k_GM_eight_35
      rw [lt_e, nI_1]
    refine ⟨fun h => ?_, fun ⟨j, h1, h2, h3⟩ h01 => ?_⟩
    · rw [st (h k (by omega) (by omega))]
      exact ih1 (fun j g1 g2 => h j (by omega) g2)
    · rcases h01 k (by omega) with e | e
      · rw [k_GM_eight_5, if_neg (show ¬ (8 : Int32) ≤ nI k from nI_ge (b := 8) (by omega) (by omega)), if_neg (show ¬ (1 : Int32) = 0 by decide), hv k (by omega), bn_s]
        dsimp only
        rw [e, if_pos rfl]
        unfold k_GM_eight_34 k_GM_eight_35
        rw [lt_e, nI_1]
        exact ei_0 m f (k + 1) (by omega) (by omega)
      · rw [st e]
        refine ih2 ⟨j, ?_, h2, h3⟩ h01
        rcases Nat.lt_or_ge k j with g | g
        · omega
        · have : j = k := by omega
          rw [this, e] at h3
          exact absurd h3 (by decide)
