/-! the calls that only look -/
theorem ix3 {p i : Nat} : (3 : Int32) * nI p + nI i = nI (3 * p + i) := by rw [show (3 : Int32) = nI 3 from rfl, pk_mul, nI_add]
theorem ix8 {p i : Nat} : (8 : Int32) * nI p + nI i = nI (8 * p + i) := by rw [show (8 : Int32) = nI 8 from rfl, pk_mul, nI_add]
theorem gr_step (n : Nat) {τ : zS} {p i l r : Nat} (hi : i < 3) (hp : p < 4) (hr : τ 20 0 (3 * p + i) = nI r) (h3 : r ≤ 3) : k_GM_granted_4 (nI p) (n + 1) τ (nI l) (nI i) = k_GM_granted_4 (nI p) n τ (nI (l + if 0 < r then 2 else 0)) (nI (i + 1)) := by
  rw [k_GM_granted_4, if_neg (show ¬ (3 : Int32) ≤ nI i from nI_ge (b := 3) hi (by omega)), ix3, ck_p (zi_n (by omega) (by omega)), nI_clamp (by omega), hr]
  by_cases h0 : 0 < r
  · rw [if_neg (show ¬ nI r ≤ 0 from nI_nle h0 (by omega)), if_pos h0]
    unfold k_GM_granted_28
    rw [lt_e, lt_e, show (2 : Int32) = nI 2 from rfl, nI_add, nI_1]
  · have : r = 0 := by omega
    subst this
    rw [if_pos (show nI 0 ≤ 0 by decide), if_neg h0]
    unfold k_GM_granted_28
    rw [lt_e, lt_e, show (0 : Int32) = nI 0 from rfl, nI_add, nI_1]
theorem gm_granted {τ : zS} {p : Nat} {r : Nat → Nat} (hp : p < 4) (hr : ∀ i, i < 3 → τ 20 0 (3 * p + i) = nI (r i)) (h3 : ∀ i, i < 3 → r i ≤ 3) : k_GM_granted τ (nI p) = some (τ, nI (gW r)) := by
  unfold k_GM_granted
  rw [show FU = 996 + 1 + 1 + 1 + 1 from rfl, show k_GM_granted_4 (nI p) (996 + 1 + 1 + 1 + 1) τ 0 0 = k_GM_granted_4 (nI p) (996 + 1 + 1 + 1 + 1) τ (nI 0) (nI 0) from rfl, gr_step _ (by omega) hp (hr 0 (by omega)) (h3 0 (by omega)), gr_step _ (by omega) hp (hr 1 (by omega)) (h3 1 (by omega)), gr_step _ (by omega) hp (hr 2 (by omega)) (h3 2 (by omega)), k_GM_granted_4, if_pos (show (3 : Int32) ≤ nI (0 + 1 + 1 + 1) by decide)]
  unfold gW
  rw [Nat.zero_add]
theorem gW_le (r : Nat → Nat) : gW r ≤ 6 := by unfold gW; split <;> split <;> split <;> omega
theorem zop_le {si g : Nat} (h : si = 16 ∨ si = 32 ∨ si = 64) : zop si g ≤ si := by
  unfold zop
  have := Nat.div_mul_le_self (si - g) (si / 8)
  omega
theorem zn_n {n : Nat} (h0 : 0 < n) (h : n < 2 ^ 31) : zn (nI n) = true := decide_eq_true (nI_ne0 h0 h)
theorem gm_openWords {τ : zS} {p si g : Nat} (hp : p < 4) (hs : τ 6 0 p = nI si) (h : si = 16 ∨ si = 32 ∨ si = 64) (hg : g ≤ 6) : k_GM_openWords τ (nI p) (nI g) = some (τ, nI (zop si g)) := by
  have h8 : nI si / 8 = nI (si / 8) := by rw [show (8 : Int32) = nI 8 from rfl, pk_div (by omega) (by omega) (by omega)]
  unfold k_GM_openWords zop
  rw [ck_p (zi_n hp (by omega)), ck_p (by decide), nI_clamp (by omega), hs, h8, lt_e, ck_p (zi_n hp (by omega)), ck_p (zn_n (by omega) (by omega)), pk_sub (by omega), pk_div (by omega) (by omega) (by omega), pk_mul]
/-- a call that looks at a process -/
theorem look1 {f g : zS → Int32 → Option (zS × Int32)} (d : Int32) (hf : ∀ (σ τ : zS) (a : Int32) (N : Nat), N ≤ 4 → k_GK_find σ a = some (σ, none) → k_GM_there τ a = some (τ, 0) → f σ a = some (σ, d) ∧ g τ a = some (τ, d)) (hg : ∀ (σ τ : zS) (N u p : Nat) (c fr to ba si ke en po : Nat → Nat) (r w b : Nat → Nat → Nat), p < N → N ≤ 4 → Bd σ τ N → Ps σ τ p (fr p) (to p) (ba p) (si p) (ke p) (en p) (po p) (r p) (w p) (b p) → Qs σ τ N u c → k_GK_find σ (nI p) = some (σ, some p) → k_GM_there τ (nI p) = some (τ, 1) → ∃ v, f σ (nI p) = some (σ, v) ∧ g τ (nI p) = some (τ, v)) : ok1 Rel f g := by
  intro σ τ a hR
  have hR' := hR
  obtain ⟨N, u, c, fr, to, ba, si, ke, en, po, r, w, b, hB, hP, hQ, hZ⟩ := hR
  have h4 := hB.2.2.2.2.2.2.2.2.1
  rcases q_find hB.2.2.2.2.2.2.1 h4 a with ⟨e, h⟩ | ⟨j, hj, rfl, e⟩
  · obtain ⟨h1, h2⟩ := hf σ τ a N h4 e ((q_there hB.2.2.2.2.2.2.2.1 a).1 h)
    exact ⟨σ, τ, d, h1, h2, hR'⟩
  · obtain ⟨v, h1, h2⟩ := hg σ τ N u j c fr to ba si ke en po r w b hj h4 hB (hP j hj) hQ e ((q_there hB.2.2.2.2.2.2.2.1 (nI j)).2 j hj h4 rfl)
    exact ⟨σ, τ, v, h1, h2, hR'⟩
theorem k_state : ok1 Rel k_GK_state k_GM_state := look1 (-1) (fun σ τ a N _ h1 h2 => ⟨by unfold k_GK_state; rw [h1]; rfl, by unfold k_GM_state; rw [h2]; rfl⟩) (fun σ τ N u p c fr to ba si ke en po r w b hp h4 hB hP hQ h1 h2 => ⟨σ 11 p 16, by unfold k_GK_state; rw [h1]; rfl, by
  unfold k_GM_state
  rw [h2, bn_s]
  show ck (zi (nI p) 4) (some (τ, τ 10 0 (nI p).toNatClampNeg)) = _
  rw [ck_p (zi_n (by omega) (by omega)), nI_clamp (by omega), hP.2.1.2.2.2.2.2.2.2.2.1]⟩)
theorem k_fault : ok1 Rel k_GK_fault k_GM_fault := look1 (-1) (fun σ τ a N _ h1 h2 => ⟨by unfold k_GK_fault; rw [h1]; rfl, by unfold k_GM_fault; rw [h2]; rfl⟩) (fun σ τ N u p c fr to ba si ke en po r w b hp h4 hB hP hQ h1 h2 => ⟨σ 11 p 17, by unfold k_GK_fault; rw [h1]; rfl, by
  unfold k_GM_fault
  rw [h2, bn_s]
  show ck (zi (nI p) 4) (some (τ, τ 17 0 (nI p).toNatClampNeg)) = _
  rw [ck_p (zi_n (by omega) (by omega)), nI_clamp (by omega), hP.2.1.2.2.2.2.2.2.2.2.2.2.2.2.2.1]⟩)
theorem k_faults : ok1 Rel k_GK_faults k_GM_faults := look1 (-1) (fun σ τ a N _ h1 h2 => ⟨by unfold k_GK_faults; rw [h1]; rfl, by unfold k_GM_faults; rw [h2]; rfl⟩) (fun σ τ N u p c fr to ba si ke en po r w b hp h4 hB hP hQ h1 h2 => ⟨σ 11 p 18, by unfold k_GK_faults; rw [h1]; rfl, by
  unfold k_GM_faults
  rw [h2, bn_s]
  show ck (zi (nI p) 4) (some (τ, τ 18 0 (nI p).toNatClampNeg)) = _
  rw [ck_p (zi_n (by omega) (by omega)), nI_clamp (by omega), hP.2.1.2.2.2.2.2.2.2.2.2.2.2.2.2.2.1]⟩)
theorem k_block : ok1 Rel k_GK_block k_GM_block := look1 (-1) (fun σ τ a N _ h1 h2 => ⟨by unfold k_GK_block; rw [h1]; rfl, by unfold k_GM_block; rw [h2]; rfl⟩) (fun σ τ N u p c fr to ba si ke en po r w b hp h4 hB hP hQ h1 h2 => ⟨σ 11 p 5, by unfold k_GK_block; rw [h1]; rfl, by
  unfold k_GM_block
  rw [h2, bn_s]
  show ck (zi (nI p) 4) (some (τ, (4096 : Int32) + (4 : Int32) * τ 5 0 (nI p).toNatClampNeg)) = _
  rw [ck_p (zi_n (by omega) (by omega)), nI_clamp (by omega), hP.1.2.2.2.1, hP.1.2.2.2.2.2.2.2.2.2.1, show (4 : Int32) = nI 4 from rfl, pk_mul, show (4096 : Int32) = nI 4096 from rfl, nI_add]⟩)
theorem k_open : ok1 Rel k_GK_open k_GM_open := look1 (-1) (fun σ τ a N _ h1 h2 => ⟨by unfold k_GK_open; rw [h1]; rfl, by unfold k_GM_open; rw [h2]; rfl⟩) (fun σ τ N u p c fr to ba si ke en po r w b hp h4 hB hP hQ h1 h2 => ⟨σ 11 p 8, by unfold k_GK_open; rw [h1]; rfl, by
  unfold k_GM_open
  rw [h2, bn_s]
  show bn (k_GM_granted τ (nI p)) (fun x => match x with | (s3, r4) => bn (k_GM_openWords s3 (nI p) r4) fun x => match x with | (s5, r6) => some (s5, r6)) = _
  rw [gm_granted (by omega) (fun i hi => (hP.2.2.1 i hi).2.2.1) (fun i hi => (hP.2.2.1 i hi).1), bn_s]
  show bn (k_GM_openWords τ (nI p) (nI (gW (r p)))) _ = _
  rw [gm_openWords (by omega) hP.1.2.2.2.2.2.2.2.2.2.2.1 hP.1.2.2.2.2.2.2.2.2.2.2.2.2.2.2.2.2.1 (gW_le _), bn_s, hP.2.2.2.2.1]⟩)
