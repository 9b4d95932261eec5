/-! the relation between the two states -/
/-- the open words of a block of si words with g words of grants -/
def zop (si g : Nat) : Nat := (si - g) / (si / 8) * (si / 8)
/-- the words of the grants, by ranks -/
def gW (r : Nat → Nat) : Nat := (if 0 < r 0 then 2 else 0) + (if 0 < r 1 then 2 else 0) + (if 0 < r 2 then 2 else 0)
/-- where a process lies -/
def St (a : Nat → Int32) (τ : zS) (p fr to ba si ke en po : Nat) : Prop :=
  a 2 = nI (2 * fr) ∧ a 3 = nI (2 * (fr + to)) ∧ a 4 = nI (2 * (fr + en)) ∧ a 5 = nI (4096 + 4 * ba) ∧ a 6 = nI si ∧ a 7 = nI ke ∧ a 9 = nI po ∧
  τ 3 0 p = nI fr ∧ τ 4 0 p = nI to ∧ τ 5 0 p = nI ba ∧ τ 6 0 p = nI si ∧ τ 7 0 p = nI ke ∧ τ 8 0 p = nI (2 * (fr + en)) ∧ τ 9 0 p = nI po ∧
  fr + to ≤ 256 ∧ 8 ≤ to ∧ (si = 16 ∨ si = 32 ∨ si = 64) ∧ ba + si ≤ 128 ∧ 8 ≤ ke ∧ ke ≤ si ∧ en < to ∧ po ≤ 15
/-- registers, state, faults -/
def Dy (a lo : Nat → Int32) (τ : zS) (p ba si : Nat) : Prop :=
  (∀ i, i < 8 → lo i = τ 11 0 (8 * p + i)) ∧ a 11 = τ 12 0 p ∧ a 12 = τ 13 0 p ∧ (a 15 = 0 → a 13 = τ 14 0 p) ∧ a 14 = τ 15 0 p ∧ (∃ f, f < 16 ∧ a 14 = nI f) ∧ a 15 = τ 16 0 p ∧ (a 15 = 0 ∨ a 15 = 1) ∧ a 16 = τ 10 0 p ∧ (a 16 = 0 ∨ a 16 = 1 ∨ a 16 = 2) ∧ (a 16 = 1 → a 15 = 1) ∧ (a 15 = 1 → ∃ f, f + 8 ≤ si ∧ a 11 = nI (4096 + 4 * (ba + f))) ∧ (a 11).toInt % 4 = 0 ∧ a 17 = τ 17 0 p ∧ a 18 = τ 18 0 p ∧ a 19 = τ 19 0 p
/-- grants, functions, buffers -/
def Nt (a n g f d bA bW : Nat → Int32) (τ : zS) (p ba si : Nat) (r w b : Nat → Nat) : Prop :=
  (∀ i, i < 3 → r i ≤ 3 ∧ 2 * r i ≤ gW r ∧ τ 20 0 (3 * p + i) = nI (r i) ∧ g i = (if r i = 0 then 0 else nI (4096 + 4 * (ba + si - 2 * r i)))) ∧ n 6 = nI (gW r) ∧ a 8 = nI (zop si (gW r)) ∧
  (∀ i, i < 3 → f i = τ 21 0 (3 * p + i) ∧ (f i ≠ 0 → d i = τ 22 0 (3 * p + i))) ∧
  (∀ i, i < 3 → bW i = nI (w i) ∧ τ 24 0 (3 * p + i) = nI (w i) ∧ (0 < w i → bA i = nI (4096 + 4 * (ba + b i)) ∧ τ 23 0 (3 * p + i) = nI (4096 + 4 * (ba + b i)) ∧ b i + w i ≤ zop si (gW r)))
/-- the waiting upcalls: a process's own row, and the one row of the reference -/
def qC (x y z : Nat → Int32) (c : Nat) : List (Int32 × Int32 × Int32) := (List.range c).map (fun i => (x i, y i, z i))
def qM (τ : zS) (u : Nat) : List (Int32 × Int32 × Int32 × Int32) := (List.range u).map (fun i => (τ 25 0 i, τ 26 0 i, τ 27 0 i, τ 28 0 i))
def qF (l : List (Int32 × Int32 × Int32 × Int32)) (p : Nat) : List (Int32 × Int32 × Int32) := l.filterMap (fun e => if e.1 = nI p then some e.2 else none)
/-- the board -/
def Bd (σ τ : zS) (N : Nat) : Prop :=
  σ 2 0 = τ 1 0 ∧ (∀ i, i < 256 → ∃ n, n ≤ 65535 ∧ σ 2 0 i = nI n) ∧ σ 3 0 = τ 2 0 ∧ σ 8 0 3 = τ 0 0 2 ∧ σ 0 0 7 = τ 0 0 3 ∧ σ 0 0 8 = τ 0 0 4 ∧ σ 0 0 6 = nI N ∧ τ 0 0 5 = nI N ∧ N ≤ 4 ∧ (σ 0 0 7 = -1 ∨ ∃ t, t < N ∧ σ 0 0 7 = nI t) ∧ True ∧ σ 5 0 2 = τ 0 0 33 ∧ (∃ n, n ≤ 8 ∧ σ 5 0 2 = nI n) ∧ σ 6 0 = τ 29 0 ∧ σ 5 0 3 = τ 0 0 35 ∧ σ 7 0 = τ 30 0
/-- a process -/
def Ps (σ τ : zS) (p : Nat) (fr to ba si ke en po : Nat) (r w b : Nat → Nat) : Prop :=
  St (σ 11 p) τ p fr to ba si ke en po ∧ Dy (σ 11 p) (σ 12 p) τ p ba si ∧ Nt (σ 11 p) (σ 13 p) (σ 14 p) (σ 15 p) (σ 16 p) (σ 17 p) (σ 18 p) τ p ba si r w b
/-- the queues -/
def Qs (σ τ : zS) (N u : Nat) (c : Nat → Nat) : Prop :=
  τ 0 0 28 = nI u ∧ u ≤ 16 ∧ (∀ p, p < N → σ 19 p 3 = nI (c p) ∧ c p ≤ 4 ∧ qC (σ 20 p) (σ 21 p) (σ 22 p) (c p) = qF (qM τ u) p) ∧ ∀ e ∈ qM τ u, ∃ o d : Nat, o < N ∧ d < 3 ∧ e.1 = nI o ∧ e.2.1 = nI d ∧ σ 15 o d ≠ 0
def Rel (σ τ : zS) : Prop := ∃ (N u : Nat) (c fr to ba si ke en po : Nat → Nat) (r w b : Nat → Nat → Nat), Bd σ τ N ∧ (∀ p, p < N → Ps σ τ p (fr p) (to p) (ba p) (si p) (ke p) (en p) (po p) (r p) (w p) (b p)) ∧ Qs σ τ N u c ∧ ∀ p, N ≤ p → p < 4 → ∀ i, i < 3 → σ 14 p i = 0
theorem r0 : Rel s0C s0M := by
  refine ⟨0, 0, fun _ => 0, fun _ => 0, fun _ => 0, fun _ => 0, fun _ => 0, fun _ => 0, fun _ => 0, fun _ => 0, fun _ _ => 0, fun _ _ => 0, fun _ _ => 0, ?_, fun p h => absurd h (Nat.not_lt_zero p), ?_, ?_⟩
  · refine ⟨by funext i; simp [s0C, s0M], fun i _ => ⟨0, by omega, by simp [s0C, nI]⟩, by funext i; simp [s0C, s0M], by simp [s0C, s0M], by simp [s0C, s0M], by simp [s0C, s0M], by simp [s0C, nI], by simp [s0M, nI], by omega, Or.inl (by simp [s0C]), trivial, by simp [s0C, s0M], ⟨0, by omega, by simp [s0C, nI]⟩, by funext i; simp [s0C, s0M], by simp [s0C, s0M], by funext i; simp [s0C, s0M]⟩
  · exact ⟨by simp [s0M, nI], by omega, fun p h => absurd h (Nat.not_lt_zero p), fun e h => by simp [qM] at h⟩
  · intro p _ _ i _
    simp [s0C]
/-- who is there -/
theorem q_find {σ : zS} {N : Nat} (hN : σ 0 0 6 = nI N) (h4 : N ≤ 4) (a : Int32) : k_GK_find σ a = some (σ, none) ∧ (a < 0 ∨ nI N ≤ a) ∨ ∃ j, j < N ∧ a = nI j ∧ k_GK_find σ a = some (σ, some j) := by
  unfold k_GK_find k_GK_find_12
  rcases pk_ix a (n := N) (by omega) with h | h | ⟨j, hj, rfl⟩
  · exact Or.inl ⟨by rw [if_pos h], Or.inl h⟩
  · refine Or.inl ⟨?_, Or.inr h⟩
    by_cases h0 : a < 0
    · rw [if_pos h0]
    · rw [if_neg h0, hN, if_neg (Int32.not_lt.mpr h)]
  · refine Or.inr ⟨j, hj, rfl, ?_⟩
    rw [if_neg (nI_pos (by omega)), hN, if_pos (nI_lt hj (by omega)), ck_p (zi_n (by omega) (by omega)), nI_clamp (by omega)]
theorem q_there {τ : zS} {N : Nat} (hN : τ 0 0 5 = nI N) (a : Int32) : ((a < 0 ∨ nI N ≤ a) → k_GM_there τ a = some (τ, 0)) ∧ ∀ j, j < N → N ≤ 4 → a = nI j → k_GM_there τ a = some (τ, 1) := by
  unfold k_GM_there
  refine ⟨fun h => ?_, fun j hj h4 e => ?_⟩
  · by_cases h0 : a < 0
    · rw [if_pos h0]
    · rw [if_neg h0, hN, if_pos (h.resolve_left h0)]
  · subst e
    rw [if_neg (nI_pos (by omega)), hN, if_neg (nI_ge hj (by omega))]
/-- the calls that only look at the board -/
theorem k_now : ok0 Rel k_GK_now k_GM_now := fun σ τ h => by
  obtain ⟨N, u, c, fr, to, ba, si, ke, en, po, r, w, b, hB, h2⟩ := h
  exact ⟨σ, τ, σ 8 0 3, rfl, by show some (τ, τ 0 0 2) = _; rw [hB.2.2.2.1], ⟨N, u, c, fr, to, ba, si, ke, en, po, r, w, b, hB, h2⟩⟩
theorem k_turn : ok0 Rel k_GK_turn k_GM_turn := fun σ τ h => by
  obtain ⟨N, u, c, fr, to, ba, si, ke, en, po, r, w, b, hB, h2⟩ := h
  exact ⟨σ, τ, σ 0 0 7, rfl, by show some (τ, τ 0 0 3) = _; rw [hB.2.2.2.2.1], ⟨N, u, c, fr, to, ba, si, ke, en, po, r, w, b, hB, h2⟩⟩
theorem k_outputs : ok0 Rel k_GK_outputs k_GM_outputs := fun σ τ h => by
  obtain ⟨N, u, c, fr, to, ba, si, ke, en, po, r, w, b, hB, h2⟩ := h
  exact ⟨σ, τ, σ 5 0 3, rfl, by show some (τ, τ 0 0 35) = _; rw [hB.2.2.2.2.2.2.2.2.2.2.2.2.2.2.1], ⟨N, u, c, fr, to, ba, si, ke, en, po, r, w, b, hB, h2⟩⟩
theorem k_word : ok1 Rel k_GK_word k_GM_word := fun σ τ a h => by
  obtain ⟨N, u, c, fr, to, ba, si, ke, en, po, r, w, b, hB, h2⟩ := h
  have hR : Rel σ τ := ⟨N, u, c, fr, to, ba, si, ke, en, po, r, w, b, hB, h2⟩
  unfold k_GK_word k_GM_word k_GK_word_11 k_GM_word_10
  rcases pk_ix a (n := 128) (by omega) with h | h | ⟨j, hj, rfl⟩
  · exact ⟨σ, τ, 0, by rw [if_pos h], by rw [if_pos h], hR⟩
  · have h : (128 : Int32) ≤ a := h
    have h0 : ¬ a < 0 := fun h' => absurd (Int32.lt_of_le_of_lt h h') (by decide)
    refine ⟨σ, τ, 0, by rw [if_neg h0, if_neg (Int32.not_lt.mpr h)], ?_, hR⟩
    rw [if_neg h0, if_neg]
    intro h'
    exact absurd (Int32.le_trans h h') (by decide)
  · refine ⟨σ, τ, σ 3 0 j, ?_, ?_, hR⟩
    · rw [if_neg (nI_pos (by omega)), if_pos (show nI j < (128 : Int32) from nI_lt (b := 128) hj (by omega)), ck_p (zi_n hj (by omega)), nI_clamp (by omega)]
    · rw [if_neg (nI_pos (by omega)), if_pos (show nI j ≤ (127 : Int32) from nI_le (b := 127) (by omega) (by omega)), ck_p (zi_n hj (by omega)), nI_clamp (by omega), hB.2.2.1]
