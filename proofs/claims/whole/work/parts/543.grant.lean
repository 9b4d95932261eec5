/-! notes that change on both sides: allowing, making a grant -/
section GRANT
variable {σ τ : zS} {N u p : Nat} {c fr to ba si ke en po : Nat → Nat} {r w b : Nat → Nat → Nat}
theorem rl_nt {σ2 τ2 : zS} {r2 w2 b2 : Nat → Nat} (h : RL σ τ N u c fr to ba si ke en po r w b) (hp : p < N)
    (a1 : ∀ a b i : Nat, ¬ (b = p ∧ (a = 14 ∨ a = 17 ∨ a = 18)) → ¬ (b = p ∧ a = 11 ∧ i = 8) → ¬ (b = p ∧ a = 13 ∧ i = 6) → σ2 a b i = σ a b i)
    (b1 : ∀ a b i : Nat, ¬ ((a = 20 ∨ a = 23 ∨ a = 24) ∧ b = 0 ∧ 3 * p ≤ i ∧ i < 3 * p + 3) → τ2 a b i = τ a b i)
    (hN2 : Nt (σ2 11 p) (σ2 13 p) (σ2 14 p) (σ2 15 p) (σ2 16 p) (σ2 17 p) (σ2 18 p) τ2 p (ba p) (si p) r2 w2 b2) :
    RL σ2 τ2 N u c fr to ba si ke en po (fun q => if q = p then r2 else r q) (fun q => if q = p then w2 else w q) (fun q => if q = p then b2 else b q) := by
  obtain ⟨hB, hP, hQ, hZ⟩ := h
  have h4 : N ≤ 4 := hB.2.2.2.2.2.2.2.2.1
  refine ⟨?_, fun q hq => ?_, ?_, fun q g1 g2 j hj => ?_⟩
  · have fl : ∀ a b, a < 11 → σ2 a b = σ a b := fun a b ha => funext fun i => a1 a b i (by omega) (by omega) (by omega)
    have fm : ∀ a, (a < 20 ∨ 24 < a) → τ2 a 0 = τ a 0 := fun a ha => funext fun i => b1 a 0 i (by omega)
    unfold Bd at hB ⊢
    rw [fl 2 0 (by omega), fl 3 0 (by omega), fl 8 0 (by omega), fl 0 0 (by omega), fl 5 0 (by omega), fl 6 0 (by omega), fl 7 0 (by omega), fm 1 (by omega), fm 2 (by omega), fm 0 (by omega), fm 29 (by omega), fm 30 (by omega)]
    exact hB
  · by_cases hqp : q = p
    · subst hqp
      simp only [if_pos]
      obtain ⟨hS, hD, hN⟩ := hP q hq
      have ea : ∀ i, i ≠ 8 → σ2 11 q i = σ 11 q i := fun i hi => a1 11 q i (by omega) (by omega) (by omega)
      have el : σ2 12 q = σ 12 q := funext fun i => a1 12 q i (by omega) (by omega) (by omega)
      have et : ∀ a i, a < 20 → τ2 a 0 i = τ a 0 i := fun a i ha => b1 a 0 i (by omega)
      refine ⟨?_, ?_, hN2⟩
      · unfold St at hS ⊢
        rw [ea 2 (by omega), ea 3 (by omega), ea 4 (by omega), ea 5 (by omega), ea 6 (by omega), ea 7 (by omega), ea 9 (by omega), et 3 _ (by omega), et 4 _ (by omega), et 5 _ (by omega), et 6 _ (by omega), et 7 _ (by omega), et 8 _ (by omega), et 9 _ (by omega)]
        exact hS
      · unfold Dy at hD ⊢
        rw [el, ea 11 (by omega), ea 12 (by omega), ea 13 (by omega), ea 14 (by omega), ea 15 (by omega), ea 16 (by omega), ea 17 (by omega), ea 18 (by omega), ea 19 (by omega), et 12 _ (by omega), et 13 _ (by omega), et 14 _ (by omega), et 15 _ (by omega), et 16 _ (by omega), et 10 _ (by omega), et 17 _ (by omega), et 18 _ (by omega), et 19 _ (by omega)]
        exact ⟨fun i hi => by rw [et 11 _ (by omega)]; exact hD.1 i hi, hD.2⟩
    · simp only [if_neg hqp]
      exact ps_fr (fun a j g1 g2 => a1 a q j (by omega) (by omega) (by omega)) (fun a g1 g2 g3 => b1 a 0 q (by omega)) (fun j hj => b1 11 0 _ (by omega)) (fun a j g1 g2 g3 => b1 a 0 _ (by omega)) (hP q hq)
  · exact qs_fr (fun a q j g => a1 a q j (by omega) (by omega) (by omega)) (b1 0 0 28 (by omega)) (fun j => by unfold qe; rw [b1 25 0 j (by omega), b1 26 0 j (by omega), b1 27 0 j (by omega), b1 28 0 j (by omega)]) hQ
  · rw [a1 14 q j (by omega) (by omega) (by omega)]
    exact hZ q g1 g2 j hj
/-- a buffer, both sides -/
theorem rl_buf {d n i : Nat} {A : Int32} (h : RL σ τ N u c fr to ba si ke en po r w b) (hp : p < N) (hd : d < 3) (hA : 0 < n → A = nI (4096 + 4 * (ba p + i)) ∧ i + n ≤ zop (si p) (gW (r p))) : ∃ r' w' b' : Nat → Nat → Nat, RL (zu (zu σ 17 p d A) 18 p d (nI n)) (zu (zu τ 23 0 (3 * p + d) A) 24 0 (3 * p + d) (nI n)) N u c fr to ba si ke en po r' w' b' := by
  obtain ⟨hS, hD, n1, n2, n3, n4, n5⟩ := h.2.1 p hp
  have ek : ∀ a, a ≠ 17 → a ≠ 18 → zu (zu σ 17 p d A) 18 p d (nI n) a p = σ a p := fun a g1 g2 => by rw [zu_k g2, zu_k g1]
  have et : ∀ a j, ¬ ((a = 23 ∨ a = 24) ∧ j = 3 * p + d) → zu (zu τ 23 0 (3 * p + d) A) 24 0 (3 * p + d) (nI n) a 0 j = τ a 0 j := fun a j g => by rw [zu_rd, if_neg (by omega), zu_rd, if_neg (by omega)]
  refine ⟨_, _, _, rl_nt (r2 := r p) (w2 := fun j => if j = d then n else w p j) (b2 := fun j => if j = d then i else b p j) h hp (fun a b j g1 g2 g3 => by rw [zu_rd, if_neg (by omega), zu_rd, if_neg (by omega)]) (fun a b j g => by rw [zu_rd, if_neg (by omega), zu_rd, if_neg (by omega)]) ?_⟩
  rw [ek 11 (by omega) (by omega), ek 13 (by omega) (by omega), ek 14 (by omega) (by omega), ek 15 (by omega) (by omega), ek 16 (by omega) (by omega)]
  refine ⟨fun j hj => ?_, n2, n3, fun j hj => ?_, fun j hj => ?_⟩
  · rw [et 20 _ (by omega)]; exact n1 j hj
  · rw [et 21 _ (by omega), et 22 _ (by omega)]; exact n4 j hj
  · dsimp only
    by_cases hjd : j = d
    · subst hjd
      rw [if_pos rfl, if_pos rfl]
      refine ⟨by rw [zu_rd, if_pos (by omega)], by rw [zu_rd, if_pos (by omega)], fun h0 => ?_⟩
      obtain ⟨a1, a2⟩ := hA h0
      refine ⟨by rw [zu_rd, if_neg (by omega), zu_rd, if_pos (by omega)]; exact a1, by rw [zu_rd, if_neg (by omega), zu_rd, if_pos (by omega)]; exact a1, a2⟩
    · rw [if_neg hjd, if_neg hjd, et 24 _ (by omega), et 23 _ (by omega), zu_rd, if_neg (by omega), zu_rd, if_neg (by omega), zu_rd, if_neg (by omega), zu_rd, if_neg (by omega)]
      exact n5 j hj
theorem ar_big {o n : Nat} {a : Int32} {B : Nat} (h5 : σ 11 p 5 = nI (4096 + 4 * B)) (h8 : σ 11 p 8 = nI o) (ho : o ≤ 64) (hn : 64 < n) (hn2 : n < 2 ^ 31) : k_BP_areOpen σ p a (nI n) = some (σ, 0) := by
  have e2 : (4 : Int32) * nI o = nI (4 * o) := mul4 o
  unfold k_BP_areOpen
  rw [h5, h8, e2, lt_e, lt_e]
  rcases pk_ix (a - nI (4096 + 4 * B)) (n := 4 * o) (by omega) with h | h | ⟨t, ht, e⟩
  · rw [if_pos h]
  · by_cases h0 : a - nI (4096 + 4 * B) < 0
    · rw [if_pos h0]
    · rw [if_neg h0, if_pos h]
  · have e3 : (nI (4 * o) - nI t) >>> ((2 : Int32) &&& 31) = nI ((4 * o - t) / 4) := by rw [pk_sub (by omega), pk_shrN (by omega) ((2 : Int32) &&& 31) 2 (by decide)]
    rw [e, if_neg (nI_pos (by omega)), if_neg (nI_ge (by omega) (by omega)), e3, if_pos (nI_lt (by omega) hn2)]
theorem k_allow {d : Nat} (A1 A2 : Int32) (h : RL σ τ N u c fr to ba si ke en po r w b) (hp : p < N) (hd : d < 3) : KO (k_Ke_allow σ p (nI d) A1 A2) (k_GM_allow τ (nI p) (nI d) A1 A2) σ τ N fr to ba si ke en po := by
  obtain ⟨o1, o2, o3, o4⟩ := op_le h hp
  obtain ⟨hS, hD, hN⟩ := h.2.1 p hp
  have s5 := hS.2.2.2.1
  have s8 := hN.2.2.1
  have z3 : zi (nI d) 3 = true := zi_n hd (by omega)
  have cd : (nI d).toNatClampNeg = d := nI_clamp (by omega)
  have z12 : zi (nI (3 * p + d)) 12 = true := zi_n (by omega) (by omega)
  have c12 : (nI (3 * p + d)).toNatClampNeg = 3 * p + d := nI_clamp (by omega)
  -- both set the buffer
  have set : ∀ n i, (0 < n → A1 = nI (4096 + 4 * (ba p + i)) ∧ i + n ≤ zop (si p) (gW (r p))) → KO (k_Ke_allow_41 p (nI d) A1 (nI n) σ) (some (zu (zu τ 23 0 (3 * p + d) A1) 24 0 (3 * p + d) (nI n), 0)) σ τ N fr to ba si ke en po := fun n i hA => by
    obtain ⟨r', w', b', hR⟩ := rl_buf h hp hd hA
    unfold k_Ke_allow_41
    rw [ck_p z3, lt_e, ck_p z3, lt_e, cd]
    exact ⟨_, _, 0, u, c, r', w', b', rfl, rfl, hR, ⟨fun q => ⟨by rw [zu_rd, if_neg (by omega), zu_rd, if_neg (by omega)], by rw [zu_rd, if_neg (by omega), zu_rd, if_neg (by omega)]⟩, by rw [zu_rd, if_neg (by omega), zu_rd, if_neg (by omega)]⟩⟩
  have fin : ∀ n f, k_GM_allow_29 (nI p) (nI d) A1 (nI n) (f + 1) τ (nI n) = some (zu (zu τ 23 0 (3 * p + d) A1) 24 0 (3 * p + d) (nI n), 0) := fun n f => by
    rw [k_GM_allow_29, if_pos (Int32.le_refl _), ix3, ck_p z12, lt_e, ck_p z12, lt_e, c12]
  have e11 : ∀ t, k_Ke_allow_11 p (nI d) A1 A2 σ t = if A2 < 0 then some (σ, -3) else if A2 ≤ 0 then k_Ke_allow_41 p (nI d) A1 A2 σ else if t = 0 then some (σ, -3) else bn (k_BP_areOpen σ p A1 A2) fun (s1, r2) => if r2 = 0 then some (s1, -3) else k_Ke_allow_41 p (nI d) A1 A2 s1 := fun t => rfl
  unfold k_Ke_allow k_GM_allow k_GM_allow_26
  by_cases hneg : A2 < 0
  · have hn0 : ¬ A2 = 0 := fun g => by rw [g] at hneg; exact absurd hneg (by decide)
    rw [if_neg hn0, if_pos hneg]
    have : ∀ t, k_Ke_allow_11 p (nI d) A1 A2 σ t = some (σ, -3) := fun t => by rw [e11, if_pos hneg]
    rw [this, this]
    split <;> exact ko_s _ h
  · obtain ⟨n, hn, rfl⟩ := nI_of hneg
    by_cases h0 : n = 0
    · subst h0
      have : ∀ t, k_Ke_allow_11 p (nI d) A1 (nI 0) σ t = k_Ke_allow_41 p (nI d) A1 (nI 0) σ := fun t => by rw [e11, if_neg (by decide), if_pos (by decide)]
      rw [this, this, if_pos (show nI 0 = 0 by decide)]
      rw [show k_GM_allow_29 (nI p) (nI d) A1 (nI 0) FU τ 0 = k_GM_allow_29 (nI p) (nI d) A1 (nI 0) (999 + 1) τ (nI 0) from rfl, fin]
      have := set 0 0 (fun g => absurd g (by omega))
      split <;> exact this
    · have n0 : ¬ nI n = 0 := nI_ne0 (by omega) hn
      have n1 : ¬ nI n ≤ 0 := nI_nle (by omega) hn
      rw [if_neg n0, if_neg hneg]
      by_cases hbig : 64 < n
      · have e64 : (64 : Int32) < nI n := by rw [show (64 : Int32) = nI 64 by decide]; exact nI_lt hbig hn
        rw [if_pos e64]
        have : ∀ t, k_Ke_allow_11 p (nI d) A1 (nI n) σ t = some (σ, -3) := fun t => by
          rw [e11, if_neg hneg, if_neg n1]
          split
          · rfl
          · rw [ar_big s5 s8 (by omega) hbig hn, bn_s]
            rfl
        rw [this, this]
        split <;> exact ko_s _ h
      · have e64 : ¬ (64 : Int32) < nI n := by rw [show (64 : Int32) = nI 64 by decide]; exact nI_nlt (by omega) (by omega)
        rw [if_neg e64]
        by_cases hal : A1 &&& (3 : Int32) = 0
        · rw [if_pos hal, if_pos hal, e11, if_neg hneg, if_neg n1, if_neg (show ¬ (1 : Int32) = 0 by decide)]
          by_cases hx : ∃ i, i + n ≤ zop (si p) (gW (r p)) ∧ A1 = nI (4096 + 4 * (ba p + i))
          · obtain ⟨i, hi, e⟩ := hx
            have ar : k_BP_areOpen σ p A1 (nI n) = some (σ, 1) := by rw [e]; exact ar_yes s5 s8 (by omega) (by omega) (by omega) hi
            rw [ar, bn_s]
            dsimp only
            rw [if_neg (show ¬ (1 : Int32) = 0 by decide)]
            have lp : ∀ (m k f : Nat), k + m = n → m < f → k_GM_allow_29 (nI p) (nI d) A1 (nI n) f τ (nI k) = some (zu (zu τ 23 0 (3 * p + d) A1) 24 0 (3 * p + d) (nI n), 0) := by
              intro m
              induction m with
              | zero =>
                intro k f hk hf
                obtain ⟨f, rfl⟩ : ∃ g, f = g + 1 := ⟨f - 1, by omega⟩
                obtain rfl : k = n := by omega
                exact fin k f
              | succ m ih =>
                intro k f hk hf
                obtain ⟨f, rfl⟩ : ∃ g, f = g + 1 := ⟨f - 1, by omega⟩
                rw [k_GM_allow_29, if_neg (nI_ge (by omega) (by omega)), mul4, e, add4, Nat.add_assoc, io_yes h hp (by omega), bn_s]
                dsimp only
                rw [if_neg (show ¬ (1 : Int32) = 0 by decide), lt_e, nI_1, ← e]
                exact ih (k + 1) f (by omega) (by omega)
            rw [show k_GM_allow_29 (nI p) (nI d) A1 (nI n) FU τ 0 = k_GM_allow_29 (nI p) (nI d) A1 (nI n) FU τ (nI 0) from rfl, lp n 0 FU (by omega) (by unfold FU; omega)]
            exact set n i (fun _ => ⟨e, hi⟩)
          · have ar : k_BP_areOpen σ p A1 (nI n) = some (σ, 0) := ar_no s5 s8 (by omega) (by omega) (by omega) (al_of hal) (fun i g1 g2 g3 => hx ⟨i, g1, g3⟩)
            rw [ar, bn_s]
            dsimp only
            rw [if_pos rfl]
            have hbad : ∃ k, k < n ∧ ¬ ∃ i, i < zop (si p) (gW (r p)) ∧ A1 + nI (4 * k) = nI (4096 + 4 * (ba p + i)) := by
              refine Classical.byContradiction (fun hno => ?_)
              have all : ∀ k, k < n → ∃ i, i < zop (si p) (gW (r p)) ∧ A1 + nI (4 * k) = nI (4096 + 4 * (ba p + i)) := fun k hk => Classical.byContradiction (fun g => hno ⟨k, hk, g⟩)
              obtain ⟨i0, c1, c2⟩ := all 0 (by omega)
              obtain ⟨i1, d1, d2⟩ := all (n - 1) (by omega)
              have c3 : A1 = nI (4096 + 4 * (ba p + i0)) := by rw [← c2]; exact (Int32.add_zero A1).symm
              rw [c3, add4] at d2
              have := (nI_eq (by omega) (by omega)).mp d2
              exact hx ⟨i0, by omega, c3⟩
            have lp : ∀ (m k f : Nat), k + m = n → m < f → (∃ j, k ≤ j ∧ j < n ∧ ¬ ∃ i, i < zop (si p) (gW (r p)) ∧ A1 + nI (4 * j) = nI (4096 + 4 * (ba p + i))) → k_GM_allow_29 (nI p) (nI d) A1 (nI n) f τ (nI k) = some (τ, -3) := by
              intro m
              induction m with
              | zero =>
                intro k f hk hf ⟨j, j1, j2, _⟩
                omega
              | succ m ih =>
                intro k f hk hf ⟨j, j1, j2, j3⟩
                obtain ⟨f, rfl⟩ : ∃ g, f = g + 1 := ⟨f - 1, by omega⟩
                rw [k_GM_allow_29, if_neg (nI_ge (by omega) (by omega)), mul4]
                by_cases hy : ∃ i, i < zop (si p) (gW (r p)) ∧ A1 + nI (4 * k) = nI (4096 + 4 * (ba p + i))
                · have hjk : j ≠ k := fun g => by rw [g] at j3; exact j3 hy
                  obtain ⟨i, hi, e⟩ := hy
                  rw [e, io_yes h hp hi, bn_s]
                  dsimp only
                  rw [if_neg (show ¬ (1 : Int32) = 0 by decide), lt_e, nI_1]
                  exact ih (k + 1) f (by omega) (by omega) ⟨j, by omega, j2, j3⟩
                · rw [io_no h hp (fun i g1 g2 => hy ⟨i, g1, g2⟩), bn_s]
                  dsimp only
                  rw [if_pos rfl]
            obtain ⟨k, k1, k2⟩ := hbad
            rw [show k_GM_allow_29 (nI p) (nI d) A1 (nI n) FU τ 0 = k_GM_allow_29 (nI p) (nI d) A1 (nI n) FU τ (nI 0) from rfl, lp n 0 FU (by omega) (by unfold FU; omega) ⟨k, by omega, k1, k2⟩]
            exact ko_s _ h
        · rw [if_neg hal, if_neg hal, e11, if_neg hneg, if_neg n1, if_pos rfl]
          exact ko_s _ h
end GRANT
