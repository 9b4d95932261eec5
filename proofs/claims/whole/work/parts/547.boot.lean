/-! boot: a new process -/
section NEW
variable {s t s' t' : zS} {M : Nat} {c fr to ba si ke en po : Nat → Nat} {r w b : Nat → Nat → Nat}
theorem rl_new {F T B S K E P : Nat} (h : RL (zu s 0 0 6 (nI M)) t M 0 c fr to ba si ke en po r w b) (hM : M < 4)
    (hs : ∀ a b i : Nat, ¬ (a = 3 ∧ b = 0) → ¬ (11 ≤ a ∧ a ≤ 19 ∧ b = M) → a ≠ 9 → s' a b i = s a b i)
    (ht : ∀ a b i : Nat, ¬ (a = 2 ∧ b = 0) → ¬ (a = 0 ∧ b = 0 ∧ (i = 5 ∨ i = 28)) → ¬ ((3 ≤ a ∧ a ≤ 19 ∧ a ≠ 11) ∧ b = 0 ∧ i = M) → ¬ (a = 11 ∧ b = 0 ∧ 8 * M ≤ i ∧ i < 8 * M + 8) → ¬ ((a = 20 ∨ a = 21 ∨ a = 24) ∧ b = 0 ∧ 3 * M ≤ i ∧ i < 3 * M + 3) → ¬ (25 ≤ a ∧ a ≤ 28 ∧ b = 0) → t' a b i = t a b i)
    (hram : s' 3 0 = t' 2 0) (h28 : t' 0 0 28 = nI 0) (h5 : t' 0 0 5 = nI (M + 1)) (h19 : s' 19 M 3 = nI 0)
    (hP : Ps s' t' M F T B S K E P (fun _ => 0) (fun _ => 0) (fun _ => 0)) :
    RL (zu s' 0 0 6 (nI (M + 1))) t' (M + 1) 0 (fun q => if q = M then 0 else c q) (fun q => if q = M then F else fr q) (fun q => if q = M then T else to q) (fun q => if q = M then B else ba q) (fun q => if q = M then S else si q) (fun q => if q = M then K else ke q) (fun q => if q = M then E else en q) (fun q => if q = M then P else po q) (fun q => if q = M then fun _ => 0 else r q) (fun q => if q = M then fun _ => 0 else w q) (fun q => if q = M then fun _ => 0 else b q) := by
  obtain ⟨hB, hPs, hQ, hZ⟩ := h
  have k : ∀ (x : zS) (v : Int32) (a b i : Nat), a ≠ 0 → zu x 0 0 6 v a b i = x a b i := fun x v a b i g => by rw [zu_rd, if_neg (by omega)]
  have kk : ∀ (x : zS) (v : Int32) (a b : Nat), a ≠ 0 → zu x 0 0 6 v a b = x a b := fun x v a b g => zu_k g
  have kz : ∀ (x : zS) (v : Int32) (i : Nat), i ≠ 6 → zu x 0 0 6 v 0 0 i = x 0 0 i := fun x v i g => by rw [zu_rd, if_neg (by omega)]
  refine ⟨?_, fun q hq => ?_, ⟨h28, by omega, fun q hq => ?_, fun e he => ?_⟩, fun q g1 g2 i hi => ?_⟩
  · have fl : ∀ a, (a = 2 ∨ a = 5 ∨ a = 6 ∨ a = 7 ∨ a = 8 ∨ a = 0) → s' a 0 = s a 0 := fun a ha => funext fun i => hs a 0 i (by omega) (by omega) (by omega)
    have fm : ∀ a, (a = 1 ∨ a = 29 ∨ a = 30) → t' a 0 = t a 0 := fun a ha => funext fun i => ht a 0 i (by omega) (by omega) (by omega) (by omega) (by omega) (by omega)
    have f0 : ∀ i, i ≠ 5 → i ≠ 28 → t' 0 0 i = t 0 0 i := fun i g1 g2 => ht 0 0 i (by omega) (by omega) (by omega) (by omega) (by omega) (by omega)
    have s0 : ∀ i, s' 0 0 i = s 0 0 i := fun i => hs 0 0 i (by omega) (by omega) (by omega)
    unfold Bd at hB ⊢
    rw [kk _ _ 2 0 (by omega), kk _ _ 3 0 (by omega), kk _ _ 8 0 (by omega), kz _ _ 7 (by omega), kz _ _ 8 (by omega), kk _ _ 5 0 (by omega), kk _ _ 6 0 (by omega), kk _ _ 7 0 (by omega)] at hB ⊢
    rw [fl 2 (by omega), fl 8 (by omega), fl 5 (by omega), fl 6 (by omega), fl 7 (by omega), fm 1 (by omega), fm 29 (by omega), fm 30 (by omega), f0 2 (by omega) (by omega), f0 3 (by omega) (by omega), f0 4 (by omega) (by omega), f0 33 (by omega) (by omega), f0 35 (by omega) (by omega), s0 7, s0 8, h5, hram]
    obtain ⟨b1, b2, b3, b4, b5, b6, b7, b8, b9, b10, b11, b12, b13, b14, b15, b16⟩ := hB
    refine ⟨b1, b2, rfl, b4, b5, b6, by rw [zu_rd, if_pos (by omega)], rfl, by omega, ?_, b11, b12, b13, b14, b15, b16⟩
    rcases b10 with g | ⟨x, g1, g2⟩
    · exact Or.inl g
    · exact Or.inr ⟨x, by omega, g2⟩
  · by_cases hqM : q = M
    · subst hqM
      simp only [if_pos]
      exact ps_fr (fun a i g1 g2 => k _ _ a q i (by omega)) (fun a g1 g2 g3 => rfl) (fun i hi => rfl) (fun a i g1 g2 g3 => rfl) hP
    · simp only [if_neg hqM]
      exact ps_fr (fun a i g1 g2 => by rw [k _ _ a q i (by omega), k _ _ a q i (by omega), hs a q i (by omega) (by omega) (by omega)]) (fun a g1 g2 g3 => ht a 0 q (by omega) (by omega) (by omega) (by omega) (by omega) (by omega)) (fun i hi => ht 11 0 _ (by omega) (by omega) (by omega) (by omega) (by omega) (by omega)) (fun a i g1 g2 g3 => ht a 0 _ (by omega) (by omega) (by omega) (by omega) (by omega) (by omega)) (hPs q (by omega))
  · have e0 : qF (qM t' 0) q = [] := rfl
    by_cases hqM : q = M
    · subst hqM
      simp only [if_pos]
      exact ⟨by rw [k _ _ 19 q 3 (by omega)]; exact h19, by omega, by rw [e0]; rfl⟩
    · simp only [if_neg hqM]
      obtain ⟨g1, g2, g3⟩ := hQ.2.2.1 q (by omega)
      have g3' : qC (zu s 0 0 6 (nI M) 20 q) (zu s 0 0 6 (nI M) 21 q) (zu s 0 0 6 (nI M) 22 q) (c q) = [] := g3
      have hc : c q = 0 := by
        have := congrArg List.length g3'
        simpa [qC] using this
      refine ⟨?_, g2, ?_⟩
      · rw [k _ _ 19 q 3 (by omega)] at g1 ⊢
        rw [hs 19 q 3 (by omega) (by omega) (by omega)]
        exact g1
      · rw [hc, e0]; rfl
  · exact absurd he (by simp [qM])
  · have := hZ q (by omega) g2 i hi
    rw [k _ _ 14 q i (by omega)] at this ⊢
    rw [hs 14 q i (by omega) (by omega) (by omega)]
    exact this
/-- both sides load a process -/
theorem load_ok {F T B S K E P : Nat} (h : RL (zu s 0 0 6 (nI M)) t M 0 c fr to ba si ke en po r w b) (hM : M < 4) (h17 : s 11 M 17 = 0 ∧ s 11 M 18 = 0 ∧ s 11 M 19 = 0)
    (hF : F + T ≤ 256) (hT : 8 ≤ T) (hS : S = 16 ∨ S = 32 ∨ S = 64) (hB : B + S ≤ 128) (hK : 8 ≤ K) (hK2 : K ≤ S) (hE : E < T) (hP : P ≤ 15)
    (f1 : t 1 0 (F + 1) = nI T) (f3 : t 1 0 (F + 3) = nI K) (f4 : t 1 0 (F + 4) = nI E) (f5 : t 1 0 (F + 5) = nI P) :
    ∃ s1 t' : zS, k_BP_begin (zu (zu (zu (zu (zu (zu (zu s 11 M 2 (nI (2 * F))) 11 M 3 (nI (2 * (F + T)))) 11 M 4 (nI (2 * (F + E)))) 11 M 5 (nI (4096 + 4 * B))) 11 M 6 (nI S)) 11 M 7 (nI K)) 11 M 9 (nI P)) M = some s1 ∧ k_GM_load t (nI F) (nI B) (nI S) = some t' ∧ (∀ a b i : Nat, ¬ (a = 3 ∧ b = 0) → ¬ (11 ≤ a ∧ a ≤ 19 ∧ b = M) → s1 a b i = s a b i) ∧ t' 1 0 = t 1 0 ∧ ∀ s' : zS, (∀ a b i, a ≠ 9 → s' a b i = s1 a b i) → ∃ (c fr to ba si ke en po : Nat → Nat) (r w b : Nat → Nat → Nat), RL (zu s' 0 0 6 (nI (M + 1))) t' (M + 1) 0 c fr to ba si ke en po r w b := by
  have h5 : t 0 0 5 = nI M := h.1.2.2.2.2.2.2.2.1
  have h28 : t 0 0 28 = nI 0 := h.2.2.1.1
  have hr3 : s 3 0 = t 2 0 := by have := h.1.2.2.1; rw [zu_k (by decide)] at this; exact this
  have zM : zi (nI M) 4 = true := zi_n hM (by omega)
  have cM : (nI M).toNatClampNeg = M := nI_clamp (by omega)
  generalize hsX : zu (zu (zu (zu (zu (zu (zu s 11 M 2 (nI (2 * F))) 11 M 3 (nI (2 * (F + T)))) 11 M 4 (nI (2 * (F + E)))) 11 M 5 (nI (4096 + 4 * B))) 11 M 6 (nI S)) 11 M 7 (nI K)) 11 M 9 (nI P) = sX
  have xo : ∀ a b i : Nat, ¬ (a = 11 ∧ b = M ∧ 2 ≤ i ∧ i ≤ 9) → sX a b i = s a b i := fun a b i g => by
    rw [← hsX, zu_rd, if_neg (by omega), zu_rd, if_neg (by omega), zu_rd, if_neg (by omega), zu_rd, if_neg (by omega), zu_rd, if_neg (by omega), zu_rd, if_neg (by omega), zu_rd, if_neg (by omega)]
  have x2 : sX 11 M 2 = nI (2 * F) := by rw [← hsX, zu_rd, if_neg (by omega), zu_rd, if_neg (by omega), zu_rd, if_neg (by omega), zu_rd, if_neg (by omega), zu_rd, if_neg (by omega), zu_rd, if_neg (by omega), zu_rd, if_pos (by omega)]
  have x3 : sX 11 M 3 = nI (2 * (F + T)) := by rw [← hsX, zu_rd, if_neg (by omega), zu_rd, if_neg (by omega), zu_rd, if_neg (by omega), zu_rd, if_neg (by omega), zu_rd, if_neg (by omega), zu_rd, if_pos (by omega)]
  have x4 : sX 11 M 4 = nI (2 * (F + E)) := by rw [← hsX, zu_rd, if_neg (by omega), zu_rd, if_neg (by omega), zu_rd, if_neg (by omega), zu_rd, if_neg (by omega), zu_rd, if_pos (by omega)]
  have x5 : sX 11 M 5 = nI (4096 + 4 * B) := by rw [← hsX, zu_rd, if_neg (by omega), zu_rd, if_neg (by omega), zu_rd, if_neg (by omega), zu_rd, if_pos (by omega)]
  have x6 : sX 11 M 6 = nI S := by rw [← hsX, zu_rd, if_neg (by omega), zu_rd, if_neg (by omega), zu_rd, if_pos (by omega)]
  have x7 : sX 11 M 7 = nI K := by rw [← hsX, zu_rd, if_neg (by omega), zu_rd, if_pos (by omega)]
  have x9 : sX 11 M 9 = nI P := by rw [← hsX, zu_rd, if_pos (by omega)]
  -- the reference's state before begin
  generalize htX : zu (zu (zu (zu (zu (zu (zu (zu (zu (zu (zu t 0 0 5 (nI (M + 1))) 3 0 M (nI F)) 4 0 M (nI T)) 5 0 M (nI B)) 6 0 M (nI S)) 7 0 M (nI K)) 8 0 M (nI (2 * (F + E)))) 9 0 M (nI P)) 17 0 M 0) 18 0 M 0) 19 0 M 0 = tX
  have yo : ∀ a b i : Nat, ¬ (a = 0 ∧ b = 0 ∧ i = 5) → ¬ (((3 ≤ a ∧ a ≤ 9) ∨ (17 ≤ a ∧ a ≤ 19)) ∧ b = 0 ∧ i = M) → tX a b i = t a b i := fun a b i g1 g2 => by
    rw [← htX, zu_rd, if_neg (by omega), zu_rd, if_neg (by omega), zu_rd, if_neg (by omega), zu_rd, if_neg (by omega), zu_rd, if_neg (by omega), zu_rd, if_neg (by omega), zu_rd, if_neg (by omega), zu_rd, if_neg (by omega), zu_rd, if_neg (by omega), zu_rd, if_neg (by omega), zu_rd, if_neg (by omega)]
  have y19 : tX 19 0 M = 0 := by rw [← htX, zu_rd, if_pos (by omega)]
  have y18 : tX 18 0 M = 0 := by rw [← htX, zu_rd, if_neg (by omega), zu_rd, if_pos (by omega)]
  have y17 : tX 17 0 M = 0 := by rw [← htX, zu_rd, if_neg (by omega), zu_rd, if_neg (by omega), zu_rd, if_pos (by omega)]
  have y9 : tX 9 0 M = nI P := by rw [← htX, zu_rd, if_neg (by omega), zu_rd, if_neg (by omega), zu_rd, if_neg (by omega), zu_rd, if_pos (by omega)]
  have y8 : tX 8 0 M = nI (2 * (F + E)) := by rw [← htX, zu_rd, if_neg (by omega), zu_rd, if_neg (by omega), zu_rd, if_neg (by omega), zu_rd, if_neg (by omega), zu_rd, if_pos (by omega)]
  have y7 : tX 7 0 M = nI K := by rw [← htX, zu_rd, if_neg (by omega), zu_rd, if_neg (by omega), zu_rd, if_neg (by omega), zu_rd, if_neg (by omega), zu_rd, if_neg (by omega), zu_rd, if_pos (by omega)]
  have y6 : tX 6 0 M = nI S := by rw [← htX, zu_rd, if_neg (by omega), zu_rd, if_neg (by omega), zu_rd, if_neg (by omega), zu_rd, if_neg (by omega), zu_rd, if_neg (by omega), zu_rd, if_neg (by omega), zu_rd, if_pos (by omega)]
  have y5 : tX 5 0 M = nI B := by rw [← htX, zu_rd, if_neg (by omega), zu_rd, if_neg (by omega), zu_rd, if_neg (by omega), zu_rd, if_neg (by omega), zu_rd, if_neg (by omega), zu_rd, if_neg (by omega), zu_rd, if_neg (by omega), zu_rd, if_pos (by omega)]
  have y4 : tX 4 0 M = nI T := by rw [← htX, zu_rd, if_neg (by omega), zu_rd, if_neg (by omega), zu_rd, if_neg (by omega), zu_rd, if_neg (by omega), zu_rd, if_neg (by omega), zu_rd, if_neg (by omega), zu_rd, if_neg (by omega), zu_rd, if_neg (by omega), zu_rd, if_pos (by omega)]
  have y3 : tX 3 0 M = nI F := by rw [← htX, zu_rd, if_neg (by omega), zu_rd, if_neg (by omega), zu_rd, if_neg (by omega), zu_rd, if_neg (by omega), zu_rd, if_neg (by omega), zu_rd, if_neg (by omega), zu_rd, if_neg (by omega), zu_rd, if_neg (by omega), zu_rd, if_neg (by omega), zu_rd, if_pos (by omega)]
  have y05 : tX 0 0 5 = nI (M + 1) := by rw [← htX, zu_rd, if_neg (by omega), zu_rd, if_neg (by omega), zu_rd, if_neg (by omega), zu_rd, if_neg (by omega), zu_rd, if_neg (by omega), zu_rd, if_neg (by omega), zu_rd, if_neg (by omega), zu_rd, if_neg (by omega), zu_rd, if_neg (by omega), zu_rd, if_neg (by omega), zu_rd, if_pos (by omega)]
  obtain ⟨tb, v, e1, hf⟩ := gm_begin (s := tX) (p := M) (u := 0) hM y5 y6 y7 y8 hB (by omega) (by rw [yo 0 0 28 (by omega) (by omega)]; exact h28)
  obtain ⟨k1, k2, k3, k4, k5⟩ := hf
  have eL : k_GM_load t (nI F) (nI B) (nI S) = some (zu tb 10 0 M 0) := by
    have c1 : ∀ x, x < 256 → zi (nI x) 256 = true := fun x hx => zi_n hx (by omega)
    have c2 : ∀ x, x < 256 → (nI x).toNatClampNeg = x := fun x hx => nI_clamp (by omega)
    have i1 : nI F + (1 : Int32) = nI (F + 1) := nI_1 F
    have i3 : nI F + (3 : Int32) = nI (F + 3) := nI_add F 3
    have i4 : nI F + (4 : Int32) = nI (F + 4) := nI_add F 4
    have i5 : nI F + (5 : Int32) = nI (F + 5) := nI_add F 5
    have gf : ∀ (x : zS), (∀ i, x 1 0 i = t 1 0 i) → x 1 0 (F + 1) = nI T ∧ x 1 0 (F + 3) = nI K ∧ x 1 0 (F + 4) = nI E ∧ x 1 0 (F + 5) = nI P := fun x hx => ⟨by rw [hx]; exact f1, by rw [hx]; exact f3, by rw [hx]; exact f4, by rw [hx]; exact f5⟩
    have z1 : ∀ (x : zS) (a i : Nat) (y : Int32), a ≠ 1 → (∀ i, x 1 0 i = t 1 0 i) → ∀ j, zu x a 0 i y 1 0 j = t 1 0 j := fun x a i y ha hx j => by rw [zu_rd, if_neg (by omega)]; exact hx j
    have q0 : ∀ i, t 1 0 i = t 1 0 i := fun _ => rfl
    have q1 := z1 t 0 5 (nI (M + 1)) (by omega) q0
    have q2 := z1 _ 3 M (nI F) (by omega) q1
    have q3 := z1 _ 4 M (nI T) (by omega) q2
    have q4 := z1 _ 5 M (nI B) (by omega) q3
    have q5 := z1 _ 6 M (nI S) (by omega) q4
    have q6 := z1 _ 7 M (nI K) (by omega) q5
    have q7 := z1 _ 8 M (nI (2 * (F + E))) (by omega) q6
    have m2 : (2 : Int32) * nI (F + E) = nI (2 * (F + E)) := by rw [show (2 : Int32) = nI 2 from rfl, pk_mul]
    unfold k_GM_load
    rw [lt_e, lt_e, h5, nI_1, ck_p zM, lt_e, cM, i1, ck_p (c1 _ (by omega)), ck_p zM, lt_e, c2 _ (by omega), (gf _ q2).1, ck_p zM, lt_e, ck_p zM, lt_e, i3, ck_p (c1 _ (by omega)), ck_p zM, lt_e, c2 _ (by omega), (gf _ q5).2.1, i4, ck_p (c1 _ (by omega)), ck_p zM, lt_e, c2 _ (by omega), (gf _ q6).2.2.1, nI_add, m2, i5, ck_p (c1 _ (by omega)), ck_p zM, lt_e, c2 _ (by omega), (gf _ q7).2.2.2, ck_p zM, lt_e, ck_p zM, lt_e, ck_p zM, lt_e, htX, e1, bn_s]
  have bb := bp_begin (s := sX) (p := M) (ba := B) (si := S) (ke := K) x5 x6 x7 hB
  have w1 : ∀ a b i : Nat, ¬ (a = 2 ∧ b = 0) → ¬ (a = 0 ∧ b = 0 ∧ i = 28) → ¬ ((10 ≤ a ∧ a ≤ 16 ∧ a ≠ 11) ∧ b = 0 ∧ i = M) → ¬ (a = 11 ∧ b = 0 ∧ 8 * M ≤ i ∧ i < 8 * M + 8) → ¬ ((a = 20 ∨ a = 21 ∨ a = 24) ∧ b = 0 ∧ 3 * M ≤ i ∧ i < 3 * M + 3) → ¬ (25 ≤ a ∧ a ≤ 28 ∧ b = 0) → zu tb 10 0 M 0 a b i = tX a b i := fun a b i g1 g2 g3 g4 g5 g6 => by
    rw [zu_rd, if_neg (by omega), k1 a b i g2 g6 g5, zu_rd, if_neg (by omega), zu_rd, if_neg (by omega), zu_rd, if_neg (by omega), zu_rd, if_neg (by omega), zu_rd, if_neg (by omega), rz_rd, if_neg (by omega), rz_rd, if_neg (by omega)]
  have v0 : v = 0 := by omega
  have so : ∀ a b i : Nat, ¬ (a = 3 ∧ b = 0) → ¬ (11 ≤ a ∧ a ≤ 19 ∧ b = M) → bgC sX M B S (nI (4096 + 4 * (B + K))) a b i = s a b i := fun a b i g1 g2 => by
    unfold bgC
    rw [zu_rd, if_neg (by omega), los_rd, if_neg (by omega), if_neg (by omega), zu_rd, if_neg (by omega), zu_rd, if_neg (by omega), zu_rd, if_neg (by omega), zu_rd, if_neg (by omega), zu_rd, if_neg (by omega), rz_rd, if_neg (by omega), rz_rd, if_neg (by omega), xo a b i (by omega)]
  refine ⟨_, _, bb, eL, so, funext fun i => ?_, fun s' hs' => ?_⟩
  · rw [w1 1 0 i (by omega) (by omega) (by omega) (by omega) (by omega) (by omega), yo 1 0 i (by omega) (by omega)]
  · refine ⟨_, _, _, _, _, _, _, _, _, _, _, rl_new (F := F) (T := T) (B := B) (S := S) (K := K) (E := E) (P := P) h hM (fun a b i g1 g2 g3 => by rw [hs' a b i g3]; exact so a b i g1 g2) (fun a b i g1 g2 g3 g4 g5 g6 => by
      rw [w1 a b i g1 (by omega) (by omega) g4 g5 g6, yo a b i (by omega) (by omega)]) ?_ ?_ ?_ ?_ ?_⟩
    · funext i
      rw [hs' 3 0 i (by omega), zu_rd, if_neg (by omega), k1 2 0 i (by omega) (by omega) (by omega), zu_rd, if_neg (by omega), zu_rd, if_neg (by omega), zu_rd, if_neg (by omega), zu_rd, if_neg (by omega), zu_rd, if_neg (by omega), rz_rd, if_neg (by omega), rz_rd]
      unfold bgC
      rw [zu_rd, if_neg (by omega), los_rd, if_neg (by omega), if_neg (by omega), zu_rd, if_neg (by omega), zu_rd, if_neg (by omega), zu_rd, if_neg (by omega), zu_rd, if_neg (by omega), zu_rd, if_neg (by omega), rz_rd, if_neg (by omega), rz_rd, xo 3 0 i (by omega), yo 2 0 i (by omega) (by omega), hr3]
      by_cases hi : B ≤ i ∧ i < B + S
      · rw [if_pos (by omega), if_pos (by omega)]
      · rw [if_neg (by omega), if_neg (by omega)]
    · rw [zu_rd, if_neg (by omega), k3, v0]
    · rw [w1 0 0 5 (by omega) (by omega) (by omega) (by omega) (by omega) (by omega), y05]
    · rw [hs' 19 M 3 (by omega)]
      unfold bgC
      rw [zu_rd, if_neg (by omega), los_rd, if_neg (by omega), if_pos (by omega)]
      rfl
    · -- the new process
      have cB : ∀ i, ¬ (11 ≤ i ∧ i ≤ 16) → i ≠ 8 → s' 11 M i = sX 11 M i := fun i g1 g2 => by
        rw [hs' 11 M i (by omega)]
        unfold bgC
        rw [zu_rd, if_neg (by omega), los_rd, if_neg (by omega), if_neg (by omega), zu_rd, if_neg (by omega), zu_rd, if_neg (by omega), zu_rd, if_neg (by omega), zu_rd, if_neg (by omega), zu_rd, if_neg (by omega), rz_rd, if_neg (by omega), rz_rd, if_neg (by omega)]
      have tB : ∀ a, (a < 10 ∨ (17 ≤ a ∧ a ≤ 19)) → a ≠ 2 → zu tb 10 0 M 0 a 0 M = if a = 0 then zu tb 10 0 M 0 a 0 M else tX a 0 M := fun a g1 g2 => by
        by_cases ha : a = 0
        · rw [if_pos ha]
        · rw [if_neg ha]
          exact w1 a 0 M (by omega) (by omega) (by omega) (by omega) (by omega) (by omega)
      have tX' : ∀ a, (3 ≤ a ∧ a ≤ 9) ∨ (17 ≤ a ∧ a ≤ 19) → zu tb 10 0 M 0 a 0 M = tX a 0 M := fun a g => w1 a 0 M (by omega) (by omega) (by omega) (by omega) (by omega) (by omega)
      have tr : ∀ a i, 11 ≤ a → a ≤ 16 → zu tb 10 0 M 0 a 0 i = zu (zu (zu (zu (zu (rz (rz tX 2 0 B S) 11 0 (8 * M) 8) 15 0 M 0) 12 0 M (nI (4096 + 4 * (B + K)))) 13 0 M 0) 14 0 M (nI (2 * (F + E)))) 16 0 M 0 a 0 i := fun a i g1 g2 => by
        rw [zu_rd, if_neg (by omega), k1 a 0 i (by omega) (by omega) (by omega)]
      have cD : ∀ i, 11 ≤ i → i ≤ 16 → s' 11 M i = zu (zu (zu (zu (zu (zu (rz (rz sX 3 0 B S) 12 M 0 8) 11 M 11 (nI (4096 + 4 * (B + K)))) 11 M 12 0) 11 M 13 (sX 11 M 4)) 11 M 14 0) 11 M 15 0) 11 M 16 0 11 M i := fun i g1 g2 => by
        rw [hs' 11 M i (by omega)]
        unfold bgC
        by_cases h16 : i = 16
        · rw [h16, zu_rd, if_pos (by omega), zu_rd, if_pos (by omega)]
        · rw [zu_rd, if_neg (by omega), los_rd, if_neg (by omega), if_neg (by omega), zu_rd (zu (zu (zu (zu (zu (rz (rz sX 3 0 B S) 12 M 0 8) 11 M 11 (nI (4096 + 4 * (B + K)))) 11 M 12 0) 11 M 13 (sX 11 M 4)) 11 M 14 0) 11 M 15 0) 11 M 16 0 11 M i, if_neg (by omega)]
      refine ⟨?_, ?_, ?_⟩
      · unfold St
        rw [cB 2 (by omega) (by omega), cB 3 (by omega) (by omega), cB 4 (by omega) (by omega), cB 5 (by omega) (by omega), cB 6 (by omega) (by omega), cB 7 (by omega) (by omega), cB 9 (by omega) (by omega), tX' 3 (by omega), tX' 4 (by omega), tX' 5 (by omega), tX' 6 (by omega), tX' 7 (by omega), tX' 8 (by omega), tX' 9 (by omega)]
        exact ⟨x2, x3, x4, x5, x6, x7, x9, y3, y4, y5, y6, y7, y8, y9, hF, hT, hS, hB, hK, hK2, hE, hP⟩
      · have d11 : s' 11 M 11 = nI (4096 + 4 * (B + K)) := by rw [cD 11 (by omega) (by omega), zu_rd, if_neg (by omega), zu_rd, if_neg (by omega), zu_rd, if_neg (by omega), zu_rd, if_neg (by omega), zu_rd, if_neg (by omega), zu_rd, if_pos (by omega)]
        have d12 : s' 11 M 12 = 0 := by rw [cD 12 (by omega) (by omega), zu_rd, if_neg (by omega), zu_rd, if_neg (by omega), zu_rd, if_neg (by omega), zu_rd, if_neg (by omega), zu_rd, if_pos (by omega)]
        have d13 : s' 11 M 13 = nI (2 * (F + E)) := by rw [cD 13 (by omega) (by omega), zu_rd, if_neg (by omega), zu_rd, if_neg (by omega), zu_rd, if_neg (by omega), zu_rd, if_pos (by omega)]; exact x4
        have d14 : s' 11 M 14 = 0 := by rw [cD 14 (by omega) (by omega), zu_rd, if_neg (by omega), zu_rd, if_neg (by omega), zu_rd, if_pos (by omega)]
        have d15 : s' 11 M 15 = 0 := by rw [cD 15 (by omega) (by omega), zu_rd, if_neg (by omega), zu_rd, if_pos (by omega)]
        have d16 : s' 11 M 16 = 0 := by rw [cD 16 (by omega) (by omega), zu_rd, if_pos (by omega)]
        have t12 : zu tb 10 0 M 0 12 0 M = nI (4096 + 4 * (B + K)) := by rw [tr 12 M (by omega) (by omega), zu_rd, if_neg (by omega), zu_rd, if_neg (by omega), zu_rd, if_neg (by omega), zu_rd, if_pos (by omega)]
        have t13 : zu tb 10 0 M 0 13 0 M = 0 := by rw [tr 13 M (by omega) (by omega), zu_rd, if_neg (by omega), zu_rd, if_neg (by omega), zu_rd, if_pos (by omega)]
        have t14 : zu tb 10 0 M 0 14 0 M = nI (2 * (F + E)) := by rw [tr 14 M (by omega) (by omega), zu_rd, if_neg (by omega), zu_rd, if_pos (by omega)]
        have t15 : zu tb 10 0 M 0 15 0 M = 0 := by rw [tr 15 M (by omega) (by omega), zu_rd, if_neg (by omega), zu_rd, if_neg (by omega), zu_rd, if_neg (by omega), zu_rd, if_neg (by omega), zu_rd, if_pos (by omega)]
        have t16 : zu tb 10 0 M 0 16 0 M = 0 := by rw [tr 16 M (by omega) (by omega), zu_rd, if_pos (by omega)]
        have t10 : zu tb 10 0 M 0 10 0 M = 0 := by rw [zu_rd, if_pos (by omega)]
        unfold Dy
        rw [d11, d12, d13, d14, d15, d16, t12, t13, t14, t15, t16, t10, tX' 17 (by omega), tX' 18 (by omega), tX' 19 (by omega), y17, y18, y19, cB 17 (by omega) (by omega), cB 18 (by omega) (by omega), cB 19 (by omega) (by omega), xo 11 M 17 (by omega), xo 11 M 18 (by omega), xo 11 M 19 (by omega)]
        refine ⟨fun i hi => ?_, rfl, rfl, fun _ => rfl, rfl, ⟨0, by omega, rfl⟩, rfl, Or.inl rfl, rfl, Or.inl rfl, fun g => absurd g (by decide), fun g => absurd g (by decide), ?_, h17.1, h17.2.1, h17.2.2⟩
        · rw [hs' 12 M i (by omega), tr 11 _ (by omega) (by omega)]
          unfold bgC
          rw [zu_rd, if_neg (by omega), los_rd, if_neg (by omega), if_neg (by omega), zu_rd, if_neg (by omega), zu_rd, if_neg (by omega), zu_rd, if_neg (by omega), zu_rd, if_neg (by omega), zu_rd, if_neg (by omega), rz_rd, if_pos (by omega), zu_rd, if_neg (by omega), zu_rd, if_neg (by omega), zu_rd, if_neg (by omega), zu_rd, if_neg (by omega), zu_rd, if_neg (by omega), rz_rd, if_pos (by omega)]
        · rw [nI_toInt (by omega)]
          omega
      · have g0 : gW (fun _ => 0) = 0 := rfl
        have cN : ∀ a i, 13 ≤ a → a ≤ 18 → s' a M i = los (zu (zu (zu (zu (zu (rz (rz sX 3 0 B S) 12 M 0 8) 11 M 11 (nI (4096 + 4 * (B + K)))) 11 M 12 0) 11 M 13 (sX 11 M 4)) 11 M 14 0) 11 M 15 0) M a M i := fun a i g1 g2 => by
          rw [hs' a M i (by omega)]
          unfold bgC
          rw [zu_rd, if_neg (by omega)]
        have t20 : ∀ a i, (a = 20 ∨ a = 21 ∨ a = 24) → i < 3 → zu tb 10 0 M 0 a 0 (3 * M + i) = 0 := fun a i ha hi => by rw [zu_rd, if_neg (by omega)]; exact k2 a i ha hi
        refine ⟨fun i hi => ⟨Nat.zero_le _, Nat.zero_le _, ?_, ?_⟩, ?_, ?_, fun i hi => ⟨?_, fun hne => absurd ?_ hne⟩, fun i hi => ⟨?_, ?_, fun h => absurd h (Nat.lt_irrefl 0)⟩⟩
        · rw [t20 20 i (by omega) hi]; rfl
        · rw [cN 14 i (by omega) (by omega), los_rd, if_neg (by omega), if_pos (by omega), if_pos rfl]
        · rw [g0, cN 13 6 (by omega) (by omega), los_rd, if_neg (by omega), if_pos (by omega)]; rfl
        · rw [g0, zop_0 hS, hs' 11 M 8 (by omega)]
          unfold bgC
          rw [zu_rd, if_neg (by omega), los_rd, if_pos (by omega), zu_rd, if_neg (by omega), zu_rd, if_neg (by omega), zu_rd, if_neg (by omega), zu_rd, if_neg (by omega), zu_rd, if_neg (by omega), rz_rd, if_neg (by omega), rz_rd, if_neg (by omega)]
          exact x6
        · rw [t20 21 i (by omega) hi, cN 15 i (by omega) (by omega), los_rd, if_neg (by omega), if_pos (by omega)]
        · rw [cN 15 i (by omega) (by omega), los_rd, if_neg (by omega), if_pos (by omega)]
        · rw [cN 18 i (by omega) (by omega), los_rd, if_neg (by omega), if_pos (by omega)]; rfl
        · rw [t20 24 i (by omega) hi]; rfl
end NEW
