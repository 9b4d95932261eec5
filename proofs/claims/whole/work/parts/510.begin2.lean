/-! a process begins: the reference, the relation, restart -/
theorem gm_begin {s : zS} {p ba si ke en u : Nat} (hp : p < 4) (h5 : s 5 0 p = nI ba) (h6 : s 6 0 p = nI si) (h7 : s 7 0 p = nI ke) (h8 : s 8 0 p = nI en) (hb : ba + si ≤ 128) (h16 : u ≤ 16) (hu : s 0 0 28 = nI u) :
    ∃ (t : zS) (v : Nat), k_GM_begin s (nI p) = some (zu t 10 0 p 0) ∧ fgt (zu (zu (zu (zu (zu (rz (rz s 2 0 ba si) 11 0 (8 * p) 8) 15 0 p 0) 12 0 p (nI (4096 + 4 * (ba + ke)))) 13 0 p 0) 14 0 p (nI en)) 16 0 p 0) t p u v := by
  have zp : zi (nI p) 4 = true := zi_n hp (by omega)
  have cp : (nI p).toNatClampNeg = p := nI_clamp (by omega)
  obtain ⟨t, v, e1, hf⟩ := gm_forget (s := zu (zu (zu (zu (zu (rz (rz s 2 0 ba si) 11 0 (8 * p) 8) 15 0 p 0) 12 0 p (nI (4096 + 4 * (ba + ke)))) 13 0 p 0) 14 0 p (nI en)) 16 0 p 0) (p := p) (u := u) hp h16 (by
    rw [zu_rd, if_neg (by omega), zu_rd, if_neg (by omega), zu_rd, if_neg (by omega), zu_rd, if_neg (by omega), zu_rd, if_neg (by omega), rz_rd, if_neg (by omega), rz_rd, if_neg (by omega)]; exact hu)
  refine ⟨t, v, ?_, hf⟩
  unfold k_GM_begin
  rw [show k_GM_begin_2 (nI p) FU s 0 = k_GM_begin_2 (nI p) FU s (nI 0) from rfl, gm_ram hp hb si FU 0 s (by omega) (by unfold FU; omega) h6 h5]
  obtain ⟨f', e⟩ := gm_gen hp 8 FU 0 (rz s 2 0 (ba + 0) si) (by omega) (by unfold FU; omega)
  rw [show k_GM_begin_34 (nI p) FU (rz s 2 0 (ba + 0) si) 0 = k_GM_begin_34 (nI p) FU (rz s 2 0 (ba + 0) si) (nI 0) from rfl, e, k_GM_begin_34, if_pos (show (8 : Int32) ≤ nI 8 by decide)]
  simp only [ck_p zp, cp, lt_e]
  have r5 : ∀ x : Int32, zu (rz (rz s 2 0 (ba + 0) si) 11 0 (8 * p + 0) 8) 15 0 p x 5 0 p = nI ba := fun x => by rw [zu_rd, if_neg (by omega), rz_rd, if_neg (by omega), rz_rd, if_neg (by omega)]; exact h5
  have r7 : ∀ x : Int32, zu (rz (rz s 2 0 (ba + 0) si) 11 0 (8 * p + 0) 8) 15 0 p x 7 0 p = nI ke := fun x => by rw [zu_rd, if_neg (by omega), rz_rd, if_neg (by omega), rz_rd, if_neg (by omega)]; exact h7
  have r8 : ∀ x y z : Int32, zu (zu (zu (rz (rz s 2 0 (ba + 0) si) 11 0 (8 * p + 0) 8) 15 0 p x) 12 0 p y) 13 0 p z 8 0 p = nI en := fun x y z => by rw [zu_rd, if_neg (by omega), zu_rd, if_neg (by omega), zu_rd, if_neg (by omega), rz_rd, if_neg (by omega), rz_rd, if_neg (by omega)]; exact h8
  rw [r5, r7, nI_add, show (4 : Int32) = nI 4 from rfl, pk_mul, show (4096 : Int32) = nI 4096 from rfl, nI_add, r8]
  rw [show ba + 0 = ba from rfl, show 8 * p + 0 = 8 * p from rfl, e1, bn_s]
section BEGIN
variable {σ τ : zS} {N u : Nat} {c fr to ba si ke en po : Nat → Nat} {r w b : Nat → Nat → Nat}
theorem rl_rz (m : Nat) : ∀ (q : Nat) {σ τ : zS}, RL σ τ N u c fr to ba si ke en po r w b → RL (rz σ 3 0 q m) (rz τ 2 0 q m) N u c fr to ba si ke en po r w b := by
  induction m with
  | zero => intro q σ τ h; rw [rz_z, rz_z]; exact h
  | succ m ih =>
    intro q σ τ h
    exact ih (q + 1) (rl_ram h q 0)
/-- the registers as at the start -/
theorem rl_regs {p : Nat} {σ2 τ2 : zS} (h : RL σ τ N u c fr to ba si ke en po r w b) (hp : p < N)
    (a1 : ∀ a b i : Nat, ¬ (b = p ∧ a = 12) → ¬ (b = p ∧ a = 11 ∧ 11 ≤ i ∧ i ≤ 16) → σ2 a b i = σ a b i) (a2 : ∀ i, i < 8 → σ2 12 p i = 0) (a11 : σ2 11 p 11 = nI (4096 + 4 * (ba p + ke p))) (a12 : σ2 11 p 12 = 0) (a13 : σ2 11 p 13 = nI (2 * (fr p + en p))) (a14 : σ2 11 p 14 = 0) (a15 : σ2 11 p 15 = 0) (a16 : σ2 11 p 16 = 0)
    (b1 : ∀ a b i : Nat, ¬ (a = 11 ∧ b = 0 ∧ 8 * p ≤ i ∧ i < 8 * p + 8) → ¬ ((a = 10 ∨ (12 ≤ a ∧ a ≤ 16)) ∧ b = 0 ∧ i = p) → τ2 a b i = τ a b i) (b2 : ∀ i, i < 8 → τ2 11 0 (8 * p + i) = 0) (b10 : τ2 10 0 p = 0) (b12 : τ2 12 0 p = nI (4096 + 4 * (ba p + ke p))) (b13 : τ2 13 0 p = 0) (b14 : τ2 14 0 p = nI (2 * (fr p + en p))) (b15 : τ2 15 0 p = 0) (b16 : τ2 16 0 p = 0) :
    RL σ2 τ2 N u c fr to ba si ke en po r w b := by
  obtain ⟨hB, hP, hQ, hZ⟩ := h
  have h4 : N ≤ 4 := hB.2.2.2.2.2.2.2.2.1
  refine ⟨?_, fun q hq => ?_, ?_, fun q g1 g2 j hj => ?_⟩
  · have fl : ∀ a b, a < 11 → σ2 a b = σ a b := fun a b ha => funext fun i => a1 a b i (by omega) (by omega)
    have fm : ∀ a, (a < 10 ∨ 16 < a) → τ2 a 0 = τ a 0 := fun a ha => funext fun i => b1 a 0 i (by omega) (by omega)
    unfold Bd at hB ⊢
    rw [fl 2 0 (by omega), fl 3 0 (by omega), fl 8 0 (by omega), fl 0 0 (by omega), fl 5 0 (by omega), fl 6 0 (by omega), fl 7 0 (by omega), fm 1 (by omega), fm 2 (by omega), fm 0 (by omega), fm 29 (by omega), fm 30 (by omega)]
    exact hB
  · by_cases hqp : q = p
    · subst hqp
      obtain ⟨hS, hD, hN⟩ := hP q hq
      have ea : ∀ i, ¬ (11 ≤ i ∧ i ≤ 16) → σ2 11 q i = σ 11 q i := fun i hi => a1 11 q i (by omega) (by omega)
      have ek : ∀ a, a ≠ 11 → a ≠ 12 → σ2 a q = σ a q := fun a ha hb => funext fun i => a1 a q i (by omega) (by omega)
      have et : ∀ a, (a < 10 ∨ 16 < a) → ∀ i, τ2 a 0 i = τ a 0 i := fun a ha i => b1 a 0 i (by omega) (by omega)
      refine ⟨?_, ?_, ?_⟩
      · unfold St at hS ⊢
        rw [ea 2 (by omega), ea 3 (by omega), ea 4 (by omega), ea 5 (by omega), ea 6 (by omega), ea 7 (by omega), ea 9 (by omega), et 3 (by omega), et 4 (by omega), et 5 (by omega), et 6 (by omega), et 7 (by omega), et 8 (by omega), et 9 (by omega)]
        exact hS
      · obtain ⟨-, -, -, -, -, -, -, -, -, -, -, -, -, d14, d15, d16⟩ := hD
        have hba := hS.2.2.2.2.2.2.2.2.2.2.2.2.2.2.2.2.2.1
        have hke := hS.2.2.2.2.2.2.2.2.2.2.2.2.2.2.2.2.2.2.2.1
        unfold Dy
        rw [a11, a12, a13, a14, a15, a16, b12, b13, b14, b15, b16, b10, ea 17 (by omega), ea 18 (by omega), ea 19 (by omega), et 17 (by omega), et 18 (by omega), et 19 (by omega)]
        refine ⟨fun i hi => by rw [a2 i hi, b2 i hi], rfl, rfl, fun _ => rfl, rfl, ⟨0, by omega, rfl⟩, rfl, Or.inl rfl, rfl, Or.inl rfl, fun h => absurd h (by decide), fun h => absurd h (by decide), ?_, d14, d15, d16⟩
        rw [nI_toInt (by omega)]
        omega
      · obtain ⟨n1, n2, n3, n4, n5⟩ := hN
        rw [ek 13 (by omega) (by omega), ek 14 (by omega) (by omega), ek 15 (by omega) (by omega), ek 16 (by omega) (by omega), ek 17 (by omega) (by omega), ek 18 (by omega) (by omega)]
        refine ⟨fun i hi => ?_, n2, by rw [ea 8 (by omega)]; exact n3, fun i hi => ?_, fun i hi => ?_⟩
        · rw [et 20 (by omega)]; exact n1 i hi
        · rw [et 21 (by omega), et 22 (by omega)]; exact n4 i hi
        · rw [et 24 (by omega), et 23 (by omega)]; exact n5 i hi
    · exact ps_fr (fun a j g1 g2 => a1 a q j (by omega) (by omega)) (fun a g1 g2 g3 => b1 a 0 q (by omega) (by omega)) (fun j hj => b1 11 0 _ (by omega) (by omega)) (fun a j g1 g2 g3 => b1 a 0 _ (by omega) (by omega)) (hP q hq)
  · exact qs_fr (fun a q j g => a1 a q j (by omega) (by omega)) (b1 0 0 28 (by omega) (by omega)) (fun j => by unfold qe; rw [b1 25 0 j (by omega) (by omega), b1 26 0 j (by omega) (by omega), b1 27 0 j (by omega) (by omega), b1 28 0 j (by omega) (by omega)]) hQ
  · rw [a1 14 q j (by omega) (by omega)]
    exact hZ q g1 g2 j hj
theorem begin_ok {p : Nat} (h : RL σ τ N u c fr to ba si ke en po r w b) (hp : p < N) : ∃ (σ' τ' : zS) (v : Nat), k_BP_begin σ p = some σ' ∧ k_GM_begin τ (nI p) = some τ' ∧ RL σ' τ' N v (fun q => if q = p then 0 else c q) fr to ba si ke en po (fun q => if q = p then fun _ => 0 else r q) (fun q => if q = p then fun _ => 0 else w q) b ∧ (∀ a b i, a < 11 → a ≠ 3 → σ' a b i = σ a b i) ∧ (∀ i, i ≠ 28 → τ' 0 0 i = τ 0 0 i) := by
  have h4 : N ≤ 4 := h.1.2.2.2.2.2.2.2.2.1
  obtain ⟨s2, s3, s4, s5, s6, s7, s9, t3, t4, t5, t6, t7, t8, t9, x1, x2, x3, x4, x5⟩ := (h.2.1 p hp).1
  obtain ⟨t, v, e1, hf⟩ := gm_begin (s := τ) (p := p) (u := u) (by omega) t5 t6 t7 t8 x4 h.2.2.1.2.1 h.2.2.1.1
  obtain ⟨f1, f2, f3, f4, f5⟩ := hf
  have h1 := rl_rz (si p) (ba p) h
  -- the reference's state without its registers
  have hf' : fgt (rz τ 2 0 (ba p) (si p)) (fun a b i => if (a = 11 ∧ b = 0 ∧ 8 * p ≤ i ∧ i < 8 * p + 8) ∨ (12 ≤ a ∧ a ≤ 16 ∧ b = 0 ∧ i = p) then rz τ 2 0 (ba p) (si p) a b i else t a b i) p u v := by
    have hs8 : ∀ a b i : Nat, ¬ ((a = 11 ∧ b = 0 ∧ 8 * p ≤ i ∧ i < 8 * p + 8) ∨ (12 ≤ a ∧ a ≤ 16 ∧ b = 0 ∧ i = p)) → zu (zu (zu (zu (zu (rz (rz τ 2 0 (ba p) (si p)) 11 0 (8 * p) 8) 15 0 p 0) 12 0 p (nI (4096 + 4 * (ba p + ke p)))) 13 0 p 0) 14 0 p (nI (2 * (fr p + en p)))) 16 0 p 0 a b i = rz τ 2 0 (ba p) (si p) a b i := fun a b i g => by
      rw [zu_rd, if_neg (by omega), zu_rd, if_neg (by omega), zu_rd, if_neg (by omega), zu_rd, if_neg (by omega), zu_rd, if_neg (by omega), rz_rd 11, if_neg (by omega)]
    refine ⟨fun a b i g1 g2 g3 => ?_, fun a d ha hd => ?_, ?_, f4, ?_⟩
    · dsimp only
      split
      · rfl
      · rename_i g
        rw [f1 a b i g1 g2 g3, hs8 a b i g]
    · dsimp only
      rw [if_neg (by omega)]
      exact f2 a d ha hd
    · dsimp only
      rw [if_neg (by omega)]
      exact f3
    · have q1 : qM (fun a b i => if (a = 11 ∧ b = 0 ∧ 8 * p ≤ i ∧ i < 8 * p + 8) ∨ (12 ≤ a ∧ a ≤ 16 ∧ b = 0 ∧ i = p) then rz τ 2 0 (ba p) (si p) a b i else t a b i) v = qM t v := by
        refine List.map_congr_left (fun i _ => ?_)
        dsimp only
        rw [if_neg (by omega), if_neg (by omega), if_neg (by omega), if_neg (by omega)]
      have q2 : qM (zu (zu (zu (zu (zu (rz (rz τ 2 0 (ba p) (si p)) 11 0 (8 * p) 8) 15 0 p 0) 12 0 p (nI (4096 + 4 * (ba p + ke p)))) 13 0 p 0) 14 0 p (nI (2 * (fr p + en p)))) 16 0 p 0) u = qM (rz τ 2 0 (ba p) (si p)) u := by
        refine List.map_congr_left (fun i _ => ?_)
        rw [hs8 25 0 i (by omega), hs8 26 0 i (by omega), hs8 27 0 i (by omega), hs8 28 0 i (by omega)]
      rw [q1, f5, q2]
  have h2 := rl_lose h1 hp hf'
  have t8 : ∀ a b i : Nat, ((a = 11 ∧ b = 0 ∧ 8 * p ≤ i ∧ i < 8 * p + 8) ∨ (12 ≤ a ∧ a ≤ 16 ∧ b = 0 ∧ i = p)) → t a b i = zu (zu (zu (zu (zu (rz (rz τ 2 0 (ba p) (si p)) 11 0 (8 * p) 8) 15 0 p 0) 12 0 p (nI (4096 + 4 * (ba p + ke p)))) 13 0 p 0) 14 0 p (nI (2 * (fr p + en p)))) 16 0 p 0 a b i := fun a b i g => f1 a b i (by omega) (by omega) (by omega)
  refine ⟨_, _, v, bp_begin s5 s6 s7 x4, e1, rl_regs h2 hp ?_ ?_ ?_ ?_ ?_ ?_ ?_ ?_ ?_ ?_ ?_ ?_ ?_ ?_ ?_ ?_, ?_, ?_⟩
  · intro a b i g1 g2
    unfold bgC
    rw [zu_rd, if_neg (by omega), los_rd, los_rd]
    have e : ∀ a b i : Nat, ¬ (b = p ∧ a = 12) → ¬ (b = p ∧ a = 11 ∧ 11 ≤ i ∧ i ≤ 15) → zu (zu (zu (zu (zu (rz (rz σ 3 0 (ba p) (si p)) 12 p 0 8) 11 p 11 (nI (4096 + 4 * (ba p + ke p)))) 11 p 12 0) 11 p 13 (σ 11 p 4)) 11 p 14 0) 11 p 15 0 a b i = rz σ 3 0 (ba p) (si p) a b i := fun a b i g1 g2 => by
      rw [zu_rd, if_neg (by omega), zu_rd, if_neg (by omega), zu_rd, if_neg (by omega), zu_rd, if_neg (by omega), zu_rd, if_neg (by omega), rz_rd 12, if_neg (by omega)]
    rw [e 11 p 6 (by omega) (by omega), e a b i g1 (by omega)]
  · intro i hi
    unfold bgC
    rw [zu_rd, if_neg (by omega), los_rd, if_neg (by omega), if_neg (by omega), zu_rd, if_neg (by omega), zu_rd, if_neg (by omega), zu_rd, if_neg (by omega), zu_rd, if_neg (by omega), zu_rd, if_neg (by omega), rz_rd, if_pos (by omega)]
  · unfold bgC
    rw [zu_rd, if_neg (by omega), los_rd, if_neg (by omega), if_neg (by omega), zu_rd, if_neg (by omega), zu_rd, if_neg (by omega), zu_rd, if_neg (by omega), zu_rd, if_neg (by omega), zu_rd, if_pos (by omega)]
  · unfold bgC
    rw [zu_rd, if_neg (by omega), los_rd, if_neg (by omega), if_neg (by omega), zu_rd, if_neg (by omega), zu_rd, if_neg (by omega), zu_rd, if_neg (by omega), zu_rd, if_pos (by omega)]
  · unfold bgC
    rw [zu_rd, if_neg (by omega), los_rd, if_neg (by omega), if_neg (by omega), zu_rd, if_neg (by omega), zu_rd, if_neg (by omega), zu_rd, if_pos (by omega)]
    exact s4
  · unfold bgC
    rw [zu_rd, if_neg (by omega), los_rd, if_neg (by omega), if_neg (by omega), zu_rd, if_neg (by omega), zu_rd, if_pos (by omega)]
  · unfold bgC
    rw [zu_rd, if_neg (by omega), los_rd, if_neg (by omega), if_neg (by omega), zu_rd, if_pos (by omega)]
  · unfold bgC
    rw [zu_rd, if_pos (by omega)]
  · intro a b i g1 g2
    rw [zu_rd, if_neg (by omega), if_neg (by omega)]
  · intro i hi
    rw [zu_rd, if_neg (by omega), t8 11 0 (8 * p + i) (by omega), zu_rd, if_neg (by omega), zu_rd, if_neg (by omega), zu_rd, if_neg (by omega), zu_rd, if_neg (by omega), zu_rd, if_neg (by omega), rz_rd, if_pos (by omega)]
  · rw [zu_rd, if_pos (by omega)]
  · rw [zu_rd, if_neg (by omega), t8 12 0 p (by omega), zu_rd, if_neg (by omega), zu_rd, if_neg (by omega), zu_rd, if_neg (by omega), zu_rd, if_pos (by omega)]
  · rw [zu_rd, if_neg (by omega), t8 13 0 p (by omega), zu_rd, if_neg (by omega), zu_rd, if_neg (by omega), zu_rd, if_pos (by omega)]
  · rw [zu_rd, if_neg (by omega), t8 14 0 p (by omega), zu_rd, if_neg (by omega), zu_rd, if_pos (by omega)]
  · rw [zu_rd, if_neg (by omega), t8 15 0 p (by omega), zu_rd, if_neg (by omega), zu_rd, if_neg (by omega), zu_rd, if_neg (by omega), zu_rd, if_neg (by omega), zu_rd, if_pos (by omega)]
  · rw [zu_rd, if_neg (by omega), t8 16 0 p (by omega), zu_rd, if_pos (by omega)]
  · intro a b i g1 g2
    unfold bgC
    rw [zu_rd, if_neg (by omega), los_rd, if_neg (by omega), if_neg (by omega), zu_rd, if_neg (by omega), zu_rd, if_neg (by omega), zu_rd, if_neg (by omega), zu_rd, if_neg (by omega), zu_rd, if_neg (by omega), rz_rd, if_neg (by omega), rz_rd, if_neg (by omega)]
  · intro i hi
    rw [zu_rd, if_neg (by omega), f1 0 0 i (by omega) (by omega) (by omega), zu_rd, if_neg (by omega), zu_rd, if_neg (by omega), zu_rd, if_neg (by omega), zu_rd, if_neg (by omega), zu_rd, if_neg (by omega), rz_rd, if_neg (by omega), rz_rd, if_neg (by omega)]
end BEGIN
theorem k_restart : ok1 Rel k_GK_restart k_GM_restart := fun σ τ a hR => by
  have hR' := hR
  obtain ⟨N, u, c, fr, to, ba, si, ke, en, po, r, w, b, h⟩ := RL.of hR
  have hB := h.1
  have h4 : N ≤ 4 := hB.2.2.2.2.2.2.2.2.1
  unfold k_GK_restart k_GM_restart
  rcases q_find hB.2.2.2.2.2.2.1 h4 a with ⟨e, g⟩ | ⟨p, hp, rfl, e⟩
  · rw [e, (q_there hB.2.2.2.2.2.2.2.1 a).1 g]
    exact ⟨σ, τ, 0, rfl, rfl, hR'⟩
  · rw [e, (q_there hB.2.2.2.2.2.2.2.1 (nI p)).2 p hp h4 rfl, bn_s, bn_s]
    dsimp only
    rw [if_neg (show ¬ (1 : Int32) = 0 by decide)]
    obtain ⟨σ', τ', v, e1, e2, e3, -⟩ := begin_ok h hp
    rw [e1, e2, bn_s, bn_s]
    exact ⟨σ', τ', 1, rfl, rfl, e3.rel⟩
