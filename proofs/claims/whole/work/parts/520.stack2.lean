/-! stacking a frame: the reference, and both -/
theorem gm_sf {s : zS} {q k : Nat} {v : Int32} (hk : q + k < 128) : k_GM_set s (nI (4096 + 4 * q) + nI (4 * k)) v = some (zu s 2 0 (q + k) v) := by
  rw [add4, gm_set hk]
theorem gm_stk {s : zS} {p q : Nat} {at' l4 : Int32} (hp : p < 4) (hq : q + 8 ≤ 128) (f : Nat → Int32) (hf : f = fwd (fun k => s 11 0 (8 * p + k)) (s 13 0 p) at' ((s 15 0 p * (268435456 : Int32) + (16777216 : Int32)) + (if l4 = 0 then 0 else 512))) : k_GM_stack_56 (nI p) at' FU s (nI (4096 + 4 * q)) l4 0 = some (zu (zu (wrn s 2 q f 0 8) 12 0 p (nI (4096 + 4 * q))) 16 0 p 1) := by
  have zp : zi (nI p) 4 = true := zi_n hp (by omega)
  have cp : (nI p).toNatClampNeg = p := nI_clamp (by omega)
  have lp : ∀ (m k g : Nat) (t : zS), k + m = 4 → m < g → (∀ a b i, a ≠ 2 → t a b i = s a b i) → ∃ g', k_GM_stack_56 (nI p) at' g t (nI (4096 + 4 * q)) l4 (nI k) = k_GM_stack_56 (nI p) at' (g' + 1) (wrn t 2 q f k m) (nI (4096 + 4 * q)) l4 (nI 4) := by
    intro m
    induction m with
    | zero =>
      intro k g t hk hg _
      obtain ⟨g, rfl⟩ : ∃ g', g = g' + 1 := ⟨g - 1, by omega⟩
      obtain rfl : k = 4 := by omega
      exact ⟨g, rfl⟩
    | succ m ih =>
      intro k g t hk hg ht
      obtain ⟨g, rfl⟩ : ∃ g', g = g' + 1 := ⟨g - 1, by omega⟩
      obtain ⟨g', e⟩ := ih (k + 1) g (zu t 2 0 (q + k) (f k)) (by omega) (by omega) (fun a b i ha => by rw [zu_rd, if_neg (by omega)]; exact ht a b i ha)
      refine ⟨g', ?_⟩
      have hfk : f k = t 11 0 (8 * p + k) := by rw [hf, ht 11 0 _ (by omega)]; unfold fwd; rw [if_pos (by omega)]
      rw [k_GM_stack_56, if_neg (show ¬ (4 : Int32) ≤ nI k from nI_ge (b := 4) (by omega) (by omega)), ix8, ck_p (zi_n (by omega) (by omega)), nI_clamp (by omega), show (4 : Int32) * nI k = nI (4 * k) by rw [show (4 : Int32) = nI 4 from rfl, pk_mul], gm_sf (by omega), bn_s, lt_e, nI_1, ← hfk]
      exact e
  obtain ⟨g', e⟩ := lp 4 0 FU s (by omega) (by unfold FU; omega) (fun _ _ _ _ => rfl)
  have o : ∀ (t : zS) (j : Nat) (v : Int32) (a b i : Nat), a ≠ 2 → (∀ a b i, a ≠ 2 → t a b i = s a b i) → zu t 2 0 j v a b i = s a b i := fun t j v a b i ha ht => by rw [zu_rd, if_neg (by omega)]; exact ht a b i ha
  have o4 : ∀ a b i, a ≠ 2 → wrn s 2 q f 0 4 a b i = s a b i := fun a b i ha => wrn_o 4 0 s a b i (fun g => ha g.1)
  have f4 : f 4 = 0 := by rw [hf]; rfl
  have f5 : f 5 = s 13 0 p := by rw [hf]; rfl
  have f6 : f 6 = at' := by rw [hf]; rfl
  have f7 : f 7 = (s 15 0 p * (268435456 : Int32) + (16777216 : Int32)) + (if l4 = 0 then 0 else 512) := by rw [hf]; rfl
  rw [show k_GM_stack_56 (nI p) at' FU s (nI (4096 + 4 * q)) l4 0 = k_GM_stack_56 (nI p) at' FU s (nI (4096 + 4 * q)) l4 (nI 0) from rfl, e, k_GM_stack_56, if_pos (show (4 : Int32) ≤ nI 4 by decide)]
  have o5 : ∀ a b i, a ≠ 2 → zu (wrn s 2 q f 0 4) 2 0 (q + 4) 0 a b i = s a b i := fun a b i ha => o _ _ _ a b i ha o4
  have o6 : ∀ a b i, a ≠ 2 → zu (zu (wrn s 2 q f 0 4) 2 0 (q + 4) 0) 2 0 (q + 5) (s 13 0 p) a b i = s a b i := fun a b i ha => o _ _ _ a b i ha o5
  have o7 : ∀ a b i, a ≠ 2 → zu (zu (zu (wrn s 2 q f 0 4) 2 0 (q + 4) 0) 2 0 (q + 5) (s 13 0 p)) 2 0 (q + 6) at' a b i = s a b i := fun a b i ha => o _ _ _ a b i ha o6
  rw [show (16 : Int32) = nI (4 * 4) from rfl, show (20 : Int32) = nI (4 * 5) from rfl, show (24 : Int32) = nI (4 * 6) from rfl, show (28 : Int32) = nI (4 * 7) from rfl, gm_sf (by omega), bn_s, ck_p zp, cp, o5 13 0 p (by omega), gm_sf (by omega), bn_s, gm_sf (by omega), bn_s, ck_p zp, o7 15 0 p (by omega)]
  unfold k_GM_stack_151
  have key : ∀ x : Int32, f 7 = (s 15 0 p * (268435456 : Int32) + (16777216 : Int32)) + x → (bn (k_GM_set (zu (zu (zu (wrn s 2 q f 0 4) 2 0 (q + 4) 0) 2 0 (q + 5) (s 13 0 p)) 2 0 (q + 6) at') (nI (4096 + 4 * q) + nI (4 * 7)) ((s 15 0 p * (268435456 : Int32) + (16777216 : Int32)) + x)) fun s10 => ck (zi (nI p) 4) <| lt (zu s10 12 0 (nI p).toNatClampNeg (nI (4096 + 4 * q))) fun s11 => ck (zi (nI p) 4) <| lt (zu s11 16 0 (nI p).toNatClampNeg 1) fun s12 => some s12) = some (zu (zu (wrn s 2 q f 0 8) 12 0 p (nI (4096 + 4 * q))) 16 0 p 1) := fun x hx => by
    rw [gm_sf (by omega), bn_s, ck_p zp, lt_e, ck_p zp, lt_e, cp, ← hx, ← f6, ← f5, ← f4]
    rfl
  by_cases hl : l4 = 0
  · rw [if_pos hl]
    exact key 0 (by rw [f7, if_pos hl])
  · rw [if_neg hl]
    exact key 512 (by rw [f7, if_neg hl])
section STACK2
variable {σ τ : zS} {N u : Nat} {c fr to ba si ke en po : Nat → Nat} {r w b : Nat → Nat → Nat}
/-- where the frame goes, both sides: at an address that is a multiple of 4 -/
theorem stack_at {p : Nat} {a at' l4 sh : Int32} (h : RL σ τ N u c fr to ba si ke en po r w b) (hp : p < N) (h15 : σ 11 p 15 = 0) (hal : a.toInt % 4 = 0) (hsh : sh = if l4 = 0 then 0 else 512) :
    (k_BP_stackFrame_24 p at' σ a sh = some (σ, 0) ∧ k_GM_stack_36 (nI p) at' τ l4 a = some (zu τ 0 0 37 6)) ∨ ∃ (q : Nat) (f : Nat → Int32), q + 8 ≤ 128 ∧ a = nI (4096 + 4 * q) ∧ (∀ k, k < 4 → f k = σ 12 p k) ∧ f 6 = at' ∧ k_BP_stackFrame_24 p at' σ a sh = some (zu (wrn (zu σ 11 p 11 a) 3 q f 0 8) 11 p 15 1, 1) ∧ k_GM_stack_36 (nI p) at' τ l4 a = some (zu (zu (wrn τ 2 q f 0 8) 12 0 p a) 16 0 p 1) ∧ RL (zu (wrn (zu σ 11 p 11 a) 3 q f 0 8) 11 p 15 1) (zu (zu (wrn τ 2 q f 0 8) 12 0 p a) 16 0 p 1) N u c fr to ba si ke en po r w b := by
  obtain ⟨o1, o2, o3, o4⟩ := op_le h hp
  obtain ⟨hS, hD, hN⟩ := h.2.1 p hp
  have s5 := hS.2.2.2.1
  have s8 := hN.2.2.1
  by_cases hx : ∃ i, i + 8 ≤ zop (si p) (gW (r p)) ∧ a = nI (4096 + 4 * (ba p + i))
  · obtain ⟨i, hi, rfl⟩ := hx
    obtain ⟨d1, d2, d3, d4, d5, ⟨fl, hfl, d6⟩, d7, d8, d9, d10, d11, d12, d13, d14, d15, d16⟩ := hD
    have hflag : σ 11 p 14 <<< ((28 : Int32) &&& 31) = τ 15 0 p * (268435456 : Int32) := by
      rw [← d5, d6, pk_shlN ((28 : Int32) &&& 31) 28 (by decide) (by omega), show (268435456 : Int32) = nI 268435456 from rfl, pk_mul]
    have hlo : ∀ k, k < 4 → τ 11 0 (8 * p + k) = σ 12 p k := fun k hk => (d1 k (by omega)).symm
    generalize hfe : fwd (σ 12 p) (σ 11 p 12) at' ((σ 11 p 14 <<< ((28 : Int32) &&& 31) + (16777216 : Int32)) + sh) = f
    have hfm : f = fwd (fun k => τ 11 0 (8 * p + k)) (τ 13 0 p) at' ((τ 15 0 p * (268435456 : Int32) + (16777216 : Int32)) + (if l4 = 0 then 0 else 512)) := by
      rw [← hfe, hflag, d3, hsh]
      funext k
      unfold fwd
      by_cases hk : k < 4
      · rw [if_pos hk, if_pos hk]
        exact (hlo k hk).symm
      · rw [if_neg hk, if_neg hk]
    refine Or.inr ⟨ba p + i, f, by omega, rfl, fun k hk => by rw [← hfe]; unfold fwd; rw [if_pos hk], by rw [← hfe]; rfl, ?_, ?_, ?_⟩
    · unfold k_BP_stackFrame_24
      rw [show (k_BP_areOpen σ p (nI (4096 + 4 * (ba p + i))) 8) = k_BP_areOpen σ p (nI (4096 + 4 * (ba p + i))) (nI 8) from rfl, ar_yes s5 s8 (by omega) (by omega) (by omega) hi, bn_s]
      dsimp only
      rw [if_neg (show ¬ (1 : Int32) = 0 by decide), lt_e]
      refine bp_stk (by rw [zu_rd, if_pos (by omega)]) (by omega) f ?_
      rw [← hfe, zu_k (show 12 ≠ 11 by decide), zu_rd, if_neg (by omega), zu_rd, if_neg (by omega)]
    · unfold k_GM_stack_36
      rw [ei_yes h hp hi, bn_s]
      dsimp only
      rw [if_neg (show ¬ (1 : Int32) = 0 by decide)]
      exact gm_stk (by omega) (by omega) f hfm
    · rw [← wrn_zu (show ¬ (11 = 3 ∧ p = 0) by omega)]
      refine rl_dy (rl_wr (q := ba p + i) (f := f) 8 0 h) hp (fun a b j g1 g2 => by rw [zu_rd, if_neg (by omega), zu_rd, if_neg (by omega)]) (fun a b j g1 g2 => by rw [zu_rd, if_neg (by omega), zu_rd, if_neg (by omega)]) ?_
      have wo : ∀ a b j, a ≠ 3 → wrn σ 3 (ba p + i) f 0 8 a b j = σ a b j := fun a b j ha => wrn_o 8 0 σ a b j (fun g => ha g.1)
      have wm : ∀ a b j, a ≠ 2 → wrn τ 2 (ba p + i) f 0 8 a b j = τ a b j := fun a b j ha => wrn_o 8 0 τ a b j (fun g => ha g.1)
      have ea : ∀ j, j ≠ 11 → j ≠ 15 → zu (zu (wrn σ 3 (ba p + i) f 0 8) 11 p 11 (nI (4096 + 4 * (ba p + i)))) 11 p 15 1 11 p j = σ 11 p j := fun j g1 g2 => by rw [zu_rd, if_neg (by omega), zu_rd, if_neg (by omega)]; exact wo 11 p j (by omega)
      have e11 : zu (zu (wrn σ 3 (ba p + i) f 0 8) 11 p 11 (nI (4096 + 4 * (ba p + i)))) 11 p 15 1 11 p 11 = nI (4096 + 4 * (ba p + i)) := by rw [zu_rd, if_neg (by omega), zu_rd, if_pos (by omega)]
      have e15 : zu (zu (wrn σ 3 (ba p + i) f 0 8) 11 p 11 (nI (4096 + 4 * (ba p + i)))) 11 p 15 1 11 p 15 = 1 := by rw [zu_rd, if_pos (by omega)]
      have el : ∀ j, zu (zu (wrn σ 3 (ba p + i) f 0 8) 11 p 11 (nI (4096 + 4 * (ba p + i)))) 11 p 15 1 12 p j = σ 12 p j := fun j => by rw [zu_rd, if_neg (by omega), zu_rd, if_neg (by omega)]; exact wo 12 p j (by omega)
      have et : ∀ a j, a ≠ 2 → a ≠ 12 → a ≠ 16 → zu (zu (wrn τ 2 (ba p + i) f 0 8) 12 0 p (nI (4096 + 4 * (ba p + i)))) 16 0 p 1 a 0 j = τ a 0 j := fun a j g1 g2 g3 => by rw [zu_rd, if_neg (by omega), zu_rd, if_neg (by omega)]; exact wm a 0 j g1
      have e12 : zu (zu (wrn τ 2 (ba p + i) f 0 8) 12 0 p (nI (4096 + 4 * (ba p + i)))) 16 0 p 1 12 0 p = nI (4096 + 4 * (ba p + i)) := by rw [zu_rd, if_neg (by omega), zu_rd, if_pos (by omega)]
      have e16 : zu (zu (wrn τ 2 (ba p + i) f 0 8) 12 0 p (nI (4096 + 4 * (ba p + i)))) 16 0 p 1 16 0 p = 1 := by rw [zu_rd, if_pos (by omega)]
      unfold Dy
      rw [e11, e15, e12, e16, ea 12 (by omega) (by omega), ea 13 (by omega) (by omega), ea 14 (by omega) (by omega), ea 16 (by omega) (by omega), ea 17 (by omega) (by omega), ea 18 (by omega) (by omega), ea 19 (by omega) (by omega), et 13 p (by omega) (by omega) (by omega), et 14 p (by omega) (by omega) (by omega), et 15 p (by omega) (by omega) (by omega), et 10 p (by omega) (by omega) (by omega), et 17 p (by omega) (by omega) (by omega), et 18 p (by omega) (by omega) (by omega), et 19 p (by omega) (by omega) (by omega)]
      exact ⟨fun j hj => by rw [el j, et 11 _ (by omega) (by omega) (by omega)]; exact d1 j hj, rfl, d3, fun g => absurd g (by decide), d5, ⟨fl, hfl, d6⟩, rfl, Or.inr rfl, d9, d10, fun _ => rfl, fun _ => ⟨i, by omega, rfl⟩, hal, d14, d15, d16⟩
  · refine Or.inl ⟨?_, ?_⟩
    · unfold k_BP_stackFrame_24
      rw [show (k_BP_areOpen σ p a 8) = k_BP_areOpen σ p a (nI 8) from rfl, ar_no s5 s8 (by omega) (by omega) (by omega) hal (fun i g1 g2 g3 => hx ⟨i, g1, g3⟩), bn_s]
      rfl
    · unfold k_GM_stack_36
      rw [ei_no h hp (fun i g1 g2 => hx ⟨i, g1, g2⟩), bn_s]
      dsimp only
      rw [if_pos rfl, lt_e]
end STACK2
