/-! stacking a frame, on both sides -/
theorem al_sub {a : Int32} {k : Nat} (ha : a.toInt % 4 = 0) (hk : k < 100) : (a - nI (4 * k)).toInt % 4 = 0 := by
  rw [Int32.toInt_sub, nI_toInt (by omega)]
  unfold Int.bmod
  dsimp only
  split <;> omega
def wrn (s : zS) (K q : Nat) (f : Nat → Int32) : Nat → Nat → zS
  | _, 0 => s
  | k, m + 1 => wrn (zu s K 0 (q + k) (f k)) K q f (k + 1) m
theorem wrn_o {K q : Nat} {f : Nat → Int32} : ∀ (m k : Nat) (s : zS) (a b i : Nat), ¬ (a = K ∧ b = 0) → wrn s K q f k m a b i = s a b i := by
  intro m
  induction m with
  | zero => intro k s a b i _; unfold wrn; rfl
  | succ m ih =>
    intro k s a b i h
    show wrn (zu s K 0 (q + k) (f k)) K q f (k + 1) m a b i = _
    rw [ih _ _ _ _ _ h, zu_rd, if_neg (fun g => h g.1)]
theorem wrn_zu {K q : Nat} {f : Nat → Int32} {a b j : Nat} {v : Int32} (h : ¬ (a = K ∧ b = 0)) : ∀ (m k : Nat) (s : zS), zu (wrn s K q f k m) a b j v = wrn (zu s a b j v) K q f k m := by
  intro m
  induction m with
  | zero => intro k s; unfold wrn; rfl
  | succ m ih =>
    intro k s
    show zu (wrn (zu s K 0 (q + k) (f k)) K q f (k + 1) m) a b j v = wrn (zu (zu s a b j v) K 0 (q + k) (f k)) K q f (k + 1) m
    rw [ih, zu_cm (fun g => h ⟨g.1.symm, g.2.1.symm⟩)]
theorem wrn_at {K q : Nat} {f : Nat → Int32} : ∀ (m k : Nat) (s : zS) (i : Nat), wrn s K q f k m K 0 (q + i) = if k ≤ i ∧ i < k + m then f i else s K 0 (q + i) := by
  intro m
  induction m with
  | zero => intro k s i; rw [if_neg (by omega)]; unfold wrn; rfl
  | succ m ih =>
    intro k s i
    show wrn (zu s K 0 (q + k) (f k)) K q f (k + 1) m K 0 (q + i) = _
    rw [ih, zu_rd]
    by_cases h : k ≤ i ∧ i < k + (m + 1)
    · rw [if_pos h]
      by_cases hk : i = k
      · subst hk
        rw [if_neg (by omega), if_pos (by omega)]
      · rw [if_pos (by omega)]
    · rw [if_neg h, if_neg (by omega), if_neg (by omega)]
theorem bp_sf {s : zS} {p q k : Nat} {v : Int32} (h : s 11 p 11 = nI (4096 + 4 * q)) (hk : q + k < 128) : k_BP_setFrameWord s p (nI k) v = some (zu s 3 0 (q + k) v) := by
  unfold k_BP_setFrameWord
  rw [h, show (4 : Int32) * nI k = nI (4 * k) by rw [show (4 : Int32) = nI 4 from rfl, pk_mul], add4, me_set hk, bn_s]
section STACK
variable {σ τ : zS} {N u : Nat} {c fr to ba si ke en po : Nat → Nat} {r w b : Nat → Nat → Nat}
theorem rl_wr {q : Nat} {f : Nat → Int32} : ∀ (m k : Nat) {σ τ : zS}, RL σ τ N u c fr to ba si ke en po r w b → RL (wrn σ 3 q f k m) (wrn τ 2 q f k m) N u c fr to ba si ke en po r w b := by
  intro m
  induction m with
  | zero => intro k σ τ h; unfold wrn; exact h
  | succ m ih => intro k σ τ h; exact ih (k + 1) (rl_ram h (q + k) (f k))
/-- the frame's eight words -/
def fwd (lo : Nat → Int32) (lr at' last : Int32) : Nat → Int32 := fun k => if k < 4 then lo k else if k = 4 then 0 else if k = 5 then lr else if k = 6 then at' else last
theorem bp_stk {s : zS} {p q : Nat} {at' sh : Int32} (h : s 11 p 11 = nI (4096 + 4 * q)) (hq : q + 8 ≤ 128) (f : Nat → Int32) (hf : f = fwd (s 12 p) (s 11 p 12) at' ((s 11 p 14 <<< ((28 : Int32) &&& 31) + (16777216 : Int32)) + sh)) : k_BP_stackFrame_44 p at' FU s sh 0 = some (zu (wrn s 3 q f 0 8) 11 p 15 1, 1) := by
  have lp : ∀ (m k g : Nat) (t : zS), k + m = 4 → m < g → (∀ a b i, a ≠ 3 → t a b i = s a b i) → ∃ g', k_BP_stackFrame_44 p at' g t sh (nI k) = k_BP_stackFrame_44 p at' (g' + 1) (wrn t 3 q f k m) sh (nI 4) := by
    intro m
    induction m with
    | zero =>
      intro k g t hk hg _
      obtain ⟨g, rfl⟩ : ∃ g', g = g' + 1 := ⟨g - 1, by omega⟩
      obtain rfl : k = 4 := by omega
      exact ⟨g, rfl⟩
    | succ m ih =>
      intro k g t hk hg ht
      obtain ⟨g, rfl⟩ : ∃ g', g = g' + 1 := ⟨g - 1, by omega⟩
      obtain ⟨g', e⟩ := ih (k + 1) g (zu t 3 0 (q + k) (f k)) (by omega) (by omega) (fun a b i ha => by rw [zu_rd, if_neg (by omega)]; exact ht a b i ha)
      refine ⟨g', ?_⟩
      have hfk : f k = t 12 p k := by rw [hf, ht 12 p k (by omega)]; unfold fwd; rw [if_pos (by omega)]
      rw [k_BP_stackFrame_44, if_neg (show ¬ (4 : Int32) ≤ nI k from nI_ge (b := 4) (by omega) (by omega)), ck_p (zi_n (by omega) (by omega)), nI_clamp (by omega), bp_sf (by rw [ht 11 p 11 (by omega)]; exact h) (by omega), bn_s, lt_e, nI_1, ← hfk]
      exact e
  obtain ⟨g', e⟩ := lp 4 0 FU s (by omega) (by unfold FU; omega) (fun _ _ _ _ => rfl)
  have o : ∀ (t : zS) (j : Nat) (v : Int32) (a b i : Nat), a ≠ 3 → (∀ a b i, a ≠ 3 → t a b i = s a b i) → zu t 3 0 j v a b i = s a b i := fun t j v a b i ha ht => by rw [zu_rd, if_neg (by omega)]; exact ht a b i ha
  have o4 : ∀ a b i, a ≠ 3 → wrn s 3 q f 0 4 a b i = s a b i := fun a b i ha => wrn_o 4 0 s a b i (fun g => ha g.1)
  have f4 : f 4 = 0 := by rw [hf]; rfl
  have f5 : f 5 = s 11 p 12 := by rw [hf]; rfl
  have f6 : f 6 = at' := by rw [hf]; rfl
  have f7 : f 7 = (s 11 p 14 <<< ((28 : Int32) &&& 31) + (16777216 : Int32)) + sh := by rw [hf]; rfl
  rw [show k_BP_stackFrame_44 p at' FU s sh 0 = k_BP_stackFrame_44 p at' FU s sh (nI 0) from rfl, e, k_BP_stackFrame_44, if_pos (show (4 : Int32) ≤ nI 4 by decide)]
  rw [show (k_BP_setFrameWord (wrn s 3 q f 0 4) p 4 0) = k_BP_setFrameWord (wrn s 3 q f 0 4) p (nI 4) 0 from rfl, bp_sf (q := q) (by rw [o4 11 p 11 (by omega)]; exact h) (by omega), bn_s]
  have o5 : ∀ a b i, a ≠ 3 → zu (wrn s 3 q f 0 4) 3 0 (q + 4) 0 a b i = s a b i := fun a b i ha => o _ _ _ a b i ha o4
  rw [o5 11 p 12 (by omega), show k_BP_setFrameWord (zu (wrn s 3 q f 0 4) 3 0 (q + 4) 0) p 5 (s 11 p 12) = k_BP_setFrameWord (zu (wrn s 3 q f 0 4) 3 0 (q + 4) 0) p (nI 5) (s 11 p 12) from rfl, bp_sf (q := q) (by rw [o5 11 p 11 (by omega)]; exact h) (by omega), bn_s]
  have o6 : ∀ a b i, a ≠ 3 → zu (zu (wrn s 3 q f 0 4) 3 0 (q + 4) 0) 3 0 (q + 5) (s 11 p 12) a b i = s a b i := fun a b i ha => o _ _ _ a b i ha o5
  rw [show k_BP_setFrameWord (zu (zu (wrn s 3 q f 0 4) 3 0 (q + 4) 0) 3 0 (q + 5) (s 11 p 12)) p 6 at' = k_BP_setFrameWord (zu (zu (wrn s 3 q f 0 4) 3 0 (q + 4) 0) 3 0 (q + 5) (s 11 p 12)) p (nI 6) at' from rfl, bp_sf (q := q) (by rw [o6 11 p 11 (by omega)]; exact h) (by omega), bn_s]
  have o7 : ∀ a b i, a ≠ 3 → zu (zu (zu (wrn s 3 q f 0 4) 3 0 (q + 4) 0) 3 0 (q + 5) (s 11 p 12)) 3 0 (q + 6) at' a b i = s a b i := fun a b i ha => o _ _ _ a b i ha o6
  rw [o7 11 p 14 (by omega)]
  rw [← f7, ← f6, ← f5, ← f4]
  rw [show k_BP_setFrameWord (zu (zu (zu (wrn s 3 q f 0 4) 3 0 (q + 4) (f 4)) 3 0 (q + 5) (f 5)) 3 0 (q + 6) (f 6)) p 7 (f 7) = k_BP_setFrameWord (zu (zu (zu (wrn s 3 q f 0 4) 3 0 (q + 4) (f 4)) 3 0 (q + 5) (f 5)) 3 0 (q + 6) (f 6)) p (nI 7) (f 7) from rfl, bp_sf (q := q) (by rw [f4, f5, f6, o7 11 p 11 (by omega)]; exact h) (by omega), bn_s, lt_e]
  rfl
end STACK
