/-! moving the stack, branches -/
theorem okD_bn {C : Option (zS × Int32)} {M : Option zS} {k : zS × Int32 → Option (zS × Int32)} {N u : Nat} {c fr to ba si ke en po : Nat → Nat} {r w b : Nat → Nat → Nat} {p : Nat} (hk : ∀ a, k a = some a) (h : OkD C M N u c fr to ba si ke en po r w b p) : OkD (bn C k) M N u c fr to ba si ke en po r w b p := by
  obtain ⟨σ', τ', x, e1, rest⟩ := h
  exact ⟨σ', τ', x, by rw [e1, bn_s, hk], rest⟩
theorem bn_bn {α β : Type} (x : Option α) (k : α → Option β) : bn (bn x fun s => some s) k = bn x k := by
  cases x <;> rfl
theorem ng4 : ∀ q, q < 128 → (-4 : Int32) * nI q = - ((4 : Int32) * nI q) := by decide +kernel
theorem tq8 : ∀ q, q < 256 → nI q - ((nI q &&& (128 : Int32)) <<< ((1 : Int32) &&& 31)) = if nI q ≤ (127 : Int32) then nI q else nI q - (256 : Int32) := by decide +kernel
theorem tq11 : ∀ q, q < 2048 → nI q - ((nI q &&& (1024 : Int32)) <<< ((1 : Int32) &&& 31)) = if nI q ≤ (1023 : Int32) then nI q else nI q - (2048 : Int32) := by decide +kernel
def hv (n z c v k : Nat) : Nat := if k = 0 then z else if k = 1 then c else if k = 2 then n else if k = 3 then v else if k = 4 then (if c = 1 ∧ z = 0 then 1 else 0) else if k = 5 then (if n = v then 1 else 0) else (if z = 0 ∧ n = v then 1 else 0)
theorem fb : ∀ g, g < 16 → (if nI g &&& (8 : Int32) = 0 then (0 : Int32) else 1) = nI (g / 8 % 2) ∧ (if nI g &&& (4 : Int32) = 0 then (0 : Int32) else 1) = nI (g / 4 % 2) ∧ (if nI g &&& (2 : Int32) = 0 then (0 : Int32) else 1) = nI (g / 2 % 2) ∧ (if nI g &&& (1 : Int32) = 0 then (0 : Int32) else 1) = nI (g % 2) := by decide +kernel
theorem it_ap {α β : Type} (q : Prop) [Decidable q] (x y : α) (k : α → β) : (if q then k x else k y) = k (if q then x else y) := by split <;> rfl
theorem prH50 (F : Int32) (s : zS) : ∀ z, z < 2 → ∀ c, c < 2 → ∀ n, n < 2 → ∀ v, v < 2 → ∀ k, k < 7 → k_Pr_holds_50 F (nI k) s (nI z) (nI c) (nI n) (nI v) = some (s, nI (hv n z c v k)) := by
  intro z hz c hc n hn v hv' k hk
  obtain rfl | rfl | rfl | rfl | rfl | rfl | rfl : k = 0 ∨ k = 1 ∨ k = 2 ∨ k = 3 ∨ k = 4 ∨ k = 5 ∨ k = 6 := by omega
  all_goals
    obtain rfl | rfl : z = 0 ∨ z = 1 := by omega
    all_goals
      obtain rfl | rfl : c = 0 ∨ c = 1 := by omega
      all_goals
        obtain rfl | rfl : n = 0 ∨ n = 1 := by omega
        all_goals
          obtain rfl | rfl : v = 0 ∨ v = 1 := by omega
          all_goals rfl
theorem pr_holds (s : zS) {g k : Nat} (hg : g < 16) (hk : k < 7) : k_Pr_holds s (nI g) (nI k) = some (s, nI (hv (g / 8 % 2) (g / 4 % 2) (g / 2 % 2) (g % 2) k)) := by
  obtain ⟨f8, f4, f2, f1⟩ := fb g hg
  have e1 : k_Pr_holds s (nI g) (nI k) = k_Pr_holds_11 (nI g) (nI k) s (nI (g / 4 % 2)) := by
    rw [← f4]; exact it_ap _ _ _ _
  have e2 : ∀ x, k_Pr_holds_11 (nI g) (nI k) s x = k_Pr_holds_23 (nI g) (nI k) s x (nI (g / 2 % 2)) := fun x => by
    rw [← f2]; exact it_ap _ _ _ _
  have e3 : ∀ x y, k_Pr_holds_23 (nI g) (nI k) s x y = k_Pr_holds_37 (nI g) (nI k) s x y (nI (g / 8 % 2)) := fun x y => by
    rw [← f8]; exact it_ap _ _ _ _
  have e4 : ∀ x y z, k_Pr_holds_37 (nI g) (nI k) s x y z = k_Pr_holds_50 (nI g) (nI k) s x y z (nI (g % 2)) := fun x y z => by
    rw [← f1]; exact it_ap _ _ _ _
  rw [e1, e2, e3, e4]
  exact prH50 (nI g) s _ (by omega) _ (by omega) _ (by omega) _ (by omega) k hk
theorem gmH70 (q : Int32) (s : zS) : ∀ n, n < 2 → ∀ z, z < 2 → ∀ c, c < 2 → ∀ v, v < 2 → ∀ e, e < 14 → k_GM_holds_70 q (nI e) s (nI n) (nI z) (nI c) (nI v) = some (s, nI (if e % 2 = 0 then hv n z c v (e / 2) else 1 - hv n z c v (e / 2))) := by
  intro n hn z hz c hc v hv' e he
  obtain rfl | rfl | rfl | rfl | rfl | rfl | rfl | rfl | rfl | rfl | rfl | rfl | rfl | rfl : e = 0 ∨ e = 1 ∨ e = 2 ∨ e = 3 ∨ e = 4 ∨ e = 5 ∨ e = 6 ∨ e = 7 ∨ e = 8 ∨ e = 9 ∨ e = 10 ∨ e = 11 ∨ e = 12 ∨ e = 13 := by omega
  all_goals
    obtain rfl | rfl : z = 0 ∨ z = 1 := by omega
    all_goals
      obtain rfl | rfl : c = 0 ∨ c = 1 := by omega
      all_goals
        obtain rfl | rfl : n = 0 ∨ n = 1 := by omega
        all_goals
          obtain rfl | rfl : v = 0 ∨ v = 1 := by omega
          all_goals rfl
theorem gm_holds {t : zS} {p g e : Nat} (hp : p < 4) (hfl : t 15 0 p = nI g) (hg : g < 16) (he : e < 14) : k_GM_holds t (nI p) (nI e) = some (t, nI (if e % 2 = 0 then hv (g / 8 % 2) (g / 4 % 2) (g / 2 % 2) (g % 2) (e / 2) else 1 - hv (g / 8 % 2) (g / 4 % 2) (g / 2 % 2) (g % 2) (e / 2))) := by
  have zp : zi (nI p) 4 = true := zi_n hp (by omega)
  have cp : (nI p).toNatClampNeg = p := nI_clamp (by omega)
  obtain ⟨f8, f4, f2, f1⟩ := fb g hg
  have e1 : k_GM_holds t (nI p) (nI e) = k_GM_holds_17 (nI p) (nI e) t (nI (g / 8 % 2)) := by
    unfold k_GM_holds
    rw [ck_p zp, cp, hfl, ← f8]; exact it_ap _ _ _ _
  have e2 : ∀ x, k_GM_holds_17 (nI p) (nI e) t x = k_GM_holds_34 (nI p) (nI e) t x (nI (g / 4 % 2)) := fun x => by
    unfold k_GM_holds_17
    rw [ck_p zp, cp, hfl, ← f4]; exact it_ap _ _ _ _
  have e3 : ∀ x y, k_GM_holds_34 (nI p) (nI e) t x y = k_GM_holds_52 (nI p) (nI e) t x y (nI (g / 2 % 2)) := fun x y => by
    unfold k_GM_holds_34
    rw [ck_p zp, cp, hfl, ← f2]; exact it_ap _ _ _ _
  have e4 : ∀ x y z, k_GM_holds_52 (nI p) (nI e) t x y z = k_GM_holds_70 (nI p) (nI e) t x y z (nI (g % 2)) := fun x y z => by
    unfold k_GM_holds_52
    rw [ck_p zp, cp, hfl, ← f1]; exact it_ap _ _ _ _
  rw [e1, e2, e3, e4]
  exact gmH70 (nI p) t _ (by omega) _ (by omega) _ (by omega) _ (by omega) e he
theorem hv_lt {n z c v k : Nat} (hn : n < 2) (hz : z < 2) (hc : c < 2) (hv' : v < 2) : hv n z c v k < 2 := by
  unfold hv
  repeat' split
  all_goals omega
section BRANCH
variable {σ τ : zS} {N u p : Nat} {c fr to ba si ke en po : Nat → Nat} {r w b : Nat → Nat → Nat}
theorem o_move {v : Int32} (h : G σ τ N u c fr to ba si ke en po r w b p) : OkD (k_Pr_moveStack σ p v) (bn (if v &&& (128 : Int32) = 0 then k_GM_stackWord_171 (nI p) v τ ((4 : Int32) * (v &&& (127 : Int32))) (σ 11 p 11) (nI p) else k_GM_stackWord_171 (nI p) v τ ((-4 : Int32) * (v &&& (127 : Int32))) (σ 11 p 11) (nI p)) fun s => k_GM_instruction_322 (nI p) s) N u c fr to ba si ke en po r w b p := by
  have zp := g_zp h
  have cp := g_cp h
  obtain ⟨-, -, -, -, -, hal⟩ := g_rg h
  obtain ⟨q, hq, eq⟩ := pk_andE v (m := 127) 7 (by decide)
  unfold k_Pr_moveStack k_Pr_moveStack_26 k_GM_stackWord_171
  rw [eq, lt_e]
  by_cases h0 : v &&& (128 : Int32) = 0
  · rw [if_pos h0, if_pos h0, lt_e, ck_p zp, cp, lt_e, bn_s, mul4]
    exact ok_0 (g_sp h (al_add hal (by omega)))
  · rw [if_neg h0, if_neg h0, lt_e, ck_p zp, cp, lt_e, bn_s, ng4 q (by omega), mul4, ← Int32.sub_eq_add_neg]
    exact ok_0 (g_sp h (al_sub' hal (by omega)))
theorem o_br {v : Int32} {e : Nat} (h : G σ τ N u c fr to ba si ke en po r w b p) (he : (v >>> ((8 : Int32) &&& 31)) &&& (15 : Int32) = nI e) (h15 : e < 15) : OkD (k_Pr_branchIf σ p v) (bn (k_GM_branch τ (nI p) v) fun s => k_GM_instruction_322 (nI p) s) N u c fr to ba si ke en po r w b p := by
  have p4 := g_p4 h
  have zp := g_zp h
  have cp := g_cp h
  obtain ⟨-, -, -, e14, -, -⟩ := g_rg h
  obtain ⟨g, hg, f1, f2⟩ := flg h.1 h.2.1
  obtain ⟨q, hq, eq⟩ := pk_andE v (m := 255) 8 (by decide)
  have e128 : v &&& (128 : Int32) = nI q &&& (128 : Int32) := by rw [← eq, Int32.and_assoc, show (255 : Int32) &&& (128 : Int32) = 128 by decide]
  have ne15 : ¬ nI e = (15 : Int32) := fun g' => by have := (nI_eq (a := e) (b := 15) (by omega) (by omega)).mp g'; omega
  unfold k_Pr_branchIf k_GM_branch
  rw [he, lt_e, lt_e, lt_e, if_neg ne15]
  by_cases h14 : e = 14
  · subst h14
    rw [if_pos (by decide), if_pos (by decide), lt_e, bn_s]
    exact ok_x h (by decide)
  · have ne14 : ¬ nI e = (14 : Int32) := fun g' => by have := (nI_eq (a := e) (b := 14) (by omega) (by omega)).mp g'; omega
    have hH := hv_lt (n := g / 8 % 2) (z := g / 4 % 2) (c := g / 2 % 2) (v := g % 2) (k := e / 2) (by omega) (by omega) (by omega) (by omega)
    have eh : nI e >>> ((1 : Int32) &&& 31) = nI (e / 2) := by rw [pk_shrN (by omega) _ 1 (by decide)]
    have e1 : nI e &&& (1 : Int32) = nI (e % 2) := by rw [pk_andN (by omega) 1 (by decide)]
    rw [if_neg ne14, if_neg ne14, if_neg ne15, gm_holds p4 f2 hg (by omega), bn_s]
    unfold k_Pr_branchIf_43 k_GM_branch_102
    rw [f1, eh, pr_holds σ hg (by omega), bn_s]
    dsimp only
    rw [e128, eq, tq8 q (by omega), e1]
    generalize hv (g / 8 % 2) (g / 4 % 2) (g / 2 % 2) (g % 2) (e / 2) = H at *
    have taken : OkD (lt (zu σ 10 0 1 (((σ 11 p 13) + (4 : Int32)) + ((2 : Int32) * (if nI q ≤ (127 : Int32) then nI q else nI q - (256 : Int32))))) fun s4 => some (s4, 0)) (bn (ck (zi (nI p) 4) <| if nI q ≤ 127 then lt (zu τ 0 0 39 ((τ 14 0 (nI p).toNatClampNeg + (4 : Int32)) + ((2 : Int32) * nI q))) fun s8 => some s8 else lt (zu τ 0 0 39 ((τ 14 0 (nI p).toNatClampNeg + (4 : Int32)) + ((2 : Int32) * (nI q - (256 : Int32))))) fun s8 => some s8) fun s => k_GM_instruction_322 (nI p) s) N u c fr to ba si ke en po r w b p := by
      rw [ck_p zp, cp, e14]
      by_cases h7 : nI q ≤ (127 : Int32)
      · rw [if_pos h7, if_pos h7, lt_e, lt_e, bn_s]
        exact ok_0 (g_next h)
      · rw [if_neg h7, if_neg h7, lt_e, lt_e, bn_s]
        exact ok_0 (g_next h)
    have not : OkD (some (σ, 0)) (bn (some τ) fun s => k_GM_instruction_322 (nI p) s) N u c fr to ba si ke en po r w b p := by
      rw [bn_s]
      exact ok_0 h
    obtain hE | hE : e % 2 = 0 ∨ e % 2 = 1 := by omega
    · rw [hE, if_pos rfl, if_pos (show nI 0 = 0 by decide)]
      obtain rfl | rfl : H = 0 ∨ H = 1 := by omega
      · rw [if_pos (show nI 0 = 0 by decide), if_neg (show ¬ nI 0 = 1 by decide)]
        exact not
      · rw [if_neg (show ¬ nI 1 = 0 by decide), if_pos (show nI 1 = 1 by decide)]
        exact taken
    · rw [hE, if_neg (show ¬ 1 = 0 by decide), if_neg (show ¬ nI 1 = 0 by decide), bn_s]
      dsimp only
      obtain rfl | rfl : H = 0 ∨ H = 1 := by omega
      · rw [if_neg (show ¬ nI (1 - 0) = 0 by decide), if_pos (show nI 0 = 0 by decide)]
        exact taken
      · rw [if_pos (show nI (1 - 1) = 0 by decide), if_neg (show ¬ nI 1 = 0 by decide)]
        exact not
end BRANCH
