/-! making a grant -/
theorem gw_d {r : Nat → Nat} {d : Nat} (hd : d < 3) (h : r d = 0) : (gW r = 0 ∨ gW r = 2 ∨ gW r = 4) ∧ ∀ x, 0 < x → gW (fun i => if i = d then x else r i) = gW r + 2 := by
  obtain rfl | rfl | rfl : d = 0 ∨ d = 1 ∨ d = 2 := by omega
  all_goals
    refine ⟨?_, fun x hx => ?_⟩
    · unfold gW
      rw [h]
      simp only [Nat.lt_irrefl, if_false]
      split <;> split <;> omega
    · unfold gW
      simp only [h, hx, if_pos, Nat.lt_irrefl, if_false, show ¬ (0 : Nat) = 1 by omega, show ¬ (0 : Nat) = 2 by omega, show ¬ (1 : Nat) = 0 by omega, show ¬ (1 : Nat) = 2 by omega, show ¬ (2 : Nat) = 0 by omega, show ¬ (2 : Nat) = 1 by omega]
      try omega
theorem ow_m {si g : Nat} (hs : si = 16 ∨ si = 32 ∨ si = 64) (hg : g = 2 ∨ g = 4 ∨ g = 6) : (nI si - nI g) &&& (-(nI si >>> ((3 : Int32) &&& 31))) = nI (zop si g) := by
  rcases hs with rfl | rfl | rfl <;> rcases hg with rfl | rfl | rfl <;> decide +kernel
theorem i2 (q : Prop) [Decidable q] : (if q then 1 else 0) < 2 := by split <;> omega
section MAKE
variable {σ τ : zS} {N u p : Nat} {c fr to ba si ke en po : Nat → Nat} {r w b : Nat → Nat → Nat}
theorem en_0 {K : zS → Int32 → Int32 → Int32 → Int32 → Option (zS × Int32)} {a1 a2 x3 op : Int32} {i n : Nat} (hp : p < 4) (hi : i < 3) (h24 : τ 24 0 (3 * p + i) = nI n) (hn : n ≤ 64) : ∀ (m k f : Nat), k + m = n → m < f → k_GM_ensure_61 (nI p) a2 K f τ x3 op 0 (nI i) (nI k) = K τ x3 op 0 (nI (i + 1)) := by
  intro m
  induction m with
  | zero =>
    intro k f hk hf
    obtain ⟨f, rfl⟩ : ∃ g, f = g + 1 := ⟨f - 1, by omega⟩
    rw [k_GM_ensure_61, ix3, ck_p (zi_n (by omega) (by omega)), nI_clamp (by omega), h24, if_pos (nI_le (by omega) (by omega)), lt_e, nI_1]
  | succ m ih =>
    intro k f hk hf
    obtain ⟨f, rfl⟩ : ∃ g, f = g + 1 := ⟨f - 1, by omega⟩
    rw [k_GM_ensure_61, ix3, ck_p (zi_n (by omega) (by omega)), nI_clamp (by omega), h24, if_neg (nI_ge (by omega) (by omega)), if_pos rfl]
    unfold k_GM_ensure_112 k_GM_ensure_113
    rw [lt_e, nI_1]
    exact ih (k + 1) f (by omega) (by omega)
theorem en_1 {K : zS → Int32 → Int32 → Int32 → Int32 → Option (zS × Int32)} {a2 x3 : Int32} {i n o B B0 : Nat} (hp : p < 4) (hi : i < 3) (h24 : τ 24 0 (3 * p + i) = nI n) (hn : n ≤ 64) (h23 : 0 < n → τ 23 0 (3 * p + i) = nI (4096 + 4 * (B0 + B))) (h5 : τ 5 0 p = nI B0) (hB0 : B0 ≤ 128) (hB : B ≤ 128) (ho : o ≤ 64) : ∀ (m k f : Nat), k + m = n → m < f → ((n = 0 ∨ B + n ≤ o) → k_GM_ensure_61 (nI p) a2 K f τ x3 (nI o) 1 (nI i) (nI k) = K τ x3 (nI o) 1 (nI (i + 1))) ∧ (0 < m → o < B + n → k_GM_ensure_61 (nI p) a2 K f τ x3 (nI o) 1 (nI i) (nI k) = K τ x3 (nI o) 0 (nI (i + 1))) := by
  intro m
  induction m with
  | zero =>
    intro k f hk hf
    obtain ⟨f, rfl⟩ : ∃ g, f = g + 1 := ⟨f - 1, by omega⟩
    refine ⟨fun _ => ?_, fun g => absurd g (Nat.lt_irrefl 0)⟩
    rw [k_GM_ensure_61, ix3, ck_p (zi_n (by omega) (by omega)), nI_clamp (by omega), h24, if_pos (nI_le (by omega) (by omega)), lt_e, nI_1]
  | succ m ih =>
    intro k f hk hf
    obtain ⟨f, rfl⟩ : ∃ g, f = g + 1 := ⟨f - 1, by omega⟩
    obtain ⟨i1, i2⟩ := ih (k + 1) f (by omega) (by omega)
    have st : k_GM_ensure_61 (nI p) a2 K (f + 1) τ x3 (nI o) 1 (nI i) (nI k) = bn (k_GM_within τ (nI p) (nI (4096 + 4 * (B0 + (B + k)))) (nI o)) fun (s10, r11) => if r11 = 0 then k_GM_ensure_112 (nI p) a2 (k_GM_ensure_61 (nI p) a2 K f) s10 x3 (nI o) (nI i) (nI k) else k_GM_ensure_113 (nI p) a2 (k_GM_ensure_61 (nI p) a2 K f) s10 x3 (nI o) (nI i) (nI k) 1 := by
      rw [k_GM_ensure_61, ix3, ck_p (zi_n (show 3 * p + i < 12 by omega) (by omega)), nI_clamp (show 3 * p + i < 2 ^ 31 by omega), h24, if_neg (nI_ge (by omega) (by omega)), if_neg (show ¬ (1 : Int32) = 0 by decide), ck_p (zi_n (show 3 * p + i < 12 by omega) (by omega)), h23 (by omega), mul4, add4, Nat.add_assoc]
    have yes : B + k < o → k_GM_ensure_61 (nI p) a2 K (f + 1) τ x3 (nI o) 1 (nI i) (nI k) = k_GM_ensure_61 (nI p) a2 K f τ x3 (nI o) 1 (nI i) (nI (k + 1)) := fun hlt => by
      rw [st, wi_yes hp h5 hB0 ho hlt, bn_s]
      dsimp only
      rw [if_neg (show ¬ (1 : Int32) = 0 by decide)]
      unfold k_GM_ensure_113
      rw [lt_e, nI_1]
    refine ⟨fun hq => ?_, fun _ hq => ?_⟩
    · rw [yes (by omega)]
      exact i1 hq
    · by_cases hlt : B + k < o
      · rw [yes hlt]
        exact i2 (by omega) hq
      · rw [st, wi_no hp h5 hB0 ho (fun j hj g => by
          have := (nI_eq (by omega) (by omega)).mp g
          omega), bn_s]
        dsimp only
        rw [if_pos rfl]
        unfold k_GM_ensure_112 k_GM_ensure_113
        rw [lt_e, nI_1]
        exact en_0 (a1 := 0) hp hi h24 hn m (k + 1) f (by omega) (by omega)
/-- a buffer ends in time -/
abbrev Qi (w b : Nat → Nat) (o i : Nat) : Prop := w i = 0 ∨ b i + w i ≤ o
theorem en_st {f o i e : Nat} {a2 x3 : Int32} (h : RL σ τ N u c fr to ba si ke en po r w b) (hp : p < N) (hi : i < 3) (he : e < 2) (ho : o ≤ 64) : k_GM_ensure_52 (nI p) a2 (f + 1) τ x3 (nI o) (nI e) (nI i) = k_GM_ensure_52 (nI p) a2 f τ x3 (nI o) (nI (if e = 1 ∧ Qi (w p) (b p) o i then 1 else 0)) (nI (i + 1)) := by
  obtain ⟨o1, o2, o3, o4⟩ := op_le h hp
  obtain ⟨hS, hD, hN⟩ := h.2.1 p hp
  obtain ⟨w1, w2, w3⟩ := hN.2.2.2.2 i hi
  have h5 := hS.2.2.2.2.2.2.2.2.2.1
  have hw : w p i ≤ 64 := by
    by_cases g : 0 < w p i
    · have := (w3 g).2.2; omega
    · omega
  rw [k_GM_ensure_52, if_neg (show ¬ (3 : Int32) ≤ nI i from nI_ge (b := 3) hi (by omega))]
  rw [show k_GM_ensure_61 (nI p) a2 (k_GM_ensure_52 (nI p) a2 f) FU τ x3 (nI o) (nI e) (nI i) 0 = k_GM_ensure_61 (nI p) a2 (k_GM_ensure_52 (nI p) a2 f) FU τ x3 (nI o) (nI e) (nI i) (nI 0) from rfl]
  obtain rfl | rfl : e = 0 ∨ e = 1 := by omega
  · rw [if_neg (by omega)]
    exact en_0 (a1 := 0) (by omega) hi w2 hw (w p i) 0 FU (by omega) (by unfold FU; omega)
  · by_cases hw0 : 0 < w p i
    · obtain ⟨b1, b2, b3⟩ := w3 hw0
      obtain ⟨e1, e2⟩ := en_1 (K := k_GM_ensure_52 (nI p) a2 f) (a2 := a2) (x3 := x3) (o := o) (B := b p i) (B0 := ba p) (by omega) hi w2 hw (fun _ => b2) h5 (by omega) (by omega) ho (w p i) 0 FU (by omega) (by unfold FU; omega)
      by_cases hq : Qi (w p) (b p) o i
      · rw [if_pos ⟨rfl, hq⟩]
        exact e1 hq
      · rw [if_neg (fun g => hq g.2)]
        unfold Qi at hq
        exact e2 hw0 (by omega)
    · obtain ⟨e1, e2⟩ := en_1 (K := k_GM_ensure_52 (nI p) a2 f) (a2 := a2) (x3 := x3) (o := o) (B := 0) (B0 := ba p) (by omega) hi w2 hw (fun g => absurd g hw0) h5 (by omega) (by omega) ho (w p i) 0 FU (by omega) (by unfold FU; omega)
      have hq : Qi (w p) (b p) o i := Or.inl (by omega)
      rw [if_pos ⟨rfl, hq⟩]
      exact e1 (Or.inl (by omega))
theorem be_st {f o i : Nat} (h : RL σ τ N u c fr to ba si ke en po r w b) (hp : p < N) (hi : i < 3) (ho : o ≤ 64) : k_No_buffersEndBy_2 p (nI (4096 + 4 * (ba p + o))) (f + 1) σ (nI i) = if Qi (w p) (b p) o i then k_No_buffersEndBy_2 p (nI (4096 + 4 * (ba p + o))) f σ (nI (i + 1)) else some (σ, 0) := by
  obtain ⟨o1, o2, o3, o4⟩ := op_le h hp
  obtain ⟨hS, hD, hN⟩ := h.2.1 p hp
  obtain ⟨w1, w2, w3⟩ := hN.2.2.2.2 i hi
  rw [k_No_buffersEndBy_2, if_neg (show ¬ (3 : Int32) ≤ nI i from nI_ge (b := 3) hi (by omega)), ck_p (zi_n hi (by omega)), lt_e, nI_clamp (by omega), w1]
  unfold k_No_buffersEndBy_34
  by_cases hw0 : 0 < w p i
  · obtain ⟨b1, b2, b3⟩ := w3 hw0
    rw [if_neg (nI_nle hw0 (by omega)), ck_p (zi_n hi (by omega)), b1, mul4, add4, lt_e, nI_1]
    by_cases hq : Qi (w p) (b p) o i
    · rw [if_pos hq, if_pos (nI_le (by unfold Qi at hq; omega) (by omega))]
    · rw [if_neg hq, if_neg (nI_ge (by unfold Qi at hq; omega) (by omega))]
  · have hq : Qi (w p) (b p) o i := Or.inl (by omega)
    rw [if_pos hq, show w p i = 0 by omega, if_pos (show nI 0 ≤ 0 by decide), lt_e, nI_1]
theorem mk_ok {d : Nat} (h : RL σ τ N u c fr to ba si ke en po r w b) (hp : p < N) (hd : d < 3) (hr0 : r p d = 0) : (k_Ke_makeGrant σ p (nI d) = some (σ, 0) ∧ k_GM_ensure τ (nI p) (nI d) = some (τ, 0)) ∨ ∃ (σ' τ' : zS) (r' w' b' : Nat → Nat → Nat), k_Ke_makeGrant σ p (nI d) = some (σ', 1) ∧ k_GM_ensure τ (nI p) (nI d) = some (τ', 1) ∧ RL σ' τ' N u c fr to ba si ke en po r' w' b' ∧ 0 < r' p d ∧ Fr σ σ' τ τ' := by
  obtain ⟨o1, o2, o3, o4⟩ := op_le h hp
  obtain ⟨hS, hD, hN⟩ := h.2.1 p hp
  obtain ⟨hg, hg2⟩ := gw_d hd hr0
  have hsi := hS.2.2.2.2.2.2.2.2.2.2.2.2.2.2.2.2.1
  have s5 := hS.2.2.2.1
  have s6 := hS.2.2.2.2.1
  have s7 := hS.2.2.2.2.2.1
  have t6 := hS.2.2.2.2.2.2.2.2.2.2.1
  have t7 := hS.2.2.2.2.2.2.2.2.2.2.2.1
  have hke := hS.2.2.2.2.2.2.2.2.2.2.2.2.2.2.2.2.2.2.2.1
  obtain ⟨n1, n2, n3, n4, n5⟩ := hN
  obtain ⟨-, -, r20, -⟩ := n1 d hd
  rw [hr0] at r20
  generalize hG : gW (r p) = g at *
  have zole := zop_le (g := g + 2) hsi
  generalize hO : zop (si p) (g + 2) = o at *
  have zp : zi (nI p) 4 = true := zi_n (by omega) (by omega)
  have cp : (nI p).toNatClampNeg = p := nI_clamp (by omega)
  have z12 : zi (nI (3 * p + d)) 12 = true := zi_n (by omega) (by omega)
  have c12 : (nI (3 * p + d)).toNatClampNeg = 3 * p + d := nI_clamp (by omega)
  have z3 : zi (nI d) 3 = true := zi_n hd (by omega)
  have cd : (nI d).toNatClampNeg = d := nI_clamp (by omega)
  have gp : nI g + (2 : Int32) = nI (g + 2) := by rw [show (2 : Int32) = nI 2 from rfl, nI_add]
  -- the class's way
  have eC : k_Ke_makeGrant σ p (nI d) = if nI o < nI (ke p) then (some (σ, 0) : Option (zS × Int32)) else bn (k_No_buffersEndBy σ p (nI (4096 + 4 * (ba p + o)))) fun (s4, r5) => if r5 = 0 then some (s4, 0) else lt ((s4 11 p 5) + ((4 : Int32) * ((s4 11 p 6) - nI (g + 2)))) fun x6 => lt (zu s4 11 p 8 (nI o)) fun s7 => lt (zu s7 13 p 6 (nI (g + 2))) fun s8 => ck (zi (nI d) 3) <| lt (zu s8 14 p (nI d).toNatClampNeg x6) fun s9 => bn (k_Me_clearRam s9 x6 2) fun s10 => some (s10, 1) := by
    unfold k_Ke_makeGrant k_BP_openWordsBefore
    rw [n2, gp, lt_e, s6, ow_m hsi (by omega), hO, bn_s]
    dsimp only
    rw [s7, s5, mul4, add4]
  have eM : k_GM_ensure τ (nI p) (nI d) = k_GM_ensure_52 (nI p) (nI d) FU τ (nI (g + 2)) (nI o) (nI (if nI o < nI (ke p) then 0 else 1)) (nI 0) := by
    unfold k_GM_ensure k_GM_ensure_47
    rw [ix3, ck_p z12, c12, r20, if_pos (show nI 0 ≤ 0 by decide), gm_granted (r := r p) (by omega) (fun i hi => (n1 i hi).2.2.1) (fun i hi => (n1 i hi).1), hG, bn_s]
    dsimp only
    rw [gp, lt_e, gm_openWords (by omega) t6 hsi (by omega), hO, bn_s]
    dsimp only
    simp only [ck_p zp, cp, t7]
    split <;> rfl
  have e3 : ∀ e, e < 2 → k_GM_ensure_52 (nI p) (nI d) FU τ (nI (g + 2)) (nI o) (nI e) (nI 0) = k_GM_ensure_52 (nI p) (nI d) (996 + 1) τ (nI (g + 2)) (nI o) (nI (if e = 1 ∧ Qi (w p) (b p) o 0 ∧ Qi (w p) (b p) o 1 ∧ Qi (w p) (b p) o 2 then 1 else 0)) (nI (0 + 1 + 1 + 1)) := fun e he => by
    rw [show FU = 996 + 1 + 1 + 1 + 1 from rfl, en_st h hp (by omega) he (by omega), en_st h hp (by omega) (i2 _) (by omega), en_st h hp (by omega) (i2 _) (by omega)]
    congr 2
    by_cases g0 : e = 1 <;> by_cases g1 : Qi (w p) (b p) o 0 <;> by_cases g2 : Qi (w p) (b p) o 1 <;> by_cases g3 : Qi (w p) (b p) o 2 <;> simp [g0, g1, g2, g3]
  have hbe : k_No_buffersEndBy σ p (nI (4096 + 4 * (ba p + o))) = some (σ, if Qi (w p) (b p) o 0 ∧ Qi (w p) (b p) o 1 ∧ Qi (w p) (b p) o 2 then 1 else 0) := by
    unfold k_No_buffersEndBy
    rw [show k_No_buffersEndBy_2 p (nI (4096 + 4 * (ba p + o))) FU σ 0 = k_No_buffersEndBy_2 p (nI (4096 + 4 * (ba p + o))) (996 + 1 + 1 + 1 + 1) σ (nI 0) from rfl, be_st h hp (by omega) (by omega)]
    by_cases g1 : Qi (w p) (b p) o 0
    · rw [if_pos g1, be_st h hp (by omega) (by omega)]
      by_cases g2 : Qi (w p) (b p) o (0 + 1)
      · rw [if_pos g2, be_st h hp (by omega) (by omega)]
        by_cases g3 : Qi (w p) (b p) o (0 + 1 + 1)
        · rw [if_pos g3, k_No_buffersEndBy_2, if_pos (show (3 : Int32) ≤ nI (0 + 1 + 1 + 1) by decide), if_pos ⟨g1, g2, g3⟩]
        · rw [if_neg g3, if_neg (fun q => g3 q.2.2)]
      · rw [if_neg g2, if_neg (fun q => g2 q.2.1)]
    · rw [if_neg g1, if_neg (fun q => g1 q.1)]
  have end0 : k_GM_ensure_52 (nI p) (nI d) (996 + 1) τ (nI (g + 2)) (nI o) (nI 0) (nI (0 + 1 + 1 + 1)) = some (τ, 0) := by
    rw [k_GM_ensure_52, if_pos (show (3 : Int32) ≤ nI (0 + 1 + 1 + 1) by decide), if_pos (show nI 0 = 0 by decide), ck_p (by decide)]
    rfl
  rw [eC, eM]
  by_cases hk : o < ke p
  · left
    rw [if_pos (nI_lt hk (by omega)), if_pos (nI_lt hk (by omega)), e3 0 (by omega), if_neg (fun q => absurd q.1 (by omega)), end0]
    exact ⟨rfl, rfl⟩
  · have hk' : ¬ nI o < nI (ke p) := nI_nlt (by omega) (by omega)
    rw [if_neg hk', if_neg hk', e3 1 (by omega), hbe, bn_s]
    dsimp only
    by_cases hQ : Qi (w p) (b p) o 0 ∧ Qi (w p) (b p) o 1 ∧ Qi (w p) (b p) o 2
    · right
      have hQi : ∀ i, i < 3 → Qi (w p) (b p) o i := fun i hi => by
        obtain rfl | rfl | rfl : i = 0 ∨ i = 1 ∨ i = 2 := by omega
        · exact hQ.1
        · exact hQ.2.1
        · exact hQ.2.2
      have gW2 : gW (fun i => if i = d then (g + 2) / 2 else r p i) = g + 2 := by rw [hg2 _ (by omega)]
      have hx6 : nI (4096 + 4 * ba p) + (4 : Int32) * (nI (si p) - nI (g + 2)) = nI (4096 + 4 * (ba p + si p - (g + 2))) := by
        rw [pk_sub (by omega), mul4, add4]
        congr 2; omega
      -- the new notes
      have hRL := rl_nt (σ2 := zu (zu (zu σ 11 p 8 (nI o)) 13 p 6 (nI (g + 2))) 14 p d (nI (4096 + 4 * (ba p + si p - (g + 2))))) (τ2 := zu τ 20 0 (3 * p + d) (nI ((g + 2) / 2))) (r2 := fun i => if i = d then (g + 2) / 2 else r p i) (w2 := w p) (b2 := b p) h hp (fun a b i g1 g2 g3 => by rw [zu_rd, if_neg (by omega), zu_rd, if_neg (by omega), zu_rd, if_neg (by omega)]) (fun a b i g => by rw [zu_rd, if_neg (by omega)]) (by
        have ek : ∀ a, a ≠ 11 → a ≠ 13 → a ≠ 14 → zu (zu (zu σ 11 p 8 (nI o)) 13 p 6 (nI (g + 2))) 14 p d (nI (4096 + 4 * (ba p + si p - (g + 2)))) a p = σ a p := fun a g1 g2 g3 => by rw [zu_k g3, zu_k g2, zu_k g1]
        rw [ek 15 (by omega) (by omega) (by omega), ek 16 (by omega) (by omega) (by omega), ek 17 (by omega) (by omega) (by omega), ek 18 (by omega) (by omega) (by omega)]
        unfold Nt
        rw [gW2]
        refine ⟨fun i hi => ?_, ?_, ?_, fun i hi => ?_, fun i hi => ?_⟩
        · obtain ⟨y1, y2, y3, y4⟩ := n1 i hi
          dsimp only
          by_cases hid : i = d
          · subst hid
            simp only [if_pos]
            rw [if_neg (show ¬ (g + 2) / 2 = 0 by omega)]
            refine ⟨by omega, by omega, by rw [zu_rd, if_pos (by omega)], ?_⟩
            rw [zu_rd, if_pos (by omega)]
            congr 2; omega
          · simp only [if_neg hid]
            refine ⟨y1, by omega, by rw [zu_rd, if_neg (by omega)]; exact y3, ?_⟩
            rw [zu_rd, if_neg (by omega), zu_rd, if_neg (by omega), zu_rd, if_neg (by omega)]
            exact y4
        · rw [zu_rd, if_neg (by omega), zu_rd, if_pos (by omega)]
        · rw [zu_rd, if_neg (by omega), zu_rd, if_neg (by omega), zu_rd, if_pos (by omega), hO]
        · rw [zu_rd, if_neg (by omega), zu_rd, if_neg (by omega)]; exact n4 i hi
        · obtain ⟨y1, y2, y3⟩ := n5 i hi
          rw [zu_rd, if_neg (by omega), zu_rd, if_neg (by omega)]
          refine ⟨y1, y2, fun h0 => ?_⟩
          obtain ⟨y4, y5, y6⟩ := y3 h0
          refine ⟨y4, y5, ?_⟩
          have := hQi i hi
          unfold Qi at this
          rw [hO]
          omega)
      have hr' : 0 < (fun q => if q = p then (fun i => if i = d then (g + 2) / 2 else r p i) else r q) p d := by
        simp only [if_pos]
        omega
      obtain ⟨-, -, -, hw⟩ := g_at hRL hp hd hr'
      have hw0 := hw 0 0 (by omega)
      have e2r : ba p + si p - 2 * ((fun q => if q = p then (fun i => if i = d then (g + 2) / 2 else r p i) else r q) p d) = ba p + si p - (g + 2) := by
        simp only [if_pos]
        omega
      rw [e2r] at hw0
      have k1 := rl_ram hRL (ba p + si p - (g + 2)) 0
      obtain ⟨-, -, -, hwb⟩ := g_at k1 hp hd hr'
      have hw1 := hwb 1 0 (by omega)
      rw [e2r] at hw1
      have k2 := rl_ram k1 (ba p + si p - (g + 2) + 1) 0
      have hw0 : k_GM_write (zu τ 20 0 (3 * p + d) (nI ((g + 2) / 2))) (nI p) (nI d) 0 0 = some (zu (zu τ 20 0 (3 * p + d) (nI ((g + 2) / 2))) 2 0 (ba p + si p - (g + 2)) 0) := hw0
      rw [show (nI 1 : Int32) = 1 from rfl] at hw1
      refine ⟨_, _, _, _, _, ?_, ?_, k2, hr', ⟨fun q => ⟨?_, ?_⟩, ?_⟩⟩
      · rw [if_pos hQ, if_neg (show ¬ (1 : Int32) = 0 by decide), lt_e, s5, s6, hx6, lt_e, lt_e, ck_p z3, lt_e, cd]
        unfold k_Me_clearRam
        rw [show k_Me_clearRam_2 (nI (4096 + 4 * (ba p + si p - (g + 2)))) 2 FU (zu (zu (zu σ 11 p 8 (nI o)) 13 p 6 (nI (g + 2))) 14 p d (nI (4096 + 4 * (ba p + si p - (g + 2))))) 0 = k_Me_clearRam_2 (nI (4096 + 4 * (ba p + si p - (g + 2)))) (nI 2) FU (zu (zu (zu σ 11 p 8 (nI o)) 13 p 6 (nI (g + 2))) 14 p d (nI (4096 + 4 * (ba p + si p - (g + 2))))) (nI 0) from rfl, me_clear (q := ba p + si p - (g + 2)) (n := 2) (by omega) 2 FU 0 _ (by omega) (by unfold FU; omega), bn_s]
        rfl
      · rw [if_pos ⟨rfl, hQ⟩, k_GM_ensure_52, if_pos (show (3 : Int32) ≤ nI (0 + 1 + 1 + 1) by decide), if_neg (show ¬ nI 1 = 0 by decide), ck_p (by decide), ix3, ck_p z12, lt_e, c12, show nI (g + 2) / 2 = nI ((g + 2) / 2) by rw [show (2 : Int32) = nI 2 from rfl, pk_div (by omega) (by omega) (by omega)], hw0, bn_s, hw1, bn_s, ck_p (by decide)]
        rfl
      · rw [zu_rd, if_neg (by omega), zu_rd, if_neg (by omega), zu_rd, if_neg (by omega), zu_rd, if_neg (by omega), zu_rd, if_neg (by omega)]
      · rw [zu_rd, if_neg (by omega), zu_rd, if_neg (by omega), zu_rd, if_neg (by omega), zu_rd, if_neg (by omega), zu_rd, if_neg (by omega)]
      · rw [zu_rd, if_neg (by omega), zu_rd, if_neg (by omega), zu_rd, if_neg (by omega)]
    · left
      rw [if_neg hQ, if_pos rfl, if_neg (fun q => hQ q.2), end0]
      exact ⟨rfl, rfl⟩
end MAKE
