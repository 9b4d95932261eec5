/-! the kernel's answer -/
section SERVE
variable {σ τ : zS} {N u p : Nat} {c fr to ba si ke en po : Nat → Nat} {r w b : Nat → Nat → Nat}
theorem rl_pcM {v : Int32} (h : RL σ τ N u c fr to ba si ke en po r w b) (hp : p < N) (h15 : σ 11 p 15 = 1) : RL σ (zu τ 14 0 p v) N u c fr to ba si ke en po r w b := by
  obtain ⟨d1, d2, d3, d4, d5, d6, d7, d8, d9, d10, d11, d12, d13, d14, d15, d16⟩ := (h.2.1 p hp).2.1
  refine rl_dy h hp (fun a b j g1 g2 => rfl) (fun a b j g1 g2 => by rw [zu_rd, if_neg (by omega)]) ?_
  have et : ∀ a j, a ≠ 14 → zu τ 14 0 p v a 0 j = τ a 0 j := fun a j g => by rw [zu_rd, if_neg (by omega)]
  unfold Dy
  rw [et 12 p (by omega), et 13 p (by omega), et 15 p (by omega), et 16 p (by omega), et 10 p (by omega), et 17 p (by omega), et 18 p (by omega), et 19 p (by omega)]
  exact ⟨fun j hj => by rw [et 11 _ (by omega)]; exact d1 j hj, d2, d3, fun g => absurd (h15.symm.trans g) (by decide), d5, d6, d7, d8, d9, d10, d11, d12, d13, d14, d15, d16⟩
/-- the reference's kernel, once the grant is there -/
def refT (q n : Int32) (s8 : zS) (d A1 A2 x1 : Int32) : Option zS :=
  if n = 1 then
    bn (k_GM_subscribe s8 q d A1 A2) fun (s14, r15) => k_GM_kernel_227 q n s14 x1 r15
  else
    if n = 2 then
      bn (k_GM_command s8 q d A1 A2) fun (s12, r13) => k_GM_kernel_227 q n s12 x1 r13
    else
      bn (k_GM_allow s8 q d A1 A2) fun (s10, r11) => k_GM_kernel_227 q n s10 x1 r11
/-- both sides answer: the reference has still to write the answer into the frame -/
def KA (C : Option (zS × Int32)) (M : Option zS) (x1 : Int32) (σ τ : zS) (N : Nat) (fr to ba si ke en po : Nat → Nat) : Prop := ∃ (σ' τ' : zS) (x : Int32) (u' : Nat) (c' : Nat → Nat) (r' w' b' : Nat → Nat → Nat), C = some (σ', x) ∧ M = (bn (k_GM_set τ' x1 x) fun s => some s) ∧ RL σ' τ' N u' c' fr to ba si ke en po r' w' b' ∧ Fr σ σ' τ τ'
theorem ka_s (x x1 : Int32) (h : RL σ τ N u c fr to ba si ke en po r w b) : KA (some (σ, x)) (bn (k_GM_set τ x1 x) fun s => some s) x1 σ τ N fr to ba si ke en po := ⟨σ, τ, x, u, c, r, w, b, rfl, rfl, h, fr_rf⟩
theorem a70_ok {d n : Nat} (A1 A2 x1 : Int32) (h : RL σ τ N u c fr to ba si ke en po r w b) (hp : p < N) (hd : d < 3) (hr : 0 < r p d) (hn : n = 1 ∨ n = 2 ∨ n = 3) : KA (k_Ke_answer_70 p (nI n) σ (nI d) A1 A2) (refT (nI p) (nI n) τ (nI d) A1 A2 x1) x1 σ τ N fr to ba si ke en po := by
  have fin : ∀ (C C' M : Option (zS × Int32)) (M' : Option zS), KO C M σ τ N fr to ba si ke en po → (∀ s x, C = some (s, x) → C' = some (s, x)) → (∀ s x, M = some (s, x) → M' = bn (k_GM_set s x1 x) fun s => some s) → KA C' M' x1 σ τ N fr to ba si ke en po := fun C C' M M' ⟨σ', τ', x, u', c', r', w', b', e1, e2, e3, e4⟩ f1 f2 => ⟨σ', τ', x, u', c', r', w', b', f1 _ _ e1, f2 _ _ e2, e3, e4⟩
  unfold k_Ke_answer_70 refT k_GM_kernel_227 k_GM_kernel_229
  rcases hn with rfl | rfl | rfl
  · rw [if_pos (by decide), if_pos (by decide)]
    exact fin _ _ _ _ (k_subs A1 A2 h hp hd) (fun s x e => by rw [e, bn_s]) (fun s x e => by rw [e, bn_s])
  · rw [if_neg (show ¬ nI 2 = (1 : Int32) by decide), if_neg (show ¬ nI 2 = (3 : Int32) by decide), if_neg (show ¬ nI 2 = (1 : Int32) by decide), if_pos (show nI 2 = (2 : Int32) by decide)]
    by_cases hA : A1 = 0
    · rw [if_pos hA]
      have : k_GM_command τ (nI p) (nI d) A1 A2 = some (τ, 0) := by unfold k_GM_command; rw [if_pos hA]
      rw [this, bn_s]
      exact ka_s 0 x1 h
    · rw [if_neg hA]
      obtain rfl | rfl | rfl : d = 0 ∨ d = 1 ∨ d = 2 := by omega
      · rw [if_pos (by decide)]
        exact fin _ _ _ _ (k_alarm A1 A2 h hp hr hA) (fun s x e => by rw [e, bn_s]) (fun s x e => by rw [e, bn_s])
      · rw [if_neg (by decide), if_pos (by decide)]
        exact fin _ _ _ _ (k_cons A1 A2 h hp hr hA) (fun s x e => by rw [e, bn_s]) (fun s x e => by rw [e, bn_s])
      · rw [if_neg (by decide), if_neg (by decide)]
        exact fin _ _ _ _ (k_sensor A1 A2 h hp hr hA) (fun s x e => by rw [e, bn_s]) (fun s x e => by rw [e, bn_s])
  · rw [if_neg (by decide), if_pos (by decide), if_neg (by decide), if_neg (by decide)]
    exact fin _ _ _ _ (k_allow A1 A2 h hp hd) (fun s x e => by rw [e, bn_s]) (fun s x e => by rw [e, bn_s])
theorem ans_ok {n q : Nat} (h : RL σ τ N u c fr to ba si ke en po r w b) (hp : p < N) (h1 : 1 ≤ n) (hn : n < 256) (hq : q + 8 ≤ 128) (h12 : τ 12 0 p = nI (4096 + 4 * q)) (hw : ∀ k, k < 3 → τ 2 0 (q + k) = σ 12 p k) : KA (k_Ke_answer σ p (nI n)) (k_GM_kernel τ (nI p) (nI n)) (nI (4096 + 4 * q)) σ τ N fr to ba si ke en po := by
  have h4 : N ≤ 4 := h.1.2.2.2.2.2.2.2.2.1
  have zp : zi (nI p) 4 = true := zi_n (by omega) (by omega)
  have cp : (nI p).toNatClampNeg = p := nI_clamp (by omega)
  have w0 := hw 0 (by omega)
  rw [Nat.add_zero] at w0
  have eM : k_GM_kernel τ (nI p) (nI n) = if 3 < nI n then k_GM_kernel_229 (nI p) (nI n) τ (nI (4096 + 4 * q)) (-1) else if σ 12 p 0 < 0 then k_GM_kernel_158 (nI p) (nI n) τ (nI (4096 + 4 * q)) else if σ 12 p 0 ≤ 2 then bn (k_GM_ensure τ (nI p) (σ 12 p 0)) fun (s8, r9) => if r9 = 0 then k_GM_kernel_227 (nI p) (nI n) s8 (nI (4096 + 4 * q)) (-4) else refT (nI p) (nI n) s8 (σ 12 p 0) (σ 12 p 1) (σ 12 p 2) (nI (4096 + 4 * q)) else k_GM_kernel_158 (nI p) (nI n) τ (nI (4096 + 4 * q)) := by
    unfold k_GM_kernel
    rw [ck_p zp, cp, h12, lt_e, gm_get (by omega), bn_s]
    dsimp only
    rw [show (4 : Int32) = nI (4 * 1) from rfl, add4, gm_get (by omega), bn_s]
    dsimp only
    rw [show (8 : Int32) = nI (4 * 2) from rfl, add4, gm_get (by omega), bn_s]
    dsimp only
    rw [if_neg (nI_ne0 (by omega) (by omega)), w0, hw 1 (by omega), hw 2 (by omega)]
    rfl
  have eC : k_Ke_answer σ p (nI n) = if nI n < 1 then (some (σ, -1) : Option (zS × Int32)) else if nI n ≤ 3 then (if σ 12 p 0 < 0 then some (σ, -2) else if σ 12 p 0 < 3 then bn (k_No_hasGrant σ p (σ 12 p 0)) fun (s4, r5) => if r5 = 0 then bn (k_Ke_makeGrant s4 p (σ 12 p 0)) fun (s6, r7) => if r7 = 0 then some (s6, -4) else k_Ke_answer_70 p (nI n) s6 (σ 12 p 0) (σ 12 p 1) (σ 12 p 2) else k_Ke_answer_70 p (nI n) s4 (σ 12 p 0) (σ 12 p 1) (σ 12 p 2) else some (σ, -2)) else some (σ, -1) := by
    unfold k_Ke_answer
    rw [ck_p (by decide), lt_e, ck_p (by decide), lt_e, ck_p (by decide), lt_e]
    rfl
  rw [eC, eM, if_neg (show ¬ nI n < 1 by rw [show (1 : Int32) = nI 1 by decide]; exact nI_nlt h1 (by omega))]
  by_cases h3 : 3 < n
  · rw [if_pos (show (3 : Int32) < nI n by rw [show (3 : Int32) = nI 3 by decide]; exact nI_lt h3 (by omega)), if_neg (show ¬ nI n ≤ 3 by rw [show (3 : Int32) = nI 3 by decide]; exact nI_ge h3 (by omega))]
    exact ka_s (-1) _ h
  · rw [if_neg (show ¬ (3 : Int32) < nI n by rw [show (3 : Int32) = nI 3 by decide]; exact nI_nlt (by omega) (by omega)), if_pos (show nI n ≤ 3 by rw [show (3 : Int32) = nI 3 by decide]; exact nI_le (by omega) (by omega))]
    rcases pk_ix (σ 12 p 0) (n := 3) (by omega) with g | g | ⟨d, hd, ed⟩
    · rw [if_pos g, if_pos g]
      exact ka_s (-2) _ h
    · have g' : (3 : Int32) ≤ σ 12 p 0 := g
      have g0 : ¬ σ 12 p 0 < 0 := fun q => absurd (Int32.lt_of_le_of_lt g' q) (by decide)
      have g2 : ¬ σ 12 p 0 ≤ 2 := fun q => absurd (Int32.le_trans g' q) (by decide)
      rw [if_neg g0, if_neg g0, if_neg (Int32.not_lt.mpr g'), if_neg g2]
      exact ka_s (-2) _ h
    · rw [ed]
      have g0 : ¬ nI d < 0 := nI_pos (by omega)
      have g1 : nI d < (3 : Int32) := by rw [show (3 : Int32) = nI 3 by decide]; exact nI_lt hd (by omega)
      have g2 : nI d ≤ (2 : Int32) := by rw [show (2 : Int32) = nI 2 by decide]; exact nI_le (by omega) (by omega)
      obtain ⟨n1, -⟩ := (h.2.1 p hp).2.2
      obtain ⟨y1, y2, y3, y4⟩ := n1 d hd
      obtain ⟨o1, o2, o3, o4⟩ := op_le h hp
      rw [if_neg g0, if_neg g0, if_pos g1, if_pos g2, no_has hd, bn_s]
      dsimp only
      by_cases hr0 : r p d = 0
      · rw [if_pos hr0] at y4
        rw [if_pos y4, if_pos rfl]
        rcases mk_ok h hp hd hr0 with ⟨e1, e2⟩ | ⟨σ', τ', r', w', b', e1, e2, e3, e4, e5⟩
        · rw [e1, e2, bn_s, bn_s]
          dsimp only
          rw [if_pos rfl, if_pos rfl]
          exact ka_s (-4) _ h
        · rw [e1, e2, bn_s, bn_s]
          dsimp only
          rw [if_neg (show ¬ (1 : Int32) = 0 by decide), if_neg (show ¬ (1 : Int32) = 0 by decide)]
          obtain ⟨s, t, x, u', c', r2, w2, b2, k1, k2, k3, k4⟩ := a70_ok (σ 12 p 1) (σ 12 p 2) (nI (4096 + 4 * q)) e3 hp hd e4 (show n = 1 ∨ n = 2 ∨ n = 3 by omega)
          exact ⟨s, t, x, u', c', r2, w2, b2, k1, k2, k3, fr_tr e5 k4⟩
      · rw [if_neg hr0] at y4
        have hne : ¬ σ 14 p d = 0 := by rw [y4]; exact nI_ne0 (by omega) (by omega)
        have en1 : k_GM_ensure τ (nI p) (nI d) = some (τ, 1) := by
          unfold k_GM_ensure
          rw [ix3, ck_p (zi_n (show 3 * p + d < 12 by omega) (by omega)), nI_clamp (show 3 * p + d < 2 ^ 31 by omega), y3, if_neg (nI_nle (by omega) (by omega))]
        rw [if_neg hne, if_neg (show ¬ (1 : Int32) = 0 by decide), en1, bn_s]
        dsimp only
        rw [if_neg (show ¬ (1 : Int32) = 0 by decide)]
        exact a70_ok (σ 12 p 1) (σ 12 p 2) (nI (4096 + 4 * q)) h hp hd (by omega) (show n = 1 ∨ n = 2 ∨ n = 3 by omega)
theorem svc_ok {n : Nat} (h : G σ τ N u c fr to ba si ke en po r w b p) (hn : n < 256) : ∃ (σ' τ' : zS) (x : Int32) (u' : Nat) (c' : Nat → Nat) (r' w' b' : Nat → Nat → Nat), k_GK_serve σ p (nI n) = some (σ', x) ∧ svcM (nI p) τ (nI n) = some τ' ∧ RL σ' τ' N u' c' fr to ba si ke en po r' w' b' ∧ τ' 0 0 37 = x ∧ (x = 0 ∨ ¬ x ≤ 0) := by
  have p4 := g_p4 h
  have zp := g_zp h
  have cp := g_cp h
  have hp := h.2.1
  obtain ⟨-, -, -, e14, -, -⟩ := g_rg h
  unfold k_GK_serve svcM
  rw [ck_p zp, cp, e14]
  have f322 : ∀ t : zS, t 0 0 37 = 0 → k_GM_instruction_322 (nI p) t = some (zu t 14 0 p (t 0 0 39)) := fun t ht => by
    unfold k_GM_instruction_322 k_GM_instruction_347
    rw [if_pos (show t 0 0 37 ≤ 0 by rw [ht]; decide), ck_p zp, cp, lt_e]
  rcases stack_ok (at' := σ 11 p 13 + (2 : Int32)) h.1 hp h.2.2.1 with ⟨e1, e2⟩ | ⟨q, a, f, g1, g2, g3, g4, e1, e2, e3⟩
  · rw [e1, e2, bn_s, bn_s]
    dsimp only
    have h6 : zu τ 0 0 37 6 0 0 37 = 6 := by rw [zu_rd, if_pos (by omega)]
    rw [if_pos rfl, if_neg (show ¬ zu τ 0 0 37 6 0 0 37 = 0 by rw [h6]; decide), bn_s]
    refine ⟨σ, zu τ 0 0 37 6, 6, u, c, r, w, b, rfl, ?_, rl_scr h.1 (by omega), h6, Or.inr (by decide)⟩
    unfold k_GM_instruction_322 k_GM_instruction_347
    rw [if_neg (show ¬ zu τ 0 0 37 6 0 0 37 ≤ 0 by rw [h6]; decide), ck_p zp, ck_p zp, cp, lt_e, zu_id rfl]
  · rw [e1, e2, bn_s, bn_s]
    dsimp only
    generalize hσ1 : zu (wrn (zu σ 11 p 11 a) 3 q f 0 8) 11 p 15 1 = σ1 at *
    generalize hτ1 : zu (zu (wrn τ 2 q f 0 8) 12 0 p a) 16 0 p 1 = τ1 at *
    have t37 : τ1 0 0 37 = 0 := by rw [← hτ1, zu_rd, if_neg (by omega), zu_rd, if_neg (by omega), wrn_o 8 0 _ 0 0 37 (by omega)]; exact h.2.2.2.1
    have s15 : σ1 11 p 15 = 1 := by rw [← hσ1, zu_rd, if_pos (by omega)]
    have s11 : σ1 11 p 11 = nI (4096 + 4 * q) := by rw [← hσ1, zu_rd, if_neg (by omega), wrn_o 8 0 _ 11 p 11 (by omega), zu_rd, if_pos (by omega)]; exact g2
    have t12 : τ1 12 0 p = nI (4096 + 4 * q) := by rw [← hτ1, zu_rd, if_neg (by omega), zu_rd, if_pos (by omega)]; exact g2
    have hw : ∀ k, k < 3 → τ1 2 0 (q + k) = σ1 12 p k := fun k hk => by
      rw [← hτ1, ← hσ1, zu_rd, if_neg (by omega), zu_rd, if_neg (by omega), wrn_at, if_pos (by omega), g3 k (by omega), zu_rd, if_neg (by omega), wrn_o 8 0 _ 12 p k (by omega), zu_rd, if_neg (by omega)]
    rw [if_neg (show ¬ (1 : Int32) = 0 by decide), if_pos t37]
    by_cases h0 : n = 0
    · subst h0
      obtain ⟨σ', τ', u', c', k1, k2, k3, k4⟩ := wait_ok e3 hp s15
      have s15' : σ' 11 p 15 = 1 := by rw [(k4.1 p).2]; exact s15
      have t37' : τ' 0 0 37 = 0 := by rw [k4.2]; exact t37
      rw [if_pos (show nI 0 = 0 by decide), k1, show k_GM_kernel τ1 (nI p) (nI 0) = k_GM_kernel τ1 (nI p) 0 from rfl, k2, bn_s, bn_s, bn_s, f322 τ' t37']
      exact ⟨σ', _, 0, u', c', r, w, b, rfl, rfl, rl_pcM k3 hp s15', by rw [zu_rd, if_neg (by omega)]; exact t37', Or.inl rfl⟩
    · obtain ⟨σ', τ', x, u', c', r', w', b', k1, k2, k3, k4⟩ := ans_ok e3 hp (show 1 ≤ n by omega) hn g1 t12 hw
      have s15' : σ' 11 p 15 = 1 := by rw [(k4.1 p).2]; exact s15
      have s11' : σ' 11 p 11 = nI (4096 + 4 * q) := by rw [(k4.1 p).1]; exact s11
      have t37' : zu τ' 2 0 q x 0 0 37 = 0 := by rw [zu_rd, if_neg (by omega), k4.2]; exact t37
      have s15'' : zu σ' 3 0 q x 11 p 15 = 1 := by rw [zu_rd, if_neg (by omega)]; exact s15'
      have sf : k_BP_setFrameWord σ' p 0 x = some (zu σ' 3 0 q x) := by
        have := bp_sf (s := σ') (p := p) (q := q) (k := 0) (v := x) s11' (by omega)
        exact this
      rw [if_neg (nI_ne0 (by omega) (by omega)), k1, bn_s]
      dsimp only
      rw [sf, bn_s, k2, gm_set (by omega), bn_s, bn_s, bn_s, f322 _ t37']
      exact ⟨_, _, 0, u', c', r', w', b', rfl, rfl, rl_pcM (rl_ram k3 q x) hp s15'', by rw [zu_rd, if_neg (by omega)]; exact t37', Or.inl rfl⟩
end SERVE
