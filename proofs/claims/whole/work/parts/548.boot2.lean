/-! boot: the loader's loop -/
theorem msk : ∀ v, v < 256 → nI v &&& (-(nI 16)) = nI (v / 16 * 16) ∧ nI v &&& (-(nI 32)) = nI (v / 32 * 32) ∧ nI v &&& (-(nI 64)) = nI (v / 64 * 64) := by decide +kernel
def szN (K : Nat) : Nat := if K = 0 then 16 else if K = 1 then 32 else 64
theorem szN_c (K : Nat) : szN K = 16 ∨ szN K = 32 ∨ szN K = 64 := by
  unfold szN
  split
  · omega
  · split <;> omega
theorem msk_s {v K : Nat} (hv : v < 256) : nI v &&& (-(nI (szN K))) = nI (v / szN K * szN K) := by
  obtain ⟨m1, m2, m3⟩ := msk v hv
  rcases szN_c K with e | e | e <;> rw [e] <;> assumption
theorem sz_sh {K : Nat} (hK : K ≤ 2) : (16 : Int32) <<< (nI K &&& 31) = nI (szN K) := by
  obtain rfl | rfl | rfl : K = 0 ∨ K = 1 ∨ K = 2 := by omega
  · decide
  · decide
  · decide
section LOADER
variable {s t : zS} {M : Nat} {c fr to ba si ke en po : Nat → Nat} {r w b : Nat → Nat → Nat}
/-- what holds between the headers -/
def Ld (s t : zS) (M U pos : Nat) : Prop := (∃ (c fr to ba si ke en po : Nat → Nat) (r w b : Nat → Nat → Nat), RL (zu s 0 0 6 (nI M)) t M 0 c fr to ba si ke en po r w b) ∧ s 9 0 2 = nI M ∧ s 9 0 3 = nI U ∧ U ≤ 128 ∧ M ≤ 4 ∧ pos ≤ 256 ∧ (∀ p, M ≤ p → p < 4 → s 11 p 17 = 0 ∧ s 11 p 18 = 0 ∧ s 11 p 19 = 0)
theorem ld_fl {U pos : Nat} (h : Ld s t M U pos) : s 2 0 = t 1 0 ∧ (∀ i, i < 256 → ∃ n, n ≤ 65535 ∧ t 1 0 i = nI n) ∧ t 0 0 5 = nI M := by
  obtain ⟨⟨c, fr, to, ba, si, ke, en, po, r, w, b, h⟩, -⟩ := h
  have h1 := h.1.1
  rw [zu_k (by decide)] at h1
  have h2 := h.1.2.1
  rw [zu_k (by decide), h1] at h2
  exact ⟨h1, h2, h.1.2.2.2.2.2.2.2.1⟩
theorem boot_loop : ∀ (m k f f' : Nat) (s t : zS) (M U pos : Nat), Ld s t M U pos → 8 * k ≤ pos → k + m = 32 → m < f → m < f' → ∃ (s' t' : zS) (M' : Nat), k_Lo_loadAll_45 f s (nI pos) (nI k) = some (s', nI M') ∧ k_GM_boot_61 f' t (nI pos) (nI U) = some (t', nI M') ∧ Rel (zu s' 0 0 6 (nI M')) t' := by
  intro m
  induction m with
  | zero =>
    intro k f f' s t M U pos h hpos hk hf hf'
    obtain ⟨f, rfl⟩ : ∃ g, f = g + 1 := ⟨f - 1, by omega⟩
    obtain ⟨f', rfl⟩ : ∃ g, f' = g + 1 := ⟨f' - 1, by omega⟩
    obtain ⟨f1, f2, h5⟩ := ld_fl h
    obtain ⟨⟨c, fr, to, ba, si, ke, en, po, r, w, b, hR⟩, h2, h3, hU, hM, hp, -⟩ := h
    refine ⟨s, t, M, ?_, ?_, hR.rel⟩
    · rw [k_Lo_loadAll_45, if_pos (show (32 : Int32) ≤ nI k by rw [show (32 : Int32) = nI 32 by decide]; exact nI_le (by omega) (by omega)), h2]
    · rw [k_GM_boot_61, show (6 : Int32) = nI 6 by decide, nI_add, if_pos (show (256 : Int32) < nI (pos + 6) by rw [show (256 : Int32) = nI 256 by decide]; exact nI_lt (by omega) (by omega)), h5]
  | succ m ih =>
    intro k f f' s t M U pos h hpos hk hf hf'
    obtain ⟨f, rfl⟩ : ∃ g, f = g + 1 := ⟨f - 1, by omega⟩
    obtain ⟨f', rfl⟩ : ∃ g, f' = g + 1 := ⟨f' - 1, by omega⟩
    obtain ⟨f1, f2, h5⟩ := ld_fl h
    have h' := h
    obtain ⟨⟨c, fr, to, ba, si, ke, en, po, r, w, b, hR⟩, h2, h3, hU, hM, hp, hF⟩ := h
    have n6 : nI pos + (6 : Int32) = nI (pos + 6) := nI_add pos 6
    have n1 : nI pos + (1 : Int32) = nI (pos + 1) := nI_1 pos
    have n2 : nI pos + (2 : Int32) = nI (pos + 2) := nI_add pos 2
    have n3 : nI pos + (3 : Int32) = nI (pos + 3) := nI_add pos 3
    have n4 : nI pos + (4 : Int32) = nI (pos + 4) := nI_add pos 4
    have n5 : nI pos + (5 : Int32) = nI (pos + 5) := nI_add pos 5
    have z : ∀ x, x < 256 → zi (nI x) 256 = true := fun x hx => zi_n hx (by omega)
    have cl : ∀ x, x < 256 → (nI x).toNatClampNeg = x := fun x hx => nI_clamp (by omega)
    -- both end
    have stop : k_Lo_isHeader s (nI pos) = some (s, 0) → k_Lo_loadAll_45 (f + 1) s (nI pos) (nI k) = some (s, nI M) := fun e => by
      rw [k_Lo_loadAll_45, if_neg (show ¬ (32 : Int32) ≤ nI k by rw [show (32 : Int32) = nI 32 by decide]; exact nI_ge (by omega) (by omega)), e, bn_s]
      dsimp only
      rw [if_pos rfl, h2]
    by_cases h6 : 256 < pos + 6
    · have e6 : (256 : Int32) < nI (pos + 6) := by rw [show (256 : Int32) = nI 256 by decide]; exact nI_lt h6 (by omega)
      refine ⟨s, t, M, stop ?_, ?_, hR.rel⟩
      · unfold k_Lo_isHeader
        rw [n6, if_pos e6]
      · rw [k_GM_boot_61, n6, if_pos e6, h5]
    have e6 : ¬ (256 : Int32) < nI (pos + 6) := by rw [show (256 : Int32) = nI 256 by decide]; exact nI_nlt (by omega) (by omega)
    obtain ⟨X, hX, eX⟩ := f2 (pos + 1) (by omega)
    have zp := z pos (by omega)
    have cp := cl pos (by omega)
    have z1 := z (pos + 1) (by omega)
    have c1 := cl (pos + 1) (by omega)
    by_cases hm : t 1 0 pos = 21570
    rotate_left
    · refine ⟨s, t, M, stop ?_, ?_, hR.rel⟩
      · unfold k_Lo_isHeader
        rw [n6, if_neg e6, ck_p zp, cp, f1, if_neg hm]
      · rw [k_GM_boot_61, n6, if_neg e6, ck_p zp, cp, if_neg hm, h5]
    by_cases hX8 : X < 8
    · have e8 : nI X < (8 : Int32) := by rw [show (8 : Int32) = nI 8 by decide]; exact nI_lt hX8 (by omega)
      refine ⟨s, t, M, stop ?_, ?_, hR.rel⟩
      · unfold k_Lo_isHeader
        rw [n6, if_neg e6, ck_p zp, cp, f1, if_pos hm, n1, ck_p z1, lt_e, c1, eX, if_pos e8]
      · rw [k_GM_boot_61, n6, if_neg e6, ck_p zp, cp, if_pos hm, n1, ck_p z1, c1, eX, if_pos e8, h5]
    have e8 : ¬ nI X < (8 : Int32) := by rw [show (8 : Int32) = nI 8 by decide]; exact nI_nlt (by omega) (by omega)
    have ev : nI X &&& (1 : Int32) = nI (X % 2) := by rw [pk_andN (by omega) 1 (by decide)]
    have er : nI X - nI X / (2 : Int32) * (2 : Int32) = nI (X % 2) := by rw [show (2 : Int32) = nI 2 from rfl, pk_rem (by omega) (by omega) (by omega)]
    by_cases hX2 : X % 2 = 0
    rotate_left
    · have e2 : ¬ nI (X % 2) = 0 := nI_ne0 (by omega) (by omega)
      refine ⟨s, t, M, stop ?_, ?_, hR.rel⟩
      · unfold k_Lo_isHeader
        rw [n6, if_neg e6, ck_p zp, cp, f1, if_pos hm, n1, ck_p z1, lt_e, c1, eX, if_neg e8, ev, if_neg e2]
      · rw [k_GM_boot_61, n6, if_neg e6, ck_p zp, cp, if_pos hm, n1, ck_p z1, c1, eX, if_neg e8, ck_p z1, ck_p (by decide), er, if_neg e2, h5]
    have e2 : nI (X % 2) = 0 := by rw [hX2]; rfl
    by_cases hlen : 256 < pos + X
    · have el : (256 : Int32) < nI (pos + X) := by rw [show (256 : Int32) = nI 256 by decide]; exact nI_lt hlen (by omega)
      refine ⟨s, t, M, stop ?_, ?_, hR.rel⟩
      · unfold k_Lo_isHeader
        rw [n6, if_neg e6, ck_p zp, cp, f1, if_pos hm, n1, ck_p z1, lt_e, c1, eX, if_neg e8, ev, if_pos e2, nI_add, if_pos el]
      · rw [k_GM_boot_61, n6, if_neg e6, ck_p zp, cp, if_pos hm, n1, ck_p z1, c1, eX, if_neg e8, ck_p z1, ck_p (by decide), er, if_pos e2, ck_p z1, nI_add, if_pos el, h5]
    have el : ¬ (256 : Int32) < nI (pos + X) := by rw [show (256 : Int32) = nI 256 by decide]; exact nI_nlt (by omega) (by omega)
    -- a header
    obtain ⟨K, hK, eK⟩ := f2 (pos + 2) (by omega)
    obtain ⟨Ke, hKe, eKe⟩ := f2 (pos + 3) (by omega)
    obtain ⟨E, hE, eE⟩ := f2 (pos + 4) (by omega)
    obtain ⟨P, hP, eP⟩ := f2 (pos + 5) (by omega)
    have z2 := z (pos + 2) (by omega)
    have c2 := cl (pos + 2) (by omega)
    have z3 := z (pos + 3) (by omega)
    have c3 := cl (pos + 3) (by omega)
    have z4 := z (pos + 4) (by omega)
    have c4 := cl (pos + 4) (by omega)
    have z5 := z (pos + 5) (by omega)
    have c5 := cl (pos + 5) (by omega)
    have hS := szN_c K
    have hH : k_Lo_isHeader s (nI pos) = some (s, 1) := by
      unfold k_Lo_isHeader
      rw [n6, if_neg e6, ck_p zp, cp, f1, if_pos hm, n1, ck_p z1, lt_e, c1, eX, if_neg e8, ev, if_pos e2, nI_add, if_neg el]
    have eM1 : k_GM_boot_61 (f' + 1) t (nI pos) (nI U) = k_GM_boot_155 (k_GM_boot_61 f') t (nI pos) (nI U) (nI K) (nI (szN K)) := by
      rw [k_GM_boot_61, n6, if_neg e6, ck_p zp, cp, if_pos hm, n1, ck_p z1, c1, eX, if_neg e8, ck_p z1, ck_p (by decide), er, if_pos e2, ck_p z1, nI_add, if_neg el, n2, ck_p z2, lt_e, c2, eK]
      unfold szN
      by_cases k0 : K = 0
      · subst k0
        rw [if_pos (show nI 0 = 0 by decide), if_pos rfl]
        rfl
      · rw [if_neg (nI_ne0 (by omega) (by omega)), if_neg k0]
        by_cases k1 : K = 1
        · subst k1
          rw [if_pos (show nI 1 = 1 by decide), if_pos rfl]
          rfl
        · have : ¬ nI K = (1 : Int32) := fun g => k1 ((nI_eq (a := K) (b := 1) (by omega) (by omega)).mp g)
          rw [if_neg this, if_neg k1]
          rfl
    generalize hSz : szN K = S at *
    have hBs : (((nI U + nI S) - (1 : Int32)) / nI S) * nI S = nI ((U + S - 1) / S * S) := by
      rw [nI_add, show (1 : Int32) = nI 1 from rfl, pk_sub (by omega), pk_div (by omega) (by omega) (by omega), pk_mul]
    have hBC : (((nI U + nI S) - (1 : Int32)) &&& (-(nI S))) = nI ((U + S - 1) / S * S) := by
      rw [nI_add, show (1 : Int32) = nI 1 from rfl, pk_sub (by omega), ← hSz, msk_s (by omega)]
    have hBle : (U + S - 1) / S * S ≤ U + S - 1 := Nat.div_mul_le_self _ _
    generalize hB : (U + S - 1) / S * S = B at *
    have e155 : k_GM_boot_155 (k_GM_boot_61 f') t (nI pos) (nI U) (nI K) (nI S) = if 2 < nI K then k_GM_boot_251 (k_GM_boot_61 f') t (nI pos) (nI U) (nI S) (nI B) else if nI Ke < 8 then k_GM_boot_251 (k_GM_boot_61 f') t (nI pos) (nI U) (nI S) (nI B) else if nI S < nI Ke then k_GM_boot_251 (k_GM_boot_61 f') t (nI pos) (nI U) (nI S) (nI B) else if nI E < 6 then k_GM_boot_251 (k_GM_boot_61 f') t (nI pos) (nI U) (nI S) (nI B) else if nI X ≤ nI E then k_GM_boot_251 (k_GM_boot_61 f') t (nI pos) (nI U) (nI S) (nI B) else if 15 < nI P then k_GM_boot_251 (k_GM_boot_61 f') t (nI pos) (nI U) (nI S) (nI B) else k_GM_boot_252 (k_GM_boot_61 f') t (nI pos) (nI U) (nI S) (nI B) 1 := by
      unfold k_GM_boot_155
      rw [ck_p (zn_n (by omega) (by omega)), lt_e, hBs, n3, n4, n1, n5, ck_p z3, ck_p z3, ck_p z4, ck_p z4, ck_p z1, ck_p z5, c3, c4, c1, c5, eKe, eE, eX, eP]
    have e293 : k_GM_boot_293 (k_GM_boot_61 f') t (nI pos) (nI U) = k_GM_boot_61 f' t (nI (pos + X)) (nI U) := by
      unfold k_GM_boot_293
      rw [n1, ck_p z1, lt_e, c1, eX, nI_add]
    have e251 : k_GM_boot_251 (k_GM_boot_61 f') t (nI pos) (nI U) (nI S) (nI B) = k_GM_boot_61 f' t (nI (pos + X)) (nI U) := by
      unfold k_GM_boot_251 k_GM_boot_252
      rw [if_pos rfl, e293]
    have cK : (2 < nI K) ↔ 2 < K := nI_ltI (a := 2) (by omega) (by omega)
    have cKe : (nI Ke < 8) ↔ Ke < 8 := nI_ltI (b := 8) (by omega) (by omega)
    have cSK : (nI S < nI Ke) ↔ S < Ke := nI_ltI (by omega) (by omega)
    have cE : (nI E < 6) ↔ E < 6 := nI_ltI (b := 6) (by omega) (by omega)
    have cXE : (nI X ≤ nI E) ↔ X ≤ E := nI_leI (by omega) (by omega)
    have cP : (15 < nI P) ↔ 15 < P := nI_ltI (a := 15) (by omega) (by omega)
    have cM : ((4 : Int32) ≤ nI M) ↔ 4 ≤ M := nI_leI (a := 4) (by omega) (by omega)
    have cB : ((128 : Int32) < nI B + nI S) ↔ 128 < B + S := by rw [nI_add]; exact nI_ltI (a := 128) (by omega) (by omega)
    have e45 : ∀ s8 : zS, k_Lo_loadAt s (nI pos) = some s8 → s8 2 0 (pos + 1) = nI X → k_Lo_loadAll_45 (f + 1) s (nI pos) (nI k) = k_Lo_loadAll_45 f s8 (nI (pos + X)) (nI (k + 1)) := fun s8 e1 e2 => by
      rw [k_Lo_loadAll_45, if_neg (show ¬ (32 : Int32) ≤ nI k by rw [show (32 : Int32) = nI 32 by decide]; exact nI_ge (by omega) (by omega)), hH, bn_s]
      dsimp only
      rw [if_neg (show ¬ (1 : Int32) = 0 by decide), e1, bn_s, n1, ck_p z1, lt_e, lt_e, c1, e2, nI_add, nI_1]
    rw [eM1, e155]
    by_cases hc : M < 4 ∧ K ≤ 2 ∧ P ≤ 15 ∧ 8 ≤ Ke ∧ Ke ≤ S ∧ 6 ≤ E ∧ E < X ∧ B + S ≤ 128
    · obtain ⟨a1, a2, a3, a4, a5, a6, a7, a8⟩ := hc
      rw [if_neg (fun g => by have := cK.mp g; omega), if_neg (fun g => by have := cKe.mp g; omega), if_neg (fun g => by have := cSK.mp g; omega), if_neg (fun g => by have := cE.mp g; omega), if_neg (fun g => by have := cXE.mp g; omega), if_neg (fun g => by have := cP.mp g; omega)]
      obtain ⟨s1, t', l1, l2, l3, l4, l5⟩ := load_ok (F := pos) (T := X) (B := B) (S := S) (K := Ke) (E := E) (P := P) hR a1 (hF M (by omega) a1) (by omega) (by omega) hS a8 a4 a5 a7 a3 eX eKe eE eP
      have m2 : ∀ x, (2 : Int32) * nI x = nI (2 * x) := fun x => by rw [show (2 : Int32) = nI 2 from rfl, pk_mul]
      have cM4 : (nI M).toNatClampNeg = M := nI_clamp (by omega)
      have r9 : s1 9 0 2 = nI M := by rw [l3 9 0 2 (by omega) (by omega)]; exact h2
      have bs : (4096 : Int32) + (4 : Int32) * nI B = nI (4096 + 4 * B) := by rw [mul4, show (4096 : Int32) = nI 4096 from rfl, nI_add]
      have eLA : k_Lo_loadAt s (nI pos) = some (zu (zu s1 9 0 2 (nI (M + 1))) 9 0 3 (nI (B + S))) := by
        have p15 : nI P ≤ (15 : Int32) := nI_le (b := 15) a3 (by omega)
        have e128 : nI B + nI S ≤ (128 : Int32) := by rw [nI_add]; exact nI_le (b := 128) a8 (by omega)
        unfold k_Lo_loadAt
        rw [n1, ck_p z1, lt_e, n2, ck_p z2, lt_e, n3, ck_p z3, lt_e, n4, ck_p z4, lt_e, n5, ck_p z5, lt_e, c1, c2, c3, c4, c5, f1, eX, eK, eKe, eE, eP, h2, if_neg (fun g => by have := cM.mp g; omega), if_neg (fun g => by have := cK.mp g; omega), if_pos p15, sz_sh a2, hSz, lt_e, if_neg (fun g => by have := cKe.mp g; omega), if_neg (fun g => by have := cSK.mp g; omega), if_neg (fun g => by have := cE.mp g; omega), if_pos (nI_lt a7 (by omega)), h3, hBC, lt_e, if_pos e128, ck_p (zi_n a1 (by omega)), cM4, m2, nI_add, m2, nI_add, m2, bs]
        simp only [lt_e]
        rw [l1, bn_s, r9, nI_1, nI_add]
      have hnew : Ld (zu (zu s1 9 0 2 (nI (M + 1))) 9 0 3 (nI (B + S))) t' (M + 1) (B + S) (pos + X) := by
        refine ⟨l5 _ (fun a b i ha => by rw [zu_rd, if_neg (by omega), zu_rd, if_neg (by omega)]), ?_, ?_, by omega, by omega, by omega, fun p g1 g2 => ?_⟩
        · rw [zu_rd, if_neg (by omega), zu_rd, if_pos (by omega)]
        · rw [zu_rd, if_pos (by omega)]
        · have q := hF p (by omega) g2
          have qe : ∀ i, zu (zu s1 9 0 2 (nI (M + 1))) 9 0 3 (nI (B + S)) 11 p i = s 11 p i := fun i => by rw [zu_rd, if_neg (by omega), zu_rd, if_neg (by omega)]; exact l3 11 p i (by omega) (by omega)
          rw [qe, qe, qe]
          exact q
      obtain ⟨s', t2, M', q1, q2, q3⟩ := ih (k + 1) f f' _ _ _ _ _ hnew (by omega) (by omega) (by omega) (by omega)
      refine ⟨s', t2, M', ?_, ?_, q3⟩
      · rw [e45 _ eLA (by rw [zu_rd, if_neg (by omega), zu_rd, if_neg (by omega), l3 2 0 _ (by omega) (by omega), f1]; exact eX)]
        exact q1
      · unfold k_GM_boot_252
        rw [if_neg (show ¬ (1 : Int32) = 0 by decide), h5, if_neg (fun g => by have := cM.mp g; omega), if_neg (fun g => by have := cB.mp g; omega), l2, bn_s, lt_e]
        unfold k_GM_boot_293
        rw [n1, ck_p z1, lt_e, c1, l4, eX, nI_add, nI_add]
        exact q2
    · have hsk : Ld s t M U (pos + X) := ⟨h'.1, h2, h3, hU, hM, by omega, hF⟩
      obtain ⟨s', t2, M', q1, q2, q3⟩ := ih (k + 1) f f' _ _ _ _ _ hsk (by omega) (by omega) (by omega) (by omega)
      have eLA : k_Lo_loadAt s (nI pos) = some s := by
        unfold k_Lo_loadAt
        rw [n1, ck_p z1, lt_e, n2, ck_p z2, lt_e, n3, ck_p z3, lt_e, n4, ck_p z4, lt_e, n5, ck_p z5, lt_e, c1, c2, c3, c4, c5, f1, eX, eK, eKe, eE, eP, h2]
        by_cases b1 : 4 ≤ M
        · rw [if_pos (cM.mpr b1)]
        rw [if_neg (fun g => b1 (cM.mp g))]
        by_cases b2 : 2 < K
        · rw [if_pos (cK.mpr b2)]
        rw [if_neg (fun g => b2 (cK.mp g))]
        by_cases b3 : P ≤ 15
        rotate_left
        · rw [if_neg (show ¬ nI P ≤ (15 : Int32) from nI_ge (a := 15) (by omega) (by omega))]
        rw [if_pos (show nI P ≤ (15 : Int32) from nI_le (b := 15) b3 (by omega)), sz_sh (by omega), hSz, lt_e]
        by_cases b4 : Ke < 8
        · rw [if_pos (cKe.mpr b4)]
        rw [if_neg (fun g => b4 (cKe.mp g))]
        by_cases b5 : S < Ke
        · rw [if_pos (cSK.mpr b5)]
        rw [if_neg (fun g => b5 (cSK.mp g))]
        by_cases b6 : E < 6
        · rw [if_pos (cE.mpr b6)]
        rw [if_neg (fun g => b6 (cE.mp g))]
        by_cases b7 : E < X
        rotate_left
        · rw [if_neg (nI_nlt (by omega) (by omega))]
        rw [if_pos (nI_lt b7 (by omega)), h3, hBC, lt_e]
        by_cases b8 : B + S ≤ 128
        · exact absurd ⟨by omega, by omega, b3, by omega, by omega, by omega, b7, b8⟩ hc
        rw [if_neg (show ¬ nI B + nI S ≤ (128 : Int32) by rw [nI_add]; exact nI_ge (a := 128) (by omega) (by omega))]
      refine ⟨s', t2, M', ?_, ?_, q3⟩
      · rw [e45 _ eLA (by rw [f1]; exact eX)]
        exact q1
      · rw [e251]
        by_cases b2 : 2 < K
        · rw [if_pos (cK.mpr b2)]; exact q2
        rw [if_neg (fun g => b2 (cK.mp g))]
        by_cases b4 : Ke < 8
        · rw [if_pos (cKe.mpr b4)]; exact q2
        rw [if_neg (fun g => b4 (cKe.mp g))]
        by_cases b5 : S < Ke
        · rw [if_pos (cSK.mpr b5)]; exact q2
        rw [if_neg (fun g => b5 (cSK.mp g))]
        by_cases b6 : E < 6
        · rw [if_pos (cE.mpr b6)]; exact q2
        rw [if_neg (fun g => b6 (cE.mp g))]
        by_cases b7 : X ≤ E
        · rw [if_pos (cXE.mpr b7)]; exact q2
        rw [if_neg (fun g => b7 (cXE.mp g))]
        by_cases b3 : 15 < P
        · rw [if_pos (cP.mpr b3)]; exact q2
        rw [if_neg (fun g => b3 (cP.mp g))]
        unfold k_GM_boot_252
        rw [if_neg (show ¬ (1 : Int32) = 0 by decide), h5]
        by_cases b1 : 4 ≤ M
        · rw [if_pos (cM.mpr b1), e293]; exact q2
        rw [if_neg (fun g => b1 (cM.mp g)), if_pos (cB.mpr (by omega)), e293]
        exact q2
end LOADER
/-- all four stop -/
theorem halt_all : ∀ (m k f : Nat) (s : zS), k + m = 4 → m < f → ∃ s' : zS, k_Lo_loadAll_2 f s (nI k) = k_Lo_loadAll_45 FU (zu (zu s' 9 0 2 0) 9 0 3 0) 0 0 ∧ (∀ a b i : Nat, ¬ (11 ≤ a ∧ a ≤ 19) → s' a b i = s a b i) ∧ (∀ a b i : Nat, b < k → s' a b i = s a b i) ∧ ∀ p, k ≤ p → p < 4 → (∀ i, i < 3 → s' 14 p i = 0) ∧ s' 11 p 17 = 0 ∧ s' 11 p 18 = 0 ∧ s' 11 p 19 = 0 := by
  intro m
  induction m with
  | zero =>
    intro k f s hk hf
    obtain ⟨f, rfl⟩ : ∃ g, f = g + 1 := ⟨f - 1, by omega⟩
    refine ⟨s, ?_, fun _ _ _ _ => rfl, fun _ _ _ _ => rfl, fun p g1 g2 => by omega⟩
    rw [k_Lo_loadAll_2, if_pos (show (4 : Int32) ≤ nI k from nI_le (a := 4) (by omega) (by omega)), lt_e, lt_e]
  | succ m ih =>
    intro k f s hk hf
    obtain ⟨f, rfl⟩ : ∃ g, f = g + 1 := ⟨f - 1, by omega⟩
    have zk : zi (nI k) 4 = true := zi_n (by omega) (by omega)
    have ck' : (nI k).toNatClampNeg = k := nI_clamp (by omega)
    obtain ⟨s', e1, e2, e3, e4⟩ := ih (k + 1) f (zu (zu (zu (zu (los s k) 11 k 16 2) 11 k 17 0) 11 k 18 0) 11 k 19 0) (by omega) (by omega)
    refine ⟨s', ?_, fun a b i g => ?_, fun a b i g => ?_, fun p g1 g2 => ?_⟩
    · rw [k_Lo_loadAll_2, if_neg (show ¬ (4 : Int32) ≤ nI k from nI_ge (b := 4) (by omega) (by omega)), ck_p zk, ck']
      unfold k_BP_halt k_BP_forgetFaults
      rw [bp_lose, bn_s, lt_e, bn_s, ck_p zk, lt_e, lt_e, lt_e, bn_s, lt_e, nI_1]
      exact e1
    · rw [e2 a b i g, zu_rd, if_neg (by omega), zu_rd, if_neg (by omega), zu_rd, if_neg (by omega), zu_rd, if_neg (by omega), los_rd, if_neg (by omega), if_neg (by omega)]
    · rw [e3 a b i (by omega), zu_rd, if_neg (by omega), zu_rd, if_neg (by omega), zu_rd, if_neg (by omega), zu_rd, if_neg (by omega), los_rd, if_neg (by omega), if_neg (by omega)]
    · by_cases hpk : p = k
      · subst hpk
        refine ⟨fun i hi => ?_, ?_, ?_, ?_⟩
        · rw [e3 14 p i (by omega), zu_rd, if_neg (by omega), zu_rd, if_neg (by omega), zu_rd, if_neg (by omega), zu_rd, if_neg (by omega), los_rd, if_neg (by omega), if_pos (by omega)]
        · rw [e3 11 p 17 (by omega), zu_rd, if_neg (by omega), zu_rd, if_neg (by omega), zu_rd, if_pos (by omega)]
        · rw [e3 11 p 18 (by omega), zu_rd, if_neg (by omega), zu_rd, if_pos (by omega)]
        · rw [e3 11 p 19 (by omega), zu_rd, if_pos (by omega)]
      · exact e4 p (by omega) g2
theorem gm_clr : ∀ (m k f : Nat) (s : zS), k + m = 128 → m < f → k_GM_boot_2 f s (nI k) = k_GM_boot_61 FU (zu (zu (zu (zu (zu (zu (zu (rz s 2 0 k m) 0 0 33 0) 0 0 35 0) 0 0 2 0) 0 0 3 (-1)) 0 0 4 0) 0 0 5 0) 0 0 28 0) 0 0 := by
  intro m
  induction m with
  | zero =>
    intro k f s hk hf
    obtain ⟨f, rfl⟩ : ∃ g, f = g + 1 := ⟨f - 1, by omega⟩
    rw [k_GM_boot_2, if_pos (show (128 : Int32) ≤ nI k from nI_le (a := 128) (by omega) (by omega)), rz_z]
    simp only [lt_e]
  | succ m ih =>
    intro k f s hk hf
    obtain ⟨f, rfl⟩ : ∃ g, f = g + 1 := ⟨f - 1, by omega⟩
    rw [k_GM_boot_2, if_neg (show ¬ (128 : Int32) ≤ nI k from nI_ge (b := 128) (by omega) (by omega)), ck_p (zi_n (by omega) (by omega)), lt_e, lt_e, nI_clamp (by omega), nI_1, ih (k + 1) f _ (by omega) (by omega), rz_s]
theorem k_boot : ok0 Rel k_GK_boot k_GM_boot := fun σ τ hR => by
  obtain ⟨N, u, c, fr, to, ba, si, ke, en, po, r, w, b, hB, hPs, hQ, hZ⟩ := RL.of hR
  obtain ⟨b1, b2, b3, b4, b5, b6, b7, b8, b9, b10, b11, b12, b13, b14, b15, b16⟩ := hB
  have e40 : (4096 : Int32) = nI (4096 + 4 * 0) := by decide
  have e128 : (128 : Int32) = nI 128 := by decide
  have hclr : k_Me_clearRam σ 4096 128 = some (rz σ 3 0 0 128) := by
    unfold k_Me_clearRam
    rw [e40, e128, show k_Me_clearRam_2 (nI (4096 + 4 * 0)) (nI 128) FU σ 0 = k_Me_clearRam_2 (nI (4096 + 4 * 0)) (nI 128) FU σ (nI 0) from rfl, me_clear (q := 0) (n := 128) (by omega) 128 FU 0 σ (by omega) (by unfold FU; omega)]
  generalize hs5 : zu (zu (zu (zu (zu (rz σ 3 0 0 128) 5 0 2 0) 5 0 3 0) 8 0 3 0) 0 0 7 (-1)) 0 0 8 0 = s5
  obtain ⟨s6, h1, h2, h3, h4⟩ := halt_all 4 0 FU s5 (by omega) (by unfold FU; omega)
  have hl : k_Lo_loadAll s5 = k_Lo_loadAll_45 FU (zu (zu s6 9 0 2 0) 9 0 3 0) (nI 0) (nI 0) := h1
  have hm : k_GM_boot τ = k_GM_boot_61 FU (zu (zu (zu (zu (zu (zu (zu (rz τ 2 0 0 128) 0 0 33 0) 0 0 35 0) 0 0 2 0) 0 0 3 (-1)) 0 0 4 0) 0 0 5 0) 0 0 28 0) (nI 0) (nI 0) := gm_clr 128 0 FU τ (by omega) (by unfold FU; omega)
  generalize ht : zu (zu (zu (zu (zu (zu (zu (rz τ 2 0 0 128) 0 0 33 0) 0 0 35 0) 0 0 2 0) 0 0 3 (-1)) 0 0 4 0) 0 0 5 0) 0 0 28 0 = t at *
  have to' : ∀ a b i : Nat, ¬ (a = 0 ∧ b = 0) → t a b i = rz τ 2 0 0 128 a b i := fun a b i g => by
    rw [← ht, zu_rd, if_neg (by omega), zu_rd, if_neg (by omega), zu_rd, if_neg (by omega), zu_rd, if_neg (by omega), zu_rd, if_neg (by omega), zu_rd, if_neg (by omega), zu_rd, if_neg (by omega)]
  have t28 : t 0 0 28 = 0 := by rw [← ht, zu_rd, if_pos (by omega)]
  have t5 : t 0 0 5 = 0 := by rw [← ht, zu_rd, if_neg (by omega), zu_rd, if_pos (by omega)]
  have t4 : t 0 0 4 = 0 := by rw [← ht, zu_rd, if_neg (by omega), zu_rd, if_neg (by omega), zu_rd, if_pos (by omega)]
  have t3 : t 0 0 3 = -1 := by rw [← ht, zu_rd, if_neg (by omega), zu_rd, if_neg (by omega), zu_rd, if_neg (by omega), zu_rd, if_pos (by omega)]
  have t2 : t 0 0 2 = 0 := by rw [← ht, zu_rd, if_neg (by omega), zu_rd, if_neg (by omega), zu_rd, if_neg (by omega), zu_rd, if_neg (by omega), zu_rd, if_pos (by omega)]
  have t35 : t 0 0 35 = 0 := by rw [← ht, zu_rd, if_neg (by omega), zu_rd, if_neg (by omega), zu_rd, if_neg (by omega), zu_rd, if_neg (by omega), zu_rd, if_neg (by omega), zu_rd, if_pos (by omega)]
  have t33 : t 0 0 33 = 0 := by rw [← ht, zu_rd, if_neg (by omega), zu_rd, if_neg (by omega), zu_rd, if_neg (by omega), zu_rd, if_neg (by omega), zu_rd, if_neg (by omega), zu_rd, if_neg (by omega), zu_rd, if_pos (by omega)]
  have so : ∀ a b i : Nat, a ≠ 9 → ¬ (11 ≤ a ∧ a ≤ 19) → zu (zu s6 9 0 2 0) 9 0 3 0 a b i = s5 a b i := fun a b i g1 g2 => by rw [zu_rd, if_neg (by omega), zu_rd, if_neg (by omega), h2 a b i g2]
  have s5o : ∀ a b i : Nat, a ≠ 0 → a ≠ 5 → a ≠ 8 → s5 a b i = rz σ 3 0 0 128 a b i := fun a b i g0 g5 g8 => by rw [← hs5, zu_rd, if_neg (by omega), zu_rd, if_neg (by omega), zu_rd, if_neg (by omega), zu_rd, if_neg (by omega), zu_rd, if_neg (by omega)]
  have hLd : Ld (zu (zu s6 9 0 2 0) 9 0 3 0) t 0 0 0 := by
    refine ⟨⟨fun _ => 0, fun _ => 0, fun _ => 0, fun _ => 0, fun _ => 0, fun _ => 0, fun _ => 0, fun _ => 0, fun _ _ => 0, fun _ _ => 0, fun _ _ => 0, ?_, fun p hp => absurd hp (Nat.not_lt_zero p), ⟨t28, by omega, fun p hp => absurd hp (Nat.not_lt_zero p), fun e he => by simp [qM] at he⟩, fun p g1 g2 i hi => ?_⟩, ?_, ?_, by omega, by omega, by omega, fun p g1 g2 => ?_⟩
    · have kk : ∀ a, a ≠ 0 → zu (zu (zu s6 9 0 2 0) 9 0 3 0) 0 0 6 (nI 0) a 0 = zu (zu s6 9 0 2 0) 9 0 3 0 a 0 := fun a ha => zu_k ha
      have kz : ∀ i, i ≠ 6 → zu (zu (zu s6 9 0 2 0) 9 0 3 0) 0 0 6 (nI 0) 0 0 i = s5 0 0 i := fun i hi => by rw [zu_rd, if_neg (by omega)]; exact so 0 0 i (by omega) (by omega)
      have g2 : zu (zu s6 9 0 2 0) 9 0 3 0 2 0 = σ 2 0 := funext fun i => by rw [so 2 0 i (by omega) (by omega), s5o 2 0 i (by omega) (by omega) (by omega), rz_rd, if_neg (by omega)]
      have g6 : zu (zu s6 9 0 2 0) 9 0 3 0 6 0 = σ 6 0 := funext fun i => by rw [so 6 0 i (by omega) (by omega), s5o 6 0 i (by omega) (by omega) (by omega), rz_rd, if_neg (by omega)]
      have g7 : zu (zu s6 9 0 2 0) 9 0 3 0 7 0 = σ 7 0 := funext fun i => by rw [so 7 0 i (by omega) (by omega), s5o 7 0 i (by omega) (by omega) (by omega), rz_rd, if_neg (by omega)]
      have g3 : zu (zu s6 9 0 2 0) 9 0 3 0 3 0 = t 2 0 := funext fun i => by
        rw [so 3 0 i (by omega) (by omega), s5o 3 0 i (by omega) (by omega) (by omega), rz_rd, to' 2 0 i (by omega), rz_rd, b3]
        by_cases hi : i < 128
        · rw [if_pos (by omega), if_pos (by omega)]
        · rw [if_neg (by omega), if_neg (by omega)]
      have g83 : zu (zu s6 9 0 2 0) 9 0 3 0 8 0 3 = 0 := by rw [so 8 0 3 (by omega) (by omega), ← hs5, zu_rd, if_neg (by omega), zu_rd, if_neg (by omega), zu_rd, if_pos (by omega)]
      have g52 : zu (zu s6 9 0 2 0) 9 0 3 0 5 0 2 = 0 := by rw [so 5 0 2 (by omega) (by omega), ← hs5, zu_rd, if_neg (by omega), zu_rd, if_neg (by omega), zu_rd, if_neg (by omega), zu_rd, if_neg (by omega), zu_rd, if_pos (by omega)]
      have g53 : zu (zu s6 9 0 2 0) 9 0 3 0 5 0 3 = 0 := by rw [so 5 0 3 (by omega) (by omega), ← hs5, zu_rd, if_neg (by omega), zu_rd, if_neg (by omega), zu_rd, if_neg (by omega), zu_rd, if_pos (by omega)]
      have g07 : s5 0 0 7 = -1 := by rw [← hs5, zu_rd, if_neg (by omega), zu_rd, if_pos (by omega)]
      have g08 : s5 0 0 8 = 0 := by rw [← hs5, zu_rd, if_pos (by omega)]
      have m1 : t 1 0 = τ 1 0 := funext fun i => by rw [to' 1 0 i (by omega), rz_rd, if_neg (by omega)]
      have m29 : t 29 0 = τ 29 0 := funext fun i => by rw [to' 29 0 i (by omega), rz_rd, if_neg (by omega)]
      have m30 : t 30 0 = τ 30 0 := funext fun i => by rw [to' 30 0 i (by omega), rz_rd, if_neg (by omega)]
      unfold Bd
      rw [kk 2 (by omega), kk 3 (by omega), kk 8 (by omega), kk 5 (by omega), kk 6 (by omega), kk 7 (by omega), kz 7 (by omega), kz 8 (by omega), g2, g3, g83, g52, g53, g6, g7, g07, g08, m1, m29, m30, t2, t3, t4, t5, t33, t35]
      exact ⟨b1, b2, rfl, rfl, rfl, rfl, by rw [zu_rd, if_pos (by omega)], rfl, by omega, Or.inl rfl, trivial, rfl, ⟨0, by omega, rfl⟩, b14, rfl, b16⟩
    · rw [zu_rd, if_neg (by omega), zu_rd, if_neg (by omega), zu_rd, if_neg (by omega)]
      exact (h4 p (by omega) g2).1 i hi
    · rw [zu_rd, if_neg (by omega), zu_rd, if_pos (by omega)]; rfl
    · rw [zu_rd, if_pos (by omega)]; rfl
    · rw [zu_rd, if_neg (by omega), zu_rd, if_neg (by omega), zu_rd, if_neg (by omega), zu_rd, if_neg (by omega), zu_rd, if_neg (by omega), zu_rd, if_neg (by omega)]
      exact (h4 p (by omega) g2).2
  obtain ⟨s', t', M', q1, q2, q3⟩ := boot_loop 32 0 FU FU _ _ 0 0 0 hLd (by omega) (by omega) (by unfold FU; omega) (by unfold FU; omega)
  refine ⟨zu s' 0 0 6 (nI M'), t', nI M', ?_, by rw [hm]; exact q2, q3⟩
  unfold k_GK_boot k_Co_clear
  rw [hclr, bn_s, lt_e, lt_e, bn_s, lt_e, lt_e, lt_e, hs5, hl, q1, bn_s]
  dsimp only
  rw [lt_e, zu_rd, if_pos (by omega)]
