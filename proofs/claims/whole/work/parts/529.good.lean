/-! inside an instruction: what holds between its parts -/
def G (σ τ : zS) (N u : Nat) (c fr to ba si ke en po : Nat → Nat) (r w b : Nat → Nat → Nat) (p : Nat) : Prop := RL σ τ N u c fr to ba si ke en po r w b ∧ p < N ∧ σ 11 p 15 = 0 ∧ τ 0 0 37 = 0 ∧ σ 10 0 1 = τ 0 0 39
/-- both sides came through an instruction -/
def OkD (C : Option (zS × Int32)) (M : Option zS) (N u : Nat) (c fr to ba si ke en po : Nat → Nat) (r w b : Nat → Nat → Nat) (p : Nat) : Prop := ∃ (σ' τ' : zS) (x : Int32), C = some (σ', x) ∧ M = k_GM_instruction_322 (nI p) τ' ∧ RL σ' τ' N u c fr to ba si ke en po r w b ∧ σ' 11 p 15 = 0 ∧ τ' 0 0 37 = x ∧ (x = 0 → σ' 10 0 1 = τ' 0 0 39) ∧ (x = 0 ∨ x = 1 ∨ x = 2 ∨ x = 3 ∨ x = 4 ∨ x = 5)
theorem zu_id {s : zS} {a b i : Nat} {v : Int32} (h : s a b i = v) : zu s a b i v = s := by
  funext x y z
  rw [zu_rd]
  split
  · rename_i g
    obtain ⟨⟨rfl, rfl⟩, rfl⟩ := g
    exact h.symm
  · rfl
section GOOD
variable {σ τ : zS} {N u p : Nat} {c fr to ba si ke en po : Nat → Nat} {r w b : Nat → Nat → Nat}
theorem g_p4 (h : G σ τ N u c fr to ba si ke en po r w b p) : p < 4 := by
  have h4 : N ≤ 4 := h.1.1.2.2.2.2.2.2.2.2.1
  have := h.2.1
  omega
theorem g_zp (h : G σ τ N u c fr to ba si ke en po r w b p) : zi (nI p) 4 = true := zi_n (g_p4 h) (by omega)
theorem g_cp (h : G σ τ N u c fr to ba si ke en po r w b p) : (nI p).toNatClampNeg = p := nI_clamp (by have := g_p4 h; omega)
theorem g_low {i : Nat} {v : Int32} (h : G σ τ N u c fr to ba si ke en po r w b p) (hi : i < 8) : G (zu σ 12 p i v) (zu τ 11 0 (8 * p + i) v) N u c fr to ba si ke en po r w b p :=
  ⟨rl_low h.1 h.2.1 hi, h.2.1, by rw [zu_rd, if_neg (by omega)]; exact h.2.2.1, by rw [zu_rd, if_neg (by omega)]; exact h.2.2.2.1, by rw [zu_rd, if_neg (by omega), zu_rd, if_neg (by omega)]; exact h.2.2.2.2⟩
theorem g_fl {f : Nat} (h : G σ τ N u c fr to ba si ke en po r w b p) (hf : f < 16) : G (zu σ 11 p 14 (nI f)) (zu τ 15 0 p (nI f)) N u c fr to ba si ke en po r w b p :=
  ⟨rl_fl h.1 h.2.1 ⟨f, hf, rfl⟩, h.2.1, by rw [zu_rd, if_neg (by omega)]; exact h.2.2.1, by rw [zu_rd, if_neg (by omega)]; exact h.2.2.2.1, by rw [zu_rd, if_neg (by omega), zu_rd, if_neg (by omega)]; exact h.2.2.2.2⟩
theorem g_38 {v : Int32} (h : G σ τ N u c fr to ba si ke en po r w b p) : G σ (zu τ 0 0 38 v) N u c fr to ba si ke en po r w b p :=
  ⟨rl_scr h.1 (by omega), h.2.1, h.2.2.1, by rw [zu_rd, if_neg (by omega)]; exact h.2.2.2.1, by rw [zu_rd, if_neg (by omega)]; exact h.2.2.2.2⟩
theorem g_next {v : Int32} (h : G σ τ N u c fr to ba si ke en po r w b p) : G (zu σ 10 0 1 v) (zu τ 0 0 39 v) N u c fr to ba si ke en po r w b p :=
  ⟨rl_next (rl_scr h.1 (by omega)), h.2.1, by rw [zu_rd, if_neg (by omega)]; exact h.2.2.1, by rw [zu_rd, if_neg (by omega)]; exact h.2.2.2.1, by rw [zu_rd, if_pos (by omega), zu_rd, if_pos (by omega)]⟩
theorem g_lr {v : Int32} (h : G σ τ N u c fr to ba si ke en po r w b p) : G (zu σ 11 p 12 v) (zu τ 13 0 p v) N u c fr to ba si ke en po r w b p :=
  ⟨rl_lr h.1 h.2.1, h.2.1, by rw [zu_rd, if_neg (by omega)]; exact h.2.2.1, by rw [zu_rd, if_neg (by omega)]; exact h.2.2.2.1, by rw [zu_rd, if_neg (by omega), zu_rd, if_neg (by omega)]; exact h.2.2.2.2⟩
theorem g_sp {v : Int32} (h : G σ τ N u c fr to ba si ke en po r w b p) (hv : v.toInt % 4 = 0) : G (zu σ 11 p 11 v) (zu τ 12 0 p v) N u c fr to ba si ke en po r w b p :=
  ⟨rl_sp h.1 h.2.1 h.2.2.1 hv, h.2.1, by rw [zu_rd, if_neg (by omega)]; exact h.2.2.1, by rw [zu_rd, if_neg (by omega)]; exact h.2.2.2.1, by rw [zu_rd, if_neg (by omega), zu_rd, if_neg (by omega)]; exact h.2.2.2.2⟩
theorem g_ram {i : Nat} {v : Int32} (h : G σ τ N u c fr to ba si ke en po r w b p) : G (zu σ 3 0 i v) (zu τ 2 0 i v) N u c fr to ba si ke en po r w b p :=
  ⟨rl_ram h.1 i v, h.2.1, by rw [zu_rd, if_neg (by omega)]; exact h.2.2.1, by rw [zu_rd, if_neg (by omega)]; exact h.2.2.2.1, by rw [zu_rd, if_neg (by omega), zu_rd, if_neg (by omega)]; exact h.2.2.2.2⟩
/-- what both sides hold of the process -/
theorem g_rg (h : G σ τ N u c fr to ba si ke en po r w b p) : (∀ i, i < 8 → τ 11 0 (8 * p + i) = σ 12 p i) ∧ τ 12 0 p = σ 11 p 11 ∧ τ 13 0 p = σ 11 p 12 ∧ τ 14 0 p = σ 11 p 13 ∧ τ 15 0 p = σ 11 p 14 ∧ (σ 11 p 11).toInt % 4 = 0 := by
  obtain ⟨d1, d2, d3, d4, d5, d6, d7, d8, d9, d10, d11, d12, d13, -⟩ := (h.1.2.1 p h.2.1).2.1
  exact ⟨fun i hi => (d1 i hi).symm, d2.symm, d3.symm, (d4 h.2.2.1).symm, d5.symm, d13⟩
theorem ok_0 (h : G σ τ N u c fr to ba si ke en po r w b p) : OkD (some (σ, 0)) (k_GM_instruction_322 (nI p) τ) N u c fr to ba si ke en po r w b p := ⟨σ, τ, 0, rfl, rfl, h.1, h.2.2.1, h.2.2.2.1, fun _ => h.2.2.2.2, Or.inl rfl⟩
theorem ok_x {x : Int32} (h : G σ τ N u c fr to ba si ke en po r w b p) (hx : x = 1 ∨ x = 2 ∨ x = 3 ∨ x = 4 ∨ x = 5) : OkD (some (σ, x)) (k_GM_instruction_322 (nI p) (zu τ 0 0 37 x)) N u c fr to ba si ke en po r w b p := by
  refine ⟨σ, zu τ 0 0 37 x, x, rfl, rfl, rl_scr h.1 (by omega), h.2.2.1, by rw [zu_rd, if_pos (by omega)], fun g => ?_, Or.inr hx⟩
  rcases hx with e | e | e | e | e <;> · rw [e] at g; exact absurd g (by decide)
theorem bn_ite {α β : Type} (q : Prop) [Decidable q] (x y : Option α) (k : α → Option β) : bn (if q then x else y) k = if q then bn x k else bn y k := by split <;> rfl
/-- the class's answer through a method that passes it on -/
theorem bn_id {x : Option (zS × Int32)} : (bn x fun (s, v) => some (s, v)) = x := by
  cases x with
  | none => rfl
  | some a => rfl
/-! adding -/
theorem d_add {i : Nat} (x y z : Int32) (h : G σ τ N u c fr to ba si ke en po r w b p) (hi : i < 8) : OkD (bn (k_Pr_add σ p x y z) fun (s3, r4) => some (zu s3 12 p i r4, 0)) (bn (k_GM_sum τ (nI p) x y z) fun (s3, r4) => k_GM_instruction_322 (nI p) (zu s3 11 0 (8 * p + i) r4)) N u c fr to ba si ke en po r w b p := by
  obtain ⟨f, v, hf, e1, e2⟩ := add_ok x y z h.1 h.2.1
  rw [e1, e2, bn_s, bn_s]
  exact ok_0 (g_low (g_fl h hf) hi)
theorem d_cmp (x y z : Int32) (h : G σ τ N u c fr to ba si ke en po r w b p) : OkD (bn (k_Pr_add σ p x y z) fun (s3, _) => some (s3, 0)) (bn (k_GM_sum τ (nI p) x y z) fun (s3, _) => k_GM_instruction_322 (nI p) s3) N u c fr to ba si ke en po r w b p := by
  obtain ⟨f, v, hf, e1, e2⟩ := add_ok x y z h.1 h.2.1
  rw [e1, e2, bn_s, bn_s]
  exact ok_0 (g_fl h hf)
theorem d_sh {i k : Nat} {kd : Int32} (v : Int32) (h : G σ τ N u c fr to ba si ke en po r w b p) (hkd : kd = 0 ∨ kd = 1 ∨ kd = 2) (hk : k ≤ 255) (hi : i < 8) : OkD (bn (k_Pr_shift σ p kd v (nI k)) fun (s3, r4) => some (zu s3 12 p i r4, 0)) (bn (k_GM_shifted τ (nI p) v (nI k) kd) fun (s3, r4) => k_GM_instruction_322 (nI p) (zu s3 11 0 (8 * p + i) r4)) N u c fr to ba si ke en po r w b p := by
  obtain ⟨f, cc, x, hf, e1, e2⟩ := shift_ok v h.1 h.2.1 hkd hk
  rw [e1, e2, bn_s, bn_s]
  exact ok_0 (g_low (g_fl (g_38 h) hf) hi)
theorem d_ro {i k : Nat} (v : Int32) (h : G σ τ N u c fr to ba si ke en po r w b p) (hk : k ≤ 255) (hi : i < 8) : OkD (bn (k_Pr_rotate σ p v (nI k)) fun (s3, r4) => some (zu s3 12 p i r4, 0)) (bn (k_GM_shifted τ (nI p) v (nI k) 3) fun (s3, r4) => k_GM_instruction_322 (nI p) (zu s3 11 0 (8 * p + i) r4)) N u c fr to ba si ke en po r w b p := by
  obtain ⟨f, cc, x, hf, e1, e2⟩ := rot_ok v h.1 h.2.1 hk
  rw [e1, e2, bn_s, bn_s]
  exact ok_0 (g_low (g_fl (g_38 h) hf) hi)
/-- signs of a value, and the value into a register: the class's order is either -/
theorem d_sg {i : Nat} (v v' : Int32) (h : G σ τ N u c fr to ba si ke en po r w b p) (hi : i < 8) : OkD (bn (k_Pr_setSigns σ p v) fun s3 => some (zu s3 12 p i v', 0)) (bn (k_GM_nz τ (nI p) v) fun s3 => k_GM_instruction_322 (nI p) (zu s3 11 0 (8 * p + i) v')) N u c fr to ba si ke en po r w b p ∧ (bn (k_Pr_setSigns (zu σ 12 p i v') p v) fun s3 => some (s3, (0 : Int32))) = (bn (k_Pr_setSigns σ p v) fun s3 => some (zu s3 12 p i v', 0)) ∧ (bn (k_GM_nz (zu τ 11 0 (8 * p + i) v') (nI p) v) fun s3 => k_GM_instruction_322 (nI p) s3) = (bn (k_GM_nz τ (nI p) v) fun s3 => k_GM_instruction_322 (nI p) (zu s3 11 0 (8 * p + i) v')) := by
  obtain ⟨f, hf, e1, e2⟩ := signs_ok v h.1 h.2.1
  refine ⟨?_, ?_, ?_⟩
  · rw [e1, e2, bn_s, bn_s]
    exact ok_0 (g_low (g_fl h hf) hi)
  · rw [pr_signs, pr_signs, bn_s, bn_s, zu_rd, if_neg (by omega), zu_cm (by omega)]
  · rw [gm_nz (g_p4 h), gm_nz (g_p4 h), bn_s, bn_s, zu_rd, if_neg (by omega), zu_cm (by omega)]
theorem d_tst (v : Int32) (h : G σ τ N u c fr to ba si ke en po r w b p) : OkD (bn (k_Pr_setSigns σ p v) fun s3 => some (s3, 0)) (bn (k_GM_nz τ (nI p) v) fun s3 => k_GM_instruction_322 (nI p) s3) N u c fr to ba si ke en po r w b p := by
  obtain ⟨f, hf, e1, e2⟩ := signs_ok v h.1 h.2.1
  rw [e1, e2, bn_s, bn_s]
  exact ok_0 (g_fl h hf)
end GOOD
