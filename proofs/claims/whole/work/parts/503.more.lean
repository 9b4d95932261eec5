/-! output, burn, grant, queued, register -/
theorem k_output : ok1 Rel k_GK_output k_GM_output := fun σ τ a hR => by
  have hR' := hR
  obtain ⟨N, u, c, fr, to, ba, si, ke, en, po, r, w, b, hB, h2⟩ := hR
  have e3 := hB.2.2.2.2.2.2.2.2.2.2.2.2.2.2.1
  have e7 := hB.2.2.2.2.2.2.2.2.2.2.2.2.2.2.2
  unfold k_GK_output k_Co_latestOutput k_GM_output k_GM_output_18
  rw [← e3, ← e7]
  rcases pk_ix a (n := 16) (by omega) with h | h | ⟨j, hj, rfl⟩
  · exact ⟨σ, τ, 0, by rw [if_pos h]; rfl, by rw [if_pos h], hR'⟩
  · have h : (16 : Int32) ≤ a := h
    have h0 : ¬ a < 0 := fun h' => absurd (Int32.lt_of_le_of_lt h h') (by decide)
    have h1 : (15 : Int32) < a := Int32.lt_of_lt_of_le (by decide) h
    exact ⟨σ, τ, 0, by rw [if_neg h0, if_pos h]; rfl, by rw [if_neg h0, if_pos h1], hR'⟩
  · have h0 : ¬ nI j < 0 := nI_pos (by omega)
    have h1 : ¬ (16 : Int32) ≤ nI j := nI_ge (b := 16) hj (by omega)
    have h3 : ¬ (15 : Int32) < nI j := nI_nlt (a := 15) (by omega) (by omega)
    rw [if_neg h0, if_neg h1, if_neg h0, if_neg h3]
    by_cases hc : nI j < σ 5 0 3
    · rw [if_pos hc, if_pos hc]
      have hin : zi ((σ 5 0 3 - 1 - nI j) &&& (15 : Int32)) 16 = true := decide_eq_true (pk_andIn _ 4 (by decide) (by omega))
      rw [ck_p hin, ck_p hin]
      exact ⟨σ, τ, _, rfl, rfl, hR'⟩
    · rw [if_neg hc, if_neg hc]
      exact ⟨σ, τ, 0, rfl, rfl, hR'⟩
/-- a state's other cells -/
theorem zu_k {σ : zS} {k p i a b : Nat} {v : Int32} (h : a ≠ k) : zu σ k p i v a b = σ a b := zu_o (fun h' => h h'.1)
theorem k_burn : ok2 Rel k_GK_burn k_GM_burn := fun σ τ a v hR => by
  have hR' := hR
  obtain ⟨N, u, c, fr, to, ba, si, ke, en, po, r, w, b, hB, hP, hQ, hZ⟩ := hR
  have e2 := hB.1
  unfold k_GK_burn k_GM_burn
  rcases pk_ix a (n := 256) (by omega) with h | h | ⟨j, hj, rfl⟩
  · exact ⟨σ, τ, -1, by rw [if_pos h], by rw [if_pos h], hR'⟩
  · have h : (256 : Int32) ≤ a := h
    have h0 : ¬ a < 0 := fun h' => absurd (Int32.lt_of_le_of_lt h h') (by decide)
    have h1 : (255 : Int32) < a := Int32.lt_of_lt_of_le (by decide) h
    exact ⟨σ, τ, -1, by rw [if_neg h0, if_pos h], by rw [if_neg h0, if_pos h1], hR'⟩
  · have h0 : ¬ nI j < 0 := nI_pos (by omega)
    have h1 : ¬ (256 : Int32) ≤ nI j := nI_ge (b := 256) hj (by omega)
    have h3 : ¬ (255 : Int32) < nI j := nI_nlt (a := 255) (by omega) (by omega)
    rw [if_neg h0, if_neg h1, if_neg h0, if_neg h3]
    by_cases hv : v < 0
    · exact ⟨σ, τ, -1, by rw [if_pos hv], by rw [if_pos hv], hR'⟩
    rw [if_neg hv, if_neg hv]
    by_cases hw : v ≤ 65535
    · simp only [if_pos hw, ck_p (zi_n hj (show 256 < 2 ^ 31 by omega)), nI_clamp (show j < 2 ^ 31 by omega), lt_e]
      obtain ⟨n, hn, rfl⟩ := nI_of2 (M := 65535) (n := 65535) (by decide) hv hw
      refine ⟨zu σ 2 0 j (nI n), zu τ 1 0 j (nI n), σ 2 0 j, rfl, by rw [e2], N, u, c, fr, to, ba, si, ke, en, po, r, w, b, ?_, ?_, ?_, ?_⟩
      · obtain ⟨b1, b2, b3⟩ := hB
        refine ⟨?_, ?_, ?_⟩
        · rw [zu_s, zu_s, b1]
        · intro i hi
          rw [zu_s]
          by_cases hij : i = j
          · exact ⟨n, hn, by rw [hij]; simp [upd]⟩
          · obtain ⟨m, hm, em⟩ := b2 i hi
            exact ⟨m, hm, by simp [upd, hij, em]⟩
        · simpa only [zu_k (show 3 ≠ 2 by decide), zu_k (show 2 ≠ 1 by decide), zu_k (show 8 ≠ 2 by decide), zu_k (show 0 ≠ 1 by decide), zu_k (show 0 ≠ 2 by decide), zu_k (show 5 ≠ 2 by decide), zu_k (show 6 ≠ 2 by decide), zu_k (show 29 ≠ 1 by decide), zu_k (show 7 ≠ 2 by decide), zu_k (show 30 ≠ 1 by decide)] using b3
      · intro p hp
        have := hP p hp
        unfold Ps St Dy Nt at this ⊢
        simpa (config := { decide := true }) only [zu_rd, ne_eq, false_and, if_false, zu_k (show 11 ≠ 2 by decide), zu_k (show 12 ≠ 2 by decide), zu_k (show 13 ≠ 2 by decide), zu_k (show 14 ≠ 2 by decide), zu_k (show 15 ≠ 2 by decide), zu_k (show 16 ≠ 2 by decide), zu_k (show 17 ≠ 2 by decide), zu_k (show 18 ≠ 2 by decide)] using this
      · have := hQ
        unfold Qs qM at this ⊢
        simpa (config := { decide := true }) only [zu_rd, ne_eq, false_and, if_false, zu_k (show 19 ≠ 2 by decide), zu_k (show 20 ≠ 2 by decide), zu_k (show 21 ≠ 2 by decide), zu_k (show 22 ≠ 2 by decide), zu_k (show 15 ≠ 2 by decide)] using this
      · intro p h1 h2 i hi
        rw [zu_k (by decide)]
        exact hZ p h1 h2 i hi
    · rw [if_neg hw, if_neg hw]
      exact ⟨σ, τ, -1, rfl, rfl, hR'⟩
