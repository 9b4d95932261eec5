/-! the reference's queue: entries, moving, dropping -/
def qe (s : zS) (i : Nat) : Int32 × Int32 × Int32 × Int32 := (s 25 0 i, s 26 0 i, s 27 0 i, s 28 0 i)
theorem qM_en (s : zS) (u : Nat) : qM s u = (List.range u).map (qe s) := rfl
def mv (s : zS) (k j : Nat) : zS := zu (zu (zu (zu s 25 0 j (s 25 0 k)) 26 0 j (s 26 0 k)) 27 0 j (s 27 0 k)) 28 0 j (s 28 0 k)
theorem qe_mv (s : zS) (k j i : Nat) : qe (mv s k j) i = if i = j then qe s k else qe s i := by
  unfold qe mv
  by_cases h : i = j
  · simp [zu_rd, h]
  · simp [zu_rd, h]
/-- alike but for the queue -/
def sm (s s' : zS) : Prop := ∀ a b i : Nat, ¬ (a = 0 ∧ b = 0 ∧ i = 28) → ¬ (25 ≤ a ∧ a ≤ 28 ∧ b = 0) → s' a b i = s a b i
theorem sm_rf (s : zS) : sm s s := fun _ _ _ _ _ => rfl
theorem sm_tr {s t v : zS} (h1 : sm s t) (h2 : sm t v) : sm s v := fun a b i g1 g2 => (h2 a b i g1 g2).trans (h1 a b i g1 g2)
theorem sm_mv (s : zS) (k j : Nat) : sm s (mv s k j) := by
  intro a b i h1 h2
  unfold mv
  rw [zu_rd, if_neg (by omega), zu_rd, if_neg (by omega), zu_rd, if_neg (by omega), zu_rd, if_neg (by omega)]
theorem sm_u (s : zS) (v : Int32) : sm s (zu s 0 0 28 v) := by
  intro a b i h1 h2
  rw [zu_rd, if_neg (by omega)]
theorem mv_u (s : zS) (k j : Nat) : mv s k j 0 0 28 = s 0 0 28 := by
  unfold mv
  rw [zu_rd, if_neg (by omega), zu_rd, if_neg (by omega), zu_rd, if_neg (by omega), zu_rd, if_neg (by omega)]
theorem gm_move {s : zS} {k j : Nat} (hk : k < 16) (hj : j < 16) : k_GM_move s (nI k) (nI j) = some (mv s k j) := by
  have zk : zi (nI k) 16 = true := zi_n hk (by omega)
  have zj : zi (nI j) 16 = true := zi_n hj (by omega)
  unfold k_GM_move mv
  simp only [ck_p zk, ck_p zj, lt_e, nI_clamp (show k < 2 ^ 31 by omega), nI_clamp (show j < 2 ^ 31 by omega)]
  rfl
def kp (p d : Nat) (e : Int32 × Int32 × Int32 × Int32) : Bool := !(decide (e.1 = nI p) && decide (e.2.1 = nI d))
theorem drop_loop {u p d : Nat} (h16 : u ≤ 16) : ∀ (m n k j : Nat) (s : zS), k + m = u → m < n → j ≤ k → s 0 0 28 = nI u → ∃ (s' : zS) (v : Nat), k_GM_drop_5 (nI p) (nI d) n s (nI j) (nI k) = some s' ∧ sm s s' ∧ s' 0 0 28 = nI v ∧ v ≤ j + m ∧ (List.range v).map (qe s') = (List.range j).map (qe s) ++ ((List.range' k m).map (qe s)).filter (kp p d) := by
  intro m
  induction m with
  | zero =>
    intro n k j s hk hn hj hu
    obtain ⟨n, rfl⟩ : ∃ n', n = n' + 1 := ⟨n - 1, by omega⟩
    refine ⟨zu s 0 0 28 (nI j), j, ?_, sm_u _ _, ?_, by omega, ?_⟩
    · rw [k_GM_drop_5, hu, if_pos (nI_le (by omega) (by omega)), lt_e]
    · rw [zu_rd, if_pos (by omega)]
    · simp only [List.range'_zero, List.map_nil, List.filter_nil, List.append_nil]
      refine List.map_congr_left (fun i _ => ?_)
      unfold qe
      rw [zu_rd, if_neg (by omega), zu_rd, if_neg (by omega), zu_rd, if_neg (by omega), zu_rd, if_neg (by omega)]
  | succ m ih =>
    intro n k j s hk hn hj hu
    obtain ⟨n, rfl⟩ : ∃ n', n = n' + 1 := ⟨n - 1, by omega⟩
    have hku : k < u := by omega
    have zk : zi (nI k) 16 = true := zi_n (by omega) (by omega)
    have ck' : (nI k).toNatClampNeg = k := nI_clamp (by omega)
    rw [k_GM_drop_5, hu, if_neg (nI_ge hku (by omega)), ck_p zk, ck_p zk, ck']
    have hcons : (List.range' k (m + 1)).map (qe s) = qe s k :: (List.range' (k + 1) m).map (qe s) := by rw [List.range'_succ, List.map_cons]
    rw [hcons]
    have keep : kp p d (qe s k) = true → ∃ (s' : zS) (v : Nat), k_GM_drop_36 (nI p) (nI d) (k_GM_drop_5 (nI p) (nI d) n) s (nI j) (nI k) = some s' ∧ sm s s' ∧ s' 0 0 28 = nI v ∧ v ≤ j + (m + 1) ∧ (List.range v).map (qe s') = (List.range j).map (qe s) ++ (qe s k :: (List.range' (k + 1) m).map (qe s)).filter (kp p d) := by
      intro hkp
      obtain ⟨s', v, e1, e2, e3, e4, e5⟩ := ih n (k + 1) (j + 1) (mv s k j) (by omega) (by omega) (by omega) ((mv_u s k j).trans hu)
      refine ⟨s', v, ?_, sm_tr (sm_mv s k j) e2, e3, by omega, ?_⟩
      · unfold k_GM_drop_36 k_GM_drop_46
        rw [gm_move (by omega) (by omega), bn_s, lt_e, lt_e, nI_1, nI_1]
        exact e1
      · rw [e5, List.filter_cons_of_pos hkp, List.range_succ, List.map_append, List.append_assoc]
        congr 1
        · refine List.map_congr_left (fun i hi => ?_)
          rw [qe_mv, if_neg (by have := List.mem_range.mp hi; omega)]
        · show [qe (mv s k j) j] ++ _ = _
          rw [qe_mv, if_pos rfl]
          have hm : List.map (qe (mv s k j)) (List.range' (k + 1) m) = List.map (qe s) (List.range' (k + 1) m) := by
            refine List.map_congr_left (fun i hi => ?_)
            have := (List.mem_range'_1.mp hi).1
            rw [qe_mv, if_neg (by omega)]
          rw [hm]
          rfl
    by_cases ho : s 25 0 k = nI p
    · rw [if_pos ho]
      by_cases hd : s 26 0 k = nI d
      · rw [if_pos hd]
        obtain ⟨s', v, e1, e2, e3, e4, e5⟩ := ih n (k + 1) j s (by omega) (by omega) (by omega) hu
        refine ⟨s', v, ?_, e2, e3, by omega, ?_⟩
        · unfold k_GM_drop_46
          rw [lt_e, nI_1]
          exact e1
        · have hkp : ¬ kp p d (qe s k) = true := by simp [kp, qe, ho, hd]
          rw [List.filter_cons_of_neg hkp]
          exact e5
      · rw [if_neg hd]
        exact keep (by simp [kp, qe, hd])
    · rw [if_neg ho]
      exact keep (by simp [kp, qe, ho])
theorem gm_drop {s : zS} {u p d : Nat} (h16 : u ≤ 16) (hu : s 0 0 28 = nI u) : ∃ (s' : zS) (v : Nat), k_GM_drop s (nI p) (nI d) = some s' ∧ sm s s' ∧ s' 0 0 28 = nI v ∧ v ≤ u ∧ qM s' v = (qM s u).filter (kp p d) := by
  obtain ⟨s', v, e1, e2, e3, e4, e5⟩ := drop_loop (p := p) (d := d) h16 u FU 0 0 s (by omega) (by unfold FU; omega) (by omega) hu
  refine ⟨s', v, e1, e2, e3, by omega, ?_⟩
  rw [qM_en, e5, qM_en, show List.range u = List.range' 0 u from List.range_eq_range']
  rfl
