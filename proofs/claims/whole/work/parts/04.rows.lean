/-! rows of the judgement: an instruction a row -/
def zi (i : Int32) (n : Nat) : Bool := decide (¬ (i < 0 ∨ n ≤ i.toNatClampNeg))
def zn (y : Int32) : Bool := decide (¬ y = 0)
def zb (v : Int32) : Bool := decide (v = 0 ∨ v = 1)
theorem zi_in {i : Int32} {n : Nat} (h : zi i n = true) : vp_in i n := of_decide_eq_true (p := ¬ (i < 0 ∨ n ≤ i.toNatClampNeg)) h
theorem zn_ne {y : Int32} (h : zn y = true) : ¬ y = 0 := of_decide_eq_true h
theorem zb_or {v : Int32} (h : zb v = true) : v = 0 ∨ v = 1 := of_decide_eq_true h
/-- names, checks, calls in the pure functions -/
def lt {α β : Type} (e : α) (k : α → Option β) : Option β := k e
def ck {β : Type} (b : Bool) (x : Option β) : Option β := if b = true then x else none
def bn {α β : Type} (x : Option α) (k : α → Option β) : Option β := match x with
  | none => none
  | some a => k a
theorem lt_use {α β : Type} {e : α} {k : α → Option β} {r : β} (h : lt e k = some r) : ∃ x, x = e ∧ k x = some r := ⟨e, rfl, h⟩
theorem ck_use {β : Type} {b : Bool} {x : Option β} {r : β} (h : ck b x = some r) : b = true ∧ x = some r := by
  unfold ck at h
  by_cases hb : b = true
  · rw [if_pos hb] at h; exact ⟨hb, h⟩
  · rw [if_neg hb] at h; cases h
theorem bn_use {α β : Type} {x : Option α} {k : α → Option β} {r : β} (h : bn x k = some r) : ∃ a, x = some a ∧ k a = some r := by
  cases x with
  | none => cases h
  | some a => exact ⟨a, rfl, h⟩
theorem ite_t {c : Prop} [Decidable c] {β : Type} {a b : Option β} {r : β} (hc : c) (h : (if c then a else b) = some r) : a = some r := by rw [if_pos hc] at h; exact h
theorem ite_f {c : Prop} [Decidable c] {β : Type} {a b : Option β} {r : β} (hc : ¬ c) (h : (if c then a else b) = some r) : b = some r := by rw [if_neg hc] at h; exact h
/-- locals as the kit has them -/
def zps (ad : zAd) (L : List (Option zV)) : List (Nat × Value) := (List.range L.length).filterMap (fun i => match L[i]? with
  | some (some v) => some (i, zv ad v)
  | _ => none)
theorem zps_mem {ad : zAd} {L : List (Option zV)} {i : Nat} {v : zV} (h : L[i]? = some (some v)) : (i, zv ad v) ∈ zps ad L := by
  unfold zps
  rw [List.mem_filterMap]
  exact ⟨i, List.mem_range.mpr (List.getElem?_eq_some_iff.mp h).1, by rw [h]⟩
theorem zps_of {ad : zAd} {L : List (Option zV)} {q : Nat × Value} (h : q ∈ zps ad L) : ∃ v, L[q.1]? = some (some v) ∧ q.2 = zv ad v := by
  unfold zps at h
  rw [List.mem_filterMap] at h
  obtain ⟨i, -, h⟩ := h
  split at h
  · rename_i v hv
    cases h
    exact ⟨v, hv, rfl⟩
  · cases h
theorem zL_has {ad : zAd} {ls : Array Slot} {nL : Nat} {L : List (Option zV)} (h : zL ad ls nL L) : lv_has ls nL (zps ad L) := by
  refine ⟨h.1, h.2.1, fun q hq => ?_⟩
  obtain ⟨v, h1, h2⟩ := zps_of hq
  rw [h2]
  exact h.2.2 _ _ h1
def zset (L : List (Option zV)) (i : Nat) (v : zV) : List (Option zV) := match i with
  | 0 => L.set 0 (some v)
  | j + 1 => match L[j]? with
    | some (some (.inr (.inl _))) => (L.set j none).set (j + 1) (some v)
    | _ => L.set (j + 1) (some v)
theorem set_at {L : List (Option zV)} {i j : Nat} {a : Option zV} {u : zV} (h : (L.set i a)[j]? = some (some u)) : (j = i ∧ a = some u) ∨ (j ≠ i ∧ L[j]? = some (some u)) := by
  rw [List.getElem?_set] at h
  by_cases hj : i = j
  · rw [if_pos hj] at h
    split at h
    · exact Or.inl ⟨hj.symm, Option.some.inj h⟩
    · cases h
  · rw [if_neg hj] at h
    exact Or.inr ⟨fun e => hj e.symm, h⟩
theorem zset_at {L : List (Option zV)} {i j : Nat} {v u : zV} (h : (zset L i v)[j]? = some (some u)) : (j = i ∧ u = v) ∨ (j ≠ i ∧ L[j]? = some (some u) ∧ ¬ (j + 1 = i ∧ zc1 u = false)) := by
  unfold zset at h
  cases i with
  | zero =>
    rcases set_at h with ⟨h1, h2⟩ | ⟨h1, h2⟩
    · exact Or.inl ⟨h1, (Option.some.inj h2).symm⟩
    · exact Or.inr ⟨h1, h2, fun h3 => by omega⟩
  | succ i =>
    dsimp only at h
    split at h
    · rename_i w hw
      rcases set_at h with ⟨h1, h2⟩ | ⟨h1, h2⟩
      · exact Or.inl ⟨h1, (Option.some.inj h2).symm⟩
      · rcases set_at h2 with ⟨h3, h4⟩ | ⟨h3, h4⟩
        · cases h4
        · exact Or.inr ⟨h1, h4, fun h5 => h3 (by omega)⟩
    · rename_i hw
      rcases set_at h with ⟨h1, h2⟩ | ⟨h1, h2⟩
      · exact Or.inl ⟨h1, (Option.some.inj h2).symm⟩
      · refine Or.inr ⟨h1, h2, fun h5 => ?_⟩
        obtain ⟨h6, h7⟩ := h5
        have h8 : j = i := by omega
        subst h8
        rcases u with x | x | x
        · cases h7
        · exact hw x h2
        · cases h7
theorem zc1_ct {ad : zAd} {v : zV} (h : (zv ad v).category = 2) : zc1 v = false := by
  cases hc : zc1 v with
  | false => rfl
  | true => rw [zc1_cat hc] at h; cases h
theorem zL_st1 {ad : zAd} {ls : Array Slot} {nL i : Nat} {L : List (Option zV)} {v : zV} (h : lv_has ls nL ((i, zv ad v) :: (zps ad L).filter (fun q => !(q.1 == i) && !(q.1 + 1 == i && q.2.category == 2)))) : zL ad ls nL (zset L i v) := by
  refine ⟨h.1, h.2.1, fun j u hj => ?_⟩
  rcases zset_at hj with ⟨rfl, rfl⟩ | ⟨h1, h2, h3⟩
  · exact h.2.2 (j, zv ad u) List.mem_cons_self
  · refine h.2.2 (j, zv ad u) (List.mem_cons_of_mem _ (List.mem_filter.mpr ⟨zps_mem h2, ?_⟩))
    simp only [Bool.and_eq_true, Bool.not_eq_true', beq_eq_false_iff_ne, Bool.and_eq_false_iff]
    refine ⟨h1, ?_⟩
    by_cases h4 : j + 1 = i
    · right
      intro h5
      exact h3 ⟨h4, zc1_ct h5⟩
    · left
      exact h4
theorem zL_st2 {ad : zAd} {ls : Array Slot} {nL i : Nat} {L : List (Option zV)} {v : zV} (h : lv_has ls nL ((i, zv ad v) :: (zps ad L).filter (fun q => !(q.1 == i) && (!(q.1 == i + 1) && !(q.1 + 1 == i && q.2.category == 2))))) : zL ad ls nL ((zset L i v).set (i + 1) none) := by
  refine ⟨h.1, h.2.1, fun j u hj => ?_⟩
  rcases set_at hj with ⟨_, h0⟩ | ⟨h0, hj⟩
  · cases h0
  rcases zset_at hj with ⟨rfl, rfl⟩ | ⟨h1, h2, h3⟩
  · exact h.2.2 (j, zv ad u) List.mem_cons_self
  · refine h.2.2 (j, zv ad u) (List.mem_cons_of_mem _ (List.mem_filter.mpr ⟨zps_mem h2, ?_⟩))
    simp only [Bool.and_eq_true, Bool.not_eq_true', beq_eq_false_iff_ne, Bool.and_eq_false_iff]
    refine ⟨h1, h0, ?_⟩
    by_cases h4 : j + 1 = i
    · right
      intro h5
      exact h3 ⟨h4, zc1_ct h5⟩
    · left
      exact h4
/-- fewer locals known -/
def zle : List (Option zV) → List (Option zV) → Prop
  | [], _ => True
  | none :: a, _ :: b => zle a b
  | some v :: a, o :: b => o = some v ∧ zle a b
  | _ :: _, [] => False
theorem zle_at : ∀ (a b : List (Option zV)), zle a b → ∀ (i : Nat) (v : zV), a[i]? = some (some v) → b[i]? = some (some v) := by
  intro a
  induction a with
  | nil => intro b _ i v h; simp at h
  | cons x r ih =>
    intro b hb i v h
    cases b with
    | nil => cases x <;> exact hb.elim
    | cons y q =>
      cases x with
      | none =>
        cases i with
        | zero => simp at h
        | succ i => simpa using ih q hb i v (by simpa using h)
      | some w =>
        cases i with
        | zero =>
          have h1 : w = v := by simpa using h
          simp [hb.1, h1]
        | succ i => simpa using ih q hb.2 i v (by simpa using h)
section ZROWS
variable {S : zQS} {M : zMd} {r : zAns} {X : zX} {pc : Nat} {L : List (Option zV)} {st : List zV} {σ : zS}
theorem zl_weak {L' : List (Option zV)} (k : ZW S M r X pc L' st σ) (h : zle L' L) : ZW S M r X pc L st σ := fun H locs ls hP hS hL => k H locs ls hP hS ⟨hL.1, hL.2.1, fun i v hi => hL.2.2 i v (zle_at _ _ h i v hi)⟩
theorem zl_top {x y : Int32} (e : y = x) (k : ZW S M r X pc L (zI y :: st) σ) : ZW S M r X pc L (zI x :: st) σ := e ▸ k
theorem zl_topJ {x y : Int64} (e : y = x) (k : ZW S M r X pc L (zJ y :: st) σ) : ZW S M r X pc L (zJ x :: st) σ := e ▸ k
theorem zl_sg {τ : zS} (e : τ = σ) (k : ZW S M r X pc L st τ) : ZW S M r X pc L st σ := e ▸ k
theorem zl_iconst (hO : zO S M X) {n : Int} {v : Int32} (hd : decode M.2.1 pc = .ok (.iconst n, 1)) (hv : Int32.ofInt n = v) (k : ZW S M r X (pc + 1) L (zI v :: st) σ) : ZW S M r X pc L (st) σ := fun H locs ls hP hS hL => lv_iconst hO.2.1 hO.2.2.1 hd hv (k H locs ls hP hS hL)
theorem zl_bipush (hO : zO S M X) {n : Int} {v : Int32} (hd : decode M.2.1 pc = .ok (.bipush n, 2)) (hv : (Int8.ofInt n).toInt32 = v) (k : ZW S M r X (pc + 2) L (zI v :: st) σ) : ZW S M r X pc L (st) σ := fun H locs ls hP hS hL => lv_bipush hO.2.1 hO.2.2.1 hd hv (k H locs ls hP hS hL)
theorem zl_sipush (hO : zO S M X) {n : Int} {v : Int32} (hd : decode M.2.1 pc = .ok (.sipush n, 3)) (hv : (Int16.ofInt n).toInt32 = v) (k : ZW S M r X (pc + 3) L (zI v :: st) σ) : ZW S M r X pc L (st) σ := fun H locs ls hP hS hL => lv_sipush hO.2.1 hO.2.2.1 hd hv (k H locs ls hP hS hL)
theorem zl_lconst (hO : zO S M X) {n : Fin 2} {v : Int64} (hd : decode M.2.1 pc = .ok (.lconst n, 1)) (hv : Int64.ofNat (n : Nat) = v) (k : ZW S M r X (pc + 1) L (zJ v :: st) σ) : ZW S M r X pc L (st) σ := fun H locs ls hP hS hL => lv_lconst hO.2.1 hO.2.2.1 hd hv (k H locs ls hP hS hL)
theorem zl_null (hO : zO S M X)  (hd : decode M.2.1 pc = .ok (.aconst_null, 1)) (k : ZW S M r X (pc + 1) L (zN :: st) σ) : ZW S M r X pc L (st) σ := fun H locs ls hP hS hL => lv_null hO.2.1 hO.2.2.1 hd (k H locs ls hP hS hL)
theorem zl_ldc (hO : zO S M X) {idx : Nat} {v : Int32} (hd : decode M.2.1 pc = .ok (.ldc idx, 2)) (hw : Cond.constant M.1.cls idx v ∈ S.2.2.2.1) (k : ZW S M r X (pc + 2) L (zI v :: st) σ) : ZW S M r X pc L (st) σ := fun H locs ls hP hS hL => lv_ldc hO.2.1 hO.2.2.1 hO.2.2.2.2.1 (hO.2.2.2.2.2.1 _ hw) hd (k H locs ls hP hS hL)
theorem zl_ldcw (hO : zO S M X) {idx : Nat} {v : Int32} (hd : decode M.2.1 pc = .ok (.ldc_w idx, 3)) (hw : Cond.constant M.1.cls idx v ∈ S.2.2.2.1) (k : ZW S M r X (pc + 3) L (zI v :: st) σ) : ZW S M r X pc L (st) σ := fun H locs ls hP hS hL => lv_ldcw hO.2.1 hO.2.2.1 hO.2.2.2.2.1 (hO.2.2.2.2.2.1 _ hw) hd (k H locs ls hP hS hL)
theorem zl_ldc2 (hO : zO S M X) {idx : Nat} {v : Int64} (hd : decode M.2.1 pc = .ok (.ldc2_w idx, 3)) (hw : Cond.constantLong M.1.cls idx v ∈ S.2.2.2.1) (k : ZW S M r X (pc + 3) L (zJ v :: st) σ) : ZW S M r X pc L (st) σ := fun H locs ls hP hS hL => lv_ldc2 hO.2.1 hO.2.2.1 hO.2.2.2.2.1 (hO.2.2.2.2.2.1 _ hw) hd (k H locs ls hP hS hL)
theorem zl_iload_n (hO : zO S M X) {k0 : Fin 4} (i : Nat) {x : Int32} (hd : decode M.2.1 pc = .ok (.iload_n k0, 1)) (hi : (k0 : Nat) = i) (hl : L[i]? = some (some (zI x))) (k : ZW S M r X (pc + 1) L (zI x :: st) σ) : ZW S M r X pc L (st) σ := fun H locs ls hP hS hL => lv_iload_n hO.2.1 hO.2.2.1 hd hi (hL.2.2 i _ hl) (k H locs ls hP hS hL)
theorem zl_iload (hO : zO S M X) {i : Nat} {x : Int32} (hd : decode M.2.1 pc = .ok (.iload i, 2)) (hl : L[i]? = some (some (zI x))) (k : ZW S M r X (pc + 2) L (zI x :: st) σ) : ZW S M r X pc L (st) σ := fun H locs ls hP hS hL => lv_iload hO.2.1 hO.2.2.1 hd (hL.2.2 i _ hl) (k H locs ls hP hS hL)
theorem zl_lload_n (hO : zO S M X) {k0 : Fin 4} (i : Nat) {x : Int64} (hd : decode M.2.1 pc = .ok (.lload_n k0, 1)) (hi : (k0 : Nat) = i) (hl : L[i]? = some (some (zJ x))) (k : ZW S M r X (pc + 1) L (zJ x :: st) σ) : ZW S M r X pc L (st) σ := fun H locs ls hP hS hL => lv_lload_n hO.2.1 hO.2.2.1 hd hi (hL.2.2 i _ hl) (k H locs ls hP hS hL)
theorem zl_lload (hO : zO S M X) {i : Nat} {x : Int64} (hd : decode M.2.1 pc = .ok (.lload i, 2)) (hl : L[i]? = some (some (zJ x))) (k : ZW S M r X (pc + 2) L (zJ x :: st) σ) : ZW S M r X pc L (st) σ := fun H locs ls hP hS hL => lv_lload hO.2.1 hO.2.2.1 hd (hL.2.2 i _ hl) (k H locs ls hP hS hL)
theorem zl_aload_n (hO : zO S M X) {k0 : Fin 4} (i : Nat) {o : Option (Nat × Nat)} (hd : decode M.2.1 pc = .ok (.aload_n k0, 1)) (hi : (k0 : Nat) = i) (hl : L[i]? = some (some (Sum.inr (Sum.inr o)))) (k : ZW S M r X (pc + 1) L (Sum.inr (Sum.inr o) :: st) σ) : ZW S M r X pc L st σ := by
  intro H locs ls hP hS hL
  cases o with
  | none => exact lv_aload_nN hO.2.1 hO.2.2.1 hd hi (hL.2.2 i _ hl) (k H locs ls hP hS hL)
  | some x => exact lv_aload_n hO.2.1 hO.2.2.1 hd hi (hL.2.2 i _ hl) (k H locs ls hP hS hL)
theorem zl_aload (hO : zO S M X) {i : Nat} {o : Option (Nat × Nat)} (hd : decode M.2.1 pc = .ok (.aload i, 2)) (hl : L[i]? = some (some (Sum.inr (Sum.inr o)))) (k : ZW S M r X (pc + 2) L (Sum.inr (Sum.inr o) :: st) σ) : ZW S M r X pc L st σ := by
  intro H locs ls hP hS hL
  cases o with
  | none => exact lv_aloadN hO.2.1 hO.2.2.1 hd (hL.2.2 i _ hl) (k H locs ls hP hS hL)
  | some x => exact lv_aload hO.2.1 hO.2.2.1 hd (hL.2.2 i _ hl) (k H locs ls hP hS hL)
theorem zl_istore_n (hO : zO S M X) {k0 : Fin 4} (i : Nat) {x : Int32} {L' : List (Option zV)} (hd : decode M.2.1 pc = .ok (.istore_n k0, 1)) (hi : (k0 : Nat) = i) (hn : i < M.2.2.1) (hl : (zset L i (zI x)) = L') (k : ZW S M r X (pc + 1) L' st σ) : ZW S M r X pc L (zI x :: st) σ := fun H locs ls hP hS hL => lv_istore_n hO.2.1 hO.2.2.1 hd hi (zL_has hL) hn rfl (fun ls' h' => k H locs ls' hP hS (hl ▸ zL_st1 (v := zI x) h'))
theorem zl_istore (hO : zO S M X) {i : Nat} {x : Int32} {L' : List (Option zV)} (hd : decode M.2.1 pc = .ok (.istore i, 2)) (hn : i < M.2.2.1) (hl : (zset L i (zI x)) = L') (k : ZW S M r X (pc + 2) L' st σ) : ZW S M r X pc L (zI x :: st) σ := fun H locs ls hP hS hL => lv_istore hO.2.1 hO.2.2.1 hd (zL_has hL) hn rfl (fun ls' h' => k H locs ls' hP hS (hl ▸ zL_st1 (v := zI x) h'))
theorem zl_astore_n (hO : zO S M X) {k0 : Fin 4} (i : Nat) {o : Option (Nat × Nat)} {L' : List (Option zV)} (hd : decode M.2.1 pc = .ok (.astore_n k0, 1)) (hi : (k0 : Nat) = i) (hn : i < M.2.2.1) (hl : zset L i (Sum.inr (Sum.inr o)) = L') (k : ZW S M r X (pc + 1) L' st σ) : ZW S M r X pc L (Sum.inr (Sum.inr o) :: st) σ := by
  intro H locs ls hP hS hL
  cases o with
  | none => exact lv_astore_nN hO.2.1 hO.2.2.1 hd hi (zL_has hL) hn rfl (fun ls' h' => k H locs ls' hP hS (hl ▸ zL_st1 (v := zN) h'))
  | some x => exact lv_astore_n hO.2.1 hO.2.2.1 hd hi (zL_has hL) hn rfl (fun ls' h' => k H locs ls' hP hS (hl ▸ zL_st1 (v := Sum.inr (Sum.inr (some x))) h'))
theorem zl_astore (hO : zO S M X) {i : Nat} {o : Option (Nat × Nat)} {L' : List (Option zV)} (hd : decode M.2.1 pc = .ok (.astore i, 2)) (hn : i < M.2.2.1) (hl : zset L i (Sum.inr (Sum.inr o)) = L') (k : ZW S M r X (pc + 2) L' st σ) : ZW S M r X pc L (Sum.inr (Sum.inr o) :: st) σ := by
  intro H locs ls hP hS hL
  cases o with
  | none => exact lv_astoreN hO.2.1 hO.2.2.1 hd (zL_has hL) hn rfl (fun ls' h' => k H locs ls' hP hS (hl ▸ zL_st1 (v := zN) h'))
  | some x => exact lv_astore hO.2.1 hO.2.2.1 hd (zL_has hL) hn rfl (fun ls' h' => k H locs ls' hP hS (hl ▸ zL_st1 (v := Sum.inr (Sum.inr (some x))) h'))
theorem zl_lstore_n (hO : zO S M X) {k0 : Fin 4} (i : Nat) {x : Int64} {L' : List (Option zV)} (hd : decode M.2.1 pc = .ok (.lstore_n k0, 1)) (hi : (k0 : Nat) = i) (hn : i + 1 < M.2.2.1) (hl : ((zset L i (zJ x)).set (i + 1) none) = L') (k : ZW S M r X (pc + 1) L' st σ) : ZW S M r X pc L (zJ x :: st) σ := fun H locs ls hP hS hL => lv_lstore_n hO.2.1 hO.2.2.1 hd hi (zL_has hL) hn rfl (fun ls' h' => k H locs ls' hP hS (hl ▸ zL_st2 (v := zJ x) h'))
theorem zl_lstore (hO : zO S M X) {i : Nat} {x : Int64} {L' : List (Option zV)} (hd : decode M.2.1 pc = .ok (.lstore i, 2)) (hn : i + 1 < M.2.2.1) (hl : ((zset L i (zJ x)).set (i + 1) none) = L') (k : ZW S M r X (pc + 2) L' st σ) : ZW S M r X pc L (zJ x :: st) σ := fun H locs ls hP hS hL => lv_lstore hO.2.1 hO.2.2.1 hd (zL_has hL) hn rfl (fun ls' h' => k H locs ls' hP hS (hl ▸ zL_st2 (v := zJ x) h'))
theorem zl_iinc (hO : zO S M X) {i : Nat} {n : Int} {x v : Int32} {L' : List (Option zV)} (hd : decode M.2.1 pc = .ok (.iinc i n, 3)) (hx : L[i]? = some (some (zI x))) (hv : x + Int32.ofInt n = v) (hn : i < M.2.2.1) (hl : zset L i (zI v) = L') (k : ZW S M r X (pc + 3) L' st σ) : ZW S M r X pc L st σ := by
  intro H locs ls hP hS hL
  obtain ⟨j, hj⟩ := List.mem_iff_getElem?.mp (zps_mem (ad := S.2.2.2.2.2.2) hx)
  exact lv_iinc hO.2.1 hO.2.2.1 hd (zL_has hL) hj hv hn rfl (fun ls' h' => k H locs ls' hP hS (hl ▸ zL_st1 (v := zI v) h'))
theorem zl_iadd (hO : zO S M X) {x y : Int32} (hd : decode M.2.1 pc = .ok (.iadd, 1)) (k : ZW S M r X (pc + 1) L (zI (x + y) :: st) σ) : ZW S M r X pc L (zI y :: zI x :: st) σ := fun H locs ls hP hS hL => lv_iadd hO.2.1 hO.2.2.1 hd (k H locs ls hP hS hL)
theorem zl_isub (hO : zO S M X) {x y : Int32} (hd : decode M.2.1 pc = .ok (.isub, 1)) (k : ZW S M r X (pc + 1) L (zI (x - y) :: st) σ) : ZW S M r X pc L (zI y :: zI x :: st) σ := fun H locs ls hP hS hL => lv_isub hO.2.1 hO.2.2.1 hd (k H locs ls hP hS hL)
theorem zl_imul (hO : zO S M X) {x y : Int32} (hd : decode M.2.1 pc = .ok (.imul, 1)) (k : ZW S M r X (pc + 1) L (zI (x * y) :: st) σ) : ZW S M r X pc L (zI y :: zI x :: st) σ := fun H locs ls hP hS hL => lv_imul hO.2.1 hO.2.2.1 hd (k H locs ls hP hS hL)
theorem zl_iand (hO : zO S M X) {x y : Int32} (hd : decode M.2.1 pc = .ok (.iand, 1)) (k : ZW S M r X (pc + 1) L (zI (x &&& y) :: st) σ) : ZW S M r X pc L (zI y :: zI x :: st) σ := fun H locs ls hP hS hL => lv_iand hO.2.1 hO.2.2.1 hd (k H locs ls hP hS hL)
theorem zl_ior (hO : zO S M X) {x y : Int32} (hd : decode M.2.1 pc = .ok (.ior, 1)) (k : ZW S M r X (pc + 1) L (zI (x ||| y) :: st) σ) : ZW S M r X pc L (zI y :: zI x :: st) σ := fun H locs ls hP hS hL => lv_ior hO.2.1 hO.2.2.1 hd (k H locs ls hP hS hL)
theorem zl_ixor (hO : zO S M X) {x y : Int32} (hd : decode M.2.1 pc = .ok (.ixor, 1)) (k : ZW S M r X (pc + 1) L (zI (x ^^^ y) :: st) σ) : ZW S M r X pc L (zI y :: zI x :: st) σ := fun H locs ls hP hS hL => lv_ixor hO.2.1 hO.2.2.1 hd (k H locs ls hP hS hL)
theorem zl_ishl (hO : zO S M X) {x y : Int32} (hd : decode M.2.1 pc = .ok (.ishl, 1)) (k : ZW S M r X (pc + 1) L (zI (x <<< (y &&& 31)) :: st) σ) : ZW S M r X pc L (zI y :: zI x :: st) σ := fun H locs ls hP hS hL => lv_ishl hO.2.1 hO.2.2.1 hd (k H locs ls hP hS hL)
theorem zl_ishr (hO : zO S M X) {x y : Int32} (hd : decode M.2.1 pc = .ok (.ishr, 1)) (k : ZW S M r X (pc + 1) L (zI (x >>> (y &&& 31)) :: st) σ) : ZW S M r X pc L (zI y :: zI x :: st) σ := fun H locs ls hP hS hL => lv_ishr hO.2.1 hO.2.2.1 hd (k H locs ls hP hS hL)
theorem zl_iushr (hO : zO S M X) {x y : Int32} (hd : decode M.2.1 pc = .ok (.iushr, 1)) (k : ZW S M r X (pc + 1) L (zI ((x.toUInt32 >>> (y.toUInt32 &&& Int32.toUInt32 31)).toInt32) :: st) σ) : ZW S M r X pc L (zI y :: zI x :: st) σ := fun H locs ls hP hS hL => lv_iushr hO.2.1 hO.2.2.1 hd rfl (k H locs ls hP hS hL)
theorem zl_idiv (hO : zO S M X) {x y : Int32} (hd : decode M.2.1 pc = .ok (.idiv, 1)) (h0 : zn y = true) (k : ZW S M r X (pc + 1) L (zI (x / y) :: st) σ) : ZW S M r X pc L (zI y :: zI x :: st) σ := fun H locs ls hP hS hL => lv_idiv hO.2.1 hO.2.2.1 hd (zn_ne h0) (k H locs ls hP hS hL)
theorem zl_irem (hO : zO S M X) {x y : Int32} (hd : decode M.2.1 pc = .ok (.irem, 1)) (h0 : zn y = true) (k : ZW S M r X (pc + 1) L (zI (x - x / y * y) :: st) σ) : ZW S M r X pc L (zI y :: zI x :: st) σ := fun H locs ls hP hS hL => lv_irem hO.2.1 hO.2.2.1 hd (zn_ne h0) (k H locs ls hP hS hL)
theorem zl_ineg (hO : zO S M X) {x : Int32} (hd : decode M.2.1 pc = .ok (.ineg, 1)) (k : ZW S M r X (pc + 1) L (zI (-x) :: st) σ) : ZW S M r X pc L (zI x :: st) σ := fun H locs ls hP hS hL => lv_ineg hO.2.1 hO.2.2.1 hd (k H locs ls hP hS hL)
theorem zl_ladd (hO : zO S M X) {x y : Int64} (hd : decode M.2.1 pc = .ok (.ladd, 1)) (k : ZW S M r X (pc + 1) L (zJ (x + y) :: st) σ) : ZW S M r X pc L (zJ y :: zJ x :: st) σ := fun H locs ls hP hS hL => lv_ladd hO.2.1 hO.2.2.1 hd (k H locs ls hP hS hL)
theorem zl_lsub (hO : zO S M X) {x y : Int64} (hd : decode M.2.1 pc = .ok (.lsub, 1)) (k : ZW S M r X (pc + 1) L (zJ (x - y) :: st) σ) : ZW S M r X pc L (zJ y :: zJ x :: st) σ := fun H locs ls hP hS hL => lv_lsub hO.2.1 hO.2.2.1 hd (k H locs ls hP hS hL)
theorem zl_land (hO : zO S M X) {x y : Int64} (hd : decode M.2.1 pc = .ok (.land, 1)) (k : ZW S M r X (pc + 1) L (zJ (x &&& y) :: st) σ) : ZW S M r X pc L (zJ y :: zJ x :: st) σ := fun H locs ls hP hS hL => lv_land hO.2.1 hO.2.2.1 hd (k H locs ls hP hS hL)
theorem zl_lor (hO : zO S M X) {x y : Int64} (hd : decode M.2.1 pc = .ok (.lor, 1)) (k : ZW S M r X (pc + 1) L (zJ (x ||| y) :: st) σ) : ZW S M r X pc L (zJ y :: zJ x :: st) σ := fun H locs ls hP hS hL => lv_lor hO.2.1 hO.2.2.1 hd (k H locs ls hP hS hL)
theorem zl_lshl (hO : zO S M X) {x : Int64} {y : Int32} (hd : decode M.2.1 pc = .ok (.lshl, 1)) (k : ZW S M r X (pc + 1) L (zJ (x <<< (y.toInt64 &&& 63)) :: st) σ) : ZW S M r X pc L (zI y :: zJ x :: st) σ := fun H locs ls hP hS hL => lv_lshl hO.2.1 hO.2.2.1 hd rfl (k H locs ls hP hS hL)
theorem zl_lshr (hO : zO S M X) {x : Int64} {y : Int32} (hd : decode M.2.1 pc = .ok (.lshr, 1)) (k : ZW S M r X (pc + 1) L (zJ (x >>> (y.toInt64 &&& 63)) :: st) σ) : ZW S M r X pc L (zI y :: zJ x :: st) σ := fun H locs ls hP hS hL => lv_lshr hO.2.1 hO.2.2.1 hd rfl (k H locs ls hP hS hL)
theorem zl_lcmp (hO : zO S M X) {x y : Int64} (hd : decode M.2.1 pc = .ok (.lcmp, 1)) (k : ZW S M r X (pc + 1) L (zI (lg_cmp x y) :: st) σ) : ZW S M r X pc L (zJ y :: zJ x :: st) σ := fun H locs ls hP hS hL => W.lcmp hO.2.1 hO.2.2.1 hd (k H locs ls hP hS hL)
theorem zl_i2l (hO : zO S M X) {x : Int32} (hd : decode M.2.1 pc = .ok (.i2l, 1)) (k : ZW S M r X (pc + 1) L (zJ x.toInt64 :: st) σ) : ZW S M r X pc L (zI x :: st) σ := fun H locs ls hP hS hL => lv_i2l hO.2.1 hO.2.2.1 hd rfl (k H locs ls hP hS hL)
theorem zl_l2i (hO : zO S M X) {x : Int64} (hd : decode M.2.1 pc = .ok (.l2i, 1)) (k : ZW S M r X (pc + 1) L (zI x.toInt32 :: st) σ) : ZW S M r X pc L (zJ x :: st) σ := fun H locs ls hP hS hL => lv_l2i hO.2.1 hO.2.2.1 hd rfl (k H locs ls hP hS hL)
theorem zl_dup (hO : zO S M X) {v : zV} (hd : decode M.2.1 pc = .ok (.dup, 1)) (hc : zc1 v = true) (k : ZW S M r X (pc + 1) L (v :: v :: st) σ) : ZW S M r X pc L (v :: st) σ := fun H locs ls hP hS hL => lv_dup hO.2.1 hO.2.2.1 hd (zc1_cat hc) (k H locs ls hP hS hL)
theorem zl_pop (hO : zO S M X) {v : zV} (hd : decode M.2.1 pc = .ok (.pop, 1)) (hc : zc1 v = true) (k : ZW S M r X (pc + 1) L (st) σ) : ZW S M r X pc L (v :: st) σ := fun H locs ls hP hS hL => lv_pop hO.2.1 hO.2.2.1 hd (zc1_cat hc) (k H locs ls hP hS hL)
theorem zl_dup_x1 (hO : zO S M X) {v w : zV} (hd : decode M.2.1 pc = .ok (.dup_x1, 1)) (hc : zc1 v = true) (hc2 : zc1 w = true) (k : ZW S M r X (pc + 1) L (v :: w :: v :: st) σ) : ZW S M r X pc L (v :: w :: st) σ := fun H locs ls hP hS hL => lv_dup_x1 hO.2.1 hO.2.2.1 hd (zc1_cat hc) (zc1_cat hc2) (k H locs ls hP hS hL)
theorem zl_dup2 (hO : zO S M X) {v w : zV} (hd : decode M.2.1 pc = .ok (.dup2, 1)) (hc : zc1 v = true) (hc2 : zc1 w = true) (k : ZW S M r X (pc + 1) L (v :: w :: v :: w :: st) σ) : ZW S M r X pc L (v :: w :: st) σ := fun H locs ls hP hS hL => lv_dup2_11 hO.2.1 hO.2.2.1 hd (zc1_cat hc) (zc1_cat hc2) (k H locs ls hP hS hL)
theorem zl_if_eq (hO : zO S M X) {x : Int32} {off : Int} (tgt : Nat) (hd : decode M.2.1 pc = .ok (.ifCond .eq off, 3)) (ht : (pc : Int) + off = (tgt : Int)) (kt : x = 0 → ZW S M r X tgt L st σ) (kf : ¬ x = 0 → ZW S M r X (pc + 3) L st σ) : ZW S M r X pc L (zI x :: st) σ := fun H locs ls hP hS hL => lv_if_eq hO.2.1 hO.2.2.1 hd ht (fun h => kt h H locs ls hP hS hL) (fun h => kf h H locs ls hP hS hL)
theorem zl_icmp_eq (hO : zO S M X) {x y : Int32} {off : Int} (tgt : Nat) (hd : decode M.2.1 pc = .ok (.if_icmp .eq off, 3)) (ht : (pc : Int) + off = (tgt : Int)) (kt : x = y → ZW S M r X tgt L st σ) (kf : ¬ x = y → ZW S M r X (pc + 3) L st σ) : ZW S M r X pc L (zI y :: zI x :: st) σ := fun H locs ls hP hS hL => lv_icmp_eq hO.2.1 hO.2.2.1 hd ht (fun h => kt h H locs ls hP hS hL) (fun h => kf h H locs ls hP hS hL)
theorem zl_if_ne (hO : zO S M X) {x : Int32} {off : Int} (tgt : Nat) (hd : decode M.2.1 pc = .ok (.ifCond .ne off, 3)) (ht : (pc : Int) + off = (tgt : Int)) (kt : ¬ x = 0 → ZW S M r X tgt L st σ) (kf : x = 0 → ZW S M r X (pc + 3) L st σ) : ZW S M r X pc L (zI x :: st) σ := fun H locs ls hP hS hL => lv_if_ne hO.2.1 hO.2.2.1 hd ht (fun h => kt h H locs ls hP hS hL) (fun h => kf h H locs ls hP hS hL)
theorem zl_icmp_ne (hO : zO S M X) {x y : Int32} {off : Int} (tgt : Nat) (hd : decode M.2.1 pc = .ok (.if_icmp .ne off, 3)) (ht : (pc : Int) + off = (tgt : Int)) (kt : ¬ x = y → ZW S M r X tgt L st σ) (kf : x = y → ZW S M r X (pc + 3) L st σ) : ZW S M r X pc L (zI y :: zI x :: st) σ := fun H locs ls hP hS hL => lv_icmp_ne hO.2.1 hO.2.2.1 hd ht (fun h => kt h H locs ls hP hS hL) (fun h => kf h H locs ls hP hS hL)
theorem zl_if_lt (hO : zO S M X) {x : Int32} {off : Int} (tgt : Nat) (hd : decode M.2.1 pc = .ok (.ifCond .lt off, 3)) (ht : (pc : Int) + off = (tgt : Int)) (kt : x < 0 → ZW S M r X tgt L st σ) (kf : ¬ x < 0 → ZW S M r X (pc + 3) L st σ) : ZW S M r X pc L (zI x :: st) σ := fun H locs ls hP hS hL => lv_if_lt hO.2.1 hO.2.2.1 hd ht (fun h => kt h H locs ls hP hS hL) (fun h => kf h H locs ls hP hS hL)
theorem zl_icmp_lt (hO : zO S M X) {x y : Int32} {off : Int} (tgt : Nat) (hd : decode M.2.1 pc = .ok (.if_icmp .lt off, 3)) (ht : (pc : Int) + off = (tgt : Int)) (kt : x < y → ZW S M r X tgt L st σ) (kf : ¬ x < y → ZW S M r X (pc + 3) L st σ) : ZW S M r X pc L (zI y :: zI x :: st) σ := fun H locs ls hP hS hL => lv_icmp_lt hO.2.1 hO.2.2.1 hd ht (fun h => kt h H locs ls hP hS hL) (fun h => kf h H locs ls hP hS hL)
theorem zl_if_ge (hO : zO S M X) {x : Int32} {off : Int} (tgt : Nat) (hd : decode M.2.1 pc = .ok (.ifCond .ge off, 3)) (ht : (pc : Int) + off = (tgt : Int)) (kt : 0 ≤ x → ZW S M r X tgt L st σ) (kf : ¬ 0 ≤ x → ZW S M r X (pc + 3) L st σ) : ZW S M r X pc L (zI x :: st) σ := fun H locs ls hP hS hL => lv_if_ge hO.2.1 hO.2.2.1 hd ht (fun h => kt h H locs ls hP hS hL) (fun h => kf h H locs ls hP hS hL)
theorem zl_icmp_ge (hO : zO S M X) {x y : Int32} {off : Int} (tgt : Nat) (hd : decode M.2.1 pc = .ok (.if_icmp .ge off, 3)) (ht : (pc : Int) + off = (tgt : Int)) (kt : y ≤ x → ZW S M r X tgt L st σ) (kf : ¬ y ≤ x → ZW S M r X (pc + 3) L st σ) : ZW S M r X pc L (zI y :: zI x :: st) σ := fun H locs ls hP hS hL => lv_icmp_ge hO.2.1 hO.2.2.1 hd ht (fun h => kt h H locs ls hP hS hL) (fun h => kf h H locs ls hP hS hL)
theorem zl_if_gt (hO : zO S M X) {x : Int32} {off : Int} (tgt : Nat) (hd : decode M.2.1 pc = .ok (.ifCond .gt off, 3)) (ht : (pc : Int) + off = (tgt : Int)) (kt : 0 < x → ZW S M r X tgt L st σ) (kf : ¬ 0 < x → ZW S M r X (pc + 3) L st σ) : ZW S M r X pc L (zI x :: st) σ := fun H locs ls hP hS hL => lv_if_gt hO.2.1 hO.2.2.1 hd ht (fun h => kt h H locs ls hP hS hL) (fun h => kf h H locs ls hP hS hL)
theorem zl_icmp_gt (hO : zO S M X) {x y : Int32} {off : Int} (tgt : Nat) (hd : decode M.2.1 pc = .ok (.if_icmp .gt off, 3)) (ht : (pc : Int) + off = (tgt : Int)) (kt : y < x → ZW S M r X tgt L st σ) (kf : ¬ y < x → ZW S M r X (pc + 3) L st σ) : ZW S M r X pc L (zI y :: zI x :: st) σ := fun H locs ls hP hS hL => lv_icmp_gt hO.2.1 hO.2.2.1 hd ht (fun h => kt h H locs ls hP hS hL) (fun h => kf h H locs ls hP hS hL)
theorem zl_if_le (hO : zO S M X) {x : Int32} {off : Int} (tgt : Nat) (hd : decode M.2.1 pc = .ok (.ifCond .le off, 3)) (ht : (pc : Int) + off = (tgt : Int)) (kt : x ≤ 0 → ZW S M r X tgt L st σ) (kf : ¬ x ≤ 0 → ZW S M r X (pc + 3) L st σ) : ZW S M r X pc L (zI x :: st) σ := fun H locs ls hP hS hL => lv_if_le hO.2.1 hO.2.2.1 hd ht (fun h => kt h H locs ls hP hS hL) (fun h => kf h H locs ls hP hS hL)
theorem zl_icmp_le (hO : zO S M X) {x y : Int32} {off : Int} (tgt : Nat) (hd : decode M.2.1 pc = .ok (.if_icmp .le off, 3)) (ht : (pc : Int) + off = (tgt : Int)) (kt : x ≤ y → ZW S M r X tgt L st σ) (kf : ¬ x ≤ y → ZW S M r X (pc + 3) L st σ) : ZW S M r X pc L (zI y :: zI x :: st) σ := fun H locs ls hP hS hL => lv_icmp_le hO.2.1 hO.2.2.1 hd ht (fun h => kt h H locs ls hP hS hL) (fun h => kf h H locs ls hP hS hL)
theorem zl_goto (hO : zO S M X) {off : Int} (tgt : Nat) (hd : decode M.2.1 pc = .ok (.goto off, 3)) (ht : (pc : Int) + off = (tgt : Int)) (k : ZW S M r X tgt L st σ) : ZW S M r X pc L st σ := fun H locs ls hP hS hL => lv_goto hO.2.1 hO.2.2.1 hd ht (k H locs ls hP hS hL)
theorem zl_ifnullN (hO : zO S M X) {off : Int} (tgt : Nat) (hd : decode M.2.1 pc = .ok (.ifnull off, 3)) (ht : (pc : Int) + off = (tgt : Int)) (k : ZW S M r X tgt L st σ) : ZW S M r X pc L (zN :: st) σ := fun H locs ls hP hS hL => lv_ifnullN hO.2.1 hO.2.2.1 hd ht (k H locs ls hP hS hL)
theorem zl_ifnull (hO : zO S M X) {off : Int} {x : Nat × Nat} (hd : decode M.2.1 pc = .ok (.ifnull off, 3)) (k : ZW S M r X (pc + 3) L st σ) : ZW S M r X pc L (Sum.inr (Sum.inr (some x)) :: st) σ := fun H locs ls hP hS hL => lv_ifnull hO.2.1 hO.2.2.1 hd (k H locs ls hP hS hL)
theorem zl_ifnonnull (hO : zO S M X) {off : Int} {x : Nat × Nat} (tgt : Nat) (hd : decode M.2.1 pc = .ok (.ifnonnull off, 3)) (ht : (pc : Int) + off = (tgt : Int)) (k : ZW S M r X tgt L st σ) : ZW S M r X pc L (Sum.inr (Sum.inr (some x)) :: st) σ := fun H locs ls hP hS hL => lv_ifnonnull hO.2.1 hO.2.2.1 hd ht (k H locs ls hP hS hL)
theorem zl_ifnonnullN (hO : zO S M X) {off : Int} (hd : decode M.2.1 pc = .ok (.ifnonnull off, 3)) (k : ZW S M r X (pc + 3) L st σ) : ZW S M r X pc L (zN :: st) σ := fun H locs ls hP hS hL => lv_ifnonnullN hO.2.1 hO.2.2.1 hd (k H locs ls hP hS hL)
theorem zl_tabOut (hO : zO S M X) {dflt lo hi : Int} {offs : Array Int} {len : Nat} {x : Int32} (tgt : Nat) (hd : decode M.2.1 pc = .ok (.tableswitch dflt lo hi offs, len)) (h : x.toInt < lo ∨ hi < x.toInt) (ht : (pc : Int) + dflt = (tgt : Int)) (k : ZW S M r X tgt L st σ) : ZW S M r X pc L (zI x :: st) σ := fun H locs ls hP hS hL => lv_tableOut hO.2.1 hO.2.2.1 hd h ht (k H locs ls hP hS hL)
theorem zl_tabIn (hO : zO S M X) {dflt lo hi : Int} {offs : Array Int} {len : Nat} {x : Int32} (y : Int32) {off : Int} (tgt : Nat) (hx : x = y) (hd : decode M.2.1 pc = .ok (.tableswitch dflt lo hi offs, len)) (h1 : ¬ y.toInt < lo) (h2 : ¬ hi < y.toInt) (ho : offs[(y.toInt - lo).toNat]? = some off) (ht : (pc : Int) + off = (tgt : Int)) (k : ZW S M r X tgt L st σ) : ZW S M r X pc L (zI x :: st) σ := by
  subst hx
  exact fun H locs ls hP hS hL => lv_tableIn hO.2.1 hO.2.2.1 hd h1 h2 ho ht (k H locs ls hP hS hL)
theorem zl_look (hO : zO S M X) {dflt : Int} {ps : Array (Int × Int)} {len : Nat} {x : Int32} {off : Int} (tgt : Nat) (hd : decode M.2.1 pc = .ok (.lookupswitch dflt ps, len)) (hp : (ps.toList.zip (ps.toList.drop 1)).all (fun (a, next) => a.1 < next.1) = true) (ho : Op.lookupswitch.offset ps.toList dflt x.toInt = off) (ht : (pc : Int) + off = (tgt : Int)) (k : ZW S M r X tgt L st σ) : ZW S M r X pc L (zI x :: st) σ := fun H locs ls hP hS hL => lv_lookup hO.2.1 hO.2.2.1 hd hp ho ht (k H locs ls hP hS hL)
/-- what the words say of a field: read, and written -/
def zFl (G : List Cond) (own : String) (idx ci i : Nat) : Prop := ∃ (C : String) (T : u_T) (N : Nat), vwCl[ci]? = some (C, T, N) ∧ (∀ w ∈ u_ws C T N, w ∈ G) ∧ i < N ∧ Cond.fieldLink own idx (T i).1 (T i).2.1 (T i).2.2.1 ∈ G
def zFp (G : List Cond) (own : String) (idx ci i : Nat) (ty : FieldType) : Prop := ∃ (C : String) (T : u_T) (N : Nat) (tf : Nat → FieldType), vwCl[ci]? = some (C, T, N) ∧ (∀ w ∈ u_ws C T N, w ∈ G) ∧ i < N ∧ Cond.fieldLink own idx (T i).1 (T i).2.1 (T i).2.2.1 ∈ G ∧ (∀ k, k < N → parseFieldDescriptor (T k).2.2.1 = some (tf k)) ∧ (∀ a, a < N → ∀ b, b < N → a ≠ b → (T a).2.1 ≠ (T b).2.1) ∧ (T i).2.2.2 = false ∧ parseFieldDescriptor (T i).2.2.1 = some ty
theorem zl_geti (hO : zO S M X) {k p i ci idx n : Nat} {fl : List (Option (Nat × Bool))} (hd : decode M.2.1 pc = .ok (.getfield idx, 3)) (hF : zFl S.2.2.2.1 M.1.cls idx ci i) (hY : S.2.1[k]? = some (n, .inl (ci, fl))) (hp : p < n) (hf : fl[i]? = some none) (kk : ZW S M r X (pc + 3) L (zI (σ k p i) :: st) σ) : ZW S M r X pc L (zR k p :: st) σ := by
  intro H locs ls hP hS hL
  obtain ⟨C, T, N, hc, hin, hi, hlink⟩ := hF
  obtain ⟨q, -, hq⟩ := zw_at (ad := S.2.2.2.2.2.2) (cA := S.2.2.2.2.2.1) (σ := σ) hY hp
  exact va_get (fs := zf S.2.2.2.2.2.2 (σ k p) p fl) (v := .int (σ k p i)) hO.2.1 hO.2.2.1 hO.2.2.2.2.2.1 hin hO.2.2.2.2.1 hO.2.2.2.2.2.2.1 hP q hq hc i hi (hO.2.2.2.2.2.1 _ hlink) (fun _ h => h) (zf_at hf) hd (kk H locs ls hP hS hL)
theorem zl_getr (hO : zO S M X) {k p i ci idx n : Nat} {q : Nat × Bool} {fl : List (Option (Nat × Bool))} (hd : decode M.2.1 pc = .ok (.getfield idx, 3)) (hF : zFl S.2.2.2.1 M.1.cls idx ci i) (hY : S.2.1[k]? = some (n, .inl (ci, fl))) (hp : p < n) (hf : fl[i]? = some (some q)) (kk : ZW S M r X (pc + 3) L (zR q.1 (if q.2 then p else 0) :: st) σ) : ZW S M r X pc L (zR k p :: st) σ := by
  intro H locs ls hP hS hL
  obtain ⟨C, T, N, hc, hin, hi, hlink⟩ := hF
  obtain ⟨q0, -, hq⟩ := zw_at (ad := S.2.2.2.2.2.2) (cA := S.2.2.2.2.2.1) (σ := σ) hY hp
  exact va_get (fs := zf S.2.2.2.2.2.2 (σ k p) p fl) hO.2.1 hO.2.2.1 hO.2.2.2.2.2.1 hin hO.2.2.2.2.1 hO.2.2.2.2.2.2.1 hP q0 hq hc i hi (hO.2.2.2.2.2.1 _ hlink) (fun _ h => h) (zf_atR hf) hd (kk H locs ls hP hS hL)
theorem zl_getS (hO : zO S M X) {k p i ci idx n k' : Nat} {fl : List (Option (Nat × Bool))} (hd : decode M.2.1 pc = .ok (.getfield idx, 3)) (hF : zFl S.2.2.2.1 M.1.cls idx ci i) (hY : S.2.1[k]? = some (n, .inl (ci, fl))) (hp : p < n) (hf : fl[i]? = some (some (k', true))) (kk : ZW S M r X (pc + 3) L (zR k' p :: st) σ) : ZW S M r X pc L (zR k p :: st) σ := zl_getr hO hd hF hY hp hf kk
theorem zl_get0 (hO : zO S M X) {k p i ci idx n k' : Nat} {fl : List (Option (Nat × Bool))} (hd : decode M.2.1 pc = .ok (.getfield idx, 3)) (hF : zFl S.2.2.2.1 M.1.cls idx ci i) (hY : S.2.1[k]? = some (n, .inl (ci, fl))) (hp : p < n) (hf : fl[i]? = some (some (k', false))) (kk : ZW S M r X (pc + 3) L (zR k' 0 :: st) σ) : ZW S M r X pc L (zR k p :: st) σ := zl_getr hO hd hF hY hp hf kk
theorem zl_put {ty : FieldType} (hO : zO S M X) {k p i ci idx n : Nat} {v : Int32} {fl : List (Option (Nat × Bool))} (hd : decode M.2.1 pc = .ok (.putfield idx, 3)) (hF : zFp S.2.2.2.1 M.1.cls idx ci i ty) (hn : narrow ty (.int v) = .int v) (hfit : fits ty (.int v) = true) (hY : S.2.1[k]? = some (n, .inl (ci, fl))) (hp : p < n) (hf : fl[i]? = some none) (kk : ZW S M r X (pc + 3) L st (zu σ k p i v)) : ZW S M r X pc L (zI v :: zR k p :: st) σ := by
  intro H locs ls hP hS hL
  obtain ⟨C, T, N, tf, hc, hin, hi, hlink, hty, hnm, hfin, hd2⟩ := hF
  obtain ⟨q, hq0, hq⟩ := zw_at (ad := S.2.2.2.2.2.2) (cA := S.2.2.2.2.2.1) (σ := σ) hY hp
  have hlen : i < (zf S.2.2.2.2.2.2 (σ k p) p fl).length := by
    have := (List.getElem?_eq_some_iff.mp hf).1
    simpa [zf] using this
  refine va_put (ty := ty) (v := .int v) (fs := zf S.2.2.2.2.2.2 (σ k p) p fl) hO.2.1 hO.2.2.1 hO.2.2.2.2.2.1 hin tf hty hnm hO.2.2.2.2.1 hO.2.2.2.2.2.2.1 hP (zD hO.1 σ) hS q hq hc i hi (hO.2.2.2.2.2.1 _ hlink) (fun _ h => h) hfin hd2 hn hfit hlen hd (fun H1 locs1 hP1 _ hS1 => kk H1 locs1 ls ?_ hS1 hL)
  have e1 := zw_set (ad := S.2.2.2.2.2.2) (cA := S.2.2.2.2.2.1) (σ := σ) (j := i) (v := v) hO.1.2.1 hq0
  show va_P _ _ (zw _ _ _ (zu σ k p i v)) H1
  rw [← e1]
  have e2 : ze S.2.2.2.2.2.2 S.2.2.2.2.2.1 (zu σ k p i v) k p (.inl (ci, fl)) = .inr (ci, (zf S.2.2.2.2.2.2 (σ k p) p fl).set i (.int v)) := by
    rw [zf_set hf]
    show Sum.inr (ci, zf _ (zu σ k p i v k p) p fl) = _
    rw [zu_s]
  rw [e2]
  exact hP1
theorem zl_puti (hO : zO S M X) {k p i ci idx n : Nat} {v : Int32} {fl : List (Option (Nat × Bool))} (hd : decode M.2.1 pc = .ok (.putfield idx, 3)) (hF : zFp S.2.2.2.1 M.1.cls idx ci i .int) (hY : S.2.1[k]? = some (n, .inl (ci, fl))) (hp : p < n) (hf : fl[i]? = some none) (kk : ZW S M r X (pc + 3) L st (zu σ k p i v)) : ZW S M r X pc L (zI v :: zR k p :: st) σ := zl_put hO hd hF rfl rfl hY hp hf kk
theorem zl_putz (hO : zO S M X) {k p i ci idx n : Nat} {v : Int32} {fl : List (Option (Nat × Bool))} (hd : decode M.2.1 pc = .ok (.putfield idx, 3)) (hb : zb v = true) (hF : zFp S.2.2.2.1 M.1.cls idx ci i .boolean) (hY : S.2.1[k]? = some (n, .inl (ci, fl))) (hp : p < n) (hf : fl[i]? = some none) (kk : ZW S M r X (pc + 3) L st (zu σ k p i v)) : ZW S M r X pc L (zI v :: zR k p :: st) σ := by
  rcases zb_or hb with rfl | rfl
  · exact zl_put hO hd hF rfl rfl hY hp hf kk
  · exact zl_put hO hd hF rfl rfl hY hp hf kk
theorem zty_at {cA : Nat → ClassId} {TY : List FieldType} {t : Nat} {ty : FieldType} (h : TY[t]? = some ty) : (zty cA TY)[t]? = some (cA t, ty) := by
  simp [zty, List.getElem?_mapIdx, h]
theorem zl_iald (hO : zO S M X) {k p n t len : Nat} {i : Int32} (hd : decode M.2.1 pc = .ok (.iaload, 1)) (hY : S.2.1[k]? = some (n, .inr (len, t, none))) (hT : S.2.2.1[t]? = some .int) (hp : p < n) (hi : zi i len = true) (kk : ZW S M r X (pc + 1) L (zI (σ k p i.toNatClampNeg) :: st) σ) : ZW S M r X pc L (zI i :: zR k p :: st) σ := by
  intro H locs ls hP hS hL
  obtain ⟨q, -, hq⟩ := zw_at (ad := S.2.2.2.2.2.2) (cA := S.2.2.2.2.2.1) (σ := σ) hY hp
  exact va_iald hO.2.1 hO.2.2.1 hO.2.2.2.2.2.2.1 hP q t hq (zty_at hT) (zi_in hi) hd (kk H locs ls hP hS hL)
theorem zl_zald (hO : zO S M X) {k p n t len : Nat} {i : Int32} (hd : decode M.2.1 pc = .ok (.baload, 1)) (hY : S.2.1[k]? = some (n, .inr (len, t, none))) (hT : S.2.2.1[t]? = some .boolean) (hp : p < n) (hi : zi i len = true) (kk : ZW S M r X (pc + 1) L (zI (σ k p i.toNatClampNeg) :: st) σ) : ZW S M r X pc L (zI i :: zR k p :: st) σ := by
  intro H locs ls hP hS hL
  obtain ⟨q, -, hq⟩ := zw_at (ad := S.2.2.2.2.2.2) (cA := S.2.2.2.2.2.1) (σ := σ) hY hp
  exact va_zald hO.2.1 hO.2.2.1 hO.2.2.2.2.2.2.1 hP q t hq (zty_at hT) (zi_in hi) hd (kk H locs ls hP hS hL)
theorem zl_aald (hO : zO S M X) {k p n t len k' : Nat} {C : String} {i : Int32} (hd : decode M.2.1 pc = .ok (.aaload, 1)) (hY : S.2.1[k]? = some (n, .inr (len, t, some k'))) (hT : S.2.2.1[t]? = some (.object C)) (hp : p < n) (hi : zi i len = true) (kk : ZW S M r X (pc + 1) L (zR k' i.toNatClampNeg :: st) σ) : ZW S M r X pc L (zI i :: zR k p :: st) σ := by
  intro H locs ls hP hS hL
  obtain ⟨q, -, hq⟩ := zw_at (ad := S.2.2.2.2.2.2) (cA := S.2.2.2.2.2.1) (σ := σ) hY hp
  exact va_aldq hO.2.1 hO.2.2.1 hO.2.2.2.2.2.2.1 hP q t hq (zty_at hT) (zi_in hi) hd (kk H locs ls hP hS hL)
theorem zl_alen (hO : zO S M X) {k p n t len : Nat} {o : Option Nat} {ty : FieldType} {v : Int32} (hd : decode M.2.1 pc = .ok (.arraylength, 1)) (hY : S.2.1[k]? = some (n, .inr (len, t, o))) (hT : S.2.2.1[t]? = some ty) (hp : p < n) (hv : Int32.ofNat len = v) (kk : ZW S M r X (pc + 1) L (zI v :: st) σ) : ZW S M r X pc L (zR k p :: st) σ := by
  intro H locs ls hP hS hL
  obtain ⟨q, -, hq⟩ := zw_at (ad := S.2.2.2.2.2.2) (cA := S.2.2.2.2.2.1) (σ := σ) hY hp
  cases o with
  | none => exact va_alen hO.2.1 hO.2.2.1 hO.2.2.2.2.2.2.1 hP q t hq (zty_at hT) hv hd (kk H locs ls hP hS hL)
  | some k' => exact va_alen hO.2.1 hO.2.2.1 hO.2.2.2.2.2.2.1 hP q t hq (zty_at hT) hv hd (kk H locs ls hP hS hL)
theorem zl_iast (hO : zO S M X) {k p n t len : Nat} {i v : Int32} (hd : decode M.2.1 pc = .ok (.iastore, 1)) (hY : S.2.1[k]? = some (n, .inr (len, t, none))) (hT : S.2.2.1[t]? = some .int) (hp : p < n) (hi : zi i len = true) (kk : ZW S M r X (pc + 1) L st (zu σ k p i.toNatClampNeg v)) : ZW S M r X pc L (zI v :: zI i :: zR k p :: st) σ := by
  intro H locs ls hP hS hL
  obtain ⟨q, hq0, hq⟩ := zw_at (ad := S.2.2.2.2.2.2) (cA := S.2.2.2.2.2.1) (σ := σ) hY hp
  refine va_iast hO.2.1 hO.2.2.1 hO.2.2.2.2.2.2.1 hP (zD hO.1 σ) hS q t hq (zty_at hT) (zi_in hi) hd (fun H1 locs1 hP1 _ hS1 => kk H1 locs1 ls ?_ hS1 hL)
  have e1 := zw_set (ad := S.2.2.2.2.2.2) (cA := S.2.2.2.2.2.1) (σ := σ) (j := i.toNatClampNeg) (v := v) hO.1.2.1 hq0
  show va_P _ _ (zw _ _ _ (zu σ k p i.toNatClampNeg v)) H1
  rw [← e1]
  have e2 : ze S.2.2.2.2.2.2 S.2.2.2.2.2.1 (zu σ k p i.toNatClampNeg v) k p (.inr (len, t, none)) = .inl (S.2.2.2.2.2.1 t, len, .inl (upd (σ k p) i.toNatClampNeg v)) := by
    show Sum.inl (S.2.2.2.2.2.1 t, len, Sum.inl (zu σ k p i.toNatClampNeg v k p)) = _
    rw [zu_s]
  rw [e2]
  exact hP1
theorem zb_nar {v : Int32} (h : zb v = true) : vp_nar .boolean v = v := by
  rcases zb_or h with rfl | rfl <;> rfl
theorem zl_zast (hO : zO S M X) {k p n t len : Nat} {i v : Int32} (hd : decode M.2.1 pc = .ok (.bastore, 1)) (hb : zb v = true) (hY : S.2.1[k]? = some (n, .inr (len, t, none))) (hT : S.2.2.1[t]? = some .boolean) (hp : p < n) (hi : zi i len = true) (kk : ZW S M r X (pc + 1) L st (zu σ k p i.toNatClampNeg v)) : ZW S M r X pc L (zI v :: zI i :: zR k p :: st) σ := by
  intro H locs ls hP hS hL
  obtain ⟨q, hq0, hq⟩ := zw_at (ad := S.2.2.2.2.2.2) (cA := S.2.2.2.2.2.1) (σ := σ) hY hp
  refine va_zast hO.2.1 hO.2.2.1 hO.2.2.2.2.2.2.1 hP (zD hO.1 σ) hS q t hq (zty_at hT) (zi_in hi) hd (fun H1 locs1 hP1 _ hS1 => kk H1 locs1 ls ?_ hS1 hL)
  rw [zb_nar hb] at hP1
  have e1 := zw_set (ad := S.2.2.2.2.2.2) (cA := S.2.2.2.2.2.1) (σ := σ) (j := i.toNatClampNeg) (v := v) hO.1.2.1 hq0
  show va_P _ _ (zw _ _ _ (zu σ k p i.toNatClampNeg v)) H1
  rw [← e1]
  have e2 : ze S.2.2.2.2.2.2 S.2.2.2.2.2.1 (zu σ k p i.toNatClampNeg v) k p (.inr (len, t, none)) = .inl (S.2.2.2.2.2.1 t, len, .inl (upd (σ k p) i.toNatClampNeg v)) := by
    show Sum.inl (S.2.2.2.2.2.1 t, len, Sum.inl (zu σ k p i.toNatClampNeg v k p)) = _
    rw [zu_s]
  rw [e2]
  exact hP1
theorem zK_warm {U t : State} (h : zK S U) (hW : U.WarmedH t.vm) : zK S t := va_K.moved hW.alike h
theorem zl_iret (hO : zO S M X) {v : Int32} (hd : decode M.2.1 pc = .ok (.ireturn, 1)) (hr : M.2.2.2.1 = some .int) (h : (σ, some (zI v)) = r) : ZW S M r X pc L [zI v] σ := by
  subst h
  intro H locs ls hP hS hL
  exact W.iret (v := v) hO.2.1 hO.2.2.1 (hO.2.2.2.2.2.2.2.1.trans hr) (fun t ht hW => ⟨⟨rfl, by rw [ht]; exact hP, zK_warm hO.2.2.2.2.2.2.1 hW⟩, hS.F ht⟩) hS.2.2 hd (hlocks := hO.2.2.2.2.2.2.2.2)
theorem zl_zret (hO : zO S M X) {v : Int32} (hd : decode M.2.1 pc = .ok (.ireturn, 1)) (hr : M.2.2.2.1 = some .boolean) (hb : zb v = true) (h : (σ, some (zI v)) = r) : ZW S M r X pc L [zI v] σ := by
  subst h
  intro H locs ls hP hS hL
  exact W.zret (v := v) (ty := .boolean) hO.2.1 hO.2.2.1 (hO.2.2.2.2.2.2.2.1.trans hr) (by rcases zb_or hb with rfl | rfl <;> rfl) (fun t ht hW => ⟨⟨rfl, by rw [ht]; exact hP, zK_warm hO.2.2.2.2.2.2.1 hW⟩, hS.F ht⟩) hS.2.2 hd (hlocks := hO.2.2.2.2.2.2.2.2)
theorem zl_vret (hO : zO S M X) (hd : decode M.2.1 pc = .ok (.return_, 1)) (hr : M.2.2.2.1 = none) (h : (σ, none) = r) : ZW S M r X pc L [] σ := by
  subst h
  intro H locs ls hP hS hL
  exact W.vret hO.2.1 hO.2.2.1 (hO.2.2.2.2.2.2.2.1.trans hr) (fun t ht hW => ⟨⟨rfl, by rw [ht]; exact hP, zK_warm hO.2.2.2.2.2.2.1 hW⟩, hS.F ht⟩) hS.2.2 hd (hlocks := hO.2.2.2.2.2.2.2.2)
theorem zl_aret (hO : zO S M X) {C : String} {o : Option (Nat × Nat)} (hd : decode M.2.1 pc = .ok (.areturn, 1)) (hr : M.2.2.2.1 = some (.object C)) (h : (σ, some (Sum.inr (Sum.inr o))) = r) : ZW S M r X pc L [Sum.inr (Sum.inr o)] σ := by
  subst h
  intro H locs ls hP hS hL
  exact W.aret (v := zv S.2.2.2.2.2.2 (Sum.inr (Sum.inr o))) hO.2.1 hO.2.2.1 (hO.2.2.2.2.2.2.2.1.trans hr) (Or.inl ⟨C, rfl⟩) (by cases o with
    | none => exact Or.inl rfl
    | some q => exact Or.inr ⟨_, rfl⟩) (fun t ht hW => ⟨⟨rfl, by rw [ht]; exact hP, zK_warm hO.2.2.2.2.2.2.1 hW⟩, hS.F ht⟩) hS.2.2 hd (hlocks := hO.2.2.2.2.2.2.2.2)
/-- behind a call -/
theorem zl_run {σ' : zS} {rv : Option zV} {H : Heap} {locs : List Loc} {ls : Array Slot} {st0 rest : List Value} {a : Array Value} (hr : va_Run X.1 S.1 X.2.1 M.2.2.2.2 X.2.2.1 X.2.2.2.1 X.2.2.2.2.1 X.2.2.2.2.2.1 X.2.2.2.2.2.2.1 X.2.2.2.2.2.2.2 H locs 0 0 0 0 (F0 X.2.2.2.1 pc ls st0) rest (zQ S (σ', rv) a) (zA S)) (hS : va_S (zA S) X.2.2.1.heap H locs) {Q : State → Prop}
    (kk : ∀ (H1 : Heap) (locs1 : List Loc), zP S σ' H1 → va_S (zA S) X.2.2.1.heap H1 locs1 → W X.1 S.1 X.2.1 M.2.2.2.2 X.2.2.1 X.2.2.2.1 X.2.2.2.2.1 X.2.2.2.2.2.1 X.2.2.2.2.2.2.1 X.2.2.2.2.2.2.2 H1 locs1 0 0 Q (F0 X.2.2.2.1 (pc + 3) ls ((rv.map (zv S.2.2.2.2.2.2)).toList ++ rest))) : W X.1 S.1 X.2.1 M.2.2.2.2 X.2.2.1 X.2.2.2.1 X.2.2.2.2.1 X.2.2.2.2.2.1 X.2.2.2.2.2.2.1 X.2.2.2.2.2.2.2 H locs 0 0 Q (F0 X.2.2.2.1 pc ls st0) := by
  intro T hT Z
  obtain ⟨v, st₀, t, T', L, h0, X', hL, e1, e2, ⟨⟨hv, hb⟩, hz, hk⟩, gs⟩ := hr T hT Z
  cases hv
  rw [h0] at hz hk
  obtain ⟨t2, a1, b1⟩ := kk T'.heap (locs ++ L) (by rw [e1]; exact hb.1)
    ⟨Nat.le_trans hS.1 (by rw [e1]; exact hz), fun q h1 h2 => by rw [e1, hk q (Nat.lt_of_lt_of_le h1 hS.1) h2]; exact hS.2.1 q h1 h2, fun q hq => by
      rcases List.mem_append.mp hq with h | h
      · exact hS.2.2 q h
      · exact hL q h⟩ T' rfl X'
  exact ⟨t2, gs t2 a1, b1⟩
theorem zB_blind (vs : List Value) (τ : zS) : FrameBlind (va_Pc vs (zB S τ)) := fun a U g mk q => by
  obtain ⟨q0, qP, qK⟩ := q
  exact ⟨q0, qP, va_K.moved (u := U) (U := U.calling g mk a) (Vm.Alike.refl U.vm) qK⟩
/-- what the words say of a call by a receiver, and of one without -/
def zCv (G : List Cond) (own : String) (idx : Nat) (M' : zMd) (n : Nat) : Prop := Cond.methodLink own idx M'.1 ∈ G ∧ Cond.instanceMethod M'.1 ∈ G ∧ Cond.selects M'.1.cls M'.1 M'.1 ∈ G ∧ Cond.initialized M'.1.cls ∈ G ∧ Cond.code M'.1 M'.2.1 M'.2.2.1 M'.2.2.2.1 ∈ G ∧ M'.1.cls ≠ "java/lang/invoke/MethodHandle" ∧ M'.1.cls ≠ "java/lang/invoke/VarHandle" ∧ (parseMethodDescriptor M'.1.desc).map (fun d => d.parameters.length) = some n
def zCs (G : List Cond) (own : String) (idx : Nat) (M' : zMd) (n : Nat) : Prop := Cond.methodLink own idx M'.1 ∈ G ∧ Cond.static M'.1 ∈ G ∧ Cond.initialized M'.1.cls ∈ G ∧ Cond.code M'.1 M'.2.1 M'.2.2.1 M'.2.2.2.1 ∈ G ∧ M'.1.cls ≠ "java/lang/invoke/MethodHandle" ∧ M'.1.cls ≠ "java/lang/invoke/VarHandle" ∧ (parseMethodDescriptor M'.1.desc).map (fun d => d.parameters.length) = some n
/-- the callee's room in the caller's -/
def zRm (M' M : zMd) : Bool := decide (M'.2.2.2.2.cells = 0 ∧ M'.2.2.2.2.slots = 0 ∧ M'.2.2.2.2.frames + 1 ≤ M.2.2.2.2.frames ∧ 8 + (M'.2.2.1 + 11) + M'.2.2.2.2.locals ≤ M.2.2.2.2.locals)
theorem zGood {M' : zMd} (hJ : zJ0 S) (hc : Cond.code M'.1 M'.2.1 M'.2.2.1 M'.2.2.2.1 ∈ S.2.2.2.1) : GoodIn S.2.2.2.1 (.code M'.1 M'.2.1 M'.2.2.1 M'.2.2.2.1 :: S.2.2.2.1) := by
  intro w hw
  rcases List.mem_cons.mp hw with rfl | h
  · exact hJ.2.2 _ hc
  · exact hJ.2.2 _ h
theorem zl_callV (hO : zO S M X) {M' : zMd} (vs : List zV) (st' : List zV) {stk : List zV} {k p n ci idx N : Nat} {T : u_T} {fl : List (Option (Nat × Bool))} {σ' : zS} {rv : Option zV} (hM : zM S M' (zR k p :: vs) σ (σ', rv)) (hd : decode M.2.1 pc = .ok (.invokevirtual idx, 3)) (hC : zCv S.2.2.2.1 M.1.cls idx M' vs.length) (hY : S.2.1[k]? = some (n, .inl (ci, fl))) (hp : p < n) (hcl : vwCl[ci]? = some (M'.1.cls, T, N)) (hR : zRm M' M = true) (hs : stk = vs.reverse ++ zR k p :: st') (hw : ((st'.map (zv S.2.2.2.2.2.2)).map fun v => v.category).sum ≤ 8)
    (kk : ZW S M r X (pc + 3) L (rv.toList ++ st') σ') : ZW S M r X pc L stk σ := by
  subst hs
  intro H locs ls hP hS hL
  obtain ⟨h1, h2, h3, h4, h5, h6, h7, h8⟩ := hC
  obtain ⟨g1, g2, g3, g4⟩ := of_decide_eq_true hR
  obtain ⟨q, -, hq⟩ := zw_at (ad := S.2.2.2.2.2.2) (cA := S.2.2.2.2.2.1) (σ := σ) hY hp
  have hts := hO.2.2.2.2.2.1
  have hG := zGood (M' := M') hO.1 h5
  refine zl_run (σ' := σ') (rv := rv) (rest := st'.map (zv S.2.2.2.2.2.2)) (a := (Value.ref (S.2.2.2.2.2.2 k p) :: vs.map (zv S.2.2.2.2.2.2)).toArray) (va_runV (cc := M.2.1) (nL := M.2.2.1) (Ts := S.2.2.2.1) (own := M.1.cls) (C := M'.1.cls) (b := S.2.2.2.2.2.2 k p) (As := vs.map (zv S.2.2.2.2.2.2)) (n := vs.length) (mc := 0) (ms := 0) (index := idx) ⟨hO.2.1, hO.2.2.1, hO.2.2.2.1, hO.2.2.2.2.1, hts⟩ hM ⟨callB_of vs.length hts hG rfl g1 g2 (hts _ h4) (hts _ h1) ⟨h6, h7, h8⟩ ⟨g3, g4⟩, hts _ h2, hts _ h3⟩ ⟨zB_blind _ _, va_recv hO.2.2.2.2.2.2.1 hP hcl hq, fun U hU hW => ⟨rfl, by rw [hU]; exact hP, zK_warm hO.2.2.2.2.2.2.1 hW⟩⟩ rfl (by simp) hL.1 (by simp [zv]) (lv_room hw) hd ⟨Nat.zero_le _, Nat.zero_le _⟩) hS (fun H1 locs1 hP1 hS1 => ?_)
  have := kk H1 locs1 ls hP1 hS1 hL
  cases rv with
  | none => exact this
  | some v => exact this
theorem zl_callS (hO : zO S M X) {M' : zMd} (vs : List zV) (st' : List zV) {stk : List zV} {idx : Nat} {σ' : zS} {rv : Option zV} (hM : zM S M' vs σ (σ', rv)) (hd : decode M.2.1 pc = .ok (.invokestatic idx, 3)) (hC : zCs S.2.2.2.1 M.1.cls idx M' vs.length) (hR : zRm M' M = true) (hs : stk = vs.reverse ++ st') (hw : ((st'.map (zv S.2.2.2.2.2.2)).map fun v => v.category).sum ≤ 8)
    (kk : ZW S M r X (pc + 3) L (rv.toList ++ st') σ') : ZW S M r X pc L stk σ := by
  subst hs
  intro H locs ls hP hS hL
  obtain ⟨h1, h2, h4, h5, h6, h7, h8⟩ := hC
  obtain ⟨g1, g2, g3, g4⟩ := of_decide_eq_true hR
  have hts := hO.2.2.2.2.2.1
  have hG := zGood (M' := M') hO.1 h5
  refine zl_run (σ' := σ') (rv := rv) (rest := st'.map (zv S.2.2.2.2.2.2)) (a := (vs.map (zv S.2.2.2.2.2.2)).toArray) (va_runS (cc := M.2.1) (nL := M.2.2.1) (Ts := S.2.2.2.1) (own := M.1.cls) (As := vs.map (zv S.2.2.2.2.2.2)) (n := vs.length) (mc := 0) (ms := 0) (index := idx) ⟨hO.2.1, hO.2.2.1, hO.2.2.2.1, hO.2.2.2.2.1, hts⟩ hM ⟨callB_of vs.length hts hG rfl g1 g2 (hts _ h4) (hts _ h1) ⟨h6, h7, h8⟩ ⟨g3, g4⟩, hts _ h2⟩ ⟨zB_blind _ _, fun U hU hW => ⟨rfl, by rw [hU]; exact hP, zK_warm hO.2.2.2.2.2.2.1 hW⟩⟩ rfl (by simp) hL.1 (by simp) (lv_room hw) hd ⟨Nat.zero_le _, Nat.zero_le _⟩) hS (fun H1 locs1 hP1 hS1 => ?_)
  have := kk H1 locs1 ls hP1 hS1 hL
  cases rv with
  | none => exact this
  | some v => exact this
theorem zl_callVi (hO : zO S M X) {M' : zMd} (vs : List zV) (st' : List zV) {stk : List zV} {k p n ci idx N : Nat} {T : u_T} {fl : List (Option (Nat × Bool))} {σ' : zS} {v : zV} (hM : zM S M' (zR k p :: vs) σ (σ', some v)) (hd : decode M.2.1 pc = .ok (.invokevirtual idx, 3)) (hC : zCv S.2.2.2.1 M.1.cls idx M' vs.length) (hY : S.2.1[k]? = some (n, .inl (ci, fl))) (hp : p < n) (hcl : vwCl[ci]? = some (M'.1.cls, T, N)) (hR : zRm M' M = true) (hs : stk = vs.reverse ++ zR k p :: st') (hw : ((st'.map (zv S.2.2.2.2.2.2)).map fun v => v.category).sum ≤ 8)
    (kk : ZW S M r X (pc + 3) L (v :: st') σ') : ZW S M r X pc L stk σ := zl_callV hO vs st' hM hd hC hY hp hcl hR hs hw kk
theorem zl_callVv (hO : zO S M X) {M' : zMd} (vs : List zV) (st' : List zV) {stk : List zV} {k p n ci idx N : Nat} {T : u_T} {fl : List (Option (Nat × Bool))} {σ' : zS} (hM : zM S M' (zR k p :: vs) σ (σ', none)) (hd : decode M.2.1 pc = .ok (.invokevirtual idx, 3)) (hC : zCv S.2.2.2.1 M.1.cls idx M' vs.length) (hY : S.2.1[k]? = some (n, .inl (ci, fl))) (hp : p < n) (hcl : vwCl[ci]? = some (M'.1.cls, T, N)) (hR : zRm M' M = true) (hs : stk = vs.reverse ++ zR k p :: st') (hw : ((st'.map (zv S.2.2.2.2.2.2)).map fun v => v.category).sum ≤ 8)
    (kk : ZW S M r X (pc + 3) L st' σ') : ZW S M r X pc L stk σ := zl_callV hO vs st' hM hd hC hY hp hcl hR hs hw kk
theorem zl_callSi (hO : zO S M X) {M' : zMd} (vs : List zV) (st' : List zV) {stk : List zV} {idx : Nat} {σ' : zS} {v : zV} (hM : zM S M' vs σ (σ', some v)) (hd : decode M.2.1 pc = .ok (.invokestatic idx, 3)) (hC : zCs S.2.2.2.1 M.1.cls idx M' vs.length) (hR : zRm M' M = true) (hs : stk = vs.reverse ++ st') (hw : ((st'.map (zv S.2.2.2.2.2.2)).map fun v => v.category).sum ≤ 8)
    (kk : ZW S M r X (pc + 3) L (v :: st') σ') : ZW S M r X pc L stk σ := zl_callS hO vs st' hM hd hC hR hs hw kk
theorem zr_i {s0 s1 : zS} {e v : Int32} (h : some (s0, e) = some (s1, v)) : (s0, some (zI e)) = (s1, some (zI v)) := by cases h; rfl
theorem zr_v {s0 s1 : zS} (h : some s0 = some s1) : (s0, (none : Option zV)) = (s1, none) := by cases h; rfl
theorem zi_lt {i : Int32} {n : Nat} (h : zi i n = true) : i.toNatClampNeg < n := Nat.not_le.mp fun q => zi_in h (Or.inr q)
def zmax (x y : Int32) : Int32 := if x < y then y else x
def zmin (x y : Int32) : Int32 := if y < x then y else x
theorem zl_mmax (hO : zO S M X) {idx : Nat} {x y : Int32} (hd : decode M.2.1 pc = .ok (.invokestatic idx, 3)) (h1 : Cond.methodLink M.1.cls idx Lib.Math.max.name ∈ S.2.2.2.1) (h2 : Cond.static Lib.Math.max.name ∈ S.2.2.2.1) (h3 : Cond.initialized "java/lang/Math" ∈ S.2.2.2.1) (h4 : Cond.code Lib.Math.max.name Lib.Math.max.code 2 (some .int) ∈ S.2.2.2.1) (hR : 1 ≤ M.2.2.2.2.frames) (hw : ((st.map (zv S.2.2.2.2.2.2)).map fun v => v.category).sum + 13 ≤ M.2.2.2.2.locals)
    (kk : ZW S M r X (pc + 3) L (zI (zmax x y) :: st) σ) : ZW S M r X pc L (zI y :: zI x :: st) σ := fun H locs ls hP hS hL => va_mmax hO.2.1 hO.2.2.1 (hO.2.2.2.1.trans hL.1.symm) hO.2.2.2.2.1 (hO.2.2.2.2.2.1 _ h1) (hO.2.2.2.2.2.1 _ h2) (hO.2.2.2.2.2.1 _ h3) (hO.2.2.2.2.2.1 _ h4) hR hw (Nat.zero_le _) (Nat.zero_le _) hd (kk H locs ls hP hS hL)
theorem zl_mmin (hO : zO S M X) {idx : Nat} {x y : Int32} (hd : decode M.2.1 pc = .ok (.invokestatic idx, 3)) (h1 : Cond.methodLink M.1.cls idx Lib.Math.min.name ∈ S.2.2.2.1) (h2 : Cond.static Lib.Math.min.name ∈ S.2.2.2.1) (h3 : Cond.initialized "java/lang/Math" ∈ S.2.2.2.1) (h4 : Cond.code Lib.Math.min.name Lib.Math.min.code 2 (some .int) ∈ S.2.2.2.1) (hR : 1 ≤ M.2.2.2.2.frames) (hw : ((st.map (zv S.2.2.2.2.2.2)).map fun v => v.category).sum + 13 ≤ M.2.2.2.2.locals)
    (kk : ZW S M r X (pc + 3) L (zI (zmin x y) :: st) σ) : ZW S M r X pc L (zI y :: zI x :: st) σ := fun H locs ls hP hS hL => va_mmin hO.2.1 hO.2.2.1 (hO.2.2.2.1.trans hL.1.symm) hO.2.2.2.2.1 (hO.2.2.2.2.2.1 _ h1) (hO.2.2.2.2.2.1 _ h2) (hO.2.2.2.2.2.1 _ h3) (hO.2.2.2.2.2.1 _ h4) hR hw (Nat.zero_le _) (Nat.zero_le _) hd (kk H locs ls hP hS hL)
end ZROWS
