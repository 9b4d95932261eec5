/-! the pure state: cells by kind and index, slots; the values; a system's layout; the world that a state is -/
abbrev zS : Type := Nat → Nat → Nat → Int32
def zu (σ : zS) (k p i : Nat) (v : Int32) : zS := fun a b => if a = k ∧ b = p then upd (σ k p) i v else σ a b
abbrev zV : Type := Int32 ⊕ Int64 ⊕ Option (Nat × Nat)
abbrev zI (x : Int32) : zV := Sum.inl x
abbrev zJ (x : Int64) : zV := Sum.inr (Sum.inl x)
abbrev zR (k p : Nat) : zV := Sum.inr (Sum.inr (some (k, p)))
abbrev zN : zV := Sum.inr (Sum.inr none)
abbrev zAd : Type := Nat → Nat → Nat
def zv (ad : zAd) : zV → Value
  | .inl x => .int x
  | .inr (.inl x) => .long x
  | .inr (.inr none) => .null
  | .inr (.inr (some q)) => .ref (ad q.1 q.2)
/-- a kind of cell: an object (its number in vwCl; its fields: a number, or a reference to a cell of a kind, with the same index or index 0), or an array (length, type's number; numbers, or references to the cells of a kind) -/
abbrev zC : Type := (Nat × List (Option (Nat × Bool))) ⊕ (Nat × Nat × Option Nat)
abbrev zY : Type := List (Nat × zC)
def zf (ad : zAd) (f : Nat → Int32) (p : Nat) (fl : List (Option (Nat × Bool))) : List Value := fl.mapIdx (fun i t => match t with
  | none => .int (f i)
  | some q => .ref (ad q.1 (if q.2 then p else 0)))
def ze (ad : zAd) (cA : Nat → ClassId) (σ : zS) (k p : Nat) : zC → va_E
  | .inl o => .inr (o.1, zf ad (σ k p) p o.2)
  | .inr (n, t, none) => .inl (cA t, n, .inl (σ k p))
  | .inr (n, t, some k') => .inl (cA t, n, .inr (.inr (.inr (.inr (fun i => some (ad k' i))))))
def zks (Y : zY) : List (Nat × Nat × zC) := (List.range Y.length).flatMap (fun k => match Y[k]? with
  | some q => (List.range q.1).map (fun p => (k, p, q.2))
  | none => [])
def zw (ad : zAd) (cA : Nat → ClassId) (Y : zY) (σ : zS) : va_W := (zks Y).map (fun q => (ad q.1 q.2.1, ze ad cA σ q.1 q.2.1 q.2.2))
def zty (cA : Nat → ClassId) (TY : List FieldType) : List (ClassId × FieldType) := TY.mapIdx (fun i t => (cA i, t))
theorem zks_mem {Y : zY} {k p : Nat} {c : zC} : (k, p, c) ∈ zks Y ↔ ∃ n, Y[k]? = some (n, c) ∧ p < n := by
  unfold zks
  rw [List.mem_flatMap]
  constructor
  · rintro ⟨k1, h1, h2⟩
    cases hY : Y[k1]? with
    | none => rw [hY] at h2; simp at h2
    | some q =>
      rw [hY] at h2
      simp only [List.mem_map, List.mem_range] at h2
      obtain ⟨p1, h3, h4⟩ := h2
      simp only [Prod.mk.injEq] at h4
      obtain ⟨rfl, rfl, rfl⟩ := h4
      exact ⟨q.1, hY, h3⟩
  · rintro ⟨n, hY, hp⟩
    refine ⟨k, List.mem_range.mpr (List.getElem?_eq_some_iff.mp hY).1, ?_⟩
    rw [hY]
    simp only [List.mem_map, List.mem_range]
    exact ⟨p, hp, rfl⟩
theorem zf_at {ad : zAd} {f : Nat → Int32} {p i : Nat} {fl : List (Option (Nat × Bool))} (h : fl[i]? = some none) : (zf ad f p fl)[i]? = some (.int (f i)) := by
  simp [zf, List.getElem?_mapIdx, h]
theorem zf_atR {ad : zAd} {f : Nat → Int32} {p i : Nat} {q : Nat × Bool} {fl : List (Option (Nat × Bool))} (h : fl[i]? = some (some q)) : (zf ad f p fl)[i]? = some (.ref (ad q.1 (if q.2 then p else 0))) := by
  simp [zf, List.getElem?_mapIdx, h]
theorem zf_set {ad : zAd} {f : Nat → Int32} {p i : Nat} {v : Int32} {fl : List (Option (Nat × Bool))} (h : fl[i]? = some none) : (zf ad f p fl).set i (.int v) = zf ad (upd f i v) p fl := by
  refine List.ext_getElem? (fun j => ?_)
  rw [List.getElem?_set]
  by_cases hj : i = j
  · subst hj
    have hl : i < (zf ad f p fl).length := by
      have := (List.getElem?_eq_some_iff.mp h).1
      simpa [zf] using this
    rw [if_pos rfl, if_pos hl, zf_at h]
    simp [upd]
  · rw [if_neg hj]
    unfold zf
    rw [List.getElem?_mapIdx, List.getElem?_mapIdx]
    cases hq : fl[j]? with
    | none => rfl
    | some t =>
      cases t with
      | none => simp [upd, Ne.symm hj]
      | some q => rfl
theorem zw_at {ad : zAd} {cA : Nat → ClassId} {Y : zY} {σ : zS} {k p n : Nat} {c : zC} (hY : Y[k]? = some (n, c)) (hp : p < n) : ∃ i : Nat, (zks Y)[i]? = some (k, p, c) ∧ (zw ad cA Y σ)[i]? = some (ad k p, ze ad cA σ k p c) := by
  obtain ⟨i, hi⟩ := List.mem_iff_getElem?.mp (zks_mem.mpr ⟨n, hY, hp⟩)
  refine ⟨i, hi, ?_⟩
  unfold zw
  rw [List.getElem?_map, hi]
  rfl
def zkey (Y : zY) : List (Nat × Nat) := (zks Y).map (fun q => (q.1, q.2.1))
theorem zks_inj {Y : zY} (hN : (zkey Y).Nodup) {i j k p : Nat} {c c' : zC} (hi : (zks Y)[i]? = some (k, p, c)) (hj : (zks Y)[j]? = some (k, p, c')) : i = j := by
  have h1 : (zkey Y)[i]? = some (k, p) := by unfold zkey; rw [List.getElem?_map, hi]; rfl
  have h2 : (zkey Y)[j]? = some (k, p) := by unfold zkey; rw [List.getElem?_map, hj]; rfl
  have hl := (List.getElem?_eq_some_iff.mp h1).1
  exact (List.getElem?_inj hl hN).mp (h1.trans h2.symm)
theorem zu_o {σ : zS} {k p i a b : Nat} {v : Int32} (h : ¬ (a = k ∧ b = p)) : zu σ k p i v a b = σ a b := by
  unfold zu; rw [if_neg h]
theorem zu_s {σ : zS} {k p i : Nat} {v : Int32} : zu σ k p i v k p = upd (σ k p) i v := by
  unfold zu; rw [if_pos ⟨rfl, rfl⟩]
theorem ze_o {ad : zAd} {cA : Nat → ClassId} {σ τ : zS} {k p : Nat} {c : zC} (h : σ k p = τ k p) : ze ad cA σ k p c = ze ad cA τ k p c := by
  unfold ze; rw [h]
theorem zw_set {ad : zAd} {cA : Nat → ClassId} {Y : zY} {σ : zS} {k p i j : Nat} {c : zC} {v : Int32} (hN : (zkey Y).Nodup) (hi : (zks Y)[i]? = some (k, p, c)) : (zw ad cA Y σ).set i (ad k p, ze ad cA (zu σ k p j v) k p c) = zw ad cA Y (zu σ k p j v) := by
  refine List.ext_getElem? (fun a => ?_)
  rw [List.getElem?_set]
  by_cases ha : i = a
  · subst ha
    have hl : i < (zw ad cA Y σ).length := by
      have := (List.getElem?_eq_some_iff.mp hi).1
      simpa [zw] using this
    rw [if_pos rfl, if_pos hl]
    unfold zw
    rw [List.getElem?_map, hi]
    rfl
  · rw [if_neg ha]
    unfold zw
    rw [List.getElem?_map, List.getElem?_map]
    cases hq : (zks Y)[a]? with
    | none => rfl
    | some q =>
      obtain ⟨k1, p1, c1⟩ := q
      show some (ad k1 p1, ze ad cA σ k1 p1 c1) = some (ad k1 p1, ze ad cA (zu σ k p j v) k1 p1 c1)
      rw [ze_o (zu_o (σ := σ) (i := j) (v := v) (fun h => ha (by obtain ⟨rfl, rfl⟩ := h; exact zks_inj hN hi hq)))]
/-- addresses: D, the arrays' kinds, the cells -/
abbrev zG : Type := va_G × (Nat → ClassId) × zAd
/-- a system: launch, layout, array types, words, addresses -/
abbrev zQS : Type := Launch × zY × List FieldType × List Cond × zG
/-- a method: name, code, locals, answer, room -/
abbrev zMd : Type := MethodName × ByteArray × Nat × Option FieldType × Room
abbrev zX : Type := Program × Env × State × MethodId × Array Value × List Frame × Method × Code
abbrev zAns : Type := zS × Option zV
def zP (S : zQS) (σ : zS) (H : Heap) : Prop := va_P S.2.2.2.2.1 vwCl (zw S.2.2.2.2.2.2 S.2.2.2.2.2.1 S.2.1 σ) H
def zK (S : zQS) (U : State) : Prop := va_K S.2.2.2.2.1 vwCl (zty S.2.2.2.2.2.1 S.2.2.1) U
def zB (S : zQS) (σ : zS) (U : State) : Prop := zP S σ U.heap ∧ zK S U
def zA (S : zQS) : Nat → Prop := fun q => ∃ (k p n : Nat) (c : zC), S.2.1[k]? = some (n, c) ∧ p < n ∧ q = S.2.2.2.2.2.2 k p
/-- the addresses are apart; the layout names no cell twice; the words can go with a call -/
def zJ0 (S : zQS) : Prop := (∀ (k p n : Nat) (c : zC) (k' p' n' : Nat) (c' : zC), S.2.1[k]? = some (n, c) → p < n → S.2.1[k']? = some (n', c') → p' < n' → S.2.2.2.2.2.2 k p = S.2.2.2.2.2.2 k' p' → k = k' ∧ p = p') ∧ (zkey S.2.1).Nodup ∧ GoodIn S.2.2.2.1 S.2.2.2.1
theorem zD {S : zQS} (h : zJ0 S) (σ : zS) : va_D (zA S) (zw S.2.2.2.2.2.2 S.2.2.2.2.2.1 S.2.1 σ) := by
  have at' : ∀ (i : Nat) (q : Nat × va_E), (zw S.2.2.2.2.2.2 S.2.2.2.2.2.1 S.2.1 σ)[i]? = some q → ∃ (k p n : Nat) (c : zC), (zks S.2.1)[i]? = some (k, p, c) ∧ S.2.1[k]? = some (n, c) ∧ p < n ∧ q.1 = S.2.2.2.2.2.2 k p := by
    intro i q hq
    unfold zw at hq
    rw [List.getElem?_map] at hq
    cases hk : (zks S.2.1)[i]? with
    | none => rw [hk] at hq; cases hq
    | some x =>
      obtain ⟨k, p, c⟩ := x
      rw [hk] at hq
      obtain ⟨n, h1, h2⟩ := zks_mem.mp (List.mem_of_getElem? hk)
      refine ⟨k, p, n, c, rfl, h1, h2, ?_⟩
      cases hq
      rfl
  refine ⟨fun i j a b ha hb hab => ?_, fun i q hq => ?_⟩
  · obtain ⟨k, p, n, c, h1, h2, h3, h4⟩ := at' i a ha
    obtain ⟨k', p', n', c', g1, g2, g3, g4⟩ := at' j b hb
    obtain ⟨rfl, rfl⟩ := h.1 k p n c k' p' n' c' h2 h3 g2 g3 (h4.symm.trans (hab.trans g4))
    exact zks_inj h.2.1 h1 g1
  · obtain ⟨k, p, n, c, -, h2, h3, h4⟩ := at' i q hq
    exact ⟨k, p, n, c, h2, h3, h4⟩
def zQ (S : zQS) (r : zAns) : Array Value → State → Outcome → State → Prop := fun _ st oc t => (oc = .returned (r.2.map (zv S.2.2.2.2.2.2)) ∧ zB S r.1 t) ∧ va_F (zA S) st t
/-- the contract of a method: from the state σ, with these arguments, to that answer -/
def zM (S : zQS) (M : zMd) (vs : List zV) (σ : zS) (r : zAns) : Prop := Met S.1 M.1 (.code M.1 M.2.1 M.2.2.1 M.2.2.2.1 :: S.2.2.2.1) M.2.2.2.2 (va_Pc (vs.map (zv S.2.2.2.2.2.2)) (zB S σ)) (zQ S r) 0 0 (zA S)
/-- locals -/
def zL (ad : zAd) (ls : Array Slot) (nL : Nat) (L : List (Option zV)) : Prop := ls.size = nL ∧ lv_wf ls ∧ ∀ (i : Nat) (v : zV), L[i]? = some (some v) → ls[i]? = some (.val (zv ad v))
def zO (S : zQS) (M : zMd) (X : zX) : Prop := zJ0 S ∧ X.1.tables.exec = Jvm.exec ∧ X.2.2.2.2.2.2.2.code = M.2.1 ∧ X.2.2.2.2.2.2.2.maxLocals = M.2.2.1 ∧ X.2.2.1.vm.findClass M.1.cls = some X.2.2.2.1.cls ∧ (∀ w ∈ S.2.2.2.1, w.before X.2.2.2.2.1 X.2.2.1 = true) ∧ zK S X.2.2.1 ∧ X.2.2.2.2.2.2.1.sig.returnType = M.2.2.2.1 ∧ X.2.2.2.2.2.2.1.locks = false
/-- the judgement: from here the method comes to the answer r -/
def ZW (S : zQS) (M : zMd) (r : zAns) (X : zX) (pc : Nat) (L : List (Option zV)) (st : List zV) (σ : zS) : Prop :=
  ∀ (H : Heap) (locs : List Loc) (ls : Array Slot), zP S σ H → va_S (zA S) X.2.2.1.heap H locs → zL S.2.2.2.2.2.2 ls M.2.2.1 L →
    W X.1 S.1 X.2.1 M.2.2.2.2 X.2.2.1 X.2.2.2.1 X.2.2.2.2.1 X.2.2.2.2.2.1 X.2.2.2.2.2.2.1 X.2.2.2.2.2.2.2 H locs 0 0 (MQ X.2.2.2.2.2.1 (zQ S r) X.2.2.2.2.1 X.2.2.1 0 0 (zA S)) (F0 X.2.2.2.1 pc ls (st.map (zv S.2.2.2.2.2.2)))
def zc1 : zV → Bool
  | .inr (.inl _) => false
  | _ => true
theorem zc1_cat {ad : zAd} {v : zV} (h : zc1 v = true) : (zv ad v).category = 1 := by
  rcases v with x | x | x
  · rfl
  · cases h
  · cases x <;> rfl
theorem zargs_mem {ad : zAd} : ∀ (vs : List zV) (j i : Nat) (v : zV), vs.all zc1 = true → vs[i]? = some v → (j + i, zv ad v) ∈ lv_args j (vs.map (zv ad)) := by
  intro vs
  induction vs with
  | nil => intro j i v _ h; simp at h
  | cons a r ih =>
    intro j i v h1 h2
    simp only [List.all_cons, Bool.and_eq_true] at h1
    have hc : ¬ (zv ad a).category = 2 := by rw [zc1_cat h1.1]; decide
    show (j + i, zv ad v) ∈ (j, zv ad a) :: lv_args (if (zv ad a).category = 2 then j + 2 else j + 1) (r.map (zv ad))
    rw [if_neg hc]
    cases i with
    | zero =>
      simp at h2
      subst h2
      exact List.mem_cons_self
    | succ i =>
      have := ih (j + 1) i v h1.2 (by simpa using h2)
      rw [show j + (i + 1) = j + 1 + i by omega]
      exact List.mem_cons_of_mem _ this
theorem zsl_len {ad : zAd} : ∀ (vs : List zV), vs.all zc1 = true → (lg_sl (vs.map (zv ad))).length = vs.length := by
  intro vs
  induction vs with
  | nil => intro _; rfl
  | cons a r ih =>
    intro h1
    simp only [List.all_cons, Bool.and_eq_true] at h1
    have hc : ¬ (zv ad a).category = 2 := by rw [zc1_cat h1.1]; decide
    have := ih h1.2
    simp only [lg_sl, List.map_cons, List.flatMap_cons, if_neg hc, List.length_append, List.length_cons, List.length_nil] at this ⊢
    omega
/-- a method's contract out of a walk in the judgement -/
theorem zMet {S : zQS} {M : zMd} {vs : List zV} {σ : zS} {r : zAns} (L0 : List (Option zV)) (hJ : zJ0 S) (hn : plainName M.1.cls = true) (hc : vs.all zc1 = true) (hl : vs.length ≤ M.2.2.1) (hL : vs.map some ++ List.replicate (M.2.2.1 - vs.length) none = L0)
    (body : ∀ X : zX, zO S M X → ZW S M r X 0 L0 [] σ) : zM S M vs σ r := by
  refine Met.ofW (cc := M.2.1) (maxL := M.2.2.1) (ret := M.2.2.2.1) hn rfl ?_
  intro p e s m args below meth c s₁ B hml hv
  obtain ⟨rfl, hP, hK⟩ := hv
  have hts := atoms_spec (ws := (.code M.1 M.2.1 M.2.2.1 M.2.2.2.1 :: S.2.2.2.1)) B.pre
  have hO : zO S M (p, e, s, m, (vs.map (zv S.2.2.2.2.2.2)).toArray, below, meth, c) := ⟨hJ, B.exec, B.bytes, hml, findClass_of_methodNamed B.named, fun w h => hts w (List.mem_cons_of_mem _ h), hK, B.returns, B.notSynchronized⟩
  have h2 := lv_entry (vs.map (zv S.2.2.2.2.2.2)) (n := M.2.2.1) (by rw [zsl_len vs hc]; exact hl)
  rw [lg_entry_eq]
  refine body _ hO s.heap [] _ hP va_S.rf ⟨h2.1, h2.2.1, fun i v hi => ?_⟩
  have hv : vs[i]? = some v := by
    rw [← hL, List.getElem?_append] at hi
    split at hi
    · rw [List.getElem?_map] at hi
      cases hq : vs[i]? with
      | none => rw [hq] at hi; cases hi
      | some u => rw [hq] at hi; cases hi; rfl
    · rw [List.getElem?_replicate] at hi
      split at hi <;> cases hi
  have h3 := zargs_mem (ad := S.2.2.2.2.2.2) vs 0 i v hc hv
  rw [Nat.zero_add] at h3
  exact h2.2.2 _ h3
