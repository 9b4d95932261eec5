/-! the start: the two objects are made; then the loop -/
theorem zat_q {D : va_G} {cl : List vw_C} {a n : Nat} {cA : ClassId} {f g : Nat → Option Nat} {H : Heap} (h : ∀ j, j < n → f j = g j) (hP : va_at D cl (a, .inl (cA, n, .inr (.inr (.inr (.inr f))))) H) : va_at D cl (a, .inl (cA, n, .inr (.inr (.inr (.inr g))))) H := by
  have hP : H[a]? = some (arrV cA n (fun j => va_rf (f j))) := hP
  show H[a]? = some (arrV cA n (fun j => va_rf (g j)))
  rw [hP]
  unfold arrV
  congr 3
  funext j
  show va_rf (f j.val) = va_rf (g j.val)
  rw [h j.val j.isLt]
theorem zP_set {D : va_G} {cl : List vw_C} {ws : va_W} {x : Nat × va_E} {i : Nat} {H : Heap} (hP : va_P D cl ws H) (hx : va_at D cl x H) : va_P D cl (ws.set i x) H := by
  intro k q hk
  rw [List.getElem?_set] at hk
  split at hk
  · split at hk
    · cases hk; exact hx
    · cases hk
  · exact hP k q hk
def zfr (ad : zAd) (f : Nat → Int32) (p : Nat) : Nat → List (Option (Nat × Bool)) → List Value
  | _, [] => []
  | i, none :: r => .int (f i) :: zfr ad f p (i + 1) r
  | i, some q :: r => .ref (ad q.1 (if q.2 then p else 0)) :: zfr ad f p (i + 1) r
theorem zfr_at {ad : zAd} {f : Nat → Int32} {p : Nat} : ∀ (fl : List (Option (Nat × Bool))) (i j : Nat), (zfr ad f p i fl)[j]? = (fl[j]?).map (fun t => match t with
    | none => Value.int (f (i + j))
    | some q => Value.ref (ad q.1 (if q.2 then p else 0))) := by
  intro fl
  induction fl with
  | nil => intro i j; simp [zfr]
  | cons a r ih =>
    intro i j
    cases a with
    | none =>
      cases j with
      | zero => simp [zfr]
      | succ j =>
        simp only [zfr, List.getElem?_cons_succ, ih (i + 1) j]
        rw [show i + 1 + j = i + (j + 1) by omega]
    | some q =>
      cases j with
      | zero => simp [zfr]
      | succ j =>
        simp only [zfr, List.getElem?_cons_succ, ih (i + 1) j]
        rw [show i + 1 + j = i + (j + 1) by omega]
theorem zf_r {ad : zAd} {f : Nat → Int32} {p : Nat} {fl : List (Option (Nat × Bool))} : zf ad f p fl = zfr ad f p 0 fl := by
  refine List.ext_getElem? (fun j => ?_)
  rw [zfr_at]
  unfold zf
  rw [List.getElem?_mapIdx]
  cases hq : fl[j]? with
  | none => rfl
  | some t => cases t <;> simp
def zer (ad : zAd) (cA : Nat → ClassId) (σ : zS) (k p : Nat) : zC → va_E
  | .inl o => .inr (o.1, zfr ad (σ k p) p 0 o.2)
  | .inr (n, t, none) => .inl (cA t, n, .inl (σ k p))
  | .inr (n, t, some k') => .inl (cA t, n, .inr (.inr (.inr (.inr (fun i => some (ad k' i))))))
theorem ze_r {ad : zAd} {cA : Nat → ClassId} {σ : zS} {k p : Nat} {c : zC} : ze ad cA σ k p c = zer ad cA σ k p c := by
  unfold ze zer
  split
  · rw [zf_r]
  · rfl
  · rfl
def s0C : zS := fun k _ i => if k = 11 ∧ i = 16 then 2 else if k = 0 ∧ i = 7 then -1 else 0
def s0M : zS := fun k _ i => if k = 0 ∧ i = 3 then -1 else 0
abbrev ubp (u : uGK) (p : Nat) : Nat × uBP := match p with
  | 0 => u.2.2.2.1
  | 1 => u.2.2.2.2.1
  | 2 => u.2.2.2.2.2.1
  | _ => u.2.2.2.2.2.2.1
def ad1 (h : Nat) (u : uGK) : zAd := fun k p => match k with
  | 0 => h
  | 1 => u.1
  | 2 => u.2.1.1
  | 3 => u.2.1.2
  | 4 => u.2.2.1
  | 5 => u.2.2.2.2.2.2.2.1
  | 6 => u.2.2.2.2.2.2.2.2.1.1
  | 7 => u.2.2.2.2.2.2.2.2.1.2
  | 8 => u.2.2.2.2.2.2.2.2.2.1
  | 9 => u.2.2.2.2.2.2.2.2.2.2.1
  | 10 => u.2.2.2.2.2.2.2.2.2.2.2
  | 11 => (ubp u p).1
  | 12 => (ubp u p).2.2.1
  | 13 => (ubp u p).2.1
  | 14 => (ubp u p).2.2.2.1
  | 15 => (ubp u p).2.2.2.2.1
  | 16 => (ubp u p).2.2.2.2.2.1
  | 17 => (ubp u p).2.2.2.2.2.2.1
  | 18 => (ubp u p).2.2.2.2.2.2.2.1
  | 19 => (ubp u p).2.2.2.2.2.2.2.2.1
  | 20 => (ubp u p).2.2.2.2.2.2.2.2.2.1
  | 21 => (ubp u p).2.2.2.2.2.2.2.2.2.2.1
  | _ => (ubp u p).2.2.2.2.2.2.2.2.2.2.2
def ad2 (h : Nat) (u : Nat → Nat) : zAd := fun k _ => match k with
  | 0 => h
  | k + 1 => u k
def pC (k p : Nat) : Nat := match k with
  | 0 => 0
  | 1 => 1
  | 2 => 2
  | 3 => 3
  | 4 => 4
  | 5 => 53
  | 6 => 54
  | 7 => 55
  | 8 => 56
  | 9 => 57
  | 10 => 58
  | 11 => 5 + 12 * p
  | 12 => 16 + 12 * p
  | 13 => 6 + 12 * p
  | 14 => 7 + 12 * p
  | 15 => 8 + 12 * p
  | 16 => 9 + 12 * p
  | 17 => 10 + 12 * p
  | 18 => 11 + 12 * p
  | 19 => 12 + 12 * p
  | 20 => 13 + 12 * p
  | 21 => 14 + 12 * p
  | _ => 15 + 12 * p
def iC (i : Nat) : Nat × Nat := if i < 5 then (i, 0) else if i < 53 then ([11, 13, 14, 15, 16, 17, 18, 19, 20, 21, 22, 12].getD ((i - 5) % 12) 0, (i - 5) / 12) else (i - 48, 0)
theorem pC_inv : ∀ k, k < 23 → ∀ p, p < 4 → (k < 11 → p = 0) → iC (pC k p) = (k, p) := by decide +kernel
theorem pC_inj {k p k' p' : Nat} (h1 : k < 23) (h2 : p < 4) (h3 : k' < 23) (h4 : p' < 4) (h5 : k < 11 → p = 0) (h6 : k' < 11 → p' = 0) (h : pC k p = pC k' p') : k = k' ∧ p = p' := by
  have e1 := pC_inv k h1 p h2 h5
  rw [h, pC_inv k' h3 p' h4 h6] at e1
  simp only [Prod.mk.injEq] at e1
  exact ⟨e1.1.symm, e1.2.symm⟩
theorem pC_lt : ∀ k, k < 23 → ∀ p, p < 4 → (k < 11 → p = 0) → pC k p < 59 := by decide +kernel
theorem y1_ok : ∀ k, k < 23 → ∀ q, Y1[k]? = some q → q.1 = if k < 11 then 1 else 4 := by
  intro k hk q hq
  match k, hk, hq with
  | 0, _, hq => cases (show some ((1, .inl (0, [some (1, false), some (4, false), some (5, false), some (8, false), some (9, false), some (10, false), none, none, none])) : Nat × zC) = some q from hq); rfl
  | 1, _, hq => cases (show some ((1, .inl (1, [some (2, false), some (3, false)])) : Nat × zC) = some q from hq); rfl
  | 2, _, hq => cases (show some ((1, .inr (256, 0, none)) : Nat × zC) = some q from hq); rfl
  | 3, _, hq => cases (show some ((1, .inr (128, 0, none)) : Nat × zC) = some q from hq); rfl
  | 4, _, hq => cases (show some ((1, .inr (4, 1, some 11)) : Nat × zC) = some q from hq); rfl
  | 5, _, hq => cases (show some ((1, .inl (6, [some (6, false), some (7, false), none, none])) : Nat × zC) = some q from hq); rfl
  | 6, _, hq => cases (show some ((1, .inr (8, 0, none)) : Nat × zC) = some q from hq); rfl
  | 7, _, hq => cases (show some ((1, .inr (16, 0, none)) : Nat × zC) = some q from hq); rfl
  | 8, _, hq => cases (show some ((1, .inl (7, [some (1, false), some (4, false), some (5, false), none])) : Nat × zC) = some q from hq); rfl
  | 9, _, hq => cases (show some ((1, .inl (5, [some (1, false), some (4, false), none, none])) : Nat × zC) = some q from hq); rfl
  | 10, _, hq => cases (show some ((1, .inl (8, [some (1, false), none])) : Nat × zC) = some q from hq); rfl
  | 11, _, hq => cases (show some ((4, .inl (4, [some (1, false), some (13, true), none, none, none, none, none, none, none, none, some (12, true), none, none, none, none, none, none, none, none, none])) : Nat × zC) = some q from hq); rfl
  | 12, _, hq => cases (show some ((4, .inr (8, 0, none)) : Nat × zC) = some q from hq); rfl
  | 13, _, hq => cases (show some ((4, .inl (3, [some (14, true), some (15, true), some (16, true), some (17, true), some (18, true), some (19, true), none])) : Nat × zC) = some q from hq); rfl
  | 14, _, hq => cases (show some ((4, .inr (3, 0, none)) : Nat × zC) = some q from hq); rfl
  | 15, _, hq => cases (show some ((4, .inr (3, 0, none)) : Nat × zC) = some q from hq); rfl
  | 16, _, hq => cases (show some ((4, .inr (3, 0, none)) : Nat × zC) = some q from hq); rfl
  | 17, _, hq => cases (show some ((4, .inr (3, 0, none)) : Nat × zC) = some q from hq); rfl
  | 18, _, hq => cases (show some ((4, .inr (3, 0, none)) : Nat × zC) = some q from hq); rfl
  | 19, _, hq => cases (show some ((4, .inl (2, [some (20, true), some (21, true), some (22, true), none])) : Nat × zC) = some q from hq); rfl
  | 20, _, hq => cases (show some ((4, .inr (4, 0, none)) : Nat × zC) = some q from hq); rfl
  | 21, _, hq => cases (show some ((4, .inr (4, 0, none)) : Nat × zC) = some q from hq); rfl
  | 22, _, hq => cases (show some ((4, .inr (4, 0, none)) : Nat × zC) = some q from hq); rfl
theorem y1_len {k : Nat} {q : Nat × zC} (h : Y1[k]? = some q) : k < 23 := (List.getElem?_eq_some_iff.mp h).1
theorem y2_len {k : Nat} {q : Nat × zC} (h : Y2[k]? = some q) : k < 31 := (List.getElem?_eq_some_iff.mp h).1
set_option maxRecDepth 100000 in
theorem st_C0 {D : va_G} {cA : Nat → ClassId} {H : Heap} {h1 h2 : Nat} {u : uGK} {w : Nat → Nat} (hP : va_P D vwCl (wGK cA h1 u ++ wGM cA h2 w) H) : ∀ (p n : Nat) (c : zC), Y1[0]? = some (n, c) → p < n → (∃ e, (wGK cA h1 u ++ wGM cA h2 w)[pC 0 p]? = some (ad1 h1 u 0 p, e)) ∧ va_at D vwCl (ad1 h1 u 0 p, ze (ad1 h1 u) cA s0C 0 p c) H := by
  intro p n c hY hp
  cases (show some ((1, .inl (0, [some (1, false), some (4, false), some (5, false), some (8, false), some (9, false), some (10, false), none, none, none])) : Nat × zC) = some (n, c) from hY)
  match p, hp with
  | 0, _ => exact ⟨⟨_, rfl⟩, by rw [ze_r]; exact hP 0 _ rfl⟩
set_option maxRecDepth 100000 in
theorem st_C1 {D : va_G} {cA : Nat → ClassId} {H : Heap} {h1 h2 : Nat} {u : uGK} {w : Nat → Nat} (hP : va_P D vwCl (wGK cA h1 u ++ wGM cA h2 w) H) : ∀ (p n : Nat) (c : zC), Y1[1]? = some (n, c) → p < n → (∃ e, (wGK cA h1 u ++ wGM cA h2 w)[pC 1 p]? = some (ad1 h1 u 1 p, e)) ∧ va_at D vwCl (ad1 h1 u 1 p, ze (ad1 h1 u) cA s0C 1 p c) H := by
  intro p n c hY hp
  cases (show some ((1, .inl (1, [some (2, false), some (3, false)])) : Nat × zC) = some (n, c) from hY)
  match p, hp with
  | 0, _ => exact ⟨⟨_, rfl⟩, by rw [ze_r]; exact hP 1 _ rfl⟩
set_option maxRecDepth 100000 in
theorem st_C2 {D : va_G} {cA : Nat → ClassId} {H : Heap} {h1 h2 : Nat} {u : uGK} {w : Nat → Nat} (hP : va_P D vwCl (wGK cA h1 u ++ wGM cA h2 w) H) : ∀ (p n : Nat) (c : zC), Y1[2]? = some (n, c) → p < n → (∃ e, (wGK cA h1 u ++ wGM cA h2 w)[pC 2 p]? = some (ad1 h1 u 2 p, e)) ∧ va_at D vwCl (ad1 h1 u 2 p, ze (ad1 h1 u) cA s0C 2 p c) H := by
  intro p n c hY hp
  cases (show some ((1, .inr (256, 0, none)) : Nat × zC) = some (n, c) from hY)
  match p, hp with
  | 0, _ => exact ⟨⟨_, rfl⟩, by rw [ze_r]; exact hP 2 _ rfl⟩
set_option maxRecDepth 100000 in
theorem st_C3 {D : va_G} {cA : Nat → ClassId} {H : Heap} {h1 h2 : Nat} {u : uGK} {w : Nat → Nat} (hP : va_P D vwCl (wGK cA h1 u ++ wGM cA h2 w) H) : ∀ (p n : Nat) (c : zC), Y1[3]? = some (n, c) → p < n → (∃ e, (wGK cA h1 u ++ wGM cA h2 w)[pC 3 p]? = some (ad1 h1 u 3 p, e)) ∧ va_at D vwCl (ad1 h1 u 3 p, ze (ad1 h1 u) cA s0C 3 p c) H := by
  intro p n c hY hp
  cases (show some ((1, .inr (128, 0, none)) : Nat × zC) = some (n, c) from hY)
  match p, hp with
  | 0, _ => exact ⟨⟨_, rfl⟩, by rw [ze_r]; exact hP 3 _ rfl⟩
set_option maxRecDepth 100000 in
theorem st_C4 {D : va_G} {cA : Nat → ClassId} {H : Heap} {h1 h2 : Nat} {u : uGK} {w : Nat → Nat} (hP : va_P D vwCl (wGK cA h1 u ++ wGM cA h2 w) H) : ∀ (p n : Nat) (c : zC), Y1[4]? = some (n, c) → p < n → (∃ e, (wGK cA h1 u ++ wGM cA h2 w)[pC 4 p]? = some (ad1 h1 u 4 p, e)) ∧ va_at D vwCl (ad1 h1 u 4 p, ze (ad1 h1 u) cA s0C 4 p c) H := by
  intro p n c hY hp
  cases (show some ((1, .inr (4, 1, some 11)) : Nat × zC) = some (n, c) from hY)
  match p, hp with
  | 0, _ => exact ⟨⟨_, rfl⟩, zat_q (fun j hj => match j, hj with | 0, _ => rfl | 1, _ => rfl | 2, _ => rfl | 3, _ => rfl) (hP 4 _ rfl)⟩
set_option maxRecDepth 100000 in
theorem st_C5 {D : va_G} {cA : Nat → ClassId} {H : Heap} {h1 h2 : Nat} {u : uGK} {w : Nat → Nat} (hP : va_P D vwCl (wGK cA h1 u ++ wGM cA h2 w) H) : ∀ (p n : Nat) (c : zC), Y1[5]? = some (n, c) → p < n → (∃ e, (wGK cA h1 u ++ wGM cA h2 w)[pC 5 p]? = some (ad1 h1 u 5 p, e)) ∧ va_at D vwCl (ad1 h1 u 5 p, ze (ad1 h1 u) cA s0C 5 p c) H := by
  intro p n c hY hp
  cases (show some ((1, .inl (6, [some (6, false), some (7, false), none, none])) : Nat × zC) = some (n, c) from hY)
  match p, hp with
  | 0, _ => exact ⟨⟨_, rfl⟩, by rw [ze_r]; exact hP 53 _ rfl⟩
set_option maxRecDepth 100000 in
theorem st_C6 {D : va_G} {cA : Nat → ClassId} {H : Heap} {h1 h2 : Nat} {u : uGK} {w : Nat → Nat} (hP : va_P D vwCl (wGK cA h1 u ++ wGM cA h2 w) H) : ∀ (p n : Nat) (c : zC), Y1[6]? = some (n, c) → p < n → (∃ e, (wGK cA h1 u ++ wGM cA h2 w)[pC 6 p]? = some (ad1 h1 u 6 p, e)) ∧ va_at D vwCl (ad1 h1 u 6 p, ze (ad1 h1 u) cA s0C 6 p c) H := by
  intro p n c hY hp
  cases (show some ((1, .inr (8, 0, none)) : Nat × zC) = some (n, c) from hY)
  match p, hp with
  | 0, _ => exact ⟨⟨_, rfl⟩, by rw [ze_r]; exact hP 54 _ rfl⟩
set_option maxRecDepth 100000 in
theorem st_C7 {D : va_G} {cA : Nat → ClassId} {H : Heap} {h1 h2 : Nat} {u : uGK} {w : Nat → Nat} (hP : va_P D vwCl (wGK cA h1 u ++ wGM cA h2 w) H) : ∀ (p n : Nat) (c : zC), Y1[7]? = some (n, c) → p < n → (∃ e, (wGK cA h1 u ++ wGM cA h2 w)[pC 7 p]? = some (ad1 h1 u 7 p, e)) ∧ va_at D vwCl (ad1 h1 u 7 p, ze (ad1 h1 u) cA s0C 7 p c) H := by
  intro p n c hY hp
  cases (show some ((1, .inr (16, 0, none)) : Nat × zC) = some (n, c) from hY)
  match p, hp with
  | 0, _ => exact ⟨⟨_, rfl⟩, by rw [ze_r]; exact hP 55 _ rfl⟩
set_option maxRecDepth 100000 in
theorem st_C8 {D : va_G} {cA : Nat → ClassId} {H : Heap} {h1 h2 : Nat} {u : uGK} {w : Nat → Nat} (hP : va_P D vwCl (wGK cA h1 u ++ wGM cA h2 w) H) : ∀ (p n : Nat) (c : zC), Y1[8]? = some (n, c) → p < n → (∃ e, (wGK cA h1 u ++ wGM cA h2 w)[pC 8 p]? = some (ad1 h1 u 8 p, e)) ∧ va_at D vwCl (ad1 h1 u 8 p, ze (ad1 h1 u) cA s0C 8 p c) H := by
  intro p n c hY hp
  cases (show some ((1, .inl (7, [some (1, false), some (4, false), some (5, false), none])) : Nat × zC) = some (n, c) from hY)
  match p, hp with
  | 0, _ => exact ⟨⟨_, rfl⟩, by rw [ze_r]; exact hP 56 _ rfl⟩
set_option maxRecDepth 100000 in
theorem st_C9 {D : va_G} {cA : Nat → ClassId} {H : Heap} {h1 h2 : Nat} {u : uGK} {w : Nat → Nat} (hP : va_P D vwCl (wGK cA h1 u ++ wGM cA h2 w) H) : ∀ (p n : Nat) (c : zC), Y1[9]? = some (n, c) → p < n → (∃ e, (wGK cA h1 u ++ wGM cA h2 w)[pC 9 p]? = some (ad1 h1 u 9 p, e)) ∧ va_at D vwCl (ad1 h1 u 9 p, ze (ad1 h1 u) cA s0C 9 p c) H := by
  intro p n c hY hp
  cases (show some ((1, .inl (5, [some (1, false), some (4, false), none, none])) : Nat × zC) = some (n, c) from hY)
  match p, hp with
  | 0, _ => exact ⟨⟨_, rfl⟩, by rw [ze_r]; exact hP 57 _ rfl⟩
set_option maxRecDepth 100000 in
theorem st_C10 {D : va_G} {cA : Nat → ClassId} {H : Heap} {h1 h2 : Nat} {u : uGK} {w : Nat → Nat} (hP : va_P D vwCl (wGK cA h1 u ++ wGM cA h2 w) H) : ∀ (p n : Nat) (c : zC), Y1[10]? = some (n, c) → p < n → (∃ e, (wGK cA h1 u ++ wGM cA h2 w)[pC 10 p]? = some (ad1 h1 u 10 p, e)) ∧ va_at D vwCl (ad1 h1 u 10 p, ze (ad1 h1 u) cA s0C 10 p c) H := by
  intro p n c hY hp
  cases (show some ((1, .inl (8, [some (1, false), none])) : Nat × zC) = some (n, c) from hY)
  match p, hp with
  | 0, _ => exact ⟨⟨_, rfl⟩, by rw [ze_r]; exact hP 58 _ rfl⟩
set_option maxRecDepth 100000 in
theorem st_C11 {D : va_G} {cA : Nat → ClassId} {H : Heap} {h1 h2 : Nat} {u : uGK} {w : Nat → Nat} (hP : va_P D vwCl (wGK cA h1 u ++ wGM cA h2 w) H) : ∀ (p n : Nat) (c : zC), Y1[11]? = some (n, c) → p < n → (∃ e, (wGK cA h1 u ++ wGM cA h2 w)[pC 11 p]? = some (ad1 h1 u 11 p, e)) ∧ va_at D vwCl (ad1 h1 u 11 p, ze (ad1 h1 u) cA s0C 11 p c) H := by
  intro p n c hY hp
  cases (show some ((4, .inl (4, [some (1, false), some (13, true), none, none, none, none, none, none, none, none, some (12, true), none, none, none, none, none, none, none, none, none])) : Nat × zC) = some (n, c) from hY)
  match p, hp with
  | 0, _ => exact ⟨⟨_, rfl⟩, by rw [ze_r]; exact hP 5 _ rfl⟩
  | 1, _ => exact ⟨⟨_, rfl⟩, by rw [ze_r]; exact hP 17 _ rfl⟩
  | 2, _ => exact ⟨⟨_, rfl⟩, by rw [ze_r]; exact hP 29 _ rfl⟩
  | 3, _ => exact ⟨⟨_, rfl⟩, by rw [ze_r]; exact hP 41 _ rfl⟩
set_option maxRecDepth 100000 in
theorem st_C12 {D : va_G} {cA : Nat → ClassId} {H : Heap} {h1 h2 : Nat} {u : uGK} {w : Nat → Nat} (hP : va_P D vwCl (wGK cA h1 u ++ wGM cA h2 w) H) : ∀ (p n : Nat) (c : zC), Y1[12]? = some (n, c) → p < n → (∃ e, (wGK cA h1 u ++ wGM cA h2 w)[pC 12 p]? = some (ad1 h1 u 12 p, e)) ∧ va_at D vwCl (ad1 h1 u 12 p, ze (ad1 h1 u) cA s0C 12 p c) H := by
  intro p n c hY hp
  cases (show some ((4, .inr (8, 0, none)) : Nat × zC) = some (n, c) from hY)
  match p, hp with
  | 0, _ => exact ⟨⟨_, rfl⟩, by rw [ze_r]; exact hP 16 _ rfl⟩
  | 1, _ => exact ⟨⟨_, rfl⟩, by rw [ze_r]; exact hP 28 _ rfl⟩
  | 2, _ => exact ⟨⟨_, rfl⟩, by rw [ze_r]; exact hP 40 _ rfl⟩
  | 3, _ => exact ⟨⟨_, rfl⟩, by rw [ze_r]; exact hP 52 _ rfl⟩
set_option maxRecDepth 100000 in
theorem st_C13 {D : va_G} {cA : Nat → ClassId} {H : Heap} {h1 h2 : Nat} {u : uGK} {w : Nat → Nat} (hP : va_P D vwCl (wGK cA h1 u ++ wGM cA h2 w) H) : ∀ (p n : Nat) (c : zC), Y1[13]? = some (n, c) → p < n → (∃ e, (wGK cA h1 u ++ wGM cA h2 w)[pC 13 p]? = some (ad1 h1 u 13 p, e)) ∧ va_at D vwCl (ad1 h1 u 13 p, ze (ad1 h1 u) cA s0C 13 p c) H := by
  intro p n c hY hp
  cases (show some ((4, .inl (3, [some (14, true), some (15, true), some (16, true), some (17, true), some (18, true), some (19, true), none])) : Nat × zC) = some (n, c) from hY)
  match p, hp with
  | 0, _ => exact ⟨⟨_, rfl⟩, by rw [ze_r]; exact hP 6 _ rfl⟩
  | 1, _ => exact ⟨⟨_, rfl⟩, by rw [ze_r]; exact hP 18 _ rfl⟩
  | 2, _ => exact ⟨⟨_, rfl⟩, by rw [ze_r]; exact hP 30 _ rfl⟩
  | 3, _ => exact ⟨⟨_, rfl⟩, by rw [ze_r]; exact hP 42 _ rfl⟩
set_option maxRecDepth 100000 in
theorem st_C14 {D : va_G} {cA : Nat → ClassId} {H : Heap} {h1 h2 : Nat} {u : uGK} {w : Nat → Nat} (hP : va_P D vwCl (wGK cA h1 u ++ wGM cA h2 w) H) : ∀ (p n : Nat) (c : zC), Y1[14]? = some (n, c) → p < n → (∃ e, (wGK cA h1 u ++ wGM cA h2 w)[pC 14 p]? = some (ad1 h1 u 14 p, e)) ∧ va_at D vwCl (ad1 h1 u 14 p, ze (ad1 h1 u) cA s0C 14 p c) H := by
  intro p n c hY hp
  cases (show some ((4, .inr (3, 0, none)) : Nat × zC) = some (n, c) from hY)
  match p, hp with
  | 0, _ => exact ⟨⟨_, rfl⟩, by rw [ze_r]; exact hP 7 _ rfl⟩
  | 1, _ => exact ⟨⟨_, rfl⟩, by rw [ze_r]; exact hP 19 _ rfl⟩
  | 2, _ => exact ⟨⟨_, rfl⟩, by rw [ze_r]; exact hP 31 _ rfl⟩
  | 3, _ => exact ⟨⟨_, rfl⟩, by rw [ze_r]; exact hP 43 _ rfl⟩
set_option maxRecDepth 100000 in
theorem st_C15 {D : va_G} {cA : Nat → ClassId} {H : Heap} {h1 h2 : Nat} {u : uGK} {w : Nat → Nat} (hP : va_P D vwCl (wGK cA h1 u ++ wGM cA h2 w) H) : ∀ (p n : Nat) (c : zC), Y1[15]? = some (n, c) → p < n → (∃ e, (wGK cA h1 u ++ wGM cA h2 w)[pC 15 p]? = some (ad1 h1 u 15 p, e)) ∧ va_at D vwCl (ad1 h1 u 15 p, ze (ad1 h1 u) cA s0C 15 p c) H := by
  intro p n c hY hp
  cases (show some ((4, .inr (3, 0, none)) : Nat × zC) = some (n, c) from hY)
  match p, hp with
  | 0, _ => exact ⟨⟨_, rfl⟩, by rw [ze_r]; exact hP 8 _ rfl⟩
  | 1, _ => exact ⟨⟨_, rfl⟩, by rw [ze_r]; exact hP 20 _ rfl⟩
  | 2, _ => exact ⟨⟨_, rfl⟩, by rw [ze_r]; exact hP 32 _ rfl⟩
  | 3, _ => exact ⟨⟨_, rfl⟩, by rw [ze_r]; exact hP 44 _ rfl⟩
set_option maxRecDepth 100000 in
theorem st_C16 {D : va_G} {cA : Nat → ClassId} {H : Heap} {h1 h2 : Nat} {u : uGK} {w : Nat → Nat} (hP : va_P D vwCl (wGK cA h1 u ++ wGM cA h2 w) H) : ∀ (p n : Nat) (c : zC), Y1[16]? = some (n, c) → p < n → (∃ e, (wGK cA h1 u ++ wGM cA h2 w)[pC 16 p]? = some (ad1 h1 u 16 p, e)) ∧ va_at D vwCl (ad1 h1 u 16 p, ze (ad1 h1 u) cA s0C 16 p c) H := by
  intro p n c hY hp
  cases (show some ((4, .inr (3, 0, none)) : Nat × zC) = some (n, c) from hY)
  match p, hp with
  | 0, _ => exact ⟨⟨_, rfl⟩, by rw [ze_r]; exact hP 9 _ rfl⟩
  | 1, _ => exact ⟨⟨_, rfl⟩, by rw [ze_r]; exact hP 21 _ rfl⟩
  | 2, _ => exact ⟨⟨_, rfl⟩, by rw [ze_r]; exact hP 33 _ rfl⟩
  | 3, _ => exact ⟨⟨_, rfl⟩, by rw [ze_r]; exact hP 45 _ rfl⟩
set_option maxRecDepth 100000 in
theorem st_C17 {D : va_G} {cA : Nat → ClassId} {H : Heap} {h1 h2 : Nat} {u : uGK} {w : Nat → Nat} (hP : va_P D vwCl (wGK cA h1 u ++ wGM cA h2 w) H) : ∀ (p n : Nat) (c : zC), Y1[17]? = some (n, c) → p < n → (∃ e, (wGK cA h1 u ++ wGM cA h2 w)[pC 17 p]? = some (ad1 h1 u 17 p, e)) ∧ va_at D vwCl (ad1 h1 u 17 p, ze (ad1 h1 u) cA s0C 17 p c) H := by
  intro p n c hY hp
  cases (show some ((4, .inr (3, 0, none)) : Nat × zC) = some (n, c) from hY)
  match p, hp with
  | 0, _ => exact ⟨⟨_, rfl⟩, by rw [ze_r]; exact hP 10 _ rfl⟩
  | 1, _ => exact ⟨⟨_, rfl⟩, by rw [ze_r]; exact hP 22 _ rfl⟩
  | 2, _ => exact ⟨⟨_, rfl⟩, by rw [ze_r]; exact hP 34 _ rfl⟩
  | 3, _ => exact ⟨⟨_, rfl⟩, by rw [ze_r]; exact hP 46 _ rfl⟩
set_option maxRecDepth 100000 in
theorem st_C18 {D : va_G} {cA : Nat → ClassId} {H : Heap} {h1 h2 : Nat} {u : uGK} {w : Nat → Nat} (hP : va_P D vwCl (wGK cA h1 u ++ wGM cA h2 w) H) : ∀ (p n : Nat) (c : zC), Y1[18]? = some (n, c) → p < n → (∃ e, (wGK cA h1 u ++ wGM cA h2 w)[pC 18 p]? = some (ad1 h1 u 18 p, e)) ∧ va_at D vwCl (ad1 h1 u 18 p, ze (ad1 h1 u) cA s0C 18 p c) H := by
  intro p n c hY hp
  cases (show some ((4, .inr (3, 0, none)) : Nat × zC) = some (n, c) from hY)
  match p, hp with
  | 0, _ => exact ⟨⟨_, rfl⟩, by rw [ze_r]; exact hP 11 _ rfl⟩
  | 1, _ => exact ⟨⟨_, rfl⟩, by rw [ze_r]; exact hP 23 _ rfl⟩
  | 2, _ => exact ⟨⟨_, rfl⟩, by rw [ze_r]; exact hP 35 _ rfl⟩
  | 3, _ => exact ⟨⟨_, rfl⟩, by rw [ze_r]; exact hP 47 _ rfl⟩
set_option maxRecDepth 100000 in
theorem st_C19 {D : va_G} {cA : Nat → ClassId} {H : Heap} {h1 h2 : Nat} {u : uGK} {w : Nat → Nat} (hP : va_P D vwCl (wGK cA h1 u ++ wGM cA h2 w) H) : ∀ (p n : Nat) (c : zC), Y1[19]? = some (n, c) → p < n → (∃ e, (wGK cA h1 u ++ wGM cA h2 w)[pC 19 p]? = some (ad1 h1 u 19 p, e)) ∧ va_at D vwCl (ad1 h1 u 19 p, ze (ad1 h1 u) cA s0C 19 p c) H := by
  intro p n c hY hp
  cases (show some ((4, .inl (2, [some (20, true), some (21, true), some (22, true), none])) : Nat × zC) = some (n, c) from hY)
  match p, hp with
  | 0, _ => exact ⟨⟨_, rfl⟩, by rw [ze_r]; exact hP 12 _ rfl⟩
  | 1, _ => exact ⟨⟨_, rfl⟩, by rw [ze_r]; exact hP 24 _ rfl⟩
  | 2, _ => exact ⟨⟨_, rfl⟩, by rw [ze_r]; exact hP 36 _ rfl⟩
  | 3, _ => exact ⟨⟨_, rfl⟩, by rw [ze_r]; exact hP 48 _ rfl⟩
set_option maxRecDepth 100000 in
theorem st_C20 {D : va_G} {cA : Nat → ClassId} {H : Heap} {h1 h2 : Nat} {u : uGK} {w : Nat → Nat} (hP : va_P D vwCl (wGK cA h1 u ++ wGM cA h2 w) H) : ∀ (p n : Nat) (c : zC), Y1[20]? = some (n, c) → p < n → (∃ e, (wGK cA h1 u ++ wGM cA h2 w)[pC 20 p]? = some (ad1 h1 u 20 p, e)) ∧ va_at D vwCl (ad1 h1 u 20 p, ze (ad1 h1 u) cA s0C 20 p c) H := by
  intro p n c hY hp
  cases (show some ((4, .inr (4, 0, none)) : Nat × zC) = some (n, c) from hY)
  match p, hp with
  | 0, _ => exact ⟨⟨_, rfl⟩, by rw [ze_r]; exact hP 13 _ rfl⟩
  | 1, _ => exact ⟨⟨_, rfl⟩, by rw [ze_r]; exact hP 25 _ rfl⟩
  | 2, _ => exact ⟨⟨_, rfl⟩, by rw [ze_r]; exact hP 37 _ rfl⟩
  | 3, _ => exact ⟨⟨_, rfl⟩, by rw [ze_r]; exact hP 49 _ rfl⟩
set_option maxRecDepth 100000 in
theorem st_C21 {D : va_G} {cA : Nat → ClassId} {H : Heap} {h1 h2 : Nat} {u : uGK} {w : Nat → Nat} (hP : va_P D vwCl (wGK cA h1 u ++ wGM cA h2 w) H) : ∀ (p n : Nat) (c : zC), Y1[21]? = some (n, c) → p < n → (∃ e, (wGK cA h1 u ++ wGM cA h2 w)[pC 21 p]? = some (ad1 h1 u 21 p, e)) ∧ va_at D vwCl (ad1 h1 u 21 p, ze (ad1 h1 u) cA s0C 21 p c) H := by
  intro p n c hY hp
  cases (show some ((4, .inr (4, 0, none)) : Nat × zC) = some (n, c) from hY)
  match p, hp with
  | 0, _ => exact ⟨⟨_, rfl⟩, by rw [ze_r]; exact hP 14 _ rfl⟩
  | 1, _ => exact ⟨⟨_, rfl⟩, by rw [ze_r]; exact hP 26 _ rfl⟩
  | 2, _ => exact ⟨⟨_, rfl⟩, by rw [ze_r]; exact hP 38 _ rfl⟩
  | 3, _ => exact ⟨⟨_, rfl⟩, by rw [ze_r]; exact hP 50 _ rfl⟩
set_option maxRecDepth 100000 in
theorem st_C22 {D : va_G} {cA : Nat → ClassId} {H : Heap} {h1 h2 : Nat} {u : uGK} {w : Nat → Nat} (hP : va_P D vwCl (wGK cA h1 u ++ wGM cA h2 w) H) : ∀ (p n : Nat) (c : zC), Y1[22]? = some (n, c) → p < n → (∃ e, (wGK cA h1 u ++ wGM cA h2 w)[pC 22 p]? = some (ad1 h1 u 22 p, e)) ∧ va_at D vwCl (ad1 h1 u 22 p, ze (ad1 h1 u) cA s0C 22 p c) H := by
  intro p n c hY hp
  cases (show some ((4, .inr (4, 0, none)) : Nat × zC) = some (n, c) from hY)
  match p, hp with
  | 0, _ => exact ⟨⟨_, rfl⟩, by rw [ze_r]; exact hP 15 _ rfl⟩
  | 1, _ => exact ⟨⟨_, rfl⟩, by rw [ze_r]; exact hP 27 _ rfl⟩
  | 2, _ => exact ⟨⟨_, rfl⟩, by rw [ze_r]; exact hP 39 _ rfl⟩
  | 3, _ => exact ⟨⟨_, rfl⟩, by rw [ze_r]; exact hP 51 _ rfl⟩
set_option maxRecDepth 100000 in
theorem st_M0 {D : va_G} {cA : Nat → ClassId} {H : Heap} {h1 h2 : Nat} {u : uGK} {w : Nat → Nat} (hP : va_P D vwCl (wGK cA h1 u ++ wGM cA h2 w) H) : ∀ (p n : Nat) (c : zC), Y2[0]? = some (n, c) → p < n → (∃ e, (wGK cA h1 u ++ wGM cA h2 w)[59 + 0]? = some (ad2 h2 w 0 p, e)) ∧ va_at D vwCl (ad2 h2 w 0 p, ze (ad2 h2 w) cA s0M 0 p c) H := by
  intro p n c hY hp
  cases (show some ((1, .inl (9, [some (1, false), some (2, false), none, none, none, none, some (3, false), some (4, false), some (5, false), some (6, false), some (7, false), some (8, false), some (9, false), some (10, false), some (11, false), some (12, false), some (13, false), some (14, false), some (15, false), some (16, false), some (17, false), some (18, false), some (19, false), some (20, false), some (21, false), some (22, false), some (23, false), some (24, false), none, some (25, false), some (26, false), some (27, false), some (28, false), none, some (29, false), none, some (30, false), none, none, none])) : Nat × zC) = some (n, c) from hY)
  match p, hp with
  | 0, _ => exact ⟨⟨_, rfl⟩, by rw [ze_r]; exact hP 59 _ rfl⟩
set_option maxRecDepth 100000 in
theorem st_M1 {D : va_G} {cA : Nat → ClassId} {H : Heap} {h1 h2 : Nat} {u : uGK} {w : Nat → Nat} (hP : va_P D vwCl (wGK cA h1 u ++ wGM cA h2 w) H) : ∀ (p n : Nat) (c : zC), Y2[1]? = some (n, c) → p < n → (∃ e, (wGK cA h1 u ++ wGM cA h2 w)[59 + 1]? = some (ad2 h2 w 1 p, e)) ∧ va_at D vwCl (ad2 h2 w 1 p, ze (ad2 h2 w) cA s0M 1 p c) H := by
  intro p n c hY hp
  cases (show some ((1, .inr (256, 0, none)) : Nat × zC) = some (n, c) from hY)
  match p, hp with
  | 0, _ => exact ⟨⟨_, rfl⟩, by rw [ze_r]; exact hP 60 _ rfl⟩
set_option maxRecDepth 100000 in
theorem st_M2 {D : va_G} {cA : Nat → ClassId} {H : Heap} {h1 h2 : Nat} {u : uGK} {w : Nat → Nat} (hP : va_P D vwCl (wGK cA h1 u ++ wGM cA h2 w) H) : ∀ (p n : Nat) (c : zC), Y2[2]? = some (n, c) → p < n → (∃ e, (wGK cA h1 u ++ wGM cA h2 w)[59 + 2]? = some (ad2 h2 w 2 p, e)) ∧ va_at D vwCl (ad2 h2 w 2 p, ze (ad2 h2 w) cA s0M 2 p c) H := by
  intro p n c hY hp
  cases (show some ((1, .inr (128, 0, none)) : Nat × zC) = some (n, c) from hY)
  match p, hp with
  | 0, _ => exact ⟨⟨_, rfl⟩, by rw [ze_r]; exact hP 61 _ rfl⟩
set_option maxRecDepth 100000 in
theorem st_M3 {D : va_G} {cA : Nat → ClassId} {H : Heap} {h1 h2 : Nat} {u : uGK} {w : Nat → Nat} (hP : va_P D vwCl (wGK cA h1 u ++ wGM cA h2 w) H) : ∀ (p n : Nat) (c : zC), Y2[3]? = some (n, c) → p < n → (∃ e, (wGK cA h1 u ++ wGM cA h2 w)[59 + 3]? = some (ad2 h2 w 3 p, e)) ∧ va_at D vwCl (ad2 h2 w 3 p, ze (ad2 h2 w) cA s0M 3 p c) H := by
  intro p n c hY hp
  cases (show some ((1, .inr (4, 0, none)) : Nat × zC) = some (n, c) from hY)
  match p, hp with
  | 0, _ => exact ⟨⟨_, rfl⟩, by rw [ze_r]; exact hP 62 _ rfl⟩
set_option maxRecDepth 100000 in
theorem st_M4 {D : va_G} {cA : Nat → ClassId} {H : Heap} {h1 h2 : Nat} {u : uGK} {w : Nat → Nat} (hP : va_P D vwCl (wGK cA h1 u ++ wGM cA h2 w) H) : ∀ (p n : Nat) (c : zC), Y2[4]? = some (n, c) → p < n → (∃ e, (wGK cA h1 u ++ wGM cA h2 w)[59 + 4]? = some (ad2 h2 w 4 p, e)) ∧ va_at D vwCl (ad2 h2 w 4 p, ze (ad2 h2 w) cA s0M 4 p c) H := by
  intro p n c hY hp
  cases (show some ((1, .inr (4, 0, none)) : Nat × zC) = some (n, c) from hY)
  match p, hp with
  | 0, _ => exact ⟨⟨_, rfl⟩, by rw [ze_r]; exact hP 63 _ rfl⟩
set_option maxRecDepth 100000 in
theorem st_M5 {D : va_G} {cA : Nat → ClassId} {H : Heap} {h1 h2 : Nat} {u : uGK} {w : Nat → Nat} (hP : va_P D vwCl (wGK cA h1 u ++ wGM cA h2 w) H) : ∀ (p n : Nat) (c : zC), Y2[5]? = some (n, c) → p < n → (∃ e, (wGK cA h1 u ++ wGM cA h2 w)[59 + 5]? = some (ad2 h2 w 5 p, e)) ∧ va_at D vwCl (ad2 h2 w 5 p, ze (ad2 h2 w) cA s0M 5 p c) H := by
  intro p n c hY hp
  cases (show some ((1, .inr (4, 0, none)) : Nat × zC) = some (n, c) from hY)
  match p, hp with
  | 0, _ => exact ⟨⟨_, rfl⟩, by rw [ze_r]; exact hP 64 _ rfl⟩
set_option maxRecDepth 100000 in
theorem st_M6 {D : va_G} {cA : Nat → ClassId} {H : Heap} {h1 h2 : Nat} {u : uGK} {w : Nat → Nat} (hP : va_P D vwCl (wGK cA h1 u ++ wGM cA h2 w) H) : ∀ (p n : Nat) (c : zC), Y2[6]? = some (n, c) → p < n → (∃ e, (wGK cA h1 u ++ wGM cA h2 w)[59 + 6]? = some (ad2 h2 w 6 p, e)) ∧ va_at D vwCl (ad2 h2 w 6 p, ze (ad2 h2 w) cA s0M 6 p c) H := by
  intro p n c hY hp
  cases (show some ((1, .inr (4, 0, none)) : Nat × zC) = some (n, c) from hY)
  match p, hp with
  | 0, _ => exact ⟨⟨_, rfl⟩, by rw [ze_r]; exact hP 65 _ rfl⟩
set_option maxRecDepth 100000 in
theorem st_M7 {D : va_G} {cA : Nat → ClassId} {H : Heap} {h1 h2 : Nat} {u : uGK} {w : Nat → Nat} (hP : va_P D vwCl (wGK cA h1 u ++ wGM cA h2 w) H) : ∀ (p n : Nat) (c : zC), Y2[7]? = some (n, c) → p < n → (∃ e, (wGK cA h1 u ++ wGM cA h2 w)[59 + 7]? = some (ad2 h2 w 7 p, e)) ∧ va_at D vwCl (ad2 h2 w 7 p, ze (ad2 h2 w) cA s0M 7 p c) H := by
  intro p n c hY hp
  cases (show some ((1, .inr (4, 0, none)) : Nat × zC) = some (n, c) from hY)
  match p, hp with
  | 0, _ => exact ⟨⟨_, rfl⟩, by rw [ze_r]; exact hP 66 _ rfl⟩
set_option maxRecDepth 100000 in
theorem st_M8 {D : va_G} {cA : Nat → ClassId} {H : Heap} {h1 h2 : Nat} {u : uGK} {w : Nat → Nat} (hP : va_P D vwCl (wGK cA h1 u ++ wGM cA h2 w) H) : ∀ (p n : Nat) (c : zC), Y2[8]? = some (n, c) → p < n → (∃ e, (wGK cA h1 u ++ wGM cA h2 w)[59 + 8]? = some (ad2 h2 w 8 p, e)) ∧ va_at D vwCl (ad2 h2 w 8 p, ze (ad2 h2 w) cA s0M 8 p c) H := by
  intro p n c hY hp
  cases (show some ((1, .inr (4, 0, none)) : Nat × zC) = some (n, c) from hY)
  match p, hp with
  | 0, _ => exact ⟨⟨_, rfl⟩, by rw [ze_r]; exact hP 67 _ rfl⟩
set_option maxRecDepth 100000 in
theorem st_M9 {D : va_G} {cA : Nat → ClassId} {H : Heap} {h1 h2 : Nat} {u : uGK} {w : Nat → Nat} (hP : va_P D vwCl (wGK cA h1 u ++ wGM cA h2 w) H) : ∀ (p n : Nat) (c : zC), Y2[9]? = some (n, c) → p < n → (∃ e, (wGK cA h1 u ++ wGM cA h2 w)[59 + 9]? = some (ad2 h2 w 9 p, e)) ∧ va_at D vwCl (ad2 h2 w 9 p, ze (ad2 h2 w) cA s0M 9 p c) H := by
  intro p n c hY hp
  cases (show some ((1, .inr (4, 0, none)) : Nat × zC) = some (n, c) from hY)
  match p, hp with
  | 0, _ => exact ⟨⟨_, rfl⟩, by rw [ze_r]; exact hP 68 _ rfl⟩
set_option maxRecDepth 100000 in
theorem st_M10 {D : va_G} {cA : Nat → ClassId} {H : Heap} {h1 h2 : Nat} {u : uGK} {w : Nat → Nat} (hP : va_P D vwCl (wGK cA h1 u ++ wGM cA h2 w) H) : ∀ (p n : Nat) (c : zC), Y2[10]? = some (n, c) → p < n → (∃ e, (wGK cA h1 u ++ wGM cA h2 w)[59 + 10]? = some (ad2 h2 w 10 p, e)) ∧ va_at D vwCl (ad2 h2 w 10 p, ze (ad2 h2 w) cA s0M 10 p c) H := by
  intro p n c hY hp
  cases (show some ((1, .inr (4, 0, none)) : Nat × zC) = some (n, c) from hY)
  match p, hp with
  | 0, _ => exact ⟨⟨_, rfl⟩, by rw [ze_r]; exact hP 69 _ rfl⟩
set_option maxRecDepth 100000 in
theorem st_M11 {D : va_G} {cA : Nat → ClassId} {H : Heap} {h1 h2 : Nat} {u : uGK} {w : Nat → Nat} (hP : va_P D vwCl (wGK cA h1 u ++ wGM cA h2 w) H) : ∀ (p n : Nat) (c : zC), Y2[11]? = some (n, c) → p < n → (∃ e, (wGK cA h1 u ++ wGM cA h2 w)[59 + 11]? = some (ad2 h2 w 11 p, e)) ∧ va_at D vwCl (ad2 h2 w 11 p, ze (ad2 h2 w) cA s0M 11 p c) H := by
  intro p n c hY hp
  cases (show some ((1, .inr (32, 0, none)) : Nat × zC) = some (n, c) from hY)
  match p, hp with
  | 0, _ => exact ⟨⟨_, rfl⟩, by rw [ze_r]; exact hP 70 _ rfl⟩
set_option maxRecDepth 100000 in
theorem st_M12 {D : va_G} {cA : Nat → ClassId} {H : Heap} {h1 h2 : Nat} {u : uGK} {w : Nat → Nat} (hP : va_P D vwCl (wGK cA h1 u ++ wGM cA h2 w) H) : ∀ (p n : Nat) (c : zC), Y2[12]? = some (n, c) → p < n → (∃ e, (wGK cA h1 u ++ wGM cA h2 w)[59 + 12]? = some (ad2 h2 w 12 p, e)) ∧ va_at D vwCl (ad2 h2 w 12 p, ze (ad2 h2 w) cA s0M 12 p c) H := by
  intro p n c hY hp
  cases (show some ((1, .inr (4, 0, none)) : Nat × zC) = some (n, c) from hY)
  match p, hp with
  | 0, _ => exact ⟨⟨_, rfl⟩, by rw [ze_r]; exact hP 71 _ rfl⟩
set_option maxRecDepth 100000 in
theorem st_M13 {D : va_G} {cA : Nat → ClassId} {H : Heap} {h1 h2 : Nat} {u : uGK} {w : Nat → Nat} (hP : va_P D vwCl (wGK cA h1 u ++ wGM cA h2 w) H) : ∀ (p n : Nat) (c : zC), Y2[13]? = some (n, c) → p < n → (∃ e, (wGK cA h1 u ++ wGM cA h2 w)[59 + 13]? = some (ad2 h2 w 13 p, e)) ∧ va_at D vwCl (ad2 h2 w 13 p, ze (ad2 h2 w) cA s0M 13 p c) H := by
  intro p n c hY hp
  cases (show some ((1, .inr (4, 0, none)) : Nat × zC) = some (n, c) from hY)
  match p, hp with
  | 0, _ => exact ⟨⟨_, rfl⟩, by rw [ze_r]; exact hP 72 _ rfl⟩
set_option maxRecDepth 100000 in
theorem st_M14 {D : va_G} {cA : Nat → ClassId} {H : Heap} {h1 h2 : Nat} {u : uGK} {w : Nat → Nat} (hP : va_P D vwCl (wGK cA h1 u ++ wGM cA h2 w) H) : ∀ (p n : Nat) (c : zC), Y2[14]? = some (n, c) → p < n → (∃ e, (wGK cA h1 u ++ wGM cA h2 w)[59 + 14]? = some (ad2 h2 w 14 p, e)) ∧ va_at D vwCl (ad2 h2 w 14 p, ze (ad2 h2 w) cA s0M 14 p c) H := by
  intro p n c hY hp
  cases (show some ((1, .inr (4, 0, none)) : Nat × zC) = some (n, c) from hY)
  match p, hp with
  | 0, _ => exact ⟨⟨_, rfl⟩, by rw [ze_r]; exact hP 73 _ rfl⟩
set_option maxRecDepth 100000 in
theorem st_M15 {D : va_G} {cA : Nat → ClassId} {H : Heap} {h1 h2 : Nat} {u : uGK} {w : Nat → Nat} (hP : va_P D vwCl (wGK cA h1 u ++ wGM cA h2 w) H) : ∀ (p n : Nat) (c : zC), Y2[15]? = some (n, c) → p < n → (∃ e, (wGK cA h1 u ++ wGM cA h2 w)[59 + 15]? = some (ad2 h2 w 15 p, e)) ∧ va_at D vwCl (ad2 h2 w 15 p, ze (ad2 h2 w) cA s0M 15 p c) H := by
  intro p n c hY hp
  cases (show some ((1, .inr (4, 0, none)) : Nat × zC) = some (n, c) from hY)
  match p, hp with
  | 0, _ => exact ⟨⟨_, rfl⟩, by rw [ze_r]; exact hP 74 _ rfl⟩
set_option maxRecDepth 100000 in
theorem st_M16 {D : va_G} {cA : Nat → ClassId} {H : Heap} {h1 h2 : Nat} {u : uGK} {w : Nat → Nat} (hP : va_P D vwCl (wGK cA h1 u ++ wGM cA h2 w) H) : ∀ (p n : Nat) (c : zC), Y2[16]? = some (n, c) → p < n → (∃ e, (wGK cA h1 u ++ wGM cA h2 w)[59 + 16]? = some (ad2 h2 w 16 p, e)) ∧ va_at D vwCl (ad2 h2 w 16 p, ze (ad2 h2 w) cA s0M 16 p c) H := by
  intro p n c hY hp
  cases (show some ((1, .inr (4, 2, none)) : Nat × zC) = some (n, c) from hY)
  match p, hp with
  | 0, _ => exact ⟨⟨_, rfl⟩, by rw [ze_r]; exact hP 75 _ rfl⟩
set_option maxRecDepth 100000 in
theorem st_M17 {D : va_G} {cA : Nat → ClassId} {H : Heap} {h1 h2 : Nat} {u : uGK} {w : Nat → Nat} (hP : va_P D vwCl (wGK cA h1 u ++ wGM cA h2 w) H) : ∀ (p n : Nat) (c : zC), Y2[17]? = some (n, c) → p < n → (∃ e, (wGK cA h1 u ++ wGM cA h2 w)[59 + 17]? = some (ad2 h2 w 17 p, e)) ∧ va_at D vwCl (ad2 h2 w 17 p, ze (ad2 h2 w) cA s0M 17 p c) H := by
  intro p n c hY hp
  cases (show some ((1, .inr (4, 0, none)) : Nat × zC) = some (n, c) from hY)
  match p, hp with
  | 0, _ => exact ⟨⟨_, rfl⟩, by rw [ze_r]; exact hP 76 _ rfl⟩
set_option maxRecDepth 100000 in
theorem st_M18 {D : va_G} {cA : Nat → ClassId} {H : Heap} {h1 h2 : Nat} {u : uGK} {w : Nat → Nat} (hP : va_P D vwCl (wGK cA h1 u ++ wGM cA h2 w) H) : ∀ (p n : Nat) (c : zC), Y2[18]? = some (n, c) → p < n → (∃ e, (wGK cA h1 u ++ wGM cA h2 w)[59 + 18]? = some (ad2 h2 w 18 p, e)) ∧ va_at D vwCl (ad2 h2 w 18 p, ze (ad2 h2 w) cA s0M 18 p c) H := by
  intro p n c hY hp
  cases (show some ((1, .inr (4, 0, none)) : Nat × zC) = some (n, c) from hY)
  match p, hp with
  | 0, _ => exact ⟨⟨_, rfl⟩, by rw [ze_r]; exact hP 77 _ rfl⟩
set_option maxRecDepth 100000 in
theorem st_M19 {D : va_G} {cA : Nat → ClassId} {H : Heap} {h1 h2 : Nat} {u : uGK} {w : Nat → Nat} (hP : va_P D vwCl (wGK cA h1 u ++ wGM cA h2 w) H) : ∀ (p n : Nat) (c : zC), Y2[19]? = some (n, c) → p < n → (∃ e, (wGK cA h1 u ++ wGM cA h2 w)[59 + 19]? = some (ad2 h2 w 19 p, e)) ∧ va_at D vwCl (ad2 h2 w 19 p, ze (ad2 h2 w) cA s0M 19 p c) H := by
  intro p n c hY hp
  cases (show some ((1, .inr (4, 0, none)) : Nat × zC) = some (n, c) from hY)
  match p, hp with
  | 0, _ => exact ⟨⟨_, rfl⟩, by rw [ze_r]; exact hP 78 _ rfl⟩
set_option maxRecDepth 100000 in
theorem st_M20 {D : va_G} {cA : Nat → ClassId} {H : Heap} {h1 h2 : Nat} {u : uGK} {w : Nat → Nat} (hP : va_P D vwCl (wGK cA h1 u ++ wGM cA h2 w) H) : ∀ (p n : Nat) (c : zC), Y2[20]? = some (n, c) → p < n → (∃ e, (wGK cA h1 u ++ wGM cA h2 w)[59 + 20]? = some (ad2 h2 w 20 p, e)) ∧ va_at D vwCl (ad2 h2 w 20 p, ze (ad2 h2 w) cA s0M 20 p c) H := by
  intro p n c hY hp
  cases (show some ((1, .inr (12, 0, none)) : Nat × zC) = some (n, c) from hY)
  match p, hp with
  | 0, _ => exact ⟨⟨_, rfl⟩, by rw [ze_r]; exact hP 79 _ rfl⟩
set_option maxRecDepth 100000 in
theorem st_M21 {D : va_G} {cA : Nat → ClassId} {H : Heap} {h1 h2 : Nat} {u : uGK} {w : Nat → Nat} (hP : va_P D vwCl (wGK cA h1 u ++ wGM cA h2 w) H) : ∀ (p n : Nat) (c : zC), Y2[21]? = some (n, c) → p < n → (∃ e, (wGK cA h1 u ++ wGM cA h2 w)[59 + 21]? = some (ad2 h2 w 21 p, e)) ∧ va_at D vwCl (ad2 h2 w 21 p, ze (ad2 h2 w) cA s0M 21 p c) H := by
  intro p n c hY hp
  cases (show some ((1, .inr (12, 0, none)) : Nat × zC) = some (n, c) from hY)
  match p, hp with
  | 0, _ => exact ⟨⟨_, rfl⟩, by rw [ze_r]; exact hP 80 _ rfl⟩
set_option maxRecDepth 100000 in
theorem st_M22 {D : va_G} {cA : Nat → ClassId} {H : Heap} {h1 h2 : Nat} {u : uGK} {w : Nat → Nat} (hP : va_P D vwCl (wGK cA h1 u ++ wGM cA h2 w) H) : ∀ (p n : Nat) (c : zC), Y2[22]? = some (n, c) → p < n → (∃ e, (wGK cA h1 u ++ wGM cA h2 w)[59 + 22]? = some (ad2 h2 w 22 p, e)) ∧ va_at D vwCl (ad2 h2 w 22 p, ze (ad2 h2 w) cA s0M 22 p c) H := by
  intro p n c hY hp
  cases (show some ((1, .inr (12, 0, none)) : Nat × zC) = some (n, c) from hY)
  match p, hp with
  | 0, _ => exact ⟨⟨_, rfl⟩, by rw [ze_r]; exact hP 81 _ rfl⟩
set_option maxRecDepth 100000 in
theorem st_M23 {D : va_G} {cA : Nat → ClassId} {H : Heap} {h1 h2 : Nat} {u : uGK} {w : Nat → Nat} (hP : va_P D vwCl (wGK cA h1 u ++ wGM cA h2 w) H) : ∀ (p n : Nat) (c : zC), Y2[23]? = some (n, c) → p < n → (∃ e, (wGK cA h1 u ++ wGM cA h2 w)[59 + 23]? = some (ad2 h2 w 23 p, e)) ∧ va_at D vwCl (ad2 h2 w 23 p, ze (ad2 h2 w) cA s0M 23 p c) H := by
  intro p n c hY hp
  cases (show some ((1, .inr (12, 0, none)) : Nat × zC) = some (n, c) from hY)
  match p, hp with
  | 0, _ => exact ⟨⟨_, rfl⟩, by rw [ze_r]; exact hP 82 _ rfl⟩
set_option maxRecDepth 100000 in
theorem st_M24 {D : va_G} {cA : Nat → ClassId} {H : Heap} {h1 h2 : Nat} {u : uGK} {w : Nat → Nat} (hP : va_P D vwCl (wGK cA h1 u ++ wGM cA h2 w) H) : ∀ (p n : Nat) (c : zC), Y2[24]? = some (n, c) → p < n → (∃ e, (wGK cA h1 u ++ wGM cA h2 w)[59 + 24]? = some (ad2 h2 w 24 p, e)) ∧ va_at D vwCl (ad2 h2 w 24 p, ze (ad2 h2 w) cA s0M 24 p c) H := by
  intro p n c hY hp
  cases (show some ((1, .inr (12, 0, none)) : Nat × zC) = some (n, c) from hY)
  match p, hp with
  | 0, _ => exact ⟨⟨_, rfl⟩, by rw [ze_r]; exact hP 83 _ rfl⟩
set_option maxRecDepth 100000 in
theorem st_M25 {D : va_G} {cA : Nat → ClassId} {H : Heap} {h1 h2 : Nat} {u : uGK} {w : Nat → Nat} (hP : va_P D vwCl (wGK cA h1 u ++ wGM cA h2 w) H) : ∀ (p n : Nat) (c : zC), Y2[25]? = some (n, c) → p < n → (∃ e, (wGK cA h1 u ++ wGM cA h2 w)[59 + 25]? = some (ad2 h2 w 25 p, e)) ∧ va_at D vwCl (ad2 h2 w 25 p, ze (ad2 h2 w) cA s0M 25 p c) H := by
  intro p n c hY hp
  cases (show some ((1, .inr (16, 0, none)) : Nat × zC) = some (n, c) from hY)
  match p, hp with
  | 0, _ => exact ⟨⟨_, rfl⟩, by rw [ze_r]; exact hP 84 _ rfl⟩
set_option maxRecDepth 100000 in
theorem st_M26 {D : va_G} {cA : Nat → ClassId} {H : Heap} {h1 h2 : Nat} {u : uGK} {w : Nat → Nat} (hP : va_P D vwCl (wGK cA h1 u ++ wGM cA h2 w) H) : ∀ (p n : Nat) (c : zC), Y2[26]? = some (n, c) → p < n → (∃ e, (wGK cA h1 u ++ wGM cA h2 w)[59 + 26]? = some (ad2 h2 w 26 p, e)) ∧ va_at D vwCl (ad2 h2 w 26 p, ze (ad2 h2 w) cA s0M 26 p c) H := by
  intro p n c hY hp
  cases (show some ((1, .inr (16, 0, none)) : Nat × zC) = some (n, c) from hY)
  match p, hp with
  | 0, _ => exact ⟨⟨_, rfl⟩, by rw [ze_r]; exact hP 85 _ rfl⟩
set_option maxRecDepth 100000 in
theorem st_M27 {D : va_G} {cA : Nat → ClassId} {H : Heap} {h1 h2 : Nat} {u : uGK} {w : Nat → Nat} (hP : va_P D vwCl (wGK cA h1 u ++ wGM cA h2 w) H) : ∀ (p n : Nat) (c : zC), Y2[27]? = some (n, c) → p < n → (∃ e, (wGK cA h1 u ++ wGM cA h2 w)[59 + 27]? = some (ad2 h2 w 27 p, e)) ∧ va_at D vwCl (ad2 h2 w 27 p, ze (ad2 h2 w) cA s0M 27 p c) H := by
  intro p n c hY hp
  cases (show some ((1, .inr (16, 0, none)) : Nat × zC) = some (n, c) from hY)
  match p, hp with
  | 0, _ => exact ⟨⟨_, rfl⟩, by rw [ze_r]; exact hP 86 _ rfl⟩
set_option maxRecDepth 100000 in
theorem st_M28 {D : va_G} {cA : Nat → ClassId} {H : Heap} {h1 h2 : Nat} {u : uGK} {w : Nat → Nat} (hP : va_P D vwCl (wGK cA h1 u ++ wGM cA h2 w) H) : ∀ (p n : Nat) (c : zC), Y2[28]? = some (n, c) → p < n → (∃ e, (wGK cA h1 u ++ wGM cA h2 w)[59 + 28]? = some (ad2 h2 w 28 p, e)) ∧ va_at D vwCl (ad2 h2 w 28 p, ze (ad2 h2 w) cA s0M 28 p c) H := by
  intro p n c hY hp
  cases (show some ((1, .inr (16, 0, none)) : Nat × zC) = some (n, c) from hY)
  match p, hp with
  | 0, _ => exact ⟨⟨_, rfl⟩, by rw [ze_r]; exact hP 87 _ rfl⟩
set_option maxRecDepth 100000 in
theorem st_M29 {D : va_G} {cA : Nat → ClassId} {H : Heap} {h1 h2 : Nat} {u : uGK} {w : Nat → Nat} (hP : va_P D vwCl (wGK cA h1 u ++ wGM cA h2 w) H) : ∀ (p n : Nat) (c : zC), Y2[29]? = some (n, c) → p < n → (∃ e, (wGK cA h1 u ++ wGM cA h2 w)[59 + 29]? = some (ad2 h2 w 29 p, e)) ∧ va_at D vwCl (ad2 h2 w 29 p, ze (ad2 h2 w) cA s0M 29 p c) H := by
  intro p n c hY hp
  cases (show some ((1, .inr (8, 0, none)) : Nat × zC) = some (n, c) from hY)
  match p, hp with
  | 0, _ => exact ⟨⟨_, rfl⟩, by rw [ze_r]; exact hP 88 _ rfl⟩
set_option maxRecDepth 100000 in
theorem st_M30 {D : va_G} {cA : Nat → ClassId} {H : Heap} {h1 h2 : Nat} {u : uGK} {w : Nat → Nat} (hP : va_P D vwCl (wGK cA h1 u ++ wGM cA h2 w) H) : ∀ (p n : Nat) (c : zC), Y2[30]? = some (n, c) → p < n → (∃ e, (wGK cA h1 u ++ wGM cA h2 w)[59 + 30]? = some (ad2 h2 w 30 p, e)) ∧ va_at D vwCl (ad2 h2 w 30 p, ze (ad2 h2 w) cA s0M 30 p c) H := by
  intro p n c hY hp
  cases (show some ((1, .inr (16, 0, none)) : Nat × zC) = some (n, c) from hY)
  match p, hp with
  | 0, _ => exact ⟨⟨_, rfl⟩, by rw [ze_r]; exact hP 89 _ rfl⟩
theorem st_C {D : va_G} {cA : Nat → ClassId} {H : Heap} {h1 h2 : Nat} {u : uGK} {w : Nat → Nat} (hP : va_P D vwCl (wGK cA h1 u ++ wGM cA h2 w) H) : ∀ (k p n : Nat) (c : zC), Y1[k]? = some (n, c) → p < n → (∃ e, (wGK cA h1 u ++ wGM cA h2 w)[pC k p]? = some (ad1 h1 u k p, e)) ∧ va_at D vwCl (ad1 h1 u k p, ze (ad1 h1 u) cA s0C k p c) H := by
  intro k p n c hY hp
  match k, hY with
  | 0, hY => exact st_C0 hP p n c hY hp
  | 1, hY => exact st_C1 hP p n c hY hp
  | 2, hY => exact st_C2 hP p n c hY hp
  | 3, hY => exact st_C3 hP p n c hY hp
  | 4, hY => exact st_C4 hP p n c hY hp
  | 5, hY => exact st_C5 hP p n c hY hp
  | 6, hY => exact st_C6 hP p n c hY hp
  | 7, hY => exact st_C7 hP p n c hY hp
  | 8, hY => exact st_C8 hP p n c hY hp
  | 9, hY => exact st_C9 hP p n c hY hp
  | 10, hY => exact st_C10 hP p n c hY hp
  | 11, hY => exact st_C11 hP p n c hY hp
  | 12, hY => exact st_C12 hP p n c hY hp
  | 13, hY => exact st_C13 hP p n c hY hp
  | 14, hY => exact st_C14 hP p n c hY hp
  | 15, hY => exact st_C15 hP p n c hY hp
  | 16, hY => exact st_C16 hP p n c hY hp
  | 17, hY => exact st_C17 hP p n c hY hp
  | 18, hY => exact st_C18 hP p n c hY hp
  | 19, hY => exact st_C19 hP p n c hY hp
  | 20, hY => exact st_C20 hP p n c hY hp
  | 21, hY => exact st_C21 hP p n c hY hp
  | 22, hY => exact st_C22 hP p n c hY hp
  | k + 23, hY => exact absurd (y1_len hY) (by omega)
theorem st_M {D : va_G} {cA : Nat → ClassId} {H : Heap} {h1 h2 : Nat} {u : uGK} {w : Nat → Nat} (hP : va_P D vwCl (wGK cA h1 u ++ wGM cA h2 w) H) : ∀ (k p n : Nat) (c : zC), Y2[k]? = some (n, c) → p < n → (∃ e, (wGK cA h1 u ++ wGM cA h2 w)[59 + k]? = some (ad2 h2 w k p, e)) ∧ va_at D vwCl (ad2 h2 w k p, ze (ad2 h2 w) cA s0M k p c) H := by
  intro k p n c hY hp
  match k, hY with
  | 0, hY => exact st_M0 hP p n c hY hp
  | 1, hY => exact st_M1 hP p n c hY hp
  | 2, hY => exact st_M2 hP p n c hY hp
  | 3, hY => exact st_M3 hP p n c hY hp
  | 4, hY => exact st_M4 hP p n c hY hp
  | 5, hY => exact st_M5 hP p n c hY hp
  | 6, hY => exact st_M6 hP p n c hY hp
  | 7, hY => exact st_M7 hP p n c hY hp
  | 8, hY => exact st_M8 hP p n c hY hp
  | 9, hY => exact st_M9 hP p n c hY hp
  | 10, hY => exact st_M10 hP p n c hY hp
  | 11, hY => exact st_M11 hP p n c hY hp
  | 12, hY => exact st_M12 hP p n c hY hp
  | 13, hY => exact st_M13 hP p n c hY hp
  | 14, hY => exact st_M14 hP p n c hY hp
  | 15, hY => exact st_M15 hP p n c hY hp
  | 16, hY => exact st_M16 hP p n c hY hp
  | 17, hY => exact st_M17 hP p n c hY hp
  | 18, hY => exact st_M18 hP p n c hY hp
  | 19, hY => exact st_M19 hP p n c hY hp
  | 20, hY => exact st_M20 hP p n c hY hp
  | 21, hY => exact st_M21 hP p n c hY hp
  | 22, hY => exact st_M22 hP p n c hY hp
  | 23, hY => exact st_M23 hP p n c hY hp
  | 24, hY => exact st_M24 hP p n c hY hp
  | 25, hY => exact st_M25 hP p n c hY hp
  | 26, hY => exact st_M26 hP p n c hY hp
  | 27, hY => exact st_M27 hP p n c hY hp
  | 28, hY => exact st_M28 hP p n c hY hp
  | 29, hY => exact st_M29 hP p n c hY hp
  | 30, hY => exact st_M30 hP p n c hY hp
  | k + 31, hY => exact absurd (y2_len hY) (by omega)
theorem zP_of {D : va_G} {cA : Nat → ClassId} {ad : zAd} {Y : zY} {σ : zS} {H : Heap} (h : ∀ (k p n : Nat) (c : zC), Y[k]? = some (n, c) → p < n → va_at D vwCl (ad k p, ze ad cA σ k p c) H) : va_P D vwCl (zw ad cA Y σ) H := by
  intro i q hq
  unfold zw at hq
  rw [List.getElem?_map] at hq
  cases hk : (zks Y)[i]? with
  | none => rw [hk] at hq; cases hq
  | some x =>
    obtain ⟨k, p, c⟩ := x
    rw [hk] at hq
    cases hq
    obtain ⟨n, h1, h2⟩ := zks_mem.mp (List.mem_of_getElem? hk)
    exact h k p n c h1 h2
theorem y1_p {k p n : Nat} {c : zC} (h : Y1[k]? = some (n, c)) (hp : p < n) : k < 23 ∧ p < 4 ∧ (k < 11 → p = 0) := by
  have h1 := y1_len h
  have h2 : n = if k < 11 then 1 else 4 := y1_ok k h1 _ h
  refine ⟨h1, ?_, fun h3 => ?_⟩
  · split at h2 <;> omega
  · rw [if_pos h3] at h2; omega
theorem y2_p {k p n : Nat} {c : zC} (h : Y2[k]? = some (n, c)) (hp : p < n) : p = 0 := by
  have h1 : ∀ k, k < 31 → ∀ q, Y2[k]? = some q → q.1 = 1 := by
    intro k hk q hq
    match k, hk, hq with
    | 0, _, hq => cases (show some ((1, .inl (9, [some (1, false), some (2, false), none, none, none, none, some (3, false), some (4, false), some (5, false), some (6, false), some (7, false), some (8, false), some (9, false), some (10, false), some (11, false), some (12, false), some (13, false), some (14, false), some (15, false), some (16, false), some (17, false), some (18, false), some (19, false), some (20, false), some (21, false), some (22, false), some (23, false), some (24, false), none, some (25, false), some (26, false), some (27, false), some (28, false), none, some (29, false), none, some (30, false), none, none, none])) : Nat × zC) = some q from hq); rfl
    | 1, _, hq => cases (show some ((1, .inr (256, 0, none)) : Nat × zC) = some q from hq); rfl
    | 2, _, hq => cases (show some ((1, .inr (128, 0, none)) : Nat × zC) = some q from hq); rfl
    | 3, _, hq => cases (show some ((1, .inr (4, 0, none)) : Nat × zC) = some q from hq); rfl
    | 4, _, hq => cases (show some ((1, .inr (4, 0, none)) : Nat × zC) = some q from hq); rfl
    | 5, _, hq => cases (show some ((1, .inr (4, 0, none)) : Nat × zC) = some q from hq); rfl
    | 6, _, hq => cases (show some ((1, .inr (4, 0, none)) : Nat × zC) = some q from hq); rfl
    | 7, _, hq => cases (show some ((1, .inr (4, 0, none)) : Nat × zC) = some q from hq); rfl
    | 8, _, hq => cases (show some ((1, .inr (4, 0, none)) : Nat × zC) = some q from hq); rfl
    | 9, _, hq => cases (show some ((1, .inr (4, 0, none)) : Nat × zC) = some q from hq); rfl
    | 10, _, hq => cases (show some ((1, .inr (4, 0, none)) : Nat × zC) = some q from hq); rfl
    | 11, _, hq => cases (show some ((1, .inr (32, 0, none)) : Nat × zC) = some q from hq); rfl
    | 12, _, hq => cases (show some ((1, .inr (4, 0, none)) : Nat × zC) = some q from hq); rfl
    | 13, _, hq => cases (show some ((1, .inr (4, 0, none)) : Nat × zC) = some q from hq); rfl
    | 14, _, hq => cases (show some ((1, .inr (4, 0, none)) : Nat × zC) = some q from hq); rfl
    | 15, _, hq => cases (show some ((1, .inr (4, 0, none)) : Nat × zC) = some q from hq); rfl
    | 16, _, hq => cases (show some ((1, .inr (4, 2, none)) : Nat × zC) = some q from hq); rfl
    | 17, _, hq => cases (show some ((1, .inr (4, 0, none)) : Nat × zC) = some q from hq); rfl
    | 18, _, hq => cases (show some ((1, .inr (4, 0, none)) : Nat × zC) = some q from hq); rfl
    | 19, _, hq => cases (show some ((1, .inr (4, 0, none)) : Nat × zC) = some q from hq); rfl
    | 20, _, hq => cases (show some ((1, .inr (12, 0, none)) : Nat × zC) = some q from hq); rfl
    | 21, _, hq => cases (show some ((1, .inr (12, 0, none)) : Nat × zC) = some q from hq); rfl
    | 22, _, hq => cases (show some ((1, .inr (12, 0, none)) : Nat × zC) = some q from hq); rfl
    | 23, _, hq => cases (show some ((1, .inr (12, 0, none)) : Nat × zC) = some q from hq); rfl
    | 24, _, hq => cases (show some ((1, .inr (12, 0, none)) : Nat × zC) = some q from hq); rfl
    | 25, _, hq => cases (show some ((1, .inr (16, 0, none)) : Nat × zC) = some q from hq); rfl
    | 26, _, hq => cases (show some ((1, .inr (16, 0, none)) : Nat × zC) = some q from hq); rfl
    | 27, _, hq => cases (show some ((1, .inr (16, 0, none)) : Nat × zC) = some q from hq); rfl
    | 28, _, hq => cases (show some ((1, .inr (16, 0, none)) : Nat × zC) = some q from hq); rfl
    | 29, _, hq => cases (show some ((1, .inr (8, 0, none)) : Nat × zC) = some q from hq); rfl
    | 30, _, hq => cases (show some ((1, .inr (16, 0, none)) : Nat × zC) = some q from hq); rfl
  have := h1 k (y2_len h) _ h
  dsimp only at this
  omega
theorem st_inj1 {D : va_G} {cA : Nat → ClassId} {H : Heap} {h1 h2 : Nat} {u : uGK} {w : Nat → Nat} (hP : va_P D vwCl (wGK cA h1 u ++ wGM cA h2 w) H) {A : Nat → Prop} (hD : va_D A (wGK cA h1 u ++ wGM cA h2 w)) : ∀ (k p n : Nat) (c : zC) (k' p' n' : Nat) (c' : zC), Y1[k]? = some (n, c) → p < n → Y1[k']? = some (n', c') → p' < n' → ad1 h1 u k p = ad1 h1 u k' p' → k = k' ∧ p = p' := by
  intro k p n c k' p' n' c' g1 g2 g3 g4 g5
  obtain ⟨⟨e, he⟩, -⟩ := st_C hP k p n c g1 g2
  obtain ⟨⟨e', he'⟩, -⟩ := st_C hP k' p' n' c' g3 g4
  have hi := hD.1 _ _ _ _ he he' g5
  obtain ⟨a1, a2, a3⟩ := y1_p g1 g2
  obtain ⟨b1, b2, b3⟩ := y1_p g3 g4
  exact pC_inj a1 a2 b1 b2 a3 b3 hi
theorem st_inj2 {D : va_G} {cA : Nat → ClassId} {H : Heap} {h1 h2 : Nat} {u : uGK} {w : Nat → Nat} (hP : va_P D vwCl (wGK cA h1 u ++ wGM cA h2 w) H) {A : Nat → Prop} (hD : va_D A (wGK cA h1 u ++ wGM cA h2 w)) : ∀ (k p n : Nat) (c : zC) (k' p' n' : Nat) (c' : zC), Y2[k]? = some (n, c) → p < n → Y2[k']? = some (n', c') → p' < n' → ad2 h2 w k p = ad2 h2 w k' p' → k = k' ∧ p = p' := by
  intro k p n c k' p' n' c' g1 g2 g3 g4 g5
  obtain ⟨⟨e, he⟩, -⟩ := st_M hP k p n c g1 g2
  obtain ⟨⟨e', he'⟩, -⟩ := st_M hP k' p' n' c' g3 g4
  have hi := hD.1 _ _ _ _ he he' g5
  have a := y2_p g1 g2
  have b := y2_p g3 g4
  omega
theorem st_new1 {D : va_G} {cA : Nat → ClassId} {H : Heap} {h1 h2 : Nat} {u : uGK} {w : Nat → Nat} (hP : va_P D vwCl (wGK cA h1 u ++ wGM cA h2 w) H) {A : Nat → Prop} (hD : va_D A (wGK cA h1 u ++ wGM cA h2 w)) {l : Launch} : ∀ q, zA (sC l (D, cA, ad1 h1 u)) q → A q := by
  intro q h
  obtain ⟨k, p, n, c, g1, g2, rfl⟩ := h
  obtain ⟨⟨e, he⟩, -⟩ := st_C hP k p n c g1 g2
  exact hD.2 _ _ he
theorem st_new2 {D : va_G} {cA : Nat → ClassId} {H : Heap} {h1 h2 : Nat} {u : uGK} {w : Nat → Nat} (hP : va_P D vwCl (wGK cA h1 u ++ wGM cA h2 w) H) {A : Nat → Prop} (hD : va_D A (wGK cA h1 u ++ wGM cA h2 w)) {l : Launch} : ∀ q, zA (sM l (D, cA, ad2 h2 w)) q → A q := by
  intro q h
  obtain ⟨k, p, n, c, g1, g2, rfl⟩ := h
  obtain ⟨⟨e, he⟩, -⟩ := st_M hP k p n c g1 g2
  exact hD.2 _ _ he
theorem st_dis {D : va_G} {cA : Nat → ClassId} {H : Heap} {h1 h2 : Nat} {u : uGK} {w : Nat → Nat} (hP : va_P D vwCl (wGK cA h1 u ++ wGM cA h2 w) H) {A : Nat → Prop} (hD : va_D A (wGK cA h1 u ++ wGM cA h2 w)) {l : Launch} : ∀ q, zA (sC l (D, cA, ad1 h1 u)) q → ¬ zA (sM l (D, cA, ad2 h2 w)) q := by
  intro q h h'
  obtain ⟨k, p, n, c, g1, g2, rfl⟩ := h
  obtain ⟨k', p', n', c', g3, g4, g5⟩ := h'
  obtain ⟨⟨e, he⟩, -⟩ := st_C hP k p n c g1 g2
  obtain ⟨⟨e', he'⟩, -⟩ := st_M hP k' p' n' c' g3 g4
  have hi := hD.1 _ _ _ _ he he' g5
  obtain ⟨a1, a2, a3⟩ := y1_p g1 g2
  have := pC_lt k a1 p a2 a3
  omega
