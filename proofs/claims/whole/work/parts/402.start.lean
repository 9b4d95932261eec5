theorem zn_blindO {av : List Value} {D : va_G} {ws : va_W} {sz : Nat} {tys : List (ClassId × FieldType)} {C : String} : FrameBlind (va_Pc av (fun U => U.heap.size = sz ∧ va_P D vwCl ws U.heap ∧ va_K D vwCl tys U ∧ va_D (fun _ => True) ws ∧ va_AO C U)) := fun a U g mk q => by
  obtain ⟨q0, q1, qP, qK, qD, qA⟩ := q
  exact ⟨q0, q1, qP, va_K.moved (u := U) (U := U.calling g mk a) (Vm.Alike.refl U.vm) qK, qD, va_AO.moved (u := U) (U := U.calling g mk a) (Vm.Alike.refl U.vm) qA⟩
set_option maxHeartbeats 4000000 in
set_option maxRecDepth 100000 in
theorem start_of (Rel : zS → zS → Prop) (hStep : StepOK Rel) (hR0 : Rel s0C s0M) {p : Program} {e : Env} {s : State} {m : MethodId} {below : List Frame} {meth : Method} {c : Code} (l : Launch) {b L : Nat} {xs : Nat → Int32} (hL : L ≤ 1536) (C0 : lw_At p s m meth c b L xs) : W p l e room_1 s m #[Value.ref b] below meth c s.heap [] 0 0 (lw_Z below #[Value.ref b] s) (entryFrame m ([Value.ref b] : List Value).toArray 4) := by
  obtain ⟨hx, hb, hr, hml, hown, hts0, hX, hbl, hlocks, -⟩ := C0
  have hown : s.vm.findClass nR_GL = some m.cls := hown
  have hts : ∀ w ∈ gw, w.before #[Value.ref b] s = true := fun w h => hts0 w (List.mem_filter.mp h).1
  obtain ⟨k0, i0, hk0⟩ := u_known (C := nR_GK) (T := nT_GK) (N := 9) hts ki_GK (hts _ (gw_in (List.mem_of_getElem? (i := 106) (by decide +kernel)) rfl : Cond.instantiable nR_GK 9 ∈ gw))
  obtain ⟨k1, i1, hk1⟩ := u_known (C := nR_Me) (T := nT_Me) (N := 2) hts ki_Me (hts _ (gw_in (List.mem_of_getElem? (i := 114) (by decide +kernel)) rfl : Cond.instantiable nR_Me 2 ∈ gw))
  obtain ⟨k2, i2, hk2⟩ := u_known (C := nR_UQ) (T := nT_UQ) (N := 4) hts ki_UQ (hts _ (gw_in (List.mem_of_getElem? (i := 144) (by decide +kernel)) rfl : Cond.instantiable nR_UQ 4 ∈ gw))
  obtain ⟨k3, i3, hk3⟩ := u_known (C := nR_No) (T := nT_No) (N := 7) hts ki_No (hts _ (gw_in (List.mem_of_getElem? (i := 138) (by decide +kernel)) rfl : Cond.instantiable nR_No 7 ∈ gw))
  obtain ⟨k4, i4, hk4⟩ := u_known (C := nR_BP) (T := nT_BP) (N := 20) hts ki_BP (hts _ (gw_in (List.mem_of_getElem? (i := 132) (by decide +kernel)) rfl : Cond.instantiable nR_BP 20 ∈ gw))
  obtain ⟨k5, i5, hk5⟩ := u_known (C := nR_Lo) (T := nT_Lo) (N := 4) hts ki_Lo (hts _ (gw_in (List.mem_of_getElem? (i := 330) (by decide +kernel)) rfl : Cond.instantiable nR_Lo 4 ∈ gw))
  obtain ⟨k6, i6, hk6⟩ := u_known (C := nR_Co) (T := nT_Co) (N := 4) hts ki_Co (hts _ (gw_in (List.mem_of_getElem? (i := 289) (by decide +kernel)) rfl : Cond.instantiable nR_Co 4 ∈ gw))
  obtain ⟨k7, i7, hk7⟩ := u_known (C := nR_Ke) (T := nT_Ke) (N := 4) hts ki_Ke (hts _ (gw_in (List.mem_of_getElem? (i := 310) (by decide +kernel)) rfl : Cond.instantiable nR_Ke 4 ∈ gw))
  obtain ⟨k8, i8, hk8⟩ := u_known (C := nR_Pr) (T := nT_Pr) (N := 2) hts ki_Pr (hts _ (gw_in (List.mem_of_getElem? (i := 349) (by decide +kernel)) rfl : Cond.instantiable nR_Pr 2 ∈ gw))
  obtain ⟨k9, i9, hk9⟩ := u_known (C := nR_GM) (T := nT_GM) (N := 40) hts ki_GM (hts _ (gw_in (List.mem_of_getElem? (i := 814) (by decide +kernel)) rfl : Cond.instantiable nR_GM 40 ∈ gw))
  obtain ⟨cI, kI, pI, eI, fI, gI⟩ := Cond.arrayClass_spec (hts _ (gw_in (List.mem_of_getElem? (i := 129) (by decide +kernel)) rfl : Cond.arrayClass .int ∈ gw))
  obtain ⟨cZ, kZ, pZ, eZ, fZ, gZ⟩ := Cond.arrayClass_spec (hts _ (gw_in (List.mem_of_getElem? (i := 940) (by decide +kernel)) rfl : Cond.arrayClass .boolean ∈ gw))
  have hao := hts0 (Cond.arrayOver (.object "GrantKernel$BoardProcess")) (List.mem_of_getElem? (i := 131) (by decide +kernel))
  have hAO : va_AO "GrantKernel$BoardProcess" s := hao
  obtain ⟨pO, cO, kO, aO, -, fO, gO, eO⟩ := Cond.arrayOver_spec hao
  generalize hDe : (((fun k => [k0, k1, k2, k3, k4, k5, k6, k7, k8, k9].getD k 0), (fun k => [i0, i1, i2, i3, i4, i5, i6, i7, i8, i9].getD k i0)) : va_G) = D
  generalize hCe : (fun k => [cI, cO, cZ].getD k 0 : Nat → ClassId) = cA
  have hK : va_K D vwCl (zty cA TY) s := by
    subst hDe; subst hCe
    refine ⟨fun k q hq => ?_, fun k q hq => ?_⟩
    · match k, hq with
      | 0, hq => cases hq; exact hk0
      | 1, hq => cases hq; exact hk1
      | 2, hq => cases hq; exact hk2
      | 3, hq => cases hq; exact hk3
      | 4, hq => cases hq; exact hk4
      | 5, hq => cases hq; exact hk5
      | 6, hq => cases hq; exact hk6
      | 7, hq => cases hq; exact hk7
      | 8, hq => cases hq; exact hk8
      | 9, hq => cases hq; exact hk9
      | k + 10, hq => simp [vwCl] at hq
    · match k, hq with
      | 0, hq => cases hq; exact ⟨fun n z => ⟨fun k h => (by cases h), kI, fI, pI, gI⟩, eI⟩
      | 1, hq => cases hq; exact ⟨fun n z => ⟨fun k h => (by cases h), kO, fO, pO, gO⟩, kO, pO, fO, gO, aO, eO⟩
      | 2, hq => cases hq; exact ⟨fun n z => ⟨fun k h => (by cases h), kZ, fZ, pZ, gZ⟩, eZ⟩
      | k + 3, hq => simp [zty, TY] at hq
  clear hk0 hk1 hk2 hk3 hk4 hk5 hk6 hk7 hk8 hk9 eI fI gI eZ fZ gZ aO fO gO eO hDe hCe
  generalize hAe : (fun q => s.heap.size ≤ q : Nat → Prop) = A
  have hA : ∀ q : Nat, s.heap.size ≤ q → A q := fun q h => by rw [← hAe]; exact h
  have hS : va_S A s.heap s.heap [] := va_S.rf
  have hP : va_P D vwCl [] s.heap := fun k q h => by simp at h
  have hD : va_D A [] := ⟨fun i j p q h => by simp at h, fun k q h => by simp at h⟩
  have hl := lv_entry ([.ref b] : List Value) (n := 4) (Nat.le_of_ble_eq_true rfl)
  rw [lg_entry_eq]
  generalize (lg_sl ([.ref b] : List Value) ++ List.replicate (4 - (lg_sl ([.ref b] : List Value)).length) Slot.unset).toArray = ls at hl ⊢
  have hl : lv_has ls 4 [(0, .ref b)] := hl
  refine va_new (ci := 0) (fs := [.null, .null, .null, .null, .null, .null, .int 0, .int 0, .int 0]) (C := nR_GK) (T := nT_GK) (N := 9) hx hb hts ki_GK nt_GK kt_GK hown (hts _ (gw_in (List.mem_of_getElem? (i := 105) (by decide +kernel)) rfl : Cond.classLink nR_GL 7 nR_GK ∈ gw)) (hts _ (gw_in (List.mem_of_getElem? (i := 106) (by decide +kernel)) rfl : Cond.instantiable nR_GK 9 ∈ gw)) (hts _ (gw_in (List.mem_of_getElem? (i := 93) (by decide +kernel)) rfl : Cond.initialized nR_GK ∈ gw)) hK hP hD hS hA rfl (by decide +kernel) (Nat.le_of_ble_eq_true rfl) (Nat.le_of_ble_eq_true rfl) nd_GL_law_0 (fun q1 H hP hD hS => ?_)
  refine W.widen (k := 1) (n := 9) (Nat.le_of_ble_eq_true rfl) (Nat.le_of_ble_eq_true rfl) ?_
  refine lv_dup hx hb nd_GL_law_3 rfl ?_
  have hPc := zj_P (ws := []) hP
  have hDc := zj_D (ws := []) hD
  have hFc := zj_F (ws := []) hD hS hA
  refine va_callv (va_runI (As := []) (rest := [Value.ref q1]) ⟨hx, hb, hml, hown, hts⟩ (n_GK l D cA q1 H.size) (cwI 0 hts (gi_code (gw_in (tb_1 (List.mem_of_getElem? (i := 17) rfl)) rfl)) rfl rfl rfl (hts _ (gw_in (List.mem_of_getElem? (i := 93) (by decide +kernel)) rfl : Cond.initialized nR_GK ∈ gw)) (hts _ (gw_in (List.mem_of_getElem? (i := 107) (by decide +kernel)) rfl : Cond.methodLink nR_GL 9 ny_GK_init ∈ gw)) (hts _ (gw_in (List.mem_of_getElem? (i := 108) (by decide +kernel)) rfl : Cond.instanceMethod ny_GK_init ∈ gw)) rfl (by decide +kernel) ⟨Nat.le_of_ble_eq_true rfl, Nat.le_of_ble_eq_true rfl⟩) ⟨zn_blindO, fun U hU hW => ⟨rfl, by rw [hU], by rw [hU]; exact hPc, va_K.moved hW.alike hK, hDc.weaken (fun _ _ _ _ => trivial), va_AO.moved hW.alike hAO⟩⟩ rfl rfl hl.1 rfl (lv_room (Nat.le_of_ble_eq_true rfl)) nd_GL_law_4 ⟨Nat.le_of_ble_eq_true rfl, Nat.le_of_ble_eq_true rfl⟩) hS (fun q _ h => hFc q h) hFc (fun u1 t H1 locs ht hvm hw hB hz1 hk1 hS => ?_)
  obtain ⟨hP1, hK1, hD1⟩ := hB
  rw [ht] at hP1
  obtain ⟨hP, hD⟩ := zj_join (ws := []) hP hD hk1 hFc hP1 hD1
  generalize H1 = H at hP hS ⊢
  have hP : va_P D vwCl (wGK cA q1 u1) H := hP
  have hD : va_D A (wGK cA q1 u1) := hD
  refine W.widen (k := 59) (n := 701) (Nat.le_of_ble_eq_true rfl) (Nat.le_of_ble_eq_true rfl) ?_
  refine lv_astore_n hx hb nd_GL_law_7 rfl hl (by decide) rfl (fun ls hl => ?_)
  have hl : lv_has ls 4 [(1, .ref q1), (0, .ref b)] := hl
  refine va_new (ci := 9) (fs := [.null, .null, .int 0, .int 0, .int 0, .int 0, .null, .null, .null, .null, .null, .null, .null, .null, .null, .null, .null, .null, .null, .null, .null, .null, .null, .null, .null, .null, .null, .null, .int 0, .null, .null, .null, .null, .int 0, .null, .int 0, .null, .int 0, .int 0, .int 0]) (C := nR_GM) (T := nT_GM) (N := 40) hx hb hts ki_GM nt_GM kt_GM hown (hts _ (gw_in (List.mem_of_getElem? (i := 813) (by decide +kernel)) rfl : Cond.classLink nR_GL 10 nR_GM ∈ gw)) (hts _ (gw_in (List.mem_of_getElem? (i := 814) (by decide +kernel)) rfl : Cond.instantiable nR_GM 40 ∈ gw)) (hts _ (gw_in (List.mem_of_getElem? (i := 102) (by decide +kernel)) rfl : Cond.initialized nR_GM ∈ gw)) hK hP hD hS hA rfl (by decide +kernel) (Nat.le_of_ble_eq_true rfl) (Nat.le_of_ble_eq_true rfl) nd_GL_law_8 (fun q2 H hP hD hS => ?_)
  refine W.widen (k := 60) (n := 741) (Nat.le_of_ble_eq_true rfl) (Nat.le_of_ble_eq_true rfl) ?_
  refine lv_dup hx hb nd_GL_law_11 rfl ?_
  have hPc := zj_P (ws := (wGK cA q1 u1)) hP
  have hDc := zj_D (ws := (wGK cA q1 u1)) hD
  have hFc := zj_F (ws := (wGK cA q1 u1)) hD hS hA
  refine va_callv (va_runI (As := []) (rest := [Value.ref q2]) ⟨hx, hb, hml, hown, hts⟩ (n_GM l D cA q2 H.size) (cwI 0 hts (gi_code (gw_in (tb_4 (List.mem_of_getElem? (i := 5) rfl)) rfl)) rfl rfl rfl (hts _ (gw_in (List.mem_of_getElem? (i := 102) (by decide +kernel)) rfl : Cond.initialized nR_GM ∈ gw)) (hts _ (gw_in (List.mem_of_getElem? (i := 815) (by decide +kernel)) rfl : Cond.methodLink nR_GL 12 ny_GM_init ∈ gw)) (hts _ (gw_in (List.mem_of_getElem? (i := 816) (by decide +kernel)) rfl : Cond.instanceMethod ny_GM_init ∈ gw)) rfl (by decide +kernel) ⟨Nat.le_of_ble_eq_true rfl, Nat.le_of_ble_eq_true rfl⟩) ⟨zn_blind, fun U hU hW => ⟨rfl, by rw [hU], by rw [hU]; exact hPc, va_K.moved hW.alike hK, hDc.weaken (fun _ _ _ _ => trivial)⟩⟩ rfl rfl hl.1 rfl (lv_room (Nat.le_of_ble_eq_true rfl)) nd_GL_law_12 ⟨Nat.le_of_ble_eq_true rfl, Nat.le_of_ble_eq_true rfl⟩) hS (fun q _ h => hFc q h) hFc (fun u2 t H1 locs ht hvm hw hB hz1 hk1 hS => ?_)
  obtain ⟨hP1, hK1, hD1⟩ := hB
  rw [ht] at hP1
  obtain ⟨hP, hD⟩ := zj_join (ws := (wGK cA q1 u1)) hP hD hk1 hFc hP1 hD1
  generalize H1 = H at hP hS ⊢
  refine W.widen (k := 90) (n := 1369) (Nat.le_of_ble_eq_true rfl) (Nat.le_of_ble_eq_true rfl) ?_
  refine lv_astore_n hx hb nd_GL_law_15 rfl hl (by decide) rfl (fun ls hl => ?_)
  have hl : lv_has ls 4 [(2, .ref q2), (1, .ref q1), (0, .ref b)] := hl
  refine lv_iconst (v := 0) hx hb nd_GL_law_16 (by decide) ?_
  refine lv_istore_n hx hb nd_GL_law_17 rfl hl (by decide) rfl (fun ls hl => ?_)
  have hl : lv_has ls 4 [(3, .int (nI 0)), (2, .ref q2), (1, .ref q1), (0, .ref b)] := hl
  have hPC : zP (sC l (D, cA, ad1 q1 u1)) s0C H := zP_of (fun k p n c h1 h2 => (st_C hP k p n c h1 h2).2)
  have hPM : zP (sM l (D, cA, ad2 q2 u2)) s0M H := zP_of (fun k p n c h1 h2 => (st_M hP k p n c h1 h2).2)
  have hdis := st_dis hP hD (l := l)
  have hj1 := st_inj1 hP hD
  have hj2 := st_inj2 hP hD
  have hn1 := st_new1 hP hD (l := l)
  have hn2 := st_new2 hP hD (l := l)
  subst hAe
  exact law_loop (V1 := (D, cA, ad1 q1 u1)) (V2 := (D, cA, ad2 q2 u2)) Rel hStep hx hb hr hml hown hts hX hbl hlocks hL ⟨hj1, y1_nd, gw_good⟩ ⟨hj2, y2_nd, gw_good⟩ hK hK hdis (fun q h h' => hdis q h' h) hn1 hn2 L 0 (by omega) (by omega) s0C s0M H locs ls hR0 hPC hPM hS hl
