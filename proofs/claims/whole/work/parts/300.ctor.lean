/-! constructors: lemmas, worlds (by hand), contracts (printed) -/
theorem zj_P {D : va_G} {cl : List vw_C} {ws : va_W} {x : Nat × va_E} {H : Heap} (h : va_P D cl (ws ++ [x]) H) : va_P D cl [x] H := fun k q hk => by
  have h0 : k = 0 := by
    have := (List.getElem?_eq_some_iff.mp hk).1
    simp at this
    omega
  subst h0
  exact h ws.length q (by rw [List.getElem?_append_right (Nat.le_refl _), Nat.sub_self]; exact hk)
theorem zj_D {A : Nat → Prop} {ws : va_W} {x : Nat × va_E} (h : va_D A (ws ++ [x])) : va_D A [x] := by
  refine ⟨fun i j a b ha hb _ => ?_, fun k q hk => ?_⟩
  · have h1 := (List.getElem?_eq_some_iff.mp ha).1
    have h2 := (List.getElem?_eq_some_iff.mp hb).1
    simp at h1 h2
    omega
  · have h0 : k = 0 := by
      have := (List.getElem?_eq_some_iff.mp hk).1
      simp at this
      omega
    subst h0
    exact h.2 ws.length q (by rw [List.getElem?_append_right (Nat.le_refl _), Nat.sub_self]; exact hk)
theorem zj_F {A : Nat → Prop} {ws : va_W} {x : Nat × va_E} {H0 H : Heap} {locs : List Loc} (hD : va_D A (ws ++ [x])) (hS : va_S A H0 H locs) (hA : ∀ q, H0.size ≤ q → A q) : ∀ q, va_A [x] H.size q → A q := by
  intro q h
  rcases h with ⟨k, e, h⟩ | h
  · exact (zj_D hD).2 k _ h
  · exact hA q (Nat.le_trans hS.1 h)
theorem zj_join {A : Nat → Prop} {D : va_G} {cl : List vw_C} {ws w1 : va_W} {x : Nat × va_E} {H H1 : Heap} (hP : va_P D cl (ws ++ [x]) H) (hD : va_D A (ws ++ [x])) (hk : ∀ q : Nat, q < H.size → ¬ va_A [x] H.size q → H1[q]? = H[q]?) (hF : ∀ q, va_A [x] H.size q → A q) (hP1 : va_P D cl w1 H1) (hD1 : va_D (va_A [x] H.size) w1) : va_P D cl (ws ++ w1) H1 ∧ va_D A (ws ++ w1) := by
  have at' : ∀ (k : Nat) (q : Nat × va_E), ws[k]? = some q → (ws ++ [x])[k]? = some q := fun k q h => by
    rw [List.getElem?_append_left (List.getElem?_eq_some_iff.mp h).1]; exact h
  have last : (ws ++ [x])[ws.length]? = some x := by rw [List.getElem?_append_right (Nat.le_refl _), Nat.sub_self]; rfl
  have apart : ∀ (k : Nat) (q : Nat × va_E), ws[k]? = some q → q.1 < H.size ∧ ¬ va_A [x] H.size q.1 := by
    intro k q hq
    have hl := (hP k q (at' k q hq)).lt
    refine ⟨hl, fun h => ?_⟩
    rcases h with ⟨k2, e, h⟩ | h
    · have h0 : k2 = 0 := by
        have := (List.getElem?_eq_some_iff.mp h).1
        simp at this
        omega
      subst h0
      have h1 : x = (q.1, e) := Option.some.inj h
      have h2 := hD.1 k ws.length q x (at' k q hq) last (by rw [h1])
      have h3 := (List.getElem?_eq_some_iff.mp hq).1
      omega
    · omega
  refine ⟨va_P.app (fun k q hq => (hP k q (at' k q hq)).kept (hk q.1 (apart k q hq).1 (apart k q hq).2)) hP1, va_D.app ⟨fun i j a b ha hb hab => hD.1 i j a b (at' i a ha) (at' j b hb) hab, fun k q hq => hD.2 k q (at' k q hq)⟩ (hD1.weaken (fun k q _ h => hF q.1 h)) (fun i j a b ha hb hab => (apart i a ha).2 (by rw [hab]; exact hD1.2 j b hb))⟩
theorem zj_ra {U : State} {cA : ClassId} {ty : FieldType} (h : va_RA U cA ty) : U.vm.findClass ("[" ++ ty.toString) = some cA := by
  cases ty with
  | object C =>
    obtain ⟨kA, comp, h1, h2, h3, h4⟩ := h
    exact h4
  | _ => exact h
section ZNEW
variable {p : Program} {l : Launch} {e : Env} {R : Room} {s : State} {m : MethodId} {args : Array Value} {below : List Frame} {meth : Method} {c : Code} {H : Heap} {locs : List Loc} {cells slots : Nat} {Q : State → Prop}
variable {cc : ByteArray} {pc : Nat} {ls : Array Slot} {rest : List Value} {D : va_G} {cl : List vw_C} {A : Nat → Prop} {a : Nat} {tys : List (ClassId × FieldType)} {ws : va_W} {H0 : Heap}
theorem zn_newa (hexec : p.tables.exec = Jvm.exec) (hb : c.code = cc) {atype : ArrayType} {ty : FieldType} (harr : (Cond.arrayClass (newarray.typeOf atype)).before args s = true) (hty : newarray.typeOf atype = ty) (hK : va_K D cl tys s) (hP : va_P D cl ws H) (hD : va_D A ws) (hS : va_S A H0 H locs) (hA : ∀ q, H0.size ≤ q → A q) (t0 : Nat) {cA : ClassId} (ht : tys[t0]? = some (cA, ty))
    {n : Int32} {N' : Nat} {a0 : vp_A} (ha : ∀ cA : ClassId, vp_cell cA a0 = arrV cA N' (fun _ => defaultValue ty)) (hn : ¬ n < 0) (hN : n.toNatClampNeg = N') (hbytes : N' * componentBytes ty ≤ 536870912) (hcells : cells + 1 ≤ R.cells) (hslots : slots + N' ≤ R.slots) (hdg : decode cc pc = .ok (.newarray atype, 2))
    (kk : ∀ (q : Nat) (H1 : Heap), va_P D cl (ws ++ [(q, .inl (cA, a0))]) H1 → va_D A (ws ++ [(q, .inl (cA, a0))]) → va_S A H0 H1 locs → W p l e R s m args below meth c H1 locs (cells + 1) (slots + N') Q (F0 m (pc + 2) ls (.ref q :: rest))) : W p l e R s m args below meth c H locs cells slots Q (F0 m pc ls (.int n :: rest)) := by
  refine va_newa hexec hb harr hty hK hP hD hS hA ha hn hN hbytes hcells hslots hdg (fun q cB H1 hK1 hP1 hD1 hS1 => ?_)
  have h1 := zj_ra (hK1.2 tys.length (cB, ty) (by rw [List.getElem?_append_right (Nat.le_refl _), Nat.sub_self]; rfl)).2
  have h2 := zj_ra (hK.2 t0 _ ht).2
  have h3 : cB = cA := Option.some.inj (h1.symm.trans h2)
  subst h3
  exact kk q H1 hP1 hD1 hS1
theorem zn_newq (hexec : p.tables.exec = Jvm.exec) (hb : c.code = cc) {own C : String} {index : Nat} (hown : s.vm.findClass own = some m.cls) (hclink : (Cond.classLink own index C).before args s = true) (hover : va_AO C s) (hK : va_K D cl tys s) (hP : va_P D cl ws H) (hD : va_D A ws) (hS : va_S A H0 H locs) (hA : ∀ q, H0.size ≤ q → A q) (t0 : Nat) {cA : ClassId} (ht : tys[t0]? = some (cA, .object C))
    {n : Int32} {N' : Nat} (hn : ¬ n < 0) (hN : n.toNatClampNeg = N') (hbytes : N' * 4 ≤ 536870912) (hcells : cells + 1 ≤ R.cells) (hslots : slots + N' ≤ R.slots) (hdg : decode cc pc = .ok (.anewarray index, 3))
    (kk : ∀ (q : Nat) (H1 : Heap), va_P D cl (ws ++ [(q, .inl (cA, N', .inr (.inr (.inr (.inr (fun _ => none))))))]) H1 → va_D A (ws ++ [(q, .inl (cA, N', .inr (.inr (.inr (.inr (fun _ => none))))))]) → va_S A H0 H1 locs → W p l e R s m args below meth c H1 locs (cells + 1) (slots + N') Q (F0 m (pc + 3) ls (.ref q :: rest))) : W p l e R s m args below meth c H locs cells slots Q (F0 m pc ls (.int n :: rest)) := by
  refine va_newq hexec hb hown hclink hover hK hP hD hS hA hn hN hbytes hcells hslots hdg (fun q cB H1 hK1 hP1 hD1 hS1 => ?_)
  have h1 := zj_ra (hK1.2 tys.length (cB, .object C) (by rw [List.getElem?_append_right (Nat.le_refl _), Nat.sub_self]; rfl)).2
  have h2 := zj_ra (hK.2 t0 _ ht).2
  have h3 : cB = cA := Option.some.inj (h1.symm.trans h2)
  subst h3
  exact kk q H1 hP1 hD1 hS1
end ZNEW
theorem gi_code {y : MethodName} {cc : ByteArray} {n : Nat} {ret : Option FieldType} (h : Cond.code y cc n ret ∈ gw) : GoodIn gw (.code y cc n ret :: gw) := by
  intro w hw
  rcases List.mem_cons.mp hw with rfl | h1
  · exact gw_good _ h
  · exact gw_good _ h1
abbrev zar (cI : ClassId) (n : Nat) : va_E := .inl (cI, n, .inl (fun _ => 0))
abbrev zarq (cO : ClassId) (f : Nat → Option Nat) : va_E := .inl (cO, 4, .inr (.inr (.inr (.inr f))))
abbrev wMe (cA : Nat → ClassId) (h : Nat) (u : Nat × Nat) : va_W := [(h, .inr (1, [.ref u.1, .ref u.2])), (u.1, zar (cA 0) 256), (u.2, zar (cA 0) 128)]
abbrev wUQ (cA : Nat → ClassId) (h : Nat) (u : Nat × Nat × Nat) : va_W := [(h, .inr (2, [.ref u.1, .ref u.2.1, .ref u.2.2, .int 0])), (u.1, zar (cA 0) 4), (u.2.1, zar (cA 0) 4), (u.2.2, zar (cA 0) 4)]
abbrev wNo (cA : Nat → ClassId) (h : Nat) (u : Nat × Nat × Nat × Nat × Nat × Nat × (Nat × Nat × Nat)) : va_W := (h, .inr (3, [.ref u.1, .ref u.2.1, .ref u.2.2.1, .ref u.2.2.2.1, .ref u.2.2.2.2.1, .ref u.2.2.2.2.2.1, .int 0])) :: ([(u.1, zar (cA 0) 3), (u.2.1, zar (cA 0) 3), (u.2.2.1, zar (cA 0) 3), (u.2.2.2.1, zar (cA 0) 3), (u.2.2.2.2.1, zar (cA 0) 3)] ++ wUQ cA u.2.2.2.2.2.1 u.2.2.2.2.2.2)
abbrev uBP : Type := Nat × Nat × (Nat × Nat × Nat × Nat × Nat × Nat × (Nat × Nat × Nat))
abbrev wBP (cA : Nat → ClassId) (m h : Nat) (u : uBP) : va_W := (h, .inr (4, [.ref m, .ref u.1, .int 0, .int 0, .int 0, .int 0, .int 0, .int 0, .int 0, .int 0, .ref u.2.1, .int 0, .int 0, .int 0, .int 0, .int 0, .int 2, .int 0, .int 0, .int 0])) :: (wNo cA u.1 u.2.2 ++ [(u.2.1, zar (cA 0) 8)])
abbrev wCo (cA : Nat → ClassId) (h : Nat) (u : Nat × Nat) : va_W := [(h, .inr (6, [.ref u.1, .ref u.2, .int 0, .int 0])), (u.1, zar (cA 0) 8), (u.2, zar (cA 0) 16)]
abbrev wKe (h m ps co : Nat) : va_W := [(h, .inr (7, [.ref m, .ref ps, .ref co, .int 0]))]
abbrev wLo (h m ps : Nat) : va_W := [(h, .inr (5, [.ref m, .ref ps, .int 0, .int 0]))]
abbrev wPr (h m : Nat) : va_W := [(h, .inr (8, [.ref m, .int 0]))]
abbrev uGK : Type := Nat × (Nat × Nat) × Nat × (Nat × uBP) × (Nat × uBP) × (Nat × uBP) × (Nat × uBP) × Nat × (Nat × Nat) × Nat × Nat × Nat
abbrev zpr (b0 b1 b2 b3 : Nat) : Nat → Option Nat := va_up (va_up (va_up (va_up (fun _ => none) 0 (some b0)) 1 (some b1)) 2 (some b2)) 3 (some b3)
abbrev wGM (cA : Nat → ClassId) (h : Nat) (u : Nat → Nat) : va_W := (h, .inr (9, [.ref (u 0), .ref (u 1), .int 0, .int (-1), .int 0, .int 0, .ref (u 2), .ref (u 3), .ref (u 4), .ref (u 5), .ref (u 6), .ref (u 7), .ref (u 8), .ref (u 9), .ref (u 10), .ref (u 11), .ref (u 12), .ref (u 13), .ref (u 14), .ref (u 15), .ref (u 16), .ref (u 17), .ref (u 18), .ref (u 19), .ref (u 20), .ref (u 21), .ref (u 22), .ref (u 23), .int 0, .ref (u 24), .ref (u 25), .ref (u 26), .ref (u 27), .int 0, .ref (u 28), .int 0, .ref (u 29), .int 0, .int 0, .int 0])) :: [(u 0, zar (cA 0) 256), (u 1, zar (cA 0) 128), (u 2, zar (cA 0) 4), (u 3, zar (cA 0) 4), (u 4, zar (cA 0) 4), (u 5, zar (cA 0) 4), (u 6, zar (cA 0) 4), (u 7, zar (cA 0) 4), (u 8, zar (cA 0) 4), (u 9, zar (cA 0) 4), (u 10, zar (cA 0) 32), (u 11, zar (cA 0) 4), (u 12, zar (cA 0) 4), (u 13, zar (cA 0) 4), (u 14, zar (cA 0) 4), (u 15, zar (cA 2) 4), (u 16, zar (cA 0) 4), (u 17, zar (cA 0) 4), (u 18, zar (cA 0) 4), (u 19, zar (cA 0) 12), (u 20, zar (cA 0) 12), (u 21, zar (cA 0) 12), (u 22, zar (cA 0) 12), (u 23, zar (cA 0) 12), (u 24, zar (cA 0) 16), (u 25, zar (cA 0) 16), (u 26, zar (cA 0) 16), (u 27, zar (cA 0) 16), (u 28, zar (cA 0) 8), (u 29, zar (cA 0) 16)]
abbrev wGK (cA : Nat → ClassId) (h : Nat) (u : uGK) : va_W := (h, .inr (0, [.ref u.1, .ref u.2.2.1, .ref u.2.2.2.2.2.2.2.1, .ref u.2.2.2.2.2.2.2.2.2.1, .ref u.2.2.2.2.2.2.2.2.2.2.1, .ref u.2.2.2.2.2.2.2.2.2.2.2, .int 0, .int (-1), .int 0])) :: (wMe cA u.1 u.2.1 ++ [(u.2.2.1, zarq (cA 1) (zpr u.2.2.2.1.1 u.2.2.2.2.1.1 u.2.2.2.2.2.1.1 u.2.2.2.2.2.2.1.1))] ++ wBP cA u.1 u.2.2.2.1.1 u.2.2.2.1.2 ++ wBP cA u.1 u.2.2.2.2.1.1 u.2.2.2.2.1.2 ++ wBP cA u.1 u.2.2.2.2.2.1.1 u.2.2.2.2.2.1.2 ++ wBP cA u.1 u.2.2.2.2.2.2.1.1 u.2.2.2.2.2.2.1.2 ++ wCo cA u.2.2.2.2.2.2.2.1 u.2.2.2.2.2.2.2.2.1 ++ wKe u.2.2.2.2.2.2.2.2.2.1 u.1 u.2.2.1 u.2.2.2.2.2.2.2.1 ++ wLo u.2.2.2.2.2.2.2.2.2.2.1 u.1 u.2.2.1 ++ wPr u.2.2.2.2.2.2.2.2.2.2.2 u.1)
theorem kx_118 : Cond.methodLink nR_Me 3 Lib.objectInit ∈ gw := gw_in (List.mem_of_getElem? (i := 118) (by decide +kernel)) rfl
theorem kx_111 : Cond.instanceMethod Lib.objectInit ∈ gw := gw_in (List.mem_of_getElem? (i := 111) (by decide +kernel)) rfl
theorem kx_112 : Cond.code Lib.objectInit ⟨#[0xb1]⟩ 1 none ∈ gw := gw_in (tb_1 (List.mem_of_getElem? (i := 20) rfl)) rfl
theorem kx_129 : Cond.arrayClass .int ∈ gw := gw_in (List.mem_of_getElem? (i := 129) (by decide +kernel)) rfl
theorem kx_119 : Cond.fieldLink nR_Me 9 (nT_Me 0).1 (nT_Me 0).2.1 (nT_Me 0).2.2.1 ∈ gw := gw_in (List.mem_of_getElem? (i := 119) (by decide +kernel)) rfl
theorem kx_122 : Cond.fieldLink nR_Me 15 (nT_Me 1).1 (nT_Me 1).2.1 (nT_Me 1).2.2.1 ∈ gw := gw_in (List.mem_of_getElem? (i := 122) (by decide +kernel)) rfl
theorem kx_148 : Cond.methodLink nR_UQ 1 Lib.objectInit ∈ gw := gw_in (List.mem_of_getElem? (i := 148) (by decide +kernel)) rfl
theorem kx_149 : Cond.fieldLink nR_UQ 9 (nT_UQ 0).1 (nT_UQ 0).2.1 (nT_UQ 0).2.2.1 ∈ gw := gw_in (List.mem_of_getElem? (i := 149) (by decide +kernel)) rfl
theorem kx_151 : Cond.fieldLink nR_UQ 13 (nT_UQ 1).1 (nT_UQ 1).2.1 (nT_UQ 1).2.2.1 ∈ gw := gw_in (List.mem_of_getElem? (i := 151) (by decide +kernel)) rfl
theorem kx_153 : Cond.fieldLink nR_UQ 16 (nT_UQ 2).1 (nT_UQ 2).2.1 (nT_UQ 2).2.2.1 ∈ gw := gw_in (List.mem_of_getElem? (i := 153) (by decide +kernel)) rfl
theorem kx_142 : Cond.methodLink nR_No 3 Lib.objectInit ∈ gw := gw_in (List.mem_of_getElem? (i := 142) (by decide +kernel)) rfl
theorem kx_168 : Cond.fieldLink nR_No 9 (nT_No 0).1 (nT_No 0).2.1 (nT_No 0).2.2.1 ∈ gw := gw_in (List.mem_of_getElem? (i := 168) (by decide +kernel)) rfl
theorem kx_171 : Cond.fieldLink nR_No 15 (nT_No 1).1 (nT_No 1).2.1 (nT_No 1).2.2.1 ∈ gw := gw_in (List.mem_of_getElem? (i := 171) (by decide +kernel)) rfl
theorem kx_173 : Cond.fieldLink nR_No 18 (nT_No 2).1 (nT_No 2).2.1 (nT_No 2).2.2.1 ∈ gw := gw_in (List.mem_of_getElem? (i := 173) (by decide +kernel)) rfl
theorem kx_175 : Cond.fieldLink nR_No 21 (nT_No 3).1 (nT_No 3).2.1 (nT_No 3).2.2.1 ∈ gw := gw_in (List.mem_of_getElem? (i := 175) (by decide +kernel)) rfl
theorem kx_177 : Cond.fieldLink nR_No 24 (nT_No 4).1 (nT_No 4).2.1 (nT_No 4).2.2.1 ∈ gw := gw_in (List.mem_of_getElem? (i := 177) (by decide +kernel)) rfl
theorem kx_143 : Cond.classLink nR_No 27 nR_UQ ∈ gw := gw_in (List.mem_of_getElem? (i := 143) (by decide +kernel)) rfl
theorem kx_144 : Cond.instantiable nR_UQ 4 ∈ gw := gw_in (List.mem_of_getElem? (i := 144) (by decide +kernel)) rfl
theorem kx_97 : Cond.initialized nR_UQ ∈ gw := gw_in (List.mem_of_getElem? (i := 97) (by decide +kernel)) rfl
theorem kx_147 : Cond.code ny_UQ_init nc_UQ_init 1 none ∈ gw := gw_in (tb_1 (List.mem_of_getElem? (i := 55) rfl)) rfl
theorem kx_145 : Cond.methodLink nR_No 29 ny_UQ_init ∈ gw := gw_in (List.mem_of_getElem? (i := 145) (by decide +kernel)) rfl
theorem kx_146 : Cond.instanceMethod ny_UQ_init ∈ gw := gw_in (List.mem_of_getElem? (i := 146) (by decide +kernel)) rfl
theorem kx_179 : Cond.fieldLink nR_No 30 (nT_No 5).1 (nT_No 5).2.1 (nT_No 5).2.2.1 ∈ gw := gw_in (List.mem_of_getElem? (i := 179) (by decide +kernel)) rfl
theorem kx_136 : Cond.methodLink nR_BP 3 Lib.objectInit ∈ gw := gw_in (List.mem_of_getElem? (i := 136) (by decide +kernel)) rfl
theorem kx_199 : Cond.fieldLink nR_BP 9 (nT_BP 0).1 (nT_BP 0).2.1 (nT_BP 0).2.2.1 ∈ gw := gw_in (List.mem_of_getElem? (i := 199) (by decide +kernel)) rfl
theorem kx_137 : Cond.classLink nR_BP 15 nR_No ∈ gw := gw_in (List.mem_of_getElem? (i := 137) (by decide +kernel)) rfl
theorem kx_138 : Cond.instantiable nR_No 7 ∈ gw := gw_in (List.mem_of_getElem? (i := 138) (by decide +kernel)) rfl
theorem kx_96 : Cond.initialized nR_No ∈ gw := gw_in (List.mem_of_getElem? (i := 96) (by decide +kernel)) rfl
theorem kx_141 : Cond.code ny_No_init nc_No_init 1 none ∈ gw := gw_in (tb_1 (List.mem_of_getElem? (i := 49) rfl)) rfl
theorem kx_139 : Cond.methodLink nR_BP 17 ny_No_init ∈ gw := gw_in (List.mem_of_getElem? (i := 139) (by decide +kernel)) rfl
theorem kx_140 : Cond.instanceMethod ny_No_init ∈ gw := gw_in (List.mem_of_getElem? (i := 140) (by decide +kernel)) rfl
theorem kx_200 : Cond.fieldLink nR_BP 18 (nT_BP 1).1 (nT_BP 1).2.1 (nT_BP 1).2.2.1 ∈ gw := gw_in (List.mem_of_getElem? (i := 200) (by decide +kernel)) rfl
theorem kx_224 : Cond.fieldLink nR_BP 22 (nT_BP 10).1 (nT_BP 10).2.1 (nT_BP 10).2.2.1 ∈ gw := gw_in (List.mem_of_getElem? (i := 224) (by decide +kernel)) rfl
theorem kx_239 : Cond.fieldLink nR_BP 26 (nT_BP 16).1 (nT_BP 16).2.1 (nT_BP 16).2.2.1 ∈ gw := gw_in (List.mem_of_getElem? (i := 239) (by decide +kernel)) rfl
theorem kx_293 : Cond.methodLink nR_Co 1 Lib.objectInit ∈ gw := gw_in (List.mem_of_getElem? (i := 293) (by decide +kernel)) rfl
theorem kx_294 : Cond.fieldLink nR_Co 9 (nT_Co 0).1 (nT_Co 0).2.1 (nT_Co 0).2.2.1 ∈ gw := gw_in (List.mem_of_getElem? (i := 294) (by decide +kernel)) rfl
theorem kx_295 : Cond.fieldLink nR_Co 13 (nT_Co 1).1 (nT_Co 1).2.1 (nT_Co 1).2.2.1 ∈ gw := gw_in (List.mem_of_getElem? (i := 295) (by decide +kernel)) rfl
theorem kx_314 : Cond.methodLink nR_Ke 3 Lib.objectInit ∈ gw := gw_in (List.mem_of_getElem? (i := 314) (by decide +kernel)) rfl
theorem kx_315 : Cond.fieldLink nR_Ke 9 (nT_Ke 0).1 (nT_Ke 0).2.1 (nT_Ke 0).2.2.1 ∈ gw := gw_in (List.mem_of_getElem? (i := 315) (by decide +kernel)) rfl
theorem kx_316 : Cond.fieldLink nR_Ke 15 (nT_Ke 1).1 (nT_Ke 1).2.1 (nT_Ke 1).2.2.1 ∈ gw := gw_in (List.mem_of_getElem? (i := 316) (by decide +kernel)) rfl
theorem kx_317 : Cond.fieldLink nR_Ke 19 (nT_Ke 2).1 (nT_Ke 2).2.1 (nT_Ke 2).2.2.1 ∈ gw := gw_in (List.mem_of_getElem? (i := 317) (by decide +kernel)) rfl
theorem kx_334 : Cond.methodLink nR_Lo 5 Lib.objectInit ∈ gw := gw_in (List.mem_of_getElem? (i := 334) (by decide +kernel)) rfl
theorem kx_335 : Cond.fieldLink nR_Lo 11 (nT_Lo 0).1 (nT_Lo 0).2.1 (nT_Lo 0).2.2.1 ∈ gw := gw_in (List.mem_of_getElem? (i := 335) (by decide +kernel)) rfl
theorem kx_336 : Cond.fieldLink nR_Lo 15 (nT_Lo 1).1 (nT_Lo 1).2.1 (nT_Lo 1).2.2.1 ∈ gw := gw_in (List.mem_of_getElem? (i := 336) (by decide +kernel)) rfl
theorem kx_353 : Cond.methodLink nR_Pr 3 Lib.objectInit ∈ gw := gw_in (List.mem_of_getElem? (i := 353) (by decide +kernel)) rfl
theorem kx_354 : Cond.fieldLink nR_Pr 9 (nT_Pr 0).1 (nT_Pr 0).2.1 (nT_Pr 0).2.2.1 ∈ gw := gw_in (List.mem_of_getElem? (i := 354) (by decide +kernel)) rfl
theorem kx_110 : Cond.methodLink nR_GK 1 Lib.objectInit ∈ gw := gw_in (List.mem_of_getElem? (i := 110) (by decide +kernel)) rfl
theorem kx_113 : Cond.classLink nR_GK 7 nR_Me ∈ gw := gw_in (List.mem_of_getElem? (i := 113) (by decide +kernel)) rfl
theorem kx_114 : Cond.instantiable nR_Me 2 ∈ gw := gw_in (List.mem_of_getElem? (i := 114) (by decide +kernel)) rfl
theorem kx_94 : Cond.initialized nR_Me ∈ gw := gw_in (List.mem_of_getElem? (i := 94) (by decide +kernel)) rfl
theorem kx_117 : Cond.code ny_Me_init nc_Me_init 1 none ∈ gw := gw_in (tb_1 (List.mem_of_getElem? (i := 25) rfl)) rfl
theorem kx_115 : Cond.methodLink nR_GK 9 ny_Me_init ∈ gw := gw_in (List.mem_of_getElem? (i := 115) (by decide +kernel)) rfl
theorem kx_116 : Cond.instanceMethod ny_Me_init ∈ gw := gw_in (List.mem_of_getElem? (i := 116) (by decide +kernel)) rfl
theorem kx_361 : Cond.fieldLink nR_GK 10 (nT_GK 0).1 (nT_GK 0).2.1 (nT_GK 0).2.2.1 ∈ gw := gw_in (List.mem_of_getElem? (i := 361) (by decide +kernel)) rfl
theorem kx_130 : Cond.classLink nR_GK 16 "GrantKernel$BoardProcess" ∈ gw := gw_in (List.mem_of_getElem? (i := 130) (by decide +kernel)) rfl
theorem kx_362 : Cond.fieldLink nR_GK 18 (nT_GK 1).1 (nT_GK 1).2.1 (nT_GK 1).2.2.1 ∈ gw := gw_in (List.mem_of_getElem? (i := 362) (by decide +kernel)) rfl
theorem kx_132 : Cond.instantiable nR_BP 20 ∈ gw := gw_in (List.mem_of_getElem? (i := 132) (by decide +kernel)) rfl
theorem kx_95 : Cond.initialized nR_BP ∈ gw := gw_in (List.mem_of_getElem? (i := 95) (by decide +kernel)) rfl
theorem kx_135 : Cond.code ny_BP_init nc_BP_init 2 none ∈ gw := gw_in (tb_1 (List.mem_of_getElem? (i := 43) rfl)) rfl
theorem kx_133 : Cond.methodLink nR_GK 22 ny_BP_init ∈ gw := gw_in (List.mem_of_getElem? (i := 133) (by decide +kernel)) rfl
theorem kx_134 : Cond.instanceMethod ny_BP_init ∈ gw := gw_in (List.mem_of_getElem? (i := 134) (by decide +kernel)) rfl
theorem kx_288 : Cond.classLink nR_GK 25 nR_Co ∈ gw := gw_in (List.mem_of_getElem? (i := 288) (by decide +kernel)) rfl
theorem kx_289 : Cond.instantiable nR_Co 4 ∈ gw := gw_in (List.mem_of_getElem? (i := 289) (by decide +kernel)) rfl
theorem kx_98 : Cond.initialized nR_Co ∈ gw := gw_in (List.mem_of_getElem? (i := 98) (by decide +kernel)) rfl
theorem kx_292 : Cond.code ny_Co_init nc_Co_init 1 none ∈ gw := gw_in (tb_1 (List.mem_of_getElem? (i := 200) rfl)) rfl
theorem kx_290 : Cond.methodLink nR_GK 27 ny_Co_init ∈ gw := gw_in (List.mem_of_getElem? (i := 290) (by decide +kernel)) rfl
theorem kx_291 : Cond.instanceMethod ny_Co_init ∈ gw := gw_in (List.mem_of_getElem? (i := 291) (by decide +kernel)) rfl
theorem kx_363 : Cond.fieldLink nR_GK 28 (nT_GK 2).1 (nT_GK 2).2.1 (nT_GK 2).2.2.1 ∈ gw := gw_in (List.mem_of_getElem? (i := 363) (by decide +kernel)) rfl
theorem kx_309 : Cond.classLink nR_GK 32 nR_Ke ∈ gw := gw_in (List.mem_of_getElem? (i := 309) (by decide +kernel)) rfl
theorem kx_310 : Cond.instantiable nR_Ke 4 ∈ gw := gw_in (List.mem_of_getElem? (i := 310) (by decide +kernel)) rfl
theorem kx_99 : Cond.initialized nR_Ke ∈ gw := gw_in (List.mem_of_getElem? (i := 99) (by decide +kernel)) rfl
theorem kx_313 : Cond.code ny_Ke_init nc_Ke_init 4 none ∈ gw := gw_in (tb_1 (List.mem_of_getElem? (i := 221) rfl)) rfl
theorem kx_311 : Cond.methodLink nR_GK 34 ny_Ke_init ∈ gw := gw_in (List.mem_of_getElem? (i := 311) (by decide +kernel)) rfl
theorem kx_312 : Cond.instanceMethod ny_Ke_init ∈ gw := gw_in (List.mem_of_getElem? (i := 312) (by decide +kernel)) rfl
theorem kx_364 : Cond.fieldLink nR_GK 37 (nT_GK 3).1 (nT_GK 3).2.1 (nT_GK 3).2.2.1 ∈ gw := gw_in (List.mem_of_getElem? (i := 364) (by decide +kernel)) rfl
theorem kx_329 : Cond.classLink nR_GK 41 nR_Lo ∈ gw := gw_in (List.mem_of_getElem? (i := 329) (by decide +kernel)) rfl
theorem kx_330 : Cond.instantiable nR_Lo 4 ∈ gw := gw_in (List.mem_of_getElem? (i := 330) (by decide +kernel)) rfl
theorem kx_100 : Cond.initialized nR_Lo ∈ gw := gw_in (List.mem_of_getElem? (i := 100) (by decide +kernel)) rfl
theorem kx_333 : Cond.code ny_Lo_init nc_Lo_init 3 none ∈ gw := gw_in (tb_2 (List.mem_of_getElem? (i := 1) rfl)) rfl
theorem kx_331 : Cond.methodLink nR_GK 43 ny_Lo_init ∈ gw := gw_in (List.mem_of_getElem? (i := 331) (by decide +kernel)) rfl
theorem kx_332 : Cond.instanceMethod ny_Lo_init ∈ gw := gw_in (List.mem_of_getElem? (i := 332) (by decide +kernel)) rfl
theorem kx_365 : Cond.fieldLink nR_GK 46 (nT_GK 4).1 (nT_GK 4).2.1 (nT_GK 4).2.2.1 ∈ gw := gw_in (List.mem_of_getElem? (i := 365) (by decide +kernel)) rfl
theorem kx_348 : Cond.classLink nR_GK 50 nR_Pr ∈ gw := gw_in (List.mem_of_getElem? (i := 348) (by decide +kernel)) rfl
theorem kx_349 : Cond.instantiable nR_Pr 2 ∈ gw := gw_in (List.mem_of_getElem? (i := 349) (by decide +kernel)) rfl
theorem kx_101 : Cond.initialized nR_Pr ∈ gw := gw_in (List.mem_of_getElem? (i := 101) (by decide +kernel)) rfl
theorem kx_352 : Cond.code ny_Pr_init nc_Pr_init 2 none ∈ gw := gw_in (tb_2 (List.mem_of_getElem? (i := 20) rfl)) rfl
theorem kx_350 : Cond.methodLink nR_GK 52 ny_Pr_init ∈ gw := gw_in (List.mem_of_getElem? (i := 350) (by decide +kernel)) rfl
theorem kx_351 : Cond.instanceMethod ny_Pr_init ∈ gw := gw_in (List.mem_of_getElem? (i := 351) (by decide +kernel)) rfl
theorem kx_366 : Cond.fieldLink nR_GK 53 (nT_GK 5).1 (nT_GK 5).2.1 (nT_GK 5).2.2.1 ∈ gw := gw_in (List.mem_of_getElem? (i := 366) (by decide +kernel)) rfl
theorem kx_368 : Cond.fieldLink nR_GK 57 (nT_GK 7).1 (nT_GK 7).2.1 (nT_GK 7).2.2.1 ∈ gw := gw_in (List.mem_of_getElem? (i := 368) (by decide +kernel)) rfl
theorem kx_818 : Cond.methodLink nR_GM 1 Lib.objectInit ∈ gw := gw_in (List.mem_of_getElem? (i := 818) (by decide +kernel)) rfl
theorem kx_819 : Cond.fieldLink nR_GM 7 (nT_GM 0).1 (nT_GM 0).2.1 (nT_GM 0).2.2.1 ∈ gw := gw_in (List.mem_of_getElem? (i := 819) (by decide +kernel)) rfl
theorem kx_820 : Cond.fieldLink nR_GM 13 (nT_GM 1).1 (nT_GM 1).2.1 (nT_GM 1).2.2.1 ∈ gw := gw_in (List.mem_of_getElem? (i := 820) (by decide +kernel)) rfl
theorem kx_822 : Cond.fieldLink nR_GM 16 (nT_GM 3).1 (nT_GM 3).2.1 (nT_GM 3).2.2.1 ∈ gw := gw_in (List.mem_of_getElem? (i := 822) (by decide +kernel)) rfl
theorem kx_825 : Cond.fieldLink nR_GM 20 (nT_GM 6).1 (nT_GM 6).2.1 (nT_GM 6).2.2.1 ∈ gw := gw_in (List.mem_of_getElem? (i := 825) (by decide +kernel)) rfl
theorem kx_826 : Cond.fieldLink nR_GM 23 (nT_GM 7).1 (nT_GM 7).2.1 (nT_GM 7).2.2.1 ∈ gw := gw_in (List.mem_of_getElem? (i := 826) (by decide +kernel)) rfl
theorem kx_827 : Cond.fieldLink nR_GM 26 (nT_GM 8).1 (nT_GM 8).2.1 (nT_GM 8).2.2.1 ∈ gw := gw_in (List.mem_of_getElem? (i := 827) (by decide +kernel)) rfl
theorem kx_828 : Cond.fieldLink nR_GM 29 (nT_GM 9).1 (nT_GM 9).2.1 (nT_GM 9).2.2.1 ∈ gw := gw_in (List.mem_of_getElem? (i := 828) (by decide +kernel)) rfl
theorem kx_829 : Cond.fieldLink nR_GM 32 (nT_GM 10).1 (nT_GM 10).2.1 (nT_GM 10).2.2.1 ∈ gw := gw_in (List.mem_of_getElem? (i := 829) (by decide +kernel)) rfl
theorem kx_830 : Cond.fieldLink nR_GM 35 (nT_GM 11).1 (nT_GM 11).2.1 (nT_GM 11).2.2.1 ∈ gw := gw_in (List.mem_of_getElem? (i := 830) (by decide +kernel)) rfl
theorem kx_831 : Cond.fieldLink nR_GM 38 (nT_GM 12).1 (nT_GM 12).2.1 (nT_GM 12).2.2.1 ∈ gw := gw_in (List.mem_of_getElem? (i := 831) (by decide +kernel)) rfl
theorem kx_832 : Cond.fieldLink nR_GM 41 (nT_GM 13).1 (nT_GM 13).2.1 (nT_GM 13).2.2.1 ∈ gw := gw_in (List.mem_of_getElem? (i := 832) (by decide +kernel)) rfl
theorem kx_833 : Cond.fieldLink nR_GM 44 (nT_GM 14).1 (nT_GM 14).2.1 (nT_GM 14).2.2.1 ∈ gw := gw_in (List.mem_of_getElem? (i := 833) (by decide +kernel)) rfl
theorem kx_834 : Cond.fieldLink nR_GM 47 (nT_GM 15).1 (nT_GM 15).2.1 (nT_GM 15).2.2.1 ∈ gw := gw_in (List.mem_of_getElem? (i := 834) (by decide +kernel)) rfl
theorem kx_835 : Cond.fieldLink nR_GM 50 (nT_GM 16).1 (nT_GM 16).2.1 (nT_GM 16).2.2.1 ∈ gw := gw_in (List.mem_of_getElem? (i := 835) (by decide +kernel)) rfl
theorem kx_836 : Cond.fieldLink nR_GM 53 (nT_GM 17).1 (nT_GM 17).2.1 (nT_GM 17).2.2.1 ∈ gw := gw_in (List.mem_of_getElem? (i := 836) (by decide +kernel)) rfl
theorem kx_837 : Cond.fieldLink nR_GM 56 (nT_GM 18).1 (nT_GM 18).2.1 (nT_GM 18).2.2.1 ∈ gw := gw_in (List.mem_of_getElem? (i := 837) (by decide +kernel)) rfl
theorem kx_940 : Cond.arrayClass .boolean ∈ gw := gw_in (List.mem_of_getElem? (i := 940) (by decide +kernel)) rfl
theorem kx_838 : Cond.fieldLink nR_GM 59 (nT_GM 19).1 (nT_GM 19).2.1 (nT_GM 19).2.2.1 ∈ gw := gw_in (List.mem_of_getElem? (i := 838) (by decide +kernel)) rfl
theorem kx_839 : Cond.fieldLink nR_GM 63 (nT_GM 20).1 (nT_GM 20).2.1 (nT_GM 20).2.2.1 ∈ gw := gw_in (List.mem_of_getElem? (i := 839) (by decide +kernel)) rfl
theorem kx_840 : Cond.fieldLink nR_GM 66 (nT_GM 21).1 (nT_GM 21).2.1 (nT_GM 21).2.2.1 ∈ gw := gw_in (List.mem_of_getElem? (i := 840) (by decide +kernel)) rfl
theorem kx_841 : Cond.fieldLink nR_GM 69 (nT_GM 22).1 (nT_GM 22).2.1 (nT_GM 22).2.2.1 ∈ gw := gw_in (List.mem_of_getElem? (i := 841) (by decide +kernel)) rfl
theorem kx_842 : Cond.fieldLink nR_GM 72 (nT_GM 23).1 (nT_GM 23).2.1 (nT_GM 23).2.2.1 ∈ gw := gw_in (List.mem_of_getElem? (i := 842) (by decide +kernel)) rfl
theorem kx_843 : Cond.fieldLink nR_GM 75 (nT_GM 24).1 (nT_GM 24).2.1 (nT_GM 24).2.2.1 ∈ gw := gw_in (List.mem_of_getElem? (i := 843) (by decide +kernel)) rfl
theorem kx_844 : Cond.fieldLink nR_GM 78 (nT_GM 25).1 (nT_GM 25).2.1 (nT_GM 25).2.2.1 ∈ gw := gw_in (List.mem_of_getElem? (i := 844) (by decide +kernel)) rfl
theorem kx_845 : Cond.fieldLink nR_GM 81 (nT_GM 26).1 (nT_GM 26).2.1 (nT_GM 26).2.2.1 ∈ gw := gw_in (List.mem_of_getElem? (i := 845) (by decide +kernel)) rfl
theorem kx_846 : Cond.fieldLink nR_GM 84 (nT_GM 27).1 (nT_GM 27).2.1 (nT_GM 27).2.2.1 ∈ gw := gw_in (List.mem_of_getElem? (i := 846) (by decide +kernel)) rfl
theorem kx_848 : Cond.fieldLink nR_GM 87 (nT_GM 29).1 (nT_GM 29).2.1 (nT_GM 29).2.2.1 ∈ gw := gw_in (List.mem_of_getElem? (i := 848) (by decide +kernel)) rfl
theorem kx_849 : Cond.fieldLink nR_GM 90 (nT_GM 30).1 (nT_GM 30).2.1 (nT_GM 30).2.2.1 ∈ gw := gw_in (List.mem_of_getElem? (i := 849) (by decide +kernel)) rfl
theorem kx_850 : Cond.fieldLink nR_GM 93 (nT_GM 31).1 (nT_GM 31).2.1 (nT_GM 31).2.2.1 ∈ gw := gw_in (List.mem_of_getElem? (i := 850) (by decide +kernel)) rfl
theorem kx_851 : Cond.fieldLink nR_GM 96 (nT_GM 32).1 (nT_GM 32).2.1 (nT_GM 32).2.2.1 ∈ gw := gw_in (List.mem_of_getElem? (i := 851) (by decide +kernel)) rfl
theorem kx_853 : Cond.fieldLink nR_GM 99 (nT_GM 34).1 (nT_GM 34).2.1 (nT_GM 34).2.2.1 ∈ gw := gw_in (List.mem_of_getElem? (i := 853) (by decide +kernel)) rfl
theorem kx_855 : Cond.fieldLink nR_GM 102 (nT_GM 36).1 (nT_GM 36).2.1 (nT_GM 36).2.2.1 ∈ gw := gw_in (List.mem_of_getElem? (i := 855) (by decide +kernel)) rfl
theorem zn_blind {av : List Value} {D : va_G} {ws : va_W} {sz : Nat} {tys : List (ClassId × FieldType)} : FrameBlind (va_Pc av (fun U => U.heap.size = sz ∧ va_P D vwCl ws U.heap ∧ va_K D vwCl tys U ∧ va_D (fun _ => True) ws)) := fun a U g mk q => by
  obtain ⟨q0, q1, qP, qK, qD⟩ := q
  exact ⟨q0, q1, qP, va_K.moved (u := U) (U := U.calling g mk a) (Vm.Alike.refl U.vm) qK, qD⟩
set_option maxHeartbeats 4000000 in
set_option maxRecDepth 100000 in
theorem n_Me (l : Launch) (D : va_G) (cA : Nat → ClassId) (h0 sz : Nat) : Met l ny_Me_init (.code ny_Me_init nc_Me_init 1 none :: gw) ({ frames := 1, cells := 2, slots := 384, locals := 12 }) (va_Pc [Value.ref h0] (fun U => U.heap.size = sz ∧ va_P D vwCl [(h0, .inr (1, [.null, .null]))] U.heap ∧ va_K D vwCl (zty cA TY) U ∧ va_D (fun _ => True) [(h0, .inr (1, [.null, .null]))])) (va_Qv (fun _ : Nat × Nat => True) (fun u t => va_P D vwCl (wMe cA h0 u) t.heap ∧ va_K D vwCl (zty cA TY) t ∧ va_D (va_A [(h0, .inr (1, [.null, .null]))] sz) (wMe cA h0 u)) (va_A [(h0, .inr (1, [.null, .null]))] sz)) 2 384 (va_A [(h0, .inr (1, [.null, .null]))] sz) := by
  refine Met.ofW (cc := nc_Me_init) (maxL := 1) (ret := none) (by decide) rfl ?_
  intro p e s m args below meth c s₁ B hml hv
  obtain ⟨rfl, hsz, hP, hK, hD0⟩ := hv
  have hx := B.exec
  have hb := B.bytes
  have hr := B.returns
  have hts := fun w (h : w ∈ gw) => atoms_spec (ws := (.code ny_Me_init nc_Me_init 1 none :: gw)) B.pre w (List.mem_cons_of_mem _ h)
  have hown : s.vm.findClass nR_Me = some m.cls := findClass_of_methodNamed B.named
  have hlocks := B.notSynchronized
  have hin : meth.name = "<init>" := (name_of_methodNamed B.named B.method).1
  subst hsz
  have hD := hD0.self (sz := s.heap.size)
  generalize hAe : va_A [(h0, .inr (1, [.null, .null]))] s.heap.size = A at hD ⊢
  have hA : ∀ q : Nat, s.heap.size ≤ q → A q := fun q h => by rw [← hAe]; exact Or.inr h
  have hS : va_S A s.heap s.heap [] := va_S.rf
  have hl := lv_entry ([Value.ref h0] : List Value) (n := 1) (Nat.le_of_ble_eq_true rfl)
  rw [lg_entry_eq]
  generalize (lg_sl ([Value.ref h0] : List Value) ++ List.replicate (1 - (lg_sl ([Value.ref h0] : List Value)).length) Slot.unset).toArray = ls at hl ⊢
  have hl : lv_has ls 1 [(0, Value.ref h0)] := hl
  refine lv_aload_n hx hb nd_Me_init_0 rfl (lv_at hl 0 rfl) ?_
  refine W.objInit hx hb hown (hts _ kx_118) (hts _ kx_111) (hts _ kx_112) rfl (by rw [hml]; exact hl.1) rfl nd_Me_init_1 (Nat.le_of_ble_eq_true rfl) (Nat.le_of_ble_eq_true rfl) ?_
  refine W.eq (g2 := F0 m 4 ls []) rfl ?_
  refine lv_aload_n hx hb nd_Me_init_4 rfl (lv_at hl 0 rfl) ?_
  refine lv_sipush (v := 256) hx hb nd_Me_init_5 (by decide) ?_
  refine zn_newa (atype := .int) (ty := .int) (a0 := (256, .inl (fun _ => 0))) hx hb (hts _ kx_129) rfl hK hP hD hS hA 0 (cA := cA 0) rfl (fun _ => rfl) (by decide) (by decide) (by decide) (Nat.le_of_ble_eq_true rfl) (Nat.le_of_ble_eq_true rfl) nd_Me_init_8 (fun q8 H hP hD hS => ?_)
  have hP : va_P D vwCl ((h0, .inr (1, [.null, .null])) :: [(q8, zar (cA 0) 256)]) H := hP
  have hD : va_D A ((h0, .inr (1, [.null, .null])) :: [(q8, zar (cA 0) 256)]) := hD
  refine W.widen (k := 1) (n := 256) (Nat.le_of_ble_eq_true rfl) (Nat.le_of_ble_eq_true rfl) ?_
  refine va_putF (D := D) (ci := 1) (v := .ref q8) (ty := .array (.int)) (C := nR_Me) (T := nT_Me) (N := 2) hx hb hts ki_Me nt_Me kt_Me kn_Me hown hK hP hD hS 0 rfl rfl 0 (by decide) (hts _ kx_119) (fun _ h9 => h9) rfl hin rfl (by decide +kernel) rfl rfl (Nat.le_of_ble_eq_true rfl) nd_Me_init_10 (fun H locs hP hD hS => ?_)
  have hP : va_P D vwCl ((h0, .inr (1, [.ref q8, .null])) :: [(q8, zar (cA 0) 256)]) H := hP
  have hD : va_D A ((h0, .inr (1, [.ref q8, .null])) :: [(q8, zar (cA 0) 256)]) := hD
  refine lv_aload_n hx hb nd_Me_init_13 rfl (lv_at hl 0 rfl) ?_
  refine lv_sipush (v := 128) hx hb nd_Me_init_14 (by decide) ?_
  refine zn_newa (atype := .int) (ty := .int) (a0 := (128, .inl (fun _ => 0))) hx hb (hts _ kx_129) rfl hK hP hD hS hA 0 (cA := cA 0) rfl (fun _ => rfl) (by decide) (by decide) (by decide) (Nat.le_of_ble_eq_true rfl) (Nat.le_of_ble_eq_true rfl) nd_Me_init_17 (fun q17 H hP hD hS => ?_)
  have hP : va_P D vwCl ((h0, .inr (1, [.ref q8, .null])) :: [(q8, zar (cA 0) 256), (q17, zar (cA 0) 128)]) H := hP
  have hD : va_D A ((h0, .inr (1, [.ref q8, .null])) :: [(q8, zar (cA 0) 256), (q17, zar (cA 0) 128)]) := hD
  refine W.widen (k := 2) (n := 384) (Nat.le_of_ble_eq_true rfl) (Nat.le_of_ble_eq_true rfl) ?_
  refine va_putF (D := D) (ci := 1) (v := .ref q17) (ty := .array (.int)) (C := nR_Me) (T := nT_Me) (N := 2) hx hb hts ki_Me nt_Me kt_Me kn_Me hown hK hP hD hS 0 rfl rfl 1 (by decide) (hts _ kx_122) (fun _ h9 => h9) rfl hin rfl (by decide +kernel) rfl rfl (Nat.le_of_ble_eq_true rfl) nd_Me_init_19 (fun H locs hP hD hS => ?_)
  have hP : va_P D vwCl ((h0, .inr (1, [.ref q8, .ref q17])) :: [(q8, zar (cA 0) 256), (q17, zar (cA 0) 128)]) H := hP
  have hD : va_D A ((h0, .inr (1, [.ref q8, .ref q17])) :: [(q8, zar (cA 0) 256), (q17, zar (cA 0) 128)]) := hD
  exact W.vret hx hb hr (fun t ht hW => ⟨⟨(q8, q17), rfl, trivial, by rw [ht]; exact hP, va_K.moved hW.alike hK, hD⟩, hS.F ht⟩) hS.2.2 nd_Me_init_22 (hlocks := hlocks)
set_option maxHeartbeats 4000000 in
set_option maxRecDepth 100000 in
theorem n_UQ (l : Launch) (D : va_G) (cA : Nat → ClassId) (h0 sz : Nat) : Met l ny_UQ_init (.code ny_UQ_init nc_UQ_init 1 none :: gw) ({ frames := 1, cells := 3, slots := 12, locals := 12 }) (va_Pc [Value.ref h0] (fun U => U.heap.size = sz ∧ va_P D vwCl [(h0, .inr (2, [.null, .null, .null, .int 0]))] U.heap ∧ va_K D vwCl (zty cA TY) U ∧ va_D (fun _ => True) [(h0, .inr (2, [.null, .null, .null, .int 0]))])) (va_Qv (fun _ : Nat × Nat × Nat => True) (fun u t => va_P D vwCl (wUQ cA h0 u) t.heap ∧ va_K D vwCl (zty cA TY) t ∧ va_D (va_A [(h0, .inr (2, [.null, .null, .null, .int 0]))] sz) (wUQ cA h0 u)) (va_A [(h0, .inr (2, [.null, .null, .null, .int 0]))] sz)) 3 12 (va_A [(h0, .inr (2, [.null, .null, .null, .int 0]))] sz) := by
  refine Met.ofW (cc := nc_UQ_init) (maxL := 1) (ret := none) (by decide) rfl ?_
  intro p e s m args below meth c s₁ B hml hv
  obtain ⟨rfl, hsz, hP, hK, hD0⟩ := hv
  have hx := B.exec
  have hb := B.bytes
  have hr := B.returns
  have hts := fun w (h : w ∈ gw) => atoms_spec (ws := (.code ny_UQ_init nc_UQ_init 1 none :: gw)) B.pre w (List.mem_cons_of_mem _ h)
  have hown : s.vm.findClass nR_UQ = some m.cls := findClass_of_methodNamed B.named
  have hlocks := B.notSynchronized
  have hin : meth.name = "<init>" := (name_of_methodNamed B.named B.method).1
  subst hsz
  have hD := hD0.self (sz := s.heap.size)
  generalize hAe : va_A [(h0, .inr (2, [.null, .null, .null, .int 0]))] s.heap.size = A at hD ⊢
  have hA : ∀ q : Nat, s.heap.size ≤ q → A q := fun q h => by rw [← hAe]; exact Or.inr h
  have hS : va_S A s.heap s.heap [] := va_S.rf
  have hl := lv_entry ([Value.ref h0] : List Value) (n := 1) (Nat.le_of_ble_eq_true rfl)
  rw [lg_entry_eq]
  generalize (lg_sl ([Value.ref h0] : List Value) ++ List.replicate (1 - (lg_sl ([Value.ref h0] : List Value)).length) Slot.unset).toArray = ls at hl ⊢
  have hl : lv_has ls 1 [(0, Value.ref h0)] := hl
  refine lv_aload_n hx hb nd_UQ_init_0 rfl (lv_at hl 0 rfl) ?_
  refine W.objInit hx hb hown (hts _ kx_148) (hts _ kx_111) (hts _ kx_112) rfl (by rw [hml]; exact hl.1) rfl nd_UQ_init_1 (Nat.le_of_ble_eq_true rfl) (Nat.le_of_ble_eq_true rfl) ?_
  refine W.eq (g2 := F0 m 4 ls []) rfl ?_
  refine lv_aload_n hx hb nd_UQ_init_4 rfl (lv_at hl 0 rfl) ?_
  refine lv_iconst (v := 4) hx hb nd_UQ_init_5 (by decide) ?_
  refine zn_newa (atype := .int) (ty := .int) (a0 := (4, .inl (fun _ => 0))) hx hb (hts _ kx_129) rfl hK hP hD hS hA 0 (cA := cA 0) rfl (fun _ => rfl) (by decide) (by decide) (by decide) (Nat.le_of_ble_eq_true rfl) (Nat.le_of_ble_eq_true rfl) nd_UQ_init_6 (fun q6 H hP hD hS => ?_)
  have hP : va_P D vwCl ((h0, .inr (2, [.null, .null, .null, .int 0])) :: [(q6, zar (cA 0) 4)]) H := hP
  have hD : va_D A ((h0, .inr (2, [.null, .null, .null, .int 0])) :: [(q6, zar (cA 0) 4)]) := hD
  refine W.widen (k := 1) (n := 4) (Nat.le_of_ble_eq_true rfl) (Nat.le_of_ble_eq_true rfl) ?_
  refine va_putF (D := D) (ci := 2) (v := .ref q6) (ty := .array (.int)) (C := nR_UQ) (T := nT_UQ) (N := 4) hx hb hts ki_UQ nt_UQ kt_UQ kn_UQ hown hK hP hD hS 0 rfl rfl 0 (by decide) (hts _ kx_149) (fun _ h9 => h9) rfl hin rfl (by decide +kernel) rfl rfl (Nat.le_of_ble_eq_true rfl) nd_UQ_init_8 (fun H locs hP hD hS => ?_)
  have hP : va_P D vwCl ((h0, .inr (2, [.ref q6, .null, .null, .int 0])) :: [(q6, zar (cA 0) 4)]) H := hP
  have hD : va_D A ((h0, .inr (2, [.ref q6, .null, .null, .int 0])) :: [(q6, zar (cA 0) 4)]) := hD
  refine lv_aload_n hx hb nd_UQ_init_11 rfl (lv_at hl 0 rfl) ?_
  refine lv_iconst (v := 4) hx hb nd_UQ_init_12 (by decide) ?_
  refine zn_newa (atype := .int) (ty := .int) (a0 := (4, .inl (fun _ => 0))) hx hb (hts _ kx_129) rfl hK hP hD hS hA 0 (cA := cA 0) rfl (fun _ => rfl) (by decide) (by decide) (by decide) (Nat.le_of_ble_eq_true rfl) (Nat.le_of_ble_eq_true rfl) nd_UQ_init_13 (fun q13 H hP hD hS => ?_)
  have hP : va_P D vwCl ((h0, .inr (2, [.ref q6, .null, .null, .int 0])) :: [(q6, zar (cA 0) 4), (q13, zar (cA 0) 4)]) H := hP
  have hD : va_D A ((h0, .inr (2, [.ref q6, .null, .null, .int 0])) :: [(q6, zar (cA 0) 4), (q13, zar (cA 0) 4)]) := hD
  refine W.widen (k := 2) (n := 8) (Nat.le_of_ble_eq_true rfl) (Nat.le_of_ble_eq_true rfl) ?_
  refine va_putF (D := D) (ci := 2) (v := .ref q13) (ty := .array (.int)) (C := nR_UQ) (T := nT_UQ) (N := 4) hx hb hts ki_UQ nt_UQ kt_UQ kn_UQ hown hK hP hD hS 0 rfl rfl 1 (by decide) (hts _ kx_151) (fun _ h9 => h9) rfl hin rfl (by decide +kernel) rfl rfl (Nat.le_of_ble_eq_true rfl) nd_UQ_init_15 (fun H locs hP hD hS => ?_)
  have hP : va_P D vwCl ((h0, .inr (2, [.ref q6, .ref q13, .null, .int 0])) :: [(q6, zar (cA 0) 4), (q13, zar (cA 0) 4)]) H := hP
  have hD : va_D A ((h0, .inr (2, [.ref q6, .ref q13, .null, .int 0])) :: [(q6, zar (cA 0) 4), (q13, zar (cA 0) 4)]) := hD
  refine lv_aload_n hx hb nd_UQ_init_18 rfl (lv_at hl 0 rfl) ?_
  refine lv_iconst (v := 4) hx hb nd_UQ_init_19 (by decide) ?_
  refine zn_newa (atype := .int) (ty := .int) (a0 := (4, .inl (fun _ => 0))) hx hb (hts _ kx_129) rfl hK hP hD hS hA 0 (cA := cA 0) rfl (fun _ => rfl) (by decide) (by decide) (by decide) (Nat.le_of_ble_eq_true rfl) (Nat.le_of_ble_eq_true rfl) nd_UQ_init_20 (fun q20 H hP hD hS => ?_)
  have hP : va_P D vwCl ((h0, .inr (2, [.ref q6, .ref q13, .null, .int 0])) :: [(q6, zar (cA 0) 4), (q13, zar (cA 0) 4), (q20, zar (cA 0) 4)]) H := hP
  have hD : va_D A ((h0, .inr (2, [.ref q6, .ref q13, .null, .int 0])) :: [(q6, zar (cA 0) 4), (q13, zar (cA 0) 4), (q20, zar (cA 0) 4)]) := hD
  refine W.widen (k := 3) (n := 12) (Nat.le_of_ble_eq_true rfl) (Nat.le_of_ble_eq_true rfl) ?_
  refine va_putF (D := D) (ci := 2) (v := .ref q20) (ty := .array (.int)) (C := nR_UQ) (T := nT_UQ) (N := 4) hx hb hts ki_UQ nt_UQ kt_UQ kn_UQ hown hK hP hD hS 0 rfl rfl 2 (by decide) (hts _ kx_153) (fun _ h9 => h9) rfl hin rfl (by decide +kernel) rfl rfl (Nat.le_of_ble_eq_true rfl) nd_UQ_init_22 (fun H locs hP hD hS => ?_)
  have hP : va_P D vwCl ((h0, .inr (2, [.ref q6, .ref q13, .ref q20, .int 0])) :: [(q6, zar (cA 0) 4), (q13, zar (cA 0) 4), (q20, zar (cA 0) 4)]) H := hP
  have hD : va_D A ((h0, .inr (2, [.ref q6, .ref q13, .ref q20, .int 0])) :: [(q6, zar (cA 0) 4), (q13, zar (cA 0) 4), (q20, zar (cA 0) 4)]) := hD
  exact W.vret hx hb hr (fun t ht hW => ⟨⟨(q6, q13, q20), rfl, trivial, by rw [ht]; exact hP, va_K.moved hW.alike hK, hD⟩, hS.F ht⟩) hS.2.2 nd_UQ_init_25 (hlocks := hlocks)
set_option maxHeartbeats 4000000 in
set_option maxRecDepth 100000 in
theorem n_No (l : Launch) (D : va_G) (cA : Nat → ClassId) (h0 sz : Nat) : Met l ny_No_init (.code ny_No_init nc_No_init 1 none :: gw) ({ frames := 2, cells := 9, slots := 31, locals := 32 }) (va_Pc [Value.ref h0] (fun U => U.heap.size = sz ∧ va_P D vwCl [(h0, .inr (3, [.null, .null, .null, .null, .null, .null, .int 0]))] U.heap ∧ va_K D vwCl (zty cA TY) U ∧ va_D (fun _ => True) [(h0, .inr (3, [.null, .null, .null, .null, .null, .null, .int 0]))])) (va_Qv (fun _ : Nat × Nat × Nat × Nat × Nat × Nat × (Nat × Nat × Nat) => True) (fun u t => va_P D vwCl (wNo cA h0 u) t.heap ∧ va_K D vwCl (zty cA TY) t ∧ va_D (va_A [(h0, .inr (3, [.null, .null, .null, .null, .null, .null, .int 0]))] sz) (wNo cA h0 u)) (va_A [(h0, .inr (3, [.null, .null, .null, .null, .null, .null, .int 0]))] sz)) 9 31 (va_A [(h0, .inr (3, [.null, .null, .null, .null, .null, .null, .int 0]))] sz) := by
  refine Met.ofW (cc := nc_No_init) (maxL := 1) (ret := none) (by decide) rfl ?_
  intro p e s m args below meth c s₁ B hml hv
  obtain ⟨rfl, hsz, hP, hK, hD0⟩ := hv
  have hx := B.exec
  have hb := B.bytes
  have hr := B.returns
  have hts := fun w (h : w ∈ gw) => atoms_spec (ws := (.code ny_No_init nc_No_init 1 none :: gw)) B.pre w (List.mem_cons_of_mem _ h)
  have hown : s.vm.findClass nR_No = some m.cls := findClass_of_methodNamed B.named
  have hlocks := B.notSynchronized
  have hin : meth.name = "<init>" := (name_of_methodNamed B.named B.method).1
  subst hsz
  have hD := hD0.self (sz := s.heap.size)
  generalize hAe : va_A [(h0, .inr (3, [.null, .null, .null, .null, .null, .null, .int 0]))] s.heap.size = A at hD ⊢
  have hA : ∀ q : Nat, s.heap.size ≤ q → A q := fun q h => by rw [← hAe]; exact Or.inr h
  have hS : va_S A s.heap s.heap [] := va_S.rf
  have hl := lv_entry ([Value.ref h0] : List Value) (n := 1) (Nat.le_of_ble_eq_true rfl)
  rw [lg_entry_eq]
  generalize (lg_sl ([Value.ref h0] : List Value) ++ List.replicate (1 - (lg_sl ([Value.ref h0] : List Value)).length) Slot.unset).toArray = ls at hl ⊢
  have hl : lv_has ls 1 [(0, Value.ref h0)] := hl
  refine lv_aload_n hx hb nd_No_init_0 rfl (lv_at hl 0 rfl) ?_
  refine W.objInit hx hb hown (hts _ kx_142) (hts _ kx_111) (hts _ kx_112) rfl (by rw [hml]; exact hl.1) rfl nd_No_init_1 (Nat.le_of_ble_eq_true rfl) (Nat.le_of_ble_eq_true rfl) ?_
  refine W.eq (g2 := F0 m 4 ls []) rfl ?_
  refine lv_aload_n hx hb nd_No_init_4 rfl (lv_at hl 0 rfl) ?_
  refine lv_iconst (v := 3) hx hb nd_No_init_5 (by decide) ?_
  refine zn_newa (atype := .int) (ty := .int) (a0 := (3, .inl (fun _ => 0))) hx hb (hts _ kx_129) rfl hK hP hD hS hA 0 (cA := cA 0) rfl (fun _ => rfl) (by decide) (by decide) (by decide) (Nat.le_of_ble_eq_true rfl) (Nat.le_of_ble_eq_true rfl) nd_No_init_6 (fun q6 H hP hD hS => ?_)
  have hP : va_P D vwCl ((h0, .inr (3, [.null, .null, .null, .null, .null, .null, .int 0])) :: [(q6, zar (cA 0) 3)]) H := hP
  have hD : va_D A ((h0, .inr (3, [.null, .null, .null, .null, .null, .null, .int 0])) :: [(q6, zar (cA 0) 3)]) := hD
  refine W.widen (k := 1) (n := 3) (Nat.le_of_ble_eq_true rfl) (Nat.le_of_ble_eq_true rfl) ?_
  refine va_putF (D := D) (ci := 3) (v := .ref q6) (ty := .array (.int)) (C := nR_No) (T := nT_No) (N := 7) hx hb hts ki_No nt_No kt_No kn_No hown hK hP hD hS 0 rfl rfl 0 (by decide) (hts _ kx_168) (fun _ h9 => h9) rfl hin rfl (by decide +kernel) rfl rfl (Nat.le_of_ble_eq_true rfl) nd_No_init_8 (fun H locs hP hD hS => ?_)
  have hP : va_P D vwCl ((h0, .inr (3, [.ref q6, .null, .null, .null, .null, .null, .int 0])) :: [(q6, zar (cA 0) 3)]) H := hP
  have hD : va_D A ((h0, .inr (3, [.ref q6, .null, .null, .null, .null, .null, .int 0])) :: [(q6, zar (cA 0) 3)]) := hD
  refine lv_aload_n hx hb nd_No_init_11 rfl (lv_at hl 0 rfl) ?_
  refine lv_iconst (v := 3) hx hb nd_No_init_12 (by decide) ?_
  refine zn_newa (atype := .int) (ty := .int) (a0 := (3, .inl (fun _ => 0))) hx hb (hts _ kx_129) rfl hK hP hD hS hA 0 (cA := cA 0) rfl (fun _ => rfl) (by decide) (by decide) (by decide) (Nat.le_of_ble_eq_true rfl) (Nat.le_of_ble_eq_true rfl) nd_No_init_13 (fun q13 H hP hD hS => ?_)
  have hP : va_P D vwCl ((h0, .inr (3, [.ref q6, .null, .null, .null, .null, .null, .int 0])) :: [(q6, zar (cA 0) 3), (q13, zar (cA 0) 3)]) H := hP
  have hD : va_D A ((h0, .inr (3, [.ref q6, .null, .null, .null, .null, .null, .int 0])) :: [(q6, zar (cA 0) 3), (q13, zar (cA 0) 3)]) := hD
  refine W.widen (k := 2) (n := 6) (Nat.le_of_ble_eq_true rfl) (Nat.le_of_ble_eq_true rfl) ?_
  refine va_putF (D := D) (ci := 3) (v := .ref q13) (ty := .array (.int)) (C := nR_No) (T := nT_No) (N := 7) hx hb hts ki_No nt_No kt_No kn_No hown hK hP hD hS 0 rfl rfl 1 (by decide) (hts _ kx_171) (fun _ h9 => h9) rfl hin rfl (by decide +kernel) rfl rfl (Nat.le_of_ble_eq_true rfl) nd_No_init_15 (fun H locs hP hD hS => ?_)
  have hP : va_P D vwCl ((h0, .inr (3, [.ref q6, .ref q13, .null, .null, .null, .null, .int 0])) :: [(q6, zar (cA 0) 3), (q13, zar (cA 0) 3)]) H := hP
  have hD : va_D A ((h0, .inr (3, [.ref q6, .ref q13, .null, .null, .null, .null, .int 0])) :: [(q6, zar (cA 0) 3), (q13, zar (cA 0) 3)]) := hD
  refine lv_aload_n hx hb nd_No_init_18 rfl (lv_at hl 0 rfl) ?_
  refine lv_iconst (v := 3) hx hb nd_No_init_19 (by decide) ?_
  refine zn_newa (atype := .int) (ty := .int) (a0 := (3, .inl (fun _ => 0))) hx hb (hts _ kx_129) rfl hK hP hD hS hA 0 (cA := cA 0) rfl (fun _ => rfl) (by decide) (by decide) (by decide) (Nat.le_of_ble_eq_true rfl) (Nat.le_of_ble_eq_true rfl) nd_No_init_20 (fun q20 H hP hD hS => ?_)
  have hP : va_P D vwCl ((h0, .inr (3, [.ref q6, .ref q13, .null, .null, .null, .null, .int 0])) :: [(q6, zar (cA 0) 3), (q13, zar (cA 0) 3), (q20, zar (cA 0) 3)]) H := hP
  have hD : va_D A ((h0, .inr (3, [.ref q6, .ref q13, .null, .null, .null, .null, .int 0])) :: [(q6, zar (cA 0) 3), (q13, zar (cA 0) 3), (q20, zar (cA 0) 3)]) := hD
  refine W.widen (k := 3) (n := 9) (Nat.le_of_ble_eq_true rfl) (Nat.le_of_ble_eq_true rfl) ?_
  refine va_putF (D := D) (ci := 3) (v := .ref q20) (ty := .array (.int)) (C := nR_No) (T := nT_No) (N := 7) hx hb hts ki_No nt_No kt_No kn_No hown hK hP hD hS 0 rfl rfl 2 (by decide) (hts _ kx_173) (fun _ h9 => h9) rfl hin rfl (by decide +kernel) rfl rfl (Nat.le_of_ble_eq_true rfl) nd_No_init_22 (fun H locs hP hD hS => ?_)
  have hP : va_P D vwCl ((h0, .inr (3, [.ref q6, .ref q13, .ref q20, .null, .null, .null, .int 0])) :: [(q6, zar (cA 0) 3), (q13, zar (cA 0) 3), (q20, zar (cA 0) 3)]) H := hP
  have hD : va_D A ((h0, .inr (3, [.ref q6, .ref q13, .ref q20, .null, .null, .null, .int 0])) :: [(q6, zar (cA 0) 3), (q13, zar (cA 0) 3), (q20, zar (cA 0) 3)]) := hD
  refine lv_aload_n hx hb nd_No_init_25 rfl (lv_at hl 0 rfl) ?_
  refine lv_iconst (v := 3) hx hb nd_No_init_26 (by decide) ?_
  refine zn_newa (atype := .int) (ty := .int) (a0 := (3, .inl (fun _ => 0))) hx hb (hts _ kx_129) rfl hK hP hD hS hA 0 (cA := cA 0) rfl (fun _ => rfl) (by decide) (by decide) (by decide) (Nat.le_of_ble_eq_true rfl) (Nat.le_of_ble_eq_true rfl) nd_No_init_27 (fun q27 H hP hD hS => ?_)
  have hP : va_P D vwCl ((h0, .inr (3, [.ref q6, .ref q13, .ref q20, .null, .null, .null, .int 0])) :: [(q6, zar (cA 0) 3), (q13, zar (cA 0) 3), (q20, zar (cA 0) 3), (q27, zar (cA 0) 3)]) H := hP
  have hD : va_D A ((h0, .inr (3, [.ref q6, .ref q13, .ref q20, .null, .null, .null, .int 0])) :: [(q6, zar (cA 0) 3), (q13, zar (cA 0) 3), (q20, zar (cA 0) 3), (q27, zar (cA 0) 3)]) := hD
  refine W.widen (k := 4) (n := 12) (Nat.le_of_ble_eq_true rfl) (Nat.le_of_ble_eq_true rfl) ?_
  refine va_putF (D := D) (ci := 3) (v := .ref q27) (ty := .array (.int)) (C := nR_No) (T := nT_No) (N := 7) hx hb hts ki_No nt_No kt_No kn_No hown hK hP hD hS 0 rfl rfl 3 (by decide) (hts _ kx_175) (fun _ h9 => h9) rfl hin rfl (by decide +kernel) rfl rfl (Nat.le_of_ble_eq_true rfl) nd_No_init_29 (fun H locs hP hD hS => ?_)
  have hP : va_P D vwCl ((h0, .inr (3, [.ref q6, .ref q13, .ref q20, .ref q27, .null, .null, .int 0])) :: [(q6, zar (cA 0) 3), (q13, zar (cA 0) 3), (q20, zar (cA 0) 3), (q27, zar (cA 0) 3)]) H := hP
  have hD : va_D A ((h0, .inr (3, [.ref q6, .ref q13, .ref q20, .ref q27, .null, .null, .int 0])) :: [(q6, zar (cA 0) 3), (q13, zar (cA 0) 3), (q20, zar (cA 0) 3), (q27, zar (cA 0) 3)]) := hD
  refine lv_aload_n hx hb nd_No_init_32 rfl (lv_at hl 0 rfl) ?_
  refine lv_iconst (v := 3) hx hb nd_No_init_33 (by decide) ?_
  refine zn_newa (atype := .int) (ty := .int) (a0 := (3, .inl (fun _ => 0))) hx hb (hts _ kx_129) rfl hK hP hD hS hA 0 (cA := cA 0) rfl (fun _ => rfl) (by decide) (by decide) (by decide) (Nat.le_of_ble_eq_true rfl) (Nat.le_of_ble_eq_true rfl) nd_No_init_34 (fun q34 H hP hD hS => ?_)
  have hP : va_P D vwCl ((h0, .inr (3, [.ref q6, .ref q13, .ref q20, .ref q27, .null, .null, .int 0])) :: [(q6, zar (cA 0) 3), (q13, zar (cA 0) 3), (q20, zar (cA 0) 3), (q27, zar (cA 0) 3), (q34, zar (cA 0) 3)]) H := hP
  have hD : va_D A ((h0, .inr (3, [.ref q6, .ref q13, .ref q20, .ref q27, .null, .null, .int 0])) :: [(q6, zar (cA 0) 3), (q13, zar (cA 0) 3), (q20, zar (cA 0) 3), (q27, zar (cA 0) 3), (q34, zar (cA 0) 3)]) := hD
  refine W.widen (k := 5) (n := 15) (Nat.le_of_ble_eq_true rfl) (Nat.le_of_ble_eq_true rfl) ?_
  refine va_putF (D := D) (ci := 3) (v := .ref q34) (ty := .array (.int)) (C := nR_No) (T := nT_No) (N := 7) hx hb hts ki_No nt_No kt_No kn_No hown hK hP hD hS 0 rfl rfl 4 (by decide) (hts _ kx_177) (fun _ h9 => h9) rfl hin rfl (by decide +kernel) rfl rfl (Nat.le_of_ble_eq_true rfl) nd_No_init_36 (fun H locs hP hD hS => ?_)
  have hP : va_P D vwCl ((h0, .inr (3, [.ref q6, .ref q13, .ref q20, .ref q27, .ref q34, .null, .int 0])) :: [(q6, zar (cA 0) 3), (q13, zar (cA 0) 3), (q20, zar (cA 0) 3), (q27, zar (cA 0) 3), (q34, zar (cA 0) 3)]) H := hP
  have hD : va_D A ((h0, .inr (3, [.ref q6, .ref q13, .ref q20, .ref q27, .ref q34, .null, .int 0])) :: [(q6, zar (cA 0) 3), (q13, zar (cA 0) 3), (q20, zar (cA 0) 3), (q27, zar (cA 0) 3), (q34, zar (cA 0) 3)]) := hD
  refine lv_aload_n hx hb nd_No_init_39 rfl (lv_at hl 0 rfl) ?_
  refine va_new (ci := 2) (fs := [.null, .null, .null, .int 0]) (C := nR_UQ) (T := nT_UQ) (N := 4) hx hb hts ki_UQ nt_UQ kt_UQ hown (hts _ kx_143) (hts _ kx_144) (hts _ kx_97) hK hP hD hS hA rfl (by decide +kernel) (Nat.le_of_ble_eq_true rfl) (Nat.le_of_ble_eq_true rfl) nd_No_init_40 (fun q40_23 H hP hD hS => ?_)
  have hP : va_P D vwCl ((h0, .inr (3, [.ref q6, .ref q13, .ref q20, .ref q27, .ref q34, .null, .int 0])) :: [(q6, zar (cA 0) 3), (q13, zar (cA 0) 3), (q20, zar (cA 0) 3), (q27, zar (cA 0) 3), (q34, zar (cA 0) 3), (q40_23, .inr (2, [.null, .null, .null, .int 0]))]) H := hP
  have hD : va_D A ((h0, .inr (3, [.ref q6, .ref q13, .ref q20, .ref q27, .ref q34, .null, .int 0])) :: [(q6, zar (cA 0) 3), (q13, zar (cA 0) 3), (q20, zar (cA 0) 3), (q27, zar (cA 0) 3), (q34, zar (cA 0) 3), (q40_23, .inr (2, [.null, .null, .null, .int 0]))]) := hD
  refine W.widen (k := 6) (n := 19) (Nat.le_of_ble_eq_true rfl) (Nat.le_of_ble_eq_true rfl) ?_
  refine lv_dup hx hb nd_No_init_43 rfl ?_
  have hPc := zj_P (ws := ((h0, .inr (3, [.ref q6, .ref q13, .ref q20, .ref q27, .ref q34, .null, .int 0])) :: [(q6, zar (cA 0) 3), (q13, zar (cA 0) 3), (q20, zar (cA 0) 3), (q27, zar (cA 0) 3), (q34, zar (cA 0) 3)])) hP
  have hDc := zj_D (ws := ((h0, .inr (3, [.ref q6, .ref q13, .ref q20, .ref q27, .ref q34, .null, .int 0])) :: [(q6, zar (cA 0) 3), (q13, zar (cA 0) 3), (q20, zar (cA 0) 3), (q27, zar (cA 0) 3), (q34, zar (cA 0) 3)])) hD
  have hFc := zj_F (ws := ((h0, .inr (3, [.ref q6, .ref q13, .ref q20, .ref q27, .ref q34, .null, .int 0])) :: [(q6, zar (cA 0) 3), (q13, zar (cA 0) 3), (q20, zar (cA 0) 3), (q27, zar (cA 0) 3), (q34, zar (cA 0) 3)])) hD hS hA
  refine va_callv (va_runI (As := []) (rest := [Value.ref q40_23, Value.ref h0]) ⟨hx, hb, hml, hown, hts⟩ (n_UQ l D cA q40_23 H.size) (cwI 0 hts (gi_code kx_147) rfl rfl rfl (hts _ kx_97) (hts _ kx_145) (hts _ kx_146) rfl (by decide +kernel) ⟨Nat.le_of_ble_eq_true rfl, Nat.le_of_ble_eq_true rfl⟩) ⟨zn_blind, fun U hU hW => ⟨rfl, by rw [hU], by rw [hU]; exact hPc, va_K.moved hW.alike hK, hDc.weaken (fun _ _ _ _ => trivial)⟩⟩ rfl rfl hl.1 rfl (lv_room (Nat.le_of_ble_eq_true rfl)) nd_No_init_44 ⟨Nat.le_of_ble_eq_true rfl, Nat.le_of_ble_eq_true rfl⟩) hS (fun q _ h => hFc q h) hFc (fun u44_25 t H1 locs ht hvm hw hB hz1 hk1 hS => ?_)
  obtain ⟨hP1, hK1, hD1⟩ := hB
  rw [ht] at hP1
  obtain ⟨hP, hD⟩ := zj_join (ws := ((h0, .inr (3, [.ref q6, .ref q13, .ref q20, .ref q27, .ref q34, .null, .int 0])) :: [(q6, zar (cA 0) 3), (q13, zar (cA 0) 3), (q20, zar (cA 0) 3), (q27, zar (cA 0) 3), (q34, zar (cA 0) 3)])) hP hD hk1 hFc hP1 hD1
  generalize H1 = H at hP hS ⊢
  have hP : va_P D vwCl ((h0, .inr (3, [.ref q6, .ref q13, .ref q20, .ref q27, .ref q34, .null, .int 0])) :: ([(q6, zar (cA 0) 3), (q13, zar (cA 0) 3), (q20, zar (cA 0) 3), (q27, zar (cA 0) 3), (q34, zar (cA 0) 3)] ++ wUQ cA q40_23 u44_25)) H := hP
  have hD : va_D A ((h0, .inr (3, [.ref q6, .ref q13, .ref q20, .ref q27, .ref q34, .null, .int 0])) :: ([(q6, zar (cA 0) 3), (q13, zar (cA 0) 3), (q20, zar (cA 0) 3), (q27, zar (cA 0) 3), (q34, zar (cA 0) 3)] ++ wUQ cA q40_23 u44_25)) := hD
  refine W.widen (k := 9) (n := 31) (Nat.le_of_ble_eq_true rfl) (Nat.le_of_ble_eq_true rfl) ?_
  refine va_putF (D := D) (ci := 3) (v := .ref q40_23) (ty := .object "GrantKernel$UpcallQueue") (C := nR_No) (T := nT_No) (N := 7) hx hb hts ki_No nt_No kt_No kn_No hown hK hP hD hS 0 rfl rfl 5 (by decide) (hts _ kx_179) (fun _ h9 => h9) rfl hin rfl (by decide +kernel) rfl rfl (Nat.le_of_ble_eq_true rfl) nd_No_init_47 (fun H locs hP hD hS => ?_)
  have hP : va_P D vwCl ((h0, .inr (3, [.ref q6, .ref q13, .ref q20, .ref q27, .ref q34, .ref q40_23, .int 0])) :: ([(q6, zar (cA 0) 3), (q13, zar (cA 0) 3), (q20, zar (cA 0) 3), (q27, zar (cA 0) 3), (q34, zar (cA 0) 3)] ++ wUQ cA q40_23 u44_25)) H := hP
  have hD : va_D A ((h0, .inr (3, [.ref q6, .ref q13, .ref q20, .ref q27, .ref q34, .ref q40_23, .int 0])) :: ([(q6, zar (cA 0) 3), (q13, zar (cA 0) 3), (q20, zar (cA 0) 3), (q27, zar (cA 0) 3), (q34, zar (cA 0) 3)] ++ wUQ cA q40_23 u44_25)) := hD
  exact W.vret hx hb hr (fun t ht hW => ⟨⟨(q6, q13, q20, q27, q34, q40_23, u44_25), rfl, trivial, by rw [ht]; exact hP, va_K.moved hW.alike hK, hD⟩, hS.F ht⟩) hS.2.2 nd_No_init_50 (hlocks := hlocks)
set_option maxHeartbeats 4000000 in
set_option maxRecDepth 100000 in
theorem n_BP (l : Launch) (D : va_G) (cA : Nat → ClassId) (h0 sz : Nat) (a1 : Nat) : Met l ny_BP_init (.code ny_BP_init nc_BP_init 2 none :: gw) ({ frames := 3, cells := 11, slots := 46, locals := 52 }) (va_Pc [Value.ref h0, Value.ref a1] (fun U => U.heap.size = sz ∧ va_P D vwCl [(h0, .inr (4, [.null, .null, .int 0, .int 0, .int 0, .int 0, .int 0, .int 0, .int 0, .int 0, .null, .int 0, .int 0, .int 0, .int 0, .int 0, .int 0, .int 0, .int 0, .int 0]))] U.heap ∧ va_K D vwCl (zty cA TY) U ∧ va_D (fun _ => True) [(h0, .inr (4, [.null, .null, .int 0, .int 0, .int 0, .int 0, .int 0, .int 0, .int 0, .int 0, .null, .int 0, .int 0, .int 0, .int 0, .int 0, .int 0, .int 0, .int 0, .int 0]))])) (va_Qv (fun _ : uBP => True) (fun u t => va_P D vwCl (wBP cA a1 h0 u) t.heap ∧ va_K D vwCl (zty cA TY) t ∧ va_D (va_A [(h0, .inr (4, [.null, .null, .int 0, .int 0, .int 0, .int 0, .int 0, .int 0, .int 0, .int 0, .null, .int 0, .int 0, .int 0, .int 0, .int 0, .int 0, .int 0, .int 0, .int 0]))] sz) (wBP cA a1 h0 u)) (va_A [(h0, .inr (4, [.null, .null, .int 0, .int 0, .int 0, .int 0, .int 0, .int 0, .int 0, .int 0, .null, .int 0, .int 0, .int 0, .int 0, .int 0, .int 0, .int 0, .int 0, .int 0]))] sz)) 11 46 (va_A [(h0, .inr (4, [.null, .null, .int 0, .int 0, .int 0, .int 0, .int 0, .int 0, .int 0, .int 0, .null, .int 0, .int 0, .int 0, .int 0, .int 0, .int 0, .int 0, .int 0, .int 0]))] sz) := by
  refine Met.ofW (cc := nc_BP_init) (maxL := 2) (ret := none) (by decide) rfl ?_
  intro p e s m args below meth c s₁ B hml hv
  obtain ⟨rfl, hsz, hP, hK, hD0⟩ := hv
  have hx := B.exec
  have hb := B.bytes
  have hr := B.returns
  have hts := fun w (h : w ∈ gw) => atoms_spec (ws := (.code ny_BP_init nc_BP_init 2 none :: gw)) B.pre w (List.mem_cons_of_mem _ h)
  have hown : s.vm.findClass nR_BP = some m.cls := findClass_of_methodNamed B.named
  have hlocks := B.notSynchronized
  have hin : meth.name = "<init>" := (name_of_methodNamed B.named B.method).1
  subst hsz
  have hD := hD0.self (sz := s.heap.size)
  generalize hAe : va_A [(h0, .inr (4, [.null, .null, .int 0, .int 0, .int 0, .int 0, .int 0, .int 0, .int 0, .int 0, .null, .int 0, .int 0, .int 0, .int 0, .int 0, .int 0, .int 0, .int 0, .int 0]))] s.heap.size = A at hD ⊢
  have hA : ∀ q : Nat, s.heap.size ≤ q → A q := fun q h => by rw [← hAe]; exact Or.inr h
  have hS : va_S A s.heap s.heap [] := va_S.rf
  have hl := lv_entry ([Value.ref h0, Value.ref a1] : List Value) (n := 2) (Nat.le_of_ble_eq_true rfl)
  rw [lg_entry_eq]
  generalize (lg_sl ([Value.ref h0, Value.ref a1] : List Value) ++ List.replicate (2 - (lg_sl ([Value.ref h0, Value.ref a1] : List Value)).length) Slot.unset).toArray = ls at hl ⊢
  have hl : lv_has ls 2 [(0, Value.ref h0), (1, Value.ref a1)] := hl
  refine lv_aload_n hx hb nd_BP_init_0 rfl (lv_at hl 0 rfl) ?_
  refine W.objInit hx hb hown (hts _ kx_136) (hts _ kx_111) (hts _ kx_112) rfl (by rw [hml]; exact hl.1) rfl nd_BP_init_1 (Nat.le_of_ble_eq_true rfl) (Nat.le_of_ble_eq_true rfl) ?_
  refine W.eq (g2 := F0 m 4 ls []) rfl ?_
  refine lv_aload_n hx hb nd_BP_init_4 rfl (lv_at hl 0 rfl) ?_
  refine lv_aload_n hx hb nd_BP_init_5 rfl (lv_at hl 1 rfl) ?_
  refine va_putF (D := D) (ci := 4) (v := .ref a1) (ty := .object "GrantKernel$Memory") (C := nR_BP) (T := nT_BP) (N := 20) hx hb hts ki_BP nt_BP kt_BP kn_BP hown hK hP hD hS 0 rfl rfl 0 (by decide) (hts _ kx_199) (fun _ h9 => h9) rfl hin rfl (by decide +kernel) rfl rfl (Nat.le_of_ble_eq_true rfl) nd_BP_init_6 (fun H locs hP hD hS => ?_)
  have hP : va_P D vwCl ((h0, .inr (4, [.ref a1, .null, .int 0, .int 0, .int 0, .int 0, .int 0, .int 0, .int 0, .int 0, .null, .int 0, .int 0, .int 0, .int 0, .int 0, .int 0, .int 0, .int 0, .int 0])) :: []) H := hP
  have hD : va_D A ((h0, .inr (4, [.ref a1, .null, .int 0, .int 0, .int 0, .int 0, .int 0, .int 0, .int 0, .int 0, .null, .int 0, .int 0, .int 0, .int 0, .int 0, .int 0, .int 0, .int 0, .int 0])) :: []) := hD
  refine lv_aload_n hx hb nd_BP_init_9 rfl (lv_at hl 0 rfl) ?_
  refine va_new (ci := 3) (fs := [.null, .null, .null, .null, .null, .null, .int 0]) (C := nR_No) (T := nT_No) (N := 7) hx hb hts ki_No nt_No kt_No hown (hts _ kx_137) (hts _ kx_138) (hts _ kx_96) hK hP hD hS hA rfl (by decide +kernel) (Nat.le_of_ble_eq_true rfl) (Nat.le_of_ble_eq_true rfl) nd_BP_init_10 (fun q10_6 H hP hD hS => ?_)
  have hP : va_P D vwCl ((h0, .inr (4, [.ref a1, .null, .int 0, .int 0, .int 0, .int 0, .int 0, .int 0, .int 0, .int 0, .null, .int 0, .int 0, .int 0, .int 0, .int 0, .int 0, .int 0, .int 0, .int 0])) :: [(q10_6, .inr (3, [.null, .null, .null, .null, .null, .null, .int 0]))]) H := hP
  have hD : va_D A ((h0, .inr (4, [.ref a1, .null, .int 0, .int 0, .int 0, .int 0, .int 0, .int 0, .int 0, .int 0, .null, .int 0, .int 0, .int 0, .int 0, .int 0, .int 0, .int 0, .int 0, .int 0])) :: [(q10_6, .inr (3, [.null, .null, .null, .null, .null, .null, .int 0]))]) := hD
  refine W.widen (k := 1) (n := 7) (Nat.le_of_ble_eq_true rfl) (Nat.le_of_ble_eq_true rfl) ?_
  refine lv_dup hx hb nd_BP_init_13 rfl ?_
  have hPc := zj_P (ws := ((h0, .inr (4, [.ref a1, .null, .int 0, .int 0, .int 0, .int 0, .int 0, .int 0, .int 0, .int 0, .null, .int 0, .int 0, .int 0, .int 0, .int 0, .int 0, .int 0, .int 0, .int 0])) :: [])) hP
  have hDc := zj_D (ws := ((h0, .inr (4, [.ref a1, .null, .int 0, .int 0, .int 0, .int 0, .int 0, .int 0, .int 0, .int 0, .null, .int 0, .int 0, .int 0, .int 0, .int 0, .int 0, .int 0, .int 0, .int 0])) :: [])) hD
  have hFc := zj_F (ws := ((h0, .inr (4, [.ref a1, .null, .int 0, .int 0, .int 0, .int 0, .int 0, .int 0, .int 0, .int 0, .null, .int 0, .int 0, .int 0, .int 0, .int 0, .int 0, .int 0, .int 0, .int 0])) :: [])) hD hS hA
  refine va_callv (va_runI (As := []) (rest := [Value.ref q10_6, Value.ref h0]) ⟨hx, hb, hml, hown, hts⟩ (n_No l D cA q10_6 H.size) (cwI 0 hts (gi_code kx_141) rfl rfl rfl (hts _ kx_96) (hts _ kx_139) (hts _ kx_140) rfl (by decide +kernel) ⟨Nat.le_of_ble_eq_true rfl, Nat.le_of_ble_eq_true rfl⟩) ⟨zn_blind, fun U hU hW => ⟨rfl, by rw [hU], by rw [hU]; exact hPc, va_K.moved hW.alike hK, hDc.weaken (fun _ _ _ _ => trivial)⟩⟩ rfl rfl hl.1 rfl (lv_room (Nat.le_of_ble_eq_true rfl)) nd_BP_init_14 ⟨Nat.le_of_ble_eq_true rfl, Nat.le_of_ble_eq_true rfl⟩) hS (fun q _ h => hFc q h) hFc (fun u14_8 t H1 locs ht hvm hw hB hz1 hk1 hS => ?_)
  obtain ⟨hP1, hK1, hD1⟩ := hB
  rw [ht] at hP1
  obtain ⟨hP, hD⟩ := zj_join (ws := ((h0, .inr (4, [.ref a1, .null, .int 0, .int 0, .int 0, .int 0, .int 0, .int 0, .int 0, .int 0, .null, .int 0, .int 0, .int 0, .int 0, .int 0, .int 0, .int 0, .int 0, .int 0])) :: [])) hP hD hk1 hFc hP1 hD1
  generalize H1 = H at hP hS ⊢
  have hP : va_P D vwCl ((h0, .inr (4, [.ref a1, .null, .int 0, .int 0, .int 0, .int 0, .int 0, .int 0, .int 0, .int 0, .null, .int 0, .int 0, .int 0, .int 0, .int 0, .int 0, .int 0, .int 0, .int 0])) :: wNo cA q10_6 u14_8) H := hP
  have hD : va_D A ((h0, .inr (4, [.ref a1, .null, .int 0, .int 0, .int 0, .int 0, .int 0, .int 0, .int 0, .int 0, .null, .int 0, .int 0, .int 0, .int 0, .int 0, .int 0, .int 0, .int 0, .int 0])) :: wNo cA q10_6 u14_8) := hD
  refine W.widen (k := 10) (n := 38) (Nat.le_of_ble_eq_true rfl) (Nat.le_of_ble_eq_true rfl) ?_
  refine va_putF (D := D) (ci := 4) (v := .ref q10_6) (ty := .object "GrantKernel$Notes") (C := nR_BP) (T := nT_BP) (N := 20) hx hb hts ki_BP nt_BP kt_BP kn_BP hown hK hP hD hS 0 rfl rfl 1 (by decide) (hts _ kx_200) (fun _ h9 => h9) rfl hin rfl (by decide +kernel) rfl rfl (Nat.le_of_ble_eq_true rfl) nd_BP_init_17 (fun H locs hP hD hS => ?_)
  have hP : va_P D vwCl ((h0, .inr (4, [.ref a1, .ref q10_6, .int 0, .int 0, .int 0, .int 0, .int 0, .int 0, .int 0, .int 0, .null, .int 0, .int 0, .int 0, .int 0, .int 0, .int 0, .int 0, .int 0, .int 0])) :: wNo cA q10_6 u14_8) H := hP
  have hD : va_D A ((h0, .inr (4, [.ref a1, .ref q10_6, .int 0, .int 0, .int 0, .int 0, .int 0, .int 0, .int 0, .int 0, .null, .int 0, .int 0, .int 0, .int 0, .int 0, .int 0, .int 0, .int 0, .int 0])) :: wNo cA q10_6 u14_8) := hD
  refine lv_aload_n hx hb nd_BP_init_20 rfl (lv_at hl 0 rfl) ?_
  refine lv_bipush (v := 8) hx hb nd_BP_init_21 (by decide) ?_
  refine zn_newa (atype := .int) (ty := .int) (a0 := (8, .inl (fun _ => 0))) hx hb (hts _ kx_129) rfl hK hP hD hS hA 0 (cA := cA 0) rfl (fun _ => rfl) (by decide) (by decide) (by decide) (Nat.le_of_ble_eq_true rfl) (Nat.le_of_ble_eq_true rfl) nd_BP_init_23 (fun q23 H hP hD hS => ?_)
  have hP : va_P D vwCl ((h0, .inr (4, [.ref a1, .ref q10_6, .int 0, .int 0, .int 0, .int 0, .int 0, .int 0, .int 0, .int 0, .null, .int 0, .int 0, .int 0, .int 0, .int 0, .int 0, .int 0, .int 0, .int 0])) :: (wNo cA q10_6 u14_8 ++ [(q23, zar (cA 0) 8)])) H := hP
  have hD : va_D A ((h0, .inr (4, [.ref a1, .ref q10_6, .int 0, .int 0, .int 0, .int 0, .int 0, .int 0, .int 0, .int 0, .null, .int 0, .int 0, .int 0, .int 0, .int 0, .int 0, .int 0, .int 0, .int 0])) :: (wNo cA q10_6 u14_8 ++ [(q23, zar (cA 0) 8)])) := hD
  refine W.widen (k := 11) (n := 46) (Nat.le_of_ble_eq_true rfl) (Nat.le_of_ble_eq_true rfl) ?_
  refine va_putF (D := D) (ci := 4) (v := .ref q23) (ty := .array (.int)) (C := nR_BP) (T := nT_BP) (N := 20) hx hb hts ki_BP nt_BP kt_BP kn_BP hown hK hP hD hS 0 rfl rfl 10 (by decide) (hts _ kx_224) (fun _ h9 => h9) rfl hin rfl (by decide +kernel) rfl rfl (Nat.le_of_ble_eq_true rfl) nd_BP_init_25 (fun H locs hP hD hS => ?_)
  have hP : va_P D vwCl ((h0, .inr (4, [.ref a1, .ref q10_6, .int 0, .int 0, .int 0, .int 0, .int 0, .int 0, .int 0, .int 0, .ref q23, .int 0, .int 0, .int 0, .int 0, .int 0, .int 0, .int 0, .int 0, .int 0])) :: (wNo cA q10_6 u14_8 ++ [(q23, zar (cA 0) 8)])) H := hP
  have hD : va_D A ((h0, .inr (4, [.ref a1, .ref q10_6, .int 0, .int 0, .int 0, .int 0, .int 0, .int 0, .int 0, .int 0, .ref q23, .int 0, .int 0, .int 0, .int 0, .int 0, .int 0, .int 0, .int 0, .int 0])) :: (wNo cA q10_6 u14_8 ++ [(q23, zar (cA 0) 8)])) := hD
  refine lv_aload_n hx hb nd_BP_init_28 rfl (lv_at hl 0 rfl) ?_
  refine lv_iconst (v := 2) hx hb nd_BP_init_29 (by decide) ?_
  refine va_put (D := D) (ci := 4) (v := .int 2) (ty := .int) (C := nR_BP) (T := nT_BP) (N := 20) hx hb hts ki_BP nt_BP kt_BP kn_BP hown hK hP hD hS 0 rfl rfl 16 (by decide) (hts _ kx_239) (fun _ h9 => h9) rfl (by decide +kernel) rfl rfl (Nat.le_of_ble_eq_true rfl) nd_BP_init_30 (fun H locs hP hD hS => ?_)
  have hP : va_P D vwCl ((h0, .inr (4, [.ref a1, .ref q10_6, .int 0, .int 0, .int 0, .int 0, .int 0, .int 0, .int 0, .int 0, .ref q23, .int 0, .int 0, .int 0, .int 0, .int 0, .int 2, .int 0, .int 0, .int 0])) :: (wNo cA q10_6 u14_8 ++ [(q23, zar (cA 0) 8)])) H := hP
  have hD : va_D A ((h0, .inr (4, [.ref a1, .ref q10_6, .int 0, .int 0, .int 0, .int 0, .int 0, .int 0, .int 0, .int 0, .ref q23, .int 0, .int 0, .int 0, .int 0, .int 0, .int 2, .int 0, .int 0, .int 0])) :: (wNo cA q10_6 u14_8 ++ [(q23, zar (cA 0) 8)])) := hD
  exact W.vret hx hb hr (fun t ht hW => ⟨⟨(q10_6, q23, u14_8), rfl, trivial, by rw [ht]; exact hP, va_K.moved hW.alike hK, hD⟩, hS.F ht⟩) hS.2.2 nd_BP_init_33 (hlocks := hlocks)
set_option maxHeartbeats 4000000 in
set_option maxRecDepth 100000 in
theorem n_Co (l : Launch) (D : va_G) (cA : Nat → ClassId) (h0 sz : Nat) : Met l ny_Co_init (.code ny_Co_init nc_Co_init 1 none :: gw) ({ frames := 1, cells := 2, slots := 24, locals := 12 }) (va_Pc [Value.ref h0] (fun U => U.heap.size = sz ∧ va_P D vwCl [(h0, .inr (6, [.null, .null, .int 0, .int 0]))] U.heap ∧ va_K D vwCl (zty cA TY) U ∧ va_D (fun _ => True) [(h0, .inr (6, [.null, .null, .int 0, .int 0]))])) (va_Qv (fun _ : Nat × Nat => True) (fun u t => va_P D vwCl (wCo cA h0 u) t.heap ∧ va_K D vwCl (zty cA TY) t ∧ va_D (va_A [(h0, .inr (6, [.null, .null, .int 0, .int 0]))] sz) (wCo cA h0 u)) (va_A [(h0, .inr (6, [.null, .null, .int 0, .int 0]))] sz)) 2 24 (va_A [(h0, .inr (6, [.null, .null, .int 0, .int 0]))] sz) := by
  refine Met.ofW (cc := nc_Co_init) (maxL := 1) (ret := none) (by decide) rfl ?_
  intro p e s m args below meth c s₁ B hml hv
  obtain ⟨rfl, hsz, hP, hK, hD0⟩ := hv
  have hx := B.exec
  have hb := B.bytes
  have hr := B.returns
  have hts := fun w (h : w ∈ gw) => atoms_spec (ws := (.code ny_Co_init nc_Co_init 1 none :: gw)) B.pre w (List.mem_cons_of_mem _ h)
  have hown : s.vm.findClass nR_Co = some m.cls := findClass_of_methodNamed B.named
  have hlocks := B.notSynchronized
  have hin : meth.name = "<init>" := (name_of_methodNamed B.named B.method).1
  subst hsz
  have hD := hD0.self (sz := s.heap.size)
  generalize hAe : va_A [(h0, .inr (6, [.null, .null, .int 0, .int 0]))] s.heap.size = A at hD ⊢
  have hA : ∀ q : Nat, s.heap.size ≤ q → A q := fun q h => by rw [← hAe]; exact Or.inr h
  have hS : va_S A s.heap s.heap [] := va_S.rf
  have hl := lv_entry ([Value.ref h0] : List Value) (n := 1) (Nat.le_of_ble_eq_true rfl)
  rw [lg_entry_eq]
  generalize (lg_sl ([Value.ref h0] : List Value) ++ List.replicate (1 - (lg_sl ([Value.ref h0] : List Value)).length) Slot.unset).toArray = ls at hl ⊢
  have hl : lv_has ls 1 [(0, Value.ref h0)] := hl
  refine lv_aload_n hx hb nd_Co_init_0 rfl (lv_at hl 0 rfl) ?_
  refine W.objInit hx hb hown (hts _ kx_293) (hts _ kx_111) (hts _ kx_112) rfl (by rw [hml]; exact hl.1) rfl nd_Co_init_1 (Nat.le_of_ble_eq_true rfl) (Nat.le_of_ble_eq_true rfl) ?_
  refine W.eq (g2 := F0 m 4 ls []) rfl ?_
  refine lv_aload_n hx hb nd_Co_init_4 rfl (lv_at hl 0 rfl) ?_
  refine lv_bipush (v := 8) hx hb nd_Co_init_5 (by decide) ?_
  refine zn_newa (atype := .int) (ty := .int) (a0 := (8, .inl (fun _ => 0))) hx hb (hts _ kx_129) rfl hK hP hD hS hA 0 (cA := cA 0) rfl (fun _ => rfl) (by decide) (by decide) (by decide) (Nat.le_of_ble_eq_true rfl) (Nat.le_of_ble_eq_true rfl) nd_Co_init_7 (fun q7 H hP hD hS => ?_)
  have hP : va_P D vwCl ((h0, .inr (6, [.null, .null, .int 0, .int 0])) :: [(q7, zar (cA 0) 8)]) H := hP
  have hD : va_D A ((h0, .inr (6, [.null, .null, .int 0, .int 0])) :: [(q7, zar (cA 0) 8)]) := hD
  refine W.widen (k := 1) (n := 8) (Nat.le_of_ble_eq_true rfl) (Nat.le_of_ble_eq_true rfl) ?_
  refine va_putF (D := D) (ci := 6) (v := .ref q7) (ty := .array (.int)) (C := nR_Co) (T := nT_Co) (N := 4) hx hb hts ki_Co nt_Co kt_Co kn_Co hown hK hP hD hS 0 rfl rfl 0 (by decide) (hts _ kx_294) (fun _ h9 => h9) rfl hin rfl (by decide +kernel) rfl rfl (Nat.le_of_ble_eq_true rfl) nd_Co_init_9 (fun H locs hP hD hS => ?_)
  have hP : va_P D vwCl ((h0, .inr (6, [.ref q7, .null, .int 0, .int 0])) :: [(q7, zar (cA 0) 8)]) H := hP
  have hD : va_D A ((h0, .inr (6, [.ref q7, .null, .int 0, .int 0])) :: [(q7, zar (cA 0) 8)]) := hD
  refine lv_aload_n hx hb nd_Co_init_12 rfl (lv_at hl 0 rfl) ?_
  refine lv_bipush (v := 16) hx hb nd_Co_init_13 (by decide) ?_
  refine zn_newa (atype := .int) (ty := .int) (a0 := (16, .inl (fun _ => 0))) hx hb (hts _ kx_129) rfl hK hP hD hS hA 0 (cA := cA 0) rfl (fun _ => rfl) (by decide) (by decide) (by decide) (Nat.le_of_ble_eq_true rfl) (Nat.le_of_ble_eq_true rfl) nd_Co_init_15 (fun q15 H hP hD hS => ?_)
  have hP : va_P D vwCl ((h0, .inr (6, [.ref q7, .null, .int 0, .int 0])) :: [(q7, zar (cA 0) 8), (q15, zar (cA 0) 16)]) H := hP
  have hD : va_D A ((h0, .inr (6, [.ref q7, .null, .int 0, .int 0])) :: [(q7, zar (cA 0) 8), (q15, zar (cA 0) 16)]) := hD
  refine W.widen (k := 2) (n := 24) (Nat.le_of_ble_eq_true rfl) (Nat.le_of_ble_eq_true rfl) ?_
  refine va_putF (D := D) (ci := 6) (v := .ref q15) (ty := .array (.int)) (C := nR_Co) (T := nT_Co) (N := 4) hx hb hts ki_Co nt_Co kt_Co kn_Co hown hK hP hD hS 0 rfl rfl 1 (by decide) (hts _ kx_295) (fun _ h9 => h9) rfl hin rfl (by decide +kernel) rfl rfl (Nat.le_of_ble_eq_true rfl) nd_Co_init_17 (fun H locs hP hD hS => ?_)
  have hP : va_P D vwCl ((h0, .inr (6, [.ref q7, .ref q15, .int 0, .int 0])) :: [(q7, zar (cA 0) 8), (q15, zar (cA 0) 16)]) H := hP
  have hD : va_D A ((h0, .inr (6, [.ref q7, .ref q15, .int 0, .int 0])) :: [(q7, zar (cA 0) 8), (q15, zar (cA 0) 16)]) := hD
  exact W.vret hx hb hr (fun t ht hW => ⟨⟨(q7, q15), rfl, trivial, by rw [ht]; exact hP, va_K.moved hW.alike hK, hD⟩, hS.F ht⟩) hS.2.2 nd_Co_init_20 (hlocks := hlocks)
set_option maxHeartbeats 4000000 in
set_option maxRecDepth 100000 in
theorem n_Ke (l : Launch) (D : va_G) (cA : Nat → ClassId) (h0 sz : Nat) (a1 : Nat) (a2 : Nat) (a3 : Nat) : Met l ny_Ke_init (.code ny_Ke_init nc_Ke_init 4 none :: gw) ({ frames := 1, cells := 0, slots := 0, locals := 12 }) (va_Pc [Value.ref h0, Value.ref a1, Value.ref a2, Value.ref a3] (fun U => U.heap.size = sz ∧ va_P D vwCl [(h0, .inr (7, [.null, .null, .null, .int 0]))] U.heap ∧ va_K D vwCl (zty cA TY) U ∧ va_D (fun _ => True) [(h0, .inr (7, [.null, .null, .null, .int 0]))])) (va_Qv (fun _ : Unit => True) (fun u t => va_P D vwCl (wKe h0 a1 a2 a3) t.heap ∧ va_K D vwCl (zty cA TY) t ∧ va_D (va_A [(h0, .inr (7, [.null, .null, .null, .int 0]))] sz) (wKe h0 a1 a2 a3)) (va_A [(h0, .inr (7, [.null, .null, .null, .int 0]))] sz)) 0 0 (va_A [(h0, .inr (7, [.null, .null, .null, .int 0]))] sz) := by
  refine Met.ofW (cc := nc_Ke_init) (maxL := 4) (ret := none) (by decide) rfl ?_
  intro p e s m args below meth c s₁ B hml hv
  obtain ⟨rfl, hsz, hP, hK, hD0⟩ := hv
  have hx := B.exec
  have hb := B.bytes
  have hr := B.returns
  have hts := fun w (h : w ∈ gw) => atoms_spec (ws := (.code ny_Ke_init nc_Ke_init 4 none :: gw)) B.pre w (List.mem_cons_of_mem _ h)
  have hown : s.vm.findClass nR_Ke = some m.cls := findClass_of_methodNamed B.named
  have hlocks := B.notSynchronized
  have hin : meth.name = "<init>" := (name_of_methodNamed B.named B.method).1
  subst hsz
  have hD := hD0.self (sz := s.heap.size)
  generalize hAe : va_A [(h0, .inr (7, [.null, .null, .null, .int 0]))] s.heap.size = A at hD ⊢
  have hA : ∀ q : Nat, s.heap.size ≤ q → A q := fun q h => by rw [← hAe]; exact Or.inr h
  have hS : va_S A s.heap s.heap [] := va_S.rf
  have hl := lv_entry ([Value.ref h0, Value.ref a1, Value.ref a2, Value.ref a3] : List Value) (n := 4) (Nat.le_of_ble_eq_true rfl)
  rw [lg_entry_eq]
  generalize (lg_sl ([Value.ref h0, Value.ref a1, Value.ref a2, Value.ref a3] : List Value) ++ List.replicate (4 - (lg_sl ([Value.ref h0, Value.ref a1, Value.ref a2, Value.ref a3] : List Value)).length) Slot.unset).toArray = ls at hl ⊢
  have hl : lv_has ls 4 [(0, Value.ref h0), (1, Value.ref a1), (2, Value.ref a2), (3, Value.ref a3)] := hl
  refine lv_aload_n hx hb nd_Ke_init_0 rfl (lv_at hl 0 rfl) ?_
  refine W.objInit hx hb hown (hts _ kx_314) (hts _ kx_111) (hts _ kx_112) rfl (by rw [hml]; exact hl.1) rfl nd_Ke_init_1 (Nat.le_of_ble_eq_true rfl) (Nat.le_of_ble_eq_true rfl) ?_
  refine W.eq (g2 := F0 m 4 ls []) rfl ?_
  refine lv_aload_n hx hb nd_Ke_init_4 rfl (lv_at hl 0 rfl) ?_
  refine lv_aload_n hx hb nd_Ke_init_5 rfl (lv_at hl 1 rfl) ?_
  refine va_putF (D := D) (ci := 7) (v := .ref a1) (ty := .object "GrantKernel$Memory") (C := nR_Ke) (T := nT_Ke) (N := 4) hx hb hts ki_Ke nt_Ke kt_Ke kn_Ke hown hK hP hD hS 0 rfl rfl 0 (by decide) (hts _ kx_315) (fun _ h9 => h9) rfl hin rfl (by decide +kernel) rfl rfl (Nat.le_of_ble_eq_true rfl) nd_Ke_init_6 (fun H locs hP hD hS => ?_)
  have hP : va_P D vwCl ((h0, .inr (7, [.ref a1, .null, .null, .int 0])) :: []) H := hP
  have hD : va_D A ((h0, .inr (7, [.ref a1, .null, .null, .int 0])) :: []) := hD
  refine lv_aload_n hx hb nd_Ke_init_9 rfl (lv_at hl 0 rfl) ?_
  refine lv_aload_n hx hb nd_Ke_init_10 rfl (lv_at hl 2 rfl) ?_
  refine va_putF (D := D) (ci := 7) (v := .ref a2) (ty := .array (.object "GrantKernel$BoardProcess")) (C := nR_Ke) (T := nT_Ke) (N := 4) hx hb hts ki_Ke nt_Ke kt_Ke kn_Ke hown hK hP hD hS 0 rfl rfl 1 (by decide) (hts _ kx_316) (fun _ h9 => h9) rfl hin rfl (by decide +kernel) rfl rfl (Nat.le_of_ble_eq_true rfl) nd_Ke_init_11 (fun H locs hP hD hS => ?_)
  have hP : va_P D vwCl ((h0, .inr (7, [.ref a1, .ref a2, .null, .int 0])) :: []) H := hP
  have hD : va_D A ((h0, .inr (7, [.ref a1, .ref a2, .null, .int 0])) :: []) := hD
  refine lv_aload_n hx hb nd_Ke_init_14 rfl (lv_at hl 0 rfl) ?_
  refine lv_aload_n hx hb nd_Ke_init_15 rfl (lv_at hl 3 rfl) ?_
  refine va_putF (D := D) (ci := 7) (v := .ref a3) (ty := .object "GrantKernel$Console") (C := nR_Ke) (T := nT_Ke) (N := 4) hx hb hts ki_Ke nt_Ke kt_Ke kn_Ke hown hK hP hD hS 0 rfl rfl 2 (by decide) (hts _ kx_317) (fun _ h9 => h9) rfl hin rfl (by decide +kernel) rfl rfl (Nat.le_of_ble_eq_true rfl) nd_Ke_init_16 (fun H locs hP hD hS => ?_)
  have hP : va_P D vwCl ((h0, .inr (7, [.ref a1, .ref a2, .ref a3, .int 0])) :: []) H := hP
  have hD : va_D A ((h0, .inr (7, [.ref a1, .ref a2, .ref a3, .int 0])) :: []) := hD
  exact W.vret hx hb hr (fun t ht hW => ⟨⟨(), rfl, trivial, by rw [ht]; exact hP, va_K.moved hW.alike hK, hD⟩, hS.F ht⟩) hS.2.2 nd_Ke_init_19 (hlocks := hlocks)
set_option maxHeartbeats 4000000 in
set_option maxRecDepth 100000 in
theorem n_Lo (l : Launch) (D : va_G) (cA : Nat → ClassId) (h0 sz : Nat) (a1 : Nat) (a2 : Nat) : Met l ny_Lo_init (.code ny_Lo_init nc_Lo_init 3 none :: gw) ({ frames := 1, cells := 0, slots := 0, locals := 12 }) (va_Pc [Value.ref h0, Value.ref a1, Value.ref a2] (fun U => U.heap.size = sz ∧ va_P D vwCl [(h0, .inr (5, [.null, .null, .int 0, .int 0]))] U.heap ∧ va_K D vwCl (zty cA TY) U ∧ va_D (fun _ => True) [(h0, .inr (5, [.null, .null, .int 0, .int 0]))])) (va_Qv (fun _ : Unit => True) (fun u t => va_P D vwCl (wLo h0 a1 a2) t.heap ∧ va_K D vwCl (zty cA TY) t ∧ va_D (va_A [(h0, .inr (5, [.null, .null, .int 0, .int 0]))] sz) (wLo h0 a1 a2)) (va_A [(h0, .inr (5, [.null, .null, .int 0, .int 0]))] sz)) 0 0 (va_A [(h0, .inr (5, [.null, .null, .int 0, .int 0]))] sz) := by
  refine Met.ofW (cc := nc_Lo_init) (maxL := 3) (ret := none) (by decide) rfl ?_
  intro p e s m args below meth c s₁ B hml hv
  obtain ⟨rfl, hsz, hP, hK, hD0⟩ := hv
  have hx := B.exec
  have hb := B.bytes
  have hr := B.returns
  have hts := fun w (h : w ∈ gw) => atoms_spec (ws := (.code ny_Lo_init nc_Lo_init 3 none :: gw)) B.pre w (List.mem_cons_of_mem _ h)
  have hown : s.vm.findClass nR_Lo = some m.cls := findClass_of_methodNamed B.named
  have hlocks := B.notSynchronized
  have hin : meth.name = "<init>" := (name_of_methodNamed B.named B.method).1
  subst hsz
  have hD := hD0.self (sz := s.heap.size)
  generalize hAe : va_A [(h0, .inr (5, [.null, .null, .int 0, .int 0]))] s.heap.size = A at hD ⊢
  have hA : ∀ q : Nat, s.heap.size ≤ q → A q := fun q h => by rw [← hAe]; exact Or.inr h
  have hS : va_S A s.heap s.heap [] := va_S.rf
  have hl := lv_entry ([Value.ref h0, Value.ref a1, Value.ref a2] : List Value) (n := 3) (Nat.le_of_ble_eq_true rfl)
  rw [lg_entry_eq]
  generalize (lg_sl ([Value.ref h0, Value.ref a1, Value.ref a2] : List Value) ++ List.replicate (3 - (lg_sl ([Value.ref h0, Value.ref a1, Value.ref a2] : List Value)).length) Slot.unset).toArray = ls at hl ⊢
  have hl : lv_has ls 3 [(0, Value.ref h0), (1, Value.ref a1), (2, Value.ref a2)] := hl
  refine lv_aload_n hx hb nd_Lo_init_0 rfl (lv_at hl 0 rfl) ?_
  refine W.objInit hx hb hown (hts _ kx_334) (hts _ kx_111) (hts _ kx_112) rfl (by rw [hml]; exact hl.1) rfl nd_Lo_init_1 (Nat.le_of_ble_eq_true rfl) (Nat.le_of_ble_eq_true rfl) ?_
  refine W.eq (g2 := F0 m 4 ls []) rfl ?_
  refine lv_aload_n hx hb nd_Lo_init_4 rfl (lv_at hl 0 rfl) ?_
  refine lv_aload_n hx hb nd_Lo_init_5 rfl (lv_at hl 1 rfl) ?_
  refine va_putF (D := D) (ci := 5) (v := .ref a1) (ty := .object "GrantKernel$Memory") (C := nR_Lo) (T := nT_Lo) (N := 4) hx hb hts ki_Lo nt_Lo kt_Lo kn_Lo hown hK hP hD hS 0 rfl rfl 0 (by decide) (hts _ kx_335) (fun _ h9 => h9) rfl hin rfl (by decide +kernel) rfl rfl (Nat.le_of_ble_eq_true rfl) nd_Lo_init_6 (fun H locs hP hD hS => ?_)
  have hP : va_P D vwCl ((h0, .inr (5, [.ref a1, .null, .int 0, .int 0])) :: []) H := hP
  have hD : va_D A ((h0, .inr (5, [.ref a1, .null, .int 0, .int 0])) :: []) := hD
  refine lv_aload_n hx hb nd_Lo_init_9 rfl (lv_at hl 0 rfl) ?_
  refine lv_aload_n hx hb nd_Lo_init_10 rfl (lv_at hl 2 rfl) ?_
  refine va_putF (D := D) (ci := 5) (v := .ref a2) (ty := .array (.object "GrantKernel$BoardProcess")) (C := nR_Lo) (T := nT_Lo) (N := 4) hx hb hts ki_Lo nt_Lo kt_Lo kn_Lo hown hK hP hD hS 0 rfl rfl 1 (by decide) (hts _ kx_336) (fun _ h9 => h9) rfl hin rfl (by decide +kernel) rfl rfl (Nat.le_of_ble_eq_true rfl) nd_Lo_init_11 (fun H locs hP hD hS => ?_)
  have hP : va_P D vwCl ((h0, .inr (5, [.ref a1, .ref a2, .int 0, .int 0])) :: []) H := hP
  have hD : va_D A ((h0, .inr (5, [.ref a1, .ref a2, .int 0, .int 0])) :: []) := hD
  exact W.vret hx hb hr (fun t ht hW => ⟨⟨(), rfl, trivial, by rw [ht]; exact hP, va_K.moved hW.alike hK, hD⟩, hS.F ht⟩) hS.2.2 nd_Lo_init_14 (hlocks := hlocks)
set_option maxHeartbeats 4000000 in
set_option maxRecDepth 100000 in
theorem n_Pr (l : Launch) (D : va_G) (cA : Nat → ClassId) (h0 sz : Nat) (a1 : Nat) : Met l ny_Pr_init (.code ny_Pr_init nc_Pr_init 2 none :: gw) ({ frames := 1, cells := 0, slots := 0, locals := 12 }) (va_Pc [Value.ref h0, Value.ref a1] (fun U => U.heap.size = sz ∧ va_P D vwCl [(h0, .inr (8, [.null, .int 0]))] U.heap ∧ va_K D vwCl (zty cA TY) U ∧ va_D (fun _ => True) [(h0, .inr (8, [.null, .int 0]))])) (va_Qv (fun _ : Unit => True) (fun u t => va_P D vwCl (wPr h0 a1) t.heap ∧ va_K D vwCl (zty cA TY) t ∧ va_D (va_A [(h0, .inr (8, [.null, .int 0]))] sz) (wPr h0 a1)) (va_A [(h0, .inr (8, [.null, .int 0]))] sz)) 0 0 (va_A [(h0, .inr (8, [.null, .int 0]))] sz) := by
  refine Met.ofW (cc := nc_Pr_init) (maxL := 2) (ret := none) (by decide) rfl ?_
  intro p e s m args below meth c s₁ B hml hv
  obtain ⟨rfl, hsz, hP, hK, hD0⟩ := hv
  have hx := B.exec
  have hb := B.bytes
  have hr := B.returns
  have hts := fun w (h : w ∈ gw) => atoms_spec (ws := (.code ny_Pr_init nc_Pr_init 2 none :: gw)) B.pre w (List.mem_cons_of_mem _ h)
  have hown : s.vm.findClass nR_Pr = some m.cls := findClass_of_methodNamed B.named
  have hlocks := B.notSynchronized
  have hin : meth.name = "<init>" := (name_of_methodNamed B.named B.method).1
  subst hsz
  have hD := hD0.self (sz := s.heap.size)
  generalize hAe : va_A [(h0, .inr (8, [.null, .int 0]))] s.heap.size = A at hD ⊢
  have hA : ∀ q : Nat, s.heap.size ≤ q → A q := fun q h => by rw [← hAe]; exact Or.inr h
  have hS : va_S A s.heap s.heap [] := va_S.rf
  have hl := lv_entry ([Value.ref h0, Value.ref a1] : List Value) (n := 2) (Nat.le_of_ble_eq_true rfl)
  rw [lg_entry_eq]
  generalize (lg_sl ([Value.ref h0, Value.ref a1] : List Value) ++ List.replicate (2 - (lg_sl ([Value.ref h0, Value.ref a1] : List Value)).length) Slot.unset).toArray = ls at hl ⊢
  have hl : lv_has ls 2 [(0, Value.ref h0), (1, Value.ref a1)] := hl
  refine lv_aload_n hx hb nd_Pr_init_0 rfl (lv_at hl 0 rfl) ?_
  refine W.objInit hx hb hown (hts _ kx_353) (hts _ kx_111) (hts _ kx_112) rfl (by rw [hml]; exact hl.1) rfl nd_Pr_init_1 (Nat.le_of_ble_eq_true rfl) (Nat.le_of_ble_eq_true rfl) ?_
  refine W.eq (g2 := F0 m 4 ls []) rfl ?_
  refine lv_aload_n hx hb nd_Pr_init_4 rfl (lv_at hl 0 rfl) ?_
  refine lv_aload_n hx hb nd_Pr_init_5 rfl (lv_at hl 1 rfl) ?_
  refine va_putF (D := D) (ci := 8) (v := .ref a1) (ty := .object "GrantKernel$Memory") (C := nR_Pr) (T := nT_Pr) (N := 2) hx hb hts ki_Pr nt_Pr kt_Pr kn_Pr hown hK hP hD hS 0 rfl rfl 0 (by decide) (hts _ kx_354) (fun _ h9 => h9) rfl hin rfl (by decide +kernel) rfl rfl (Nat.le_of_ble_eq_true rfl) nd_Pr_init_6 (fun H locs hP hD hS => ?_)
  have hP : va_P D vwCl ((h0, .inr (8, [.ref a1, .int 0])) :: []) H := hP
  have hD : va_D A ((h0, .inr (8, [.ref a1, .int 0])) :: []) := hD
  exact W.vret hx hb hr (fun t ht hW => ⟨⟨(), rfl, trivial, by rw [ht]; exact hP, va_K.moved hW.alike hK, hD⟩, hS.F ht⟩) hS.2.2 nd_Pr_init_9 (hlocks := hlocks)
