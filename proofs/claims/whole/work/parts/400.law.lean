/-! the law: a call between two worlds, the loop, over a relation that every call keeps -/
def mdL : zMd := (⟨nR_GL, "law", "([I)Z"⟩, code, 4, some .boolean, room_1)
def ok0 (Rel : zS → zS → Prop) (f g : zS → Option (zS × Int32)) : Prop := ∀ σ τ : zS, Rel σ τ → ∃ (σ' τ' : zS) (v : Int32), f σ = some (σ', v) ∧ g τ = some (τ', v) ∧ Rel σ' τ'
def ok1 (Rel : zS → zS → Prop) (f g : zS → Int32 → Option (zS × Int32)) : Prop := ∀ (σ τ : zS) (a : Int32), Rel σ τ → ∃ (σ' τ' : zS) (v : Int32), f σ a = some (σ', v) ∧ g τ a = some (τ', v) ∧ Rel σ' τ'
def ok2 (Rel : zS → zS → Prop) (f g : zS → Int32 → Int32 → Option (zS × Int32)) : Prop := ∀ (σ τ : zS) (a b : Int32), Rel σ τ → ∃ (σ' τ' : zS) (v : Int32), f σ a b = some (σ', v) ∧ g τ a b = some (τ', v) ∧ Rel σ' τ'
theorem lw_call {p : Program} {l : Launch} {e : Env} {s : State} {m : MethodId} {b : Nat} {below : List Frame} {meth : Method} {c : Code} {Q : State → Prop} {H : Heap} {locs : List Loc} {C0 S0 pc idx ci N : Nat} {ls : Array Slot} {Y Y' : zY} {V V' : zG} {M' : zMd} {T : u_T} {fl : List (Option (Nat × Bool))} {σ σ' τ : zS} {v : zV} (vs : List zV) (rest : List Value) {stk : List Value}
    (hx : p.tables.exec = Jvm.exec) (hb : c.code = code) (hml : c.maxLocals = 4) (hown : s.vm.findClass nR_GL = some m.cls) (hts : ∀ w ∈ gw, w.before #[Value.ref b] s = true) (hJ : zJ0 (l, Y, TY, gw, V)) (hK : zK (l, Y, TY, gw, V) s) (hX : ∀ q, zA (l, Y, TY, gw, V) q → ¬ zA (l, Y', TY, gw, V') q) (hN : ∀ q, zA (l, Y, TY, gw, V) q → s.heap.size ≤ q) (hls : ls.size = 4)
    (hS : va_S (fun q => s.heap.size ≤ q) s.heap H locs) (hP : zP (l, Y, TY, gw, V) σ H) (hP2 : zP (l, Y', TY, gw, V') τ H) (hJ2 : zJ0 (l, Y', TY, gw, V'))
    (hM : zM (l, Y, TY, gw, V) M' (zR 0 0 :: vs) σ (σ', some v)) (hd : decode code pc = .ok (.invokevirtual idx, 3)) (hC : zCv gw nR_GL idx M' vs.length) (hY : Y[0]? = some (1, .inl (ci, fl))) (hcl : vwCl[ci]? = some (M'.1.cls, T, N)) (hR : zRm M' mdL = true) (hs : stk = (vs.map (zv V.2.2)).reverse ++ .ref (V.2.2 0 0) :: rest) (hw : (rest.map fun v => v.category).sum ≤ 8) (hcs : C0 ≤ 600000 ∧ S0 ≤ 7302250)
    (kk : ∀ (H1 : Heap) (locs1 : List Loc), zP (l, Y, TY, gw, V) σ' H1 → zP (l, Y', TY, gw, V') τ H1 → va_S (fun q => s.heap.size ≤ q) s.heap H1 locs1 → W p l e room_1 s m #[Value.ref b] below meth c H1 locs1 C0 S0 Q (F0 m (pc + 3) ls (zv V.2.2 v :: rest))) : W p l e room_1 s m #[Value.ref b] below meth c H locs C0 S0 Q (F0 m pc ls stk) := by
  subst hs
  obtain ⟨h1, h2, h3, h4, h5, h6, h7, h8⟩ := hC
  obtain ⟨g1, g2, g3, g4⟩ := of_decide_eq_true hR
  obtain ⟨q, -, hq⟩ := zw_at (ad := V.2.2) (cA := V.2.1) (σ := σ) hY (Nat.zero_lt_one)
  have hG := zGood (S := (l, Y, TY, gw, V)) (M' := M') hJ h5
  have hr := va_runV (p := p) (e := e) (below := below) (meth := meth) (locs := locs) (cells := C0) (slots := S0) (g := F0 m pc ls ((vs.map (zv V.2.2)).reverse ++ .ref (V.2.2 0 0) :: rest)) (R := room_1) (H := H) (rest := rest) (cc := code) (nL := 4) (Ts := gw) (own := nR_GL) (C := M'.1.cls) (b := V.2.2 0 0) (As := vs.map (zv V.2.2)) (n := vs.length) (mc := 0) (ms := 0) (index := idx) ⟨hx, hb, hml, hown, hts⟩ hM ⟨callB_of vs.length hts hG rfl g1 g2 (hts _ h4) (hts _ h1) ⟨h6, h7, h8⟩ ⟨g3, g4⟩, hts _ h2, hts _ h3⟩ ⟨zB_blind _ _, va_recv hK hP hcl hq, fun U hU hW => ⟨rfl, by rw [hU]; exact hP, zK_warm hK hW⟩⟩ rfl (by simp) hls rfl (lv_room hw) hd ⟨hcs.1, hcs.2⟩
  intro T0 hT0 Z
  obtain ⟨w, st₀, t, T', L, e0, X', hL, e1, e2, ⟨⟨hv, hB⟩, hz, hk⟩, gs⟩ := hr T0 hT0 Z
  cases hv
  rw [e0] at hz hk
  have hP3 : zP (l, Y', TY, gw, V') τ t.heap := by
    refine va_P.kept hP2 (fun k q hq => ?_)
    have hA := (zD hJ2 τ).2 k q hq
    exact hk q.1 (hP2 k q hq).lt (fun h => hX _ h hA)
  obtain ⟨t2, a1, b1⟩ := kk T'.heap (locs ++ L) (by rw [e1]; exact hB.1) (by rw [e1]; exact hP3)
    ⟨Nat.le_trans hS.1 (by rw [e1]; exact hz), fun q h1 h2 => by
      rw [e1, hk q (Nat.lt_of_lt_of_le h1 hS.1) (fun h => h2 (hN q h))]; exact hS.2.1 q h1 h2, fun q hq => by
      rcases List.mem_append.mp hq with h | h
      · exact hS.2.2 q h
      · exact hN _ (hL q h)⟩ T' rfl X'
  exact ⟨t2, gs t2 a1, b1⟩
theorem ky_389 : Cond.methodLink nR_GL 13 ny_GK_burn ∈ gw := gw_in (List.mem_of_getElem? (i := 389) (by decide +kernel)) rfl
theorem ky_390 : Cond.instanceMethod ny_GK_burn ∈ gw := gw_in (List.mem_of_getElem? (i := 390) (by decide +kernel)) rfl
theorem ky_391 : Cond.selects nR_GK ny_GK_burn ny_GK_burn ∈ gw := gw_in (List.mem_of_getElem? (i := 391) (by decide +kernel)) rfl
theorem ky_93 : Cond.initialized nR_GK ∈ gw := gw_in (List.mem_of_getElem? (i := 93) (by decide +kernel)) rfl
theorem kl_139 : zCv gw nR_GL 13 md_GK_burn 2 := ⟨ky_389, ky_390, ky_391, ky_93, gw_in (tb_2 (List.mem_of_getElem? (i := 60) rfl)) rfl, by decide, by decide, by decide +kernel⟩
theorem ky_941 : Cond.methodLink nR_GL 17 ny_GM_burn ∈ gw := gw_in (List.mem_of_getElem? (i := 941) (by decide +kernel)) rfl
theorem ky_942 : Cond.instanceMethod ny_GM_burn ∈ gw := gw_in (List.mem_of_getElem? (i := 942) (by decide +kernel)) rfl
theorem ky_943 : Cond.selects nR_GM ny_GM_burn ny_GM_burn ∈ gw := gw_in (List.mem_of_getElem? (i := 943) (by decide +kernel)) rfl
theorem ky_102 : Cond.initialized nR_GM ∈ gw := gw_in (List.mem_of_getElem? (i := 102) (by decide +kernel)) rfl
theorem kl_153 : zCv gw nR_GL 17 md_GM_burn 2 := ⟨ky_941, ky_942, ky_943, ky_102, gw_in (tb_4 (List.mem_of_getElem? (i := 132) rfl)) rfl, by decide, by decide, by decide +kernel⟩
theorem ky_394 : Cond.methodLink nR_GL 18 ny_GK_boot ∈ gw := gw_in (List.mem_of_getElem? (i := 394) (by decide +kernel)) rfl
theorem ky_395 : Cond.instanceMethod ny_GK_boot ∈ gw := gw_in (List.mem_of_getElem? (i := 395) (by decide +kernel)) rfl
theorem ky_396 : Cond.selects nR_GK ny_GK_boot ny_GK_boot ∈ gw := gw_in (List.mem_of_getElem? (i := 396) (by decide +kernel)) rfl
theorem kl_162 : zCv gw nR_GL 18 md_GK_boot 0 := ⟨ky_394, ky_395, ky_396, ky_93, gw_in (tb_2 (List.mem_of_getElem? (i := 65) rfl)) rfl, by decide, by decide, by decide +kernel⟩
theorem ky_946 : Cond.methodLink nR_GL 22 ny_GM_boot ∈ gw := gw_in (List.mem_of_getElem? (i := 946) (by decide +kernel)) rfl
theorem ky_947 : Cond.instanceMethod ny_GM_boot ∈ gw := gw_in (List.mem_of_getElem? (i := 947) (by decide +kernel)) rfl
theorem ky_948 : Cond.selects nR_GM ny_GM_boot ny_GM_boot ∈ gw := gw_in (List.mem_of_getElem? (i := 948) (by decide +kernel)) rfl
theorem kl_166 : zCv gw nR_GL 22 md_GM_boot 0 := ⟨ky_946, ky_947, ky_948, ky_102, gw_in (tb_4 (List.mem_of_getElem? (i := 137) rfl)) rfl, by decide, by decide, by decide +kernel⟩
theorem ky_443 : Cond.methodLink nR_GL 23 ny_GK_run ∈ gw := gw_in (List.mem_of_getElem? (i := 443) (by decide +kernel)) rfl
theorem ky_444 : Cond.instanceMethod ny_GK_run ∈ gw := gw_in (List.mem_of_getElem? (i := 444) (by decide +kernel)) rfl
theorem ky_445 : Cond.selects nR_GK ny_GK_run ny_GK_run ∈ gw := gw_in (List.mem_of_getElem? (i := 445) (by decide +kernel)) rfl
theorem kl_180 : zCv gw nR_GL 23 md_GK_run 1 := ⟨ky_443, ky_444, ky_445, ky_93, gw_in (tb_2 (List.mem_of_getElem? (i := 114) rfl)) rfl, by decide, by decide, by decide +kernel⟩
theorem ky_970 : Cond.methodLink nR_GL 27 ny_GM_run ∈ gw := gw_in (List.mem_of_getElem? (i := 970) (by decide +kernel)) rfl
theorem ky_971 : Cond.instanceMethod ny_GM_run ∈ gw := gw_in (List.mem_of_getElem? (i := 971) (by decide +kernel)) rfl
theorem ky_972 : Cond.selects nR_GM ny_GM_run ny_GM_run ∈ gw := gw_in (List.mem_of_getElem? (i := 972) (by decide +kernel)) rfl
theorem kl_189 : zCv gw nR_GL 27 md_GM_run 1 := ⟨ky_970, ky_971, ky_972, ky_102, gw_in (tb_4 (List.mem_of_getElem? (i := 161) rfl)) rfl, by decide, by decide, by decide +kernel⟩
theorem ky_718 : Cond.methodLink nR_GL 28 ny_GK_type ∈ gw := gw_in (List.mem_of_getElem? (i := 718) (by decide +kernel)) rfl
theorem ky_719 : Cond.instanceMethod ny_GK_type ∈ gw := gw_in (List.mem_of_getElem? (i := 719) (by decide +kernel)) rfl
theorem ky_720 : Cond.selects nR_GK ny_GK_type ny_GK_type ∈ gw := gw_in (List.mem_of_getElem? (i := 720) (by decide +kernel)) rfl
theorem kl_203 : zCv gw nR_GL 28 md_GK_type 1 := ⟨ky_718, ky_719, ky_720, ky_93, gw_in (tb_3 (List.mem_of_getElem? (i := 149) rfl)) rfl, by decide, by decide, by decide +kernel⟩
theorem ky_1161 : Cond.methodLink nR_GL 32 ny_GM_type ∈ gw := gw_in (List.mem_of_getElem? (i := 1161) (by decide +kernel)) rfl
theorem ky_1162 : Cond.instanceMethod ny_GM_type ∈ gw := gw_in (List.mem_of_getElem? (i := 1162) (by decide +kernel)) rfl
theorem ky_1163 : Cond.selects nR_GM ny_GM_type ny_GM_type ∈ gw := gw_in (List.mem_of_getElem? (i := 1163) (by decide +kernel)) rfl
theorem kl_212 : zCv gw nR_GL 32 md_GM_type 1 := ⟨ky_1161, ky_1162, ky_1163, ky_102, gw_in (tb_5 (List.mem_of_getElem? (i := 112) rfl)) rfl, by decide, by decide, by decide +kernel⟩
theorem ky_730 : Cond.methodLink nR_GL 33 ny_GK_sample ∈ gw := gw_in (List.mem_of_getElem? (i := 730) (by decide +kernel)) rfl
theorem ky_731 : Cond.instanceMethod ny_GK_sample ∈ gw := gw_in (List.mem_of_getElem? (i := 731) (by decide +kernel)) rfl
theorem ky_732 : Cond.selects nR_GK ny_GK_sample ny_GK_sample ∈ gw := gw_in (List.mem_of_getElem? (i := 732) (by decide +kernel)) rfl
theorem kl_226 : zCv gw nR_GL 33 md_GK_sample 1 := ⟨ky_730, ky_731, ky_732, ky_93, gw_in (tb_3 (List.mem_of_getElem? (i := 161) rfl)) rfl, by decide, by decide, by decide +kernel⟩
theorem ky_1165 : Cond.methodLink nR_GL 36 ny_GM_sample ∈ gw := gw_in (List.mem_of_getElem? (i := 1165) (by decide +kernel)) rfl
theorem ky_1166 : Cond.instanceMethod ny_GM_sample ∈ gw := gw_in (List.mem_of_getElem? (i := 1166) (by decide +kernel)) rfl
theorem ky_1167 : Cond.selects nR_GM ny_GM_sample ny_GM_sample ∈ gw := gw_in (List.mem_of_getElem? (i := 1167) (by decide +kernel)) rfl
theorem kl_235 : zCv gw nR_GL 36 md_GM_sample 1 := ⟨ky_1165, ky_1166, ky_1167, ky_102, gw_in (tb_5 (List.mem_of_getElem? (i := 116) rfl)) rfl, by decide, by decide, by decide +kernel⟩
theorem ky_738 : Cond.methodLink nR_GL 37 ny_GK_outputs ∈ gw := gw_in (List.mem_of_getElem? (i := 738) (by decide +kernel)) rfl
theorem ky_739 : Cond.instanceMethod ny_GK_outputs ∈ gw := gw_in (List.mem_of_getElem? (i := 739) (by decide +kernel)) rfl
theorem ky_740 : Cond.selects nR_GK ny_GK_outputs ny_GK_outputs ∈ gw := gw_in (List.mem_of_getElem? (i := 740) (by decide +kernel)) rfl
theorem kl_244 : zCv gw nR_GL 37 md_GK_outputs 0 := ⟨ky_738, ky_739, ky_740, ky_93, gw_in (tb_3 (List.mem_of_getElem? (i := 169) rfl)) rfl, by decide, by decide, by decide +kernel⟩
theorem ky_1169 : Cond.methodLink nR_GL 40 ny_GM_outputs ∈ gw := gw_in (List.mem_of_getElem? (i := 1169) (by decide +kernel)) rfl
theorem ky_1170 : Cond.instanceMethod ny_GM_outputs ∈ gw := gw_in (List.mem_of_getElem? (i := 1170) (by decide +kernel)) rfl
theorem ky_1171 : Cond.selects nR_GM ny_GM_outputs ny_GM_outputs ∈ gw := gw_in (List.mem_of_getElem? (i := 1171) (by decide +kernel)) rfl
theorem kl_248 : zCv gw nR_GL 40 md_GM_outputs 0 := ⟨ky_1169, ky_1170, ky_1171, ky_102, gw_in (tb_5 (List.mem_of_getElem? (i := 120) rfl)) rfl, by decide, by decide, by decide +kernel⟩
theorem ky_742 : Cond.methodLink nR_GL 41 ny_GK_output ∈ gw := gw_in (List.mem_of_getElem? (i := 742) (by decide +kernel)) rfl
theorem ky_743 : Cond.instanceMethod ny_GK_output ∈ gw := gw_in (List.mem_of_getElem? (i := 743) (by decide +kernel)) rfl
theorem ky_744 : Cond.selects nR_GK ny_GK_output ny_GK_output ∈ gw := gw_in (List.mem_of_getElem? (i := 744) (by decide +kernel)) rfl
theorem kl_262 : zCv gw nR_GL 41 md_GK_output 1 := ⟨ky_742, ky_743, ky_744, ky_93, gw_in (tb_3 (List.mem_of_getElem? (i := 173) rfl)) rfl, by decide, by decide, by decide +kernel⟩
theorem ky_1173 : Cond.methodLink nR_GL 44 ny_GM_output ∈ gw := gw_in (List.mem_of_getElem? (i := 1173) (by decide +kernel)) rfl
theorem ky_1174 : Cond.instanceMethod ny_GM_output ∈ gw := gw_in (List.mem_of_getElem? (i := 1174) (by decide +kernel)) rfl
theorem ky_1175 : Cond.selects nR_GM ny_GM_output ny_GM_output ∈ gw := gw_in (List.mem_of_getElem? (i := 1175) (by decide +kernel)) rfl
theorem kl_271 : zCv gw nR_GL 44 md_GM_output 1 := ⟨ky_1173, ky_1174, ky_1175, ky_102, gw_in (tb_5 (List.mem_of_getElem? (i := 124) rfl)) rfl, by decide, by decide, by decide +kernel⟩
theorem ky_750 : Cond.methodLink nR_GL 45 ny_GK_now ∈ gw := gw_in (List.mem_of_getElem? (i := 750) (by decide +kernel)) rfl
theorem ky_751 : Cond.instanceMethod ny_GK_now ∈ gw := gw_in (List.mem_of_getElem? (i := 751) (by decide +kernel)) rfl
theorem ky_752 : Cond.selects nR_GK ny_GK_now ny_GK_now ∈ gw := gw_in (List.mem_of_getElem? (i := 752) (by decide +kernel)) rfl
theorem kl_280 : zCv gw nR_GL 45 md_GK_now 0 := ⟨ky_750, ky_751, ky_752, ky_93, gw_in (tb_3 (List.mem_of_getElem? (i := 181) rfl)) rfl, by decide, by decide, by decide +kernel⟩
theorem ky_1177 : Cond.methodLink nR_GL 48 ny_GM_now ∈ gw := gw_in (List.mem_of_getElem? (i := 1177) (by decide +kernel)) rfl
theorem ky_1178 : Cond.instanceMethod ny_GM_now ∈ gw := gw_in (List.mem_of_getElem? (i := 1178) (by decide +kernel)) rfl
theorem ky_1179 : Cond.selects nR_GM ny_GM_now ny_GM_now ∈ gw := gw_in (List.mem_of_getElem? (i := 1179) (by decide +kernel)) rfl
theorem kl_284 : zCv gw nR_GL 48 md_GM_now 0 := ⟨ky_1177, ky_1178, ky_1179, ky_102, gw_in (tb_5 (List.mem_of_getElem? (i := 128) rfl)) rfl, by decide, by decide, by decide +kernel⟩
theorem ky_754 : Cond.methodLink nR_GL 49 ny_GK_turn ∈ gw := gw_in (List.mem_of_getElem? (i := 754) (by decide +kernel)) rfl
theorem ky_755 : Cond.instanceMethod ny_GK_turn ∈ gw := gw_in (List.mem_of_getElem? (i := 755) (by decide +kernel)) rfl
theorem ky_756 : Cond.selects nR_GK ny_GK_turn ny_GK_turn ∈ gw := gw_in (List.mem_of_getElem? (i := 756) (by decide +kernel)) rfl
theorem kl_293 : zCv gw nR_GL 49 md_GK_turn 0 := ⟨ky_754, ky_755, ky_756, ky_93, gw_in (tb_3 (List.mem_of_getElem? (i := 185) rfl)) rfl, by decide, by decide, by decide +kernel⟩
theorem ky_1181 : Cond.methodLink nR_GL 52 ny_GM_turn ∈ gw := gw_in (List.mem_of_getElem? (i := 1181) (by decide +kernel)) rfl
theorem ky_1182 : Cond.instanceMethod ny_GM_turn ∈ gw := gw_in (List.mem_of_getElem? (i := 1182) (by decide +kernel)) rfl
theorem ky_1183 : Cond.selects nR_GM ny_GM_turn ny_GM_turn ∈ gw := gw_in (List.mem_of_getElem? (i := 1183) (by decide +kernel)) rfl
theorem kl_297 : zCv gw nR_GL 52 md_GM_turn 0 := ⟨ky_1181, ky_1182, ky_1183, ky_102, gw_in (tb_5 (List.mem_of_getElem? (i := 132) rfl)) rfl, by decide, by decide, by decide +kernel⟩
theorem ky_758 : Cond.methodLink nR_GL 53 ny_GK_state ∈ gw := gw_in (List.mem_of_getElem? (i := 758) (by decide +kernel)) rfl
theorem ky_759 : Cond.instanceMethod ny_GK_state ∈ gw := gw_in (List.mem_of_getElem? (i := 759) (by decide +kernel)) rfl
theorem ky_760 : Cond.selects nR_GK ny_GK_state ny_GK_state ∈ gw := gw_in (List.mem_of_getElem? (i := 760) (by decide +kernel)) rfl
theorem kl_311 : zCv gw nR_GL 53 md_GK_state 1 := ⟨ky_758, ky_759, ky_760, ky_93, gw_in (tb_3 (List.mem_of_getElem? (i := 189) rfl)) rfl, by decide, by decide, by decide +kernel⟩
theorem ky_1185 : Cond.methodLink nR_GL 56 ny_GM_state ∈ gw := gw_in (List.mem_of_getElem? (i := 1185) (by decide +kernel)) rfl
theorem ky_1186 : Cond.instanceMethod ny_GM_state ∈ gw := gw_in (List.mem_of_getElem? (i := 1186) (by decide +kernel)) rfl
theorem ky_1187 : Cond.selects nR_GM ny_GM_state ny_GM_state ∈ gw := gw_in (List.mem_of_getElem? (i := 1187) (by decide +kernel)) rfl
theorem kl_320 : zCv gw nR_GL 56 md_GM_state 1 := ⟨ky_1185, ky_1186, ky_1187, ky_102, gw_in (tb_5 (List.mem_of_getElem? (i := 136) rfl)) rfl, by decide, by decide, by decide +kernel⟩
theorem ky_766 : Cond.methodLink nR_GL 57 ny_GK_register ∈ gw := gw_in (List.mem_of_getElem? (i := 766) (by decide +kernel)) rfl
theorem ky_767 : Cond.instanceMethod ny_GK_register ∈ gw := gw_in (List.mem_of_getElem? (i := 767) (by decide +kernel)) rfl
theorem ky_768 : Cond.selects nR_GK ny_GK_register ny_GK_register ∈ gw := gw_in (List.mem_of_getElem? (i := 768) (by decide +kernel)) rfl
theorem kl_339 : zCv gw nR_GL 57 md_GK_register 2 := ⟨ky_766, ky_767, ky_768, ky_93, gw_in (tb_3 (List.mem_of_getElem? (i := 197) rfl)) rfl, by decide, by decide, by decide +kernel⟩
theorem ky_1193 : Cond.methodLink nR_GL 60 ny_GM_register ∈ gw := gw_in (List.mem_of_getElem? (i := 1193) (by decide +kernel)) rfl
theorem ky_1194 : Cond.instanceMethod ny_GM_register ∈ gw := gw_in (List.mem_of_getElem? (i := 1194) (by decide +kernel)) rfl
theorem ky_1195 : Cond.selects nR_GM ny_GM_register ny_GM_register ∈ gw := gw_in (List.mem_of_getElem? (i := 1195) (by decide +kernel)) rfl
theorem kl_353 : zCv gw nR_GL 60 md_GM_register 2 := ⟨ky_1193, ky_1194, ky_1195, ky_102, gw_in (tb_5 (List.mem_of_getElem? (i := 144) rfl)) rfl, by decide, by decide, by decide +kernel⟩
theorem ky_774 : Cond.methodLink nR_GL 61 ny_GK_word ∈ gw := gw_in (List.mem_of_getElem? (i := 774) (by decide +kernel)) rfl
theorem ky_775 : Cond.instanceMethod ny_GK_word ∈ gw := gw_in (List.mem_of_getElem? (i := 775) (by decide +kernel)) rfl
theorem ky_776 : Cond.selects nR_GK ny_GK_word ny_GK_word ∈ gw := gw_in (List.mem_of_getElem? (i := 776) (by decide +kernel)) rfl
theorem kl_367 : zCv gw nR_GL 61 md_GK_word 1 := ⟨ky_774, ky_775, ky_776, ky_93, gw_in (tb_3 (List.mem_of_getElem? (i := 205) rfl)) rfl, by decide, by decide, by decide +kernel⟩
theorem ky_1197 : Cond.methodLink nR_GL 64 ny_GM_word ∈ gw := gw_in (List.mem_of_getElem? (i := 1197) (by decide +kernel)) rfl
theorem ky_1198 : Cond.instanceMethod ny_GM_word ∈ gw := gw_in (List.mem_of_getElem? (i := 1198) (by decide +kernel)) rfl
theorem ky_1199 : Cond.selects nR_GM ny_GM_word ny_GM_word ∈ gw := gw_in (List.mem_of_getElem? (i := 1199) (by decide +kernel)) rfl
theorem kl_376 : zCv gw nR_GL 64 md_GM_word 1 := ⟨ky_1197, ky_1198, ky_1199, ky_102, gw_in (tb_5 (List.mem_of_getElem? (i := 148) rfl)) rfl, by decide, by decide, by decide +kernel⟩
theorem ky_778 : Cond.methodLink nR_GL 65 ny_GK_block ∈ gw := gw_in (List.mem_of_getElem? (i := 778) (by decide +kernel)) rfl
theorem ky_779 : Cond.instanceMethod ny_GK_block ∈ gw := gw_in (List.mem_of_getElem? (i := 779) (by decide +kernel)) rfl
theorem ky_780 : Cond.selects nR_GK ny_GK_block ny_GK_block ∈ gw := gw_in (List.mem_of_getElem? (i := 780) (by decide +kernel)) rfl
theorem kl_390 : zCv gw nR_GL 65 md_GK_block 1 := ⟨ky_778, ky_779, ky_780, ky_93, gw_in (tb_3 (List.mem_of_getElem? (i := 209) rfl)) rfl, by decide, by decide, by decide +kernel⟩
theorem ky_1201 : Cond.methodLink nR_GL 68 ny_GM_block ∈ gw := gw_in (List.mem_of_getElem? (i := 1201) (by decide +kernel)) rfl
theorem ky_1202 : Cond.instanceMethod ny_GM_block ∈ gw := gw_in (List.mem_of_getElem? (i := 1202) (by decide +kernel)) rfl
theorem ky_1203 : Cond.selects nR_GM ny_GM_block ny_GM_block ∈ gw := gw_in (List.mem_of_getElem? (i := 1203) (by decide +kernel)) rfl
theorem kl_399 : zCv gw nR_GL 68 md_GM_block 1 := ⟨ky_1201, ky_1202, ky_1203, ky_102, gw_in (tb_5 (List.mem_of_getElem? (i := 152) rfl)) rfl, by decide, by decide, by decide +kernel⟩
theorem ky_782 : Cond.methodLink nR_GL 69 ny_GK_open ∈ gw := gw_in (List.mem_of_getElem? (i := 782) (by decide +kernel)) rfl
theorem ky_783 : Cond.instanceMethod ny_GK_open ∈ gw := gw_in (List.mem_of_getElem? (i := 783) (by decide +kernel)) rfl
theorem ky_784 : Cond.selects nR_GK ny_GK_open ny_GK_open ∈ gw := gw_in (List.mem_of_getElem? (i := 784) (by decide +kernel)) rfl
theorem kl_413 : zCv gw nR_GL 69 md_GK_open 1 := ⟨ky_782, ky_783, ky_784, ky_93, gw_in (tb_3 (List.mem_of_getElem? (i := 213) rfl)) rfl, by decide, by decide, by decide +kernel⟩
theorem ky_1205 : Cond.methodLink nR_GL 72 ny_GM_open ∈ gw := gw_in (List.mem_of_getElem? (i := 1205) (by decide +kernel)) rfl
theorem ky_1206 : Cond.instanceMethod ny_GM_open ∈ gw := gw_in (List.mem_of_getElem? (i := 1206) (by decide +kernel)) rfl
theorem ky_1207 : Cond.selects nR_GM ny_GM_open ny_GM_open ∈ gw := gw_in (List.mem_of_getElem? (i := 1207) (by decide +kernel)) rfl
theorem kl_422 : zCv gw nR_GL 72 md_GM_open 1 := ⟨ky_1205, ky_1206, ky_1207, ky_102, gw_in (tb_5 (List.mem_of_getElem? (i := 156) rfl)) rfl, by decide, by decide, by decide +kernel⟩
theorem ky_786 : Cond.methodLink nR_GL 73 ny_GK_grant ∈ gw := gw_in (List.mem_of_getElem? (i := 786) (by decide +kernel)) rfl
theorem ky_787 : Cond.instanceMethod ny_GK_grant ∈ gw := gw_in (List.mem_of_getElem? (i := 787) (by decide +kernel)) rfl
theorem ky_788 : Cond.selects nR_GK ny_GK_grant ny_GK_grant ∈ gw := gw_in (List.mem_of_getElem? (i := 788) (by decide +kernel)) rfl
theorem kl_441 : zCv gw nR_GL 73 md_GK_grant 2 := ⟨ky_786, ky_787, ky_788, ky_93, gw_in (tb_3 (List.mem_of_getElem? (i := 217) rfl)) rfl, by decide, by decide, by decide +kernel⟩
theorem ky_1209 : Cond.methodLink nR_GL 76 ny_GM_grant ∈ gw := gw_in (List.mem_of_getElem? (i := 1209) (by decide +kernel)) rfl
theorem ky_1210 : Cond.instanceMethod ny_GM_grant ∈ gw := gw_in (List.mem_of_getElem? (i := 1210) (by decide +kernel)) rfl
theorem ky_1211 : Cond.selects nR_GM ny_GM_grant ny_GM_grant ∈ gw := gw_in (List.mem_of_getElem? (i := 1211) (by decide +kernel)) rfl
theorem kl_455 : zCv gw nR_GL 76 md_GM_grant 2 := ⟨ky_1209, ky_1210, ky_1211, ky_102, gw_in (tb_5 (List.mem_of_getElem? (i := 160) rfl)) rfl, by decide, by decide, by decide +kernel⟩
theorem ky_791 : Cond.methodLink nR_GL 77 ny_GK_queued ∈ gw := gw_in (List.mem_of_getElem? (i := 791) (by decide +kernel)) rfl
theorem ky_792 : Cond.instanceMethod ny_GK_queued ∈ gw := gw_in (List.mem_of_getElem? (i := 792) (by decide +kernel)) rfl
theorem ky_793 : Cond.selects nR_GK ny_GK_queued ny_GK_queued ∈ gw := gw_in (List.mem_of_getElem? (i := 793) (by decide +kernel)) rfl
theorem kl_469 : zCv gw nR_GL 77 md_GK_queued 1 := ⟨ky_791, ky_792, ky_793, ky_93, gw_in (tb_3 (List.mem_of_getElem? (i := 222) rfl)) rfl, by decide, by decide, by decide +kernel⟩
theorem ky_1213 : Cond.methodLink nR_GL 80 ny_GM_queued ∈ gw := gw_in (List.mem_of_getElem? (i := 1213) (by decide +kernel)) rfl
theorem ky_1214 : Cond.instanceMethod ny_GM_queued ∈ gw := gw_in (List.mem_of_getElem? (i := 1214) (by decide +kernel)) rfl
theorem ky_1215 : Cond.selects nR_GM ny_GM_queued ny_GM_queued ∈ gw := gw_in (List.mem_of_getElem? (i := 1215) (by decide +kernel)) rfl
theorem kl_478 : zCv gw nR_GL 80 md_GM_queued 1 := ⟨ky_1213, ky_1214, ky_1215, ky_102, gw_in (tb_5 (List.mem_of_getElem? (i := 164) rfl)) rfl, by decide, by decide, by decide +kernel⟩
theorem ky_795 : Cond.methodLink nR_GL 81 ny_GK_fault ∈ gw := gw_in (List.mem_of_getElem? (i := 795) (by decide +kernel)) rfl
theorem ky_796 : Cond.instanceMethod ny_GK_fault ∈ gw := gw_in (List.mem_of_getElem? (i := 796) (by decide +kernel)) rfl
theorem ky_797 : Cond.selects nR_GK ny_GK_fault ny_GK_fault ∈ gw := gw_in (List.mem_of_getElem? (i := 797) (by decide +kernel)) rfl
theorem kl_492 : zCv gw nR_GL 81 md_GK_fault 1 := ⟨ky_795, ky_796, ky_797, ky_93, gw_in (tb_3 (List.mem_of_getElem? (i := 226) rfl)) rfl, by decide, by decide, by decide +kernel⟩
theorem ky_1217 : Cond.methodLink nR_GL 84 ny_GM_fault ∈ gw := gw_in (List.mem_of_getElem? (i := 1217) (by decide +kernel)) rfl
theorem ky_1218 : Cond.instanceMethod ny_GM_fault ∈ gw := gw_in (List.mem_of_getElem? (i := 1218) (by decide +kernel)) rfl
theorem ky_1219 : Cond.selects nR_GM ny_GM_fault ny_GM_fault ∈ gw := gw_in (List.mem_of_getElem? (i := 1219) (by decide +kernel)) rfl
theorem kl_501 : zCv gw nR_GL 84 md_GM_fault 1 := ⟨ky_1217, ky_1218, ky_1219, ky_102, gw_in (tb_5 (List.mem_of_getElem? (i := 168) rfl)) rfl, by decide, by decide, by decide +kernel⟩
theorem ky_799 : Cond.methodLink nR_GL 85 ny_GK_faults ∈ gw := gw_in (List.mem_of_getElem? (i := 799) (by decide +kernel)) rfl
theorem ky_800 : Cond.instanceMethod ny_GK_faults ∈ gw := gw_in (List.mem_of_getElem? (i := 800) (by decide +kernel)) rfl
theorem ky_801 : Cond.selects nR_GK ny_GK_faults ny_GK_faults ∈ gw := gw_in (List.mem_of_getElem? (i := 801) (by decide +kernel)) rfl
theorem kl_515 : zCv gw nR_GL 85 md_GK_faults 1 := ⟨ky_799, ky_800, ky_801, ky_93, gw_in (tb_3 (List.mem_of_getElem? (i := 230) rfl)) rfl, by decide, by decide, by decide +kernel⟩
theorem ky_1221 : Cond.methodLink nR_GL 88 ny_GM_faults ∈ gw := gw_in (List.mem_of_getElem? (i := 1221) (by decide +kernel)) rfl
theorem ky_1222 : Cond.instanceMethod ny_GM_faults ∈ gw := gw_in (List.mem_of_getElem? (i := 1222) (by decide +kernel)) rfl
theorem ky_1223 : Cond.selects nR_GM ny_GM_faults ny_GM_faults ∈ gw := gw_in (List.mem_of_getElem? (i := 1223) (by decide +kernel)) rfl
theorem kl_524 : zCv gw nR_GL 88 md_GM_faults 1 := ⟨ky_1221, ky_1222, ky_1223, ky_102, gw_in (tb_5 (List.mem_of_getElem? (i := 172) rfl)) rfl, by decide, by decide, by decide +kernel⟩
theorem ky_803 : Cond.methodLink nR_GL 89 ny_GK_restart ∈ gw := gw_in (List.mem_of_getElem? (i := 803) (by decide +kernel)) rfl
theorem ky_804 : Cond.instanceMethod ny_GK_restart ∈ gw := gw_in (List.mem_of_getElem? (i := 804) (by decide +kernel)) rfl
theorem ky_805 : Cond.selects nR_GK ny_GK_restart ny_GK_restart ∈ gw := gw_in (List.mem_of_getElem? (i := 805) (by decide +kernel)) rfl
theorem kl_538 : zCv gw nR_GL 89 md_GK_restart 1 := ⟨ky_803, ky_804, ky_805, ky_93, gw_in (tb_3 (List.mem_of_getElem? (i := 234) rfl)) rfl, by decide, by decide, by decide +kernel⟩
theorem ky_1225 : Cond.methodLink nR_GL 92 ny_GM_restart ∈ gw := gw_in (List.mem_of_getElem? (i := 1225) (by decide +kernel)) rfl
theorem ky_1226 : Cond.instanceMethod ny_GM_restart ∈ gw := gw_in (List.mem_of_getElem? (i := 1226) (by decide +kernel)) rfl
theorem ky_1227 : Cond.selects nR_GM ny_GM_restart ny_GM_restart ∈ gw := gw_in (List.mem_of_getElem? (i := 1227) (by decide +kernel)) rfl
theorem kl_547 : zCv gw nR_GL 92 md_GM_restart 1 := ⟨ky_1225, ky_1226, ky_1227, ky_102, gw_in (tb_5 (List.mem_of_getElem? (i := 176) rfl)) rfl, by decide, by decide, by decide +kernel⟩
theorem ky_808 : Cond.methodLink nR_GL 93 ny_GK_stop ∈ gw := gw_in (List.mem_of_getElem? (i := 808) (by decide +kernel)) rfl
theorem ky_809 : Cond.instanceMethod ny_GK_stop ∈ gw := gw_in (List.mem_of_getElem? (i := 809) (by decide +kernel)) rfl
theorem ky_810 : Cond.selects nR_GK ny_GK_stop ny_GK_stop ∈ gw := gw_in (List.mem_of_getElem? (i := 810) (by decide +kernel)) rfl
theorem kl_561 : zCv gw nR_GL 93 md_GK_stop 1 := ⟨ky_808, ky_809, ky_810, ky_93, gw_in (tb_3 (List.mem_of_getElem? (i := 239) rfl)) rfl, by decide, by decide, by decide +kernel⟩
theorem ky_1229 : Cond.methodLink nR_GL 96 ny_GM_stop ∈ gw := gw_in (List.mem_of_getElem? (i := 1229) (by decide +kernel)) rfl
theorem ky_1230 : Cond.instanceMethod ny_GM_stop ∈ gw := gw_in (List.mem_of_getElem? (i := 1230) (by decide +kernel)) rfl
theorem ky_1231 : Cond.selects nR_GM ny_GM_stop ny_GM_stop ∈ gw := gw_in (List.mem_of_getElem? (i := 1231) (by decide +kernel)) rfl
theorem kl_570 : zCv gw nR_GL 96 md_GM_stop 1 := ⟨ky_1229, ky_1230, ky_1231, ky_102, gw_in (tb_5 (List.mem_of_getElem? (i := 180) rfl)) rfl, by decide, by decide, by decide +kernel⟩
def StepOK (Rel : zS → zS → Prop) : Prop := ok2 Rel k_GK_burn k_GM_burn ∧ ok0 Rel k_GK_boot k_GM_boot ∧ ok1 Rel k_GK_run k_GM_run ∧ ok1 Rel k_GK_type k_GM_type ∧ ok1 Rel k_GK_sample k_GM_sample ∧ ok0 Rel k_GK_outputs k_GM_outputs ∧ ok1 Rel k_GK_output k_GM_output ∧ ok0 Rel k_GK_now k_GM_now ∧ ok0 Rel k_GK_turn k_GM_turn ∧ ok1 Rel k_GK_state k_GM_state ∧ ok2 Rel k_GK_register k_GM_register ∧ ok1 Rel k_GK_word k_GM_word ∧ ok1 Rel k_GK_block k_GM_block ∧ ok1 Rel k_GK_open k_GM_open ∧ ok2 Rel k_GK_grant k_GM_grant ∧ ok1 Rel k_GK_queued k_GM_queued ∧ ok1 Rel k_GK_fault k_GM_fault ∧ ok1 Rel k_GK_faults k_GM_faults ∧ ok1 Rel k_GK_restart k_GM_restart ∧ ok1 Rel k_GK_stop k_GM_stop
set_option maxHeartbeats 4000000 in
set_option maxRecDepth 100000 in
theorem law_loop {p : Program} {l : Launch} {e : Env} {s : State} {m : MethodId} {b L : Nat} {xs : Nat → Int32} {below : List Frame} {meth : Method} {c : Code} {V1 V2 : zG} (Rel : zS → zS → Prop) (hStep : StepOK Rel) (hx : p.tables.exec = Jvm.exec) (hb : c.code = code) (hr : meth.sig.returnType = ret) (hml : c.maxLocals = 4) (hown : s.vm.findClass nR_GL = some m.cls) (hts : ∀ w ∈ gw, w.before #[Value.ref b] s = true) (hX : va_X b L xs s s.heap) (hbl : b < s.heap.size) (hlocks : meth.locks = false) (hL : L ≤ 1536) (hJ1 : zJ0 (sC l V1)) (hJ2 : zJ0 (sM l V2)) (hK1 : zK (sC l V1) s) (hK2 : zK (sM l V2) s) (hd1 : ∀ q, zA (sC l V1) q → ¬ zA (sM l V2) q) (hd2 : ∀ q, zA (sM l V2) q → ¬ zA (sC l V1) q) (hn1 : ∀ q, zA (sC l V1) q → s.heap.size ≤ q) (hn2 : ∀ q, zA (sM l V2) q → s.heap.size ≤ q) :
    ∀ (k n : Nat), L < n + 3 + k → n ≤ L + 2 → ∀ (σ τ : zS) (H : Heap) (locs : List Loc) (ls : Array Slot), Rel σ τ → zP (sC l V1) σ H → zP (sM l V2) τ H → va_S (fun q => s.heap.size ≤ q) s.heap H locs → lv_has ls 4 [(3, .int (nI n)), (2, .ref (V2.2.2 0 0)), (1, .ref (V1.2.2 0 0)), (0, .ref b)] → W p l e room_1 s m #[Value.ref b] below meth c H locs 90 1369 (lw_Z below #[Value.ref b] s) (F0 m 18 ls []) := by
  have hbA : ¬ (fun q => s.heap.size ≤ q) b := Nat.not_le.mpr hbl
  obtain ⟨h_burn, h_boot, h_run, h_type, h_sample, h_outputs, h_output, h_now, h_turn, h_state, h_register, h_word, h_block, h_open, h_grant, h_queued, h_fault, h_faults, h_restart, h_stop⟩ := hStep
  intro k
  induction k with
  | zero =>
    intro n hk hn σ τ H locs ls hRel hP1 hP2 hS hl
    refine lv_iload_n hx hb nd_GL_law_18 rfl (lv_at hl 0 rfl) ?_
    refine lv_aload_n hx hb nd_GL_law_19 rfl (lv_at hl 3 rfl) ?_
    refine va_slen hx hb hX hbl hbA hS nd_GL_law_20 ?_
    refine lv_iconst (v := 3) hx hb nd_GL_law_21 (by decide) ?_
    refine lv_isub hx hb nd_GL_law_22 ?_
    have hc0 : ((Int32.ofNat L - 3 : Int32)).toInt = (L : Int) - 3 := pk_sub_toInt (a := L) (b := 3) (by omega) (by omega)
    have hc1 : (nI n).toInt = (n : Int) := nI_toInt (by omega)
    refine lv_icmp_gt (tgt := 584) hx hb nd_GL_law_23 (by decide) (fun h => ?_) (fun h => ?_)
    · refine lv_iconst (v := 1) hx hb nd_GL_law_584 (by decide) ?_
      refine va_forget (fun q hq => hS.2.2 q hq) ?_
      refine W.widen (k := 600000) (n := 7302250) (Nat.le_of_ble_eq_true rfl) (Nat.le_of_ble_eq_true rfl) ?_
      exact lw_ret hx hb hr hlocks nd_GL_law_585
    · rw [Int32.lt_iff_toInt_lt, hc0, hc1] at h
      exact absurd hk (by omega)
  | succ k ih =>
    intro n hk hn σ τ H locs ls hRel hP1 hP2 hS hl
    refine lv_iload_n hx hb nd_GL_law_18 rfl (lv_at hl 0 rfl) ?_
    refine lv_aload_n hx hb nd_GL_law_19 rfl (lv_at hl 3 rfl) ?_
    refine va_slen hx hb hX hbl hbA hS nd_GL_law_20 ?_
    refine lv_iconst (v := 3) hx hb nd_GL_law_21 (by decide) ?_
    refine lv_isub hx hb nd_GL_law_22 ?_
    have hc0 : ((Int32.ofNat L - 3 : Int32)).toInt = (L : Int) - 3 := pk_sub_toInt (a := L) (b := 3) (by omega) (by omega)
    have hc1 : (nI n).toInt = (n : Int) := nI_toInt (by omega)
    refine lv_icmp_gt (tgt := 584) hx hb nd_GL_law_23 (by decide) (fun h => ?_) (fun h => ?_)
    · refine lv_iconst (v := 1) hx hb nd_GL_law_584 (by decide) ?_
      refine va_forget (fun q hq => hS.2.2 q hq) ?_
      refine W.widen (k := 600000) (n := 7302250) (Nat.le_of_ble_eq_true rfl) (Nat.le_of_ble_eq_true rfl) ?_
      exact lw_ret hx hb hr hlocks nd_GL_law_585
    · rw [Int32.lt_iff_toInt_lt, hc0, hc1] at h
      have hn3 : n + 3 ≤ L := by omega
      have next : ∀ (σ τ : zS) (H : Heap) (locs : List Loc), Rel σ τ → zP (sC l V1) σ H → zP (sM l V2) τ H → va_S (fun q => s.heap.size ≤ q) s.heap H locs → W p l e room_1 s m #[Value.ref b] below meth c H locs 90 1369 (lw_Z below #[Value.ref b] s) (F0 m 578 ls []) := by
        intro σ τ H locs hRel hP1 hP2 hS
        refine lv_iinc (k := 0) (v := nI (n + 3)) hx hb nd_GL_law_578 hl rfl (nI_add n 3) (by decide) rfl (fun ls hl => ?_)
        refine lv_goto (tgt := 18) hx hb nd_GL_law_581 (by decide) ?_
        exact ih (n + 3) (by omega) (by omega) σ τ H locs ls hRel hP1 hP2 hS hl
      refine lv_aload_n hx hb nd_GL_law_26 rfl (lv_at hl 3 rfl) ?_
      refine lv_iload_n hx hb nd_GL_law_27 rfl (lv_at hl 0 rfl) ?_
      refine va_sld hx hb hX hbl hbA hS (vp_in_nI (by omega) (by omega)) nd_GL_law_28 ?_
      refine lv_bipush (v := 31) hx hb nd_GL_law_29 (by decide) ?_
      refine lv_iand hx hb nd_GL_law_31 ?_
      refine lv_topi (fun z ez => ?_)
      clear ez
      by_cases hc : z = 0
      · subst hc
        refine lv_tableIn (tgt := 128) (off := 96) hx hb nd_GL_law_32 (by decide) (by decide) (by decide) (by decide) ?_
        obtain ⟨σ1, τ1, v1, g1, g2, hR1⟩ := h_burn σ τ (xs (nI (n + 1)).toNatClampNeg) (xs (nI (n + 2)).toNatClampNeg) hRel
        refine lv_aload_n hx hb nd_GL_law_128 rfl (lv_at hl 2 rfl) ?_
        refine lv_aload_n hx hb nd_GL_law_129 rfl (lv_at hl 3 rfl) ?_
        refine lv_iload_n hx hb nd_GL_law_130 rfl (lv_at hl 0 rfl) ?_
        refine lv_iconst (v := 1) hx hb nd_GL_law_131 (by decide) ?_
        refine lv_iadd hx hb nd_GL_law_132 ?_
        refine lv_topi (fun y ey => ?_)
        have ey : y = nI (n + 1) := ey.trans (nI_add n 1)
        subst ey
        refine va_sld hx hb hX hbl hbA hS (vp_in_nI (by omega) (by omega)) nd_GL_law_133 ?_
        refine lv_aload_n hx hb nd_GL_law_134 rfl (lv_at hl 3 rfl) ?_
        refine lv_iload_n hx hb nd_GL_law_135 rfl (lv_at hl 0 rfl) ?_
        refine lv_iconst (v := 2) hx hb nd_GL_law_136 (by decide) ?_
        refine lv_iadd hx hb nd_GL_law_137 ?_
        refine lv_topi (fun y ey => ?_)
        have ey : y = nI (n + 2) := ey.trans (nI_add n 2)
        subst ey
        refine va_sld hx hb hX hbl hbA hS (vp_in_nI (by omega) (by omega)) nd_GL_law_138 ?_
        refine lw_call (Y := Y1) (Y' := Y2) (V' := V2) (τ := τ) [zI (xs (nI (n + 1)).toNatClampNeg), zI (xs (nI (n + 2)).toNatClampNeg)] [] hx hb hml hown hts hJ1 hK1 hd1 hn1 hl.1 hS hP1 hP2 hJ2 (c_GK_burn hJ1 g1) nd_GL_law_139 kl_139 rfl rfl (by decide) rfl (Nat.le_of_ble_eq_true rfl) ⟨Nat.le_of_ble_eq_true rfl, Nat.le_of_ble_eq_true rfl⟩ (fun H locs hP1 hP2 hS => ?_)
        refine lv_aload_n hx hb nd_GL_law_142 rfl (lv_at hl 1 rfl) ?_
        refine lv_aload_n hx hb nd_GL_law_143 rfl (lv_at hl 3 rfl) ?_
        refine lv_iload_n hx hb nd_GL_law_144 rfl (lv_at hl 0 rfl) ?_
        refine lv_iconst (v := 1) hx hb nd_GL_law_145 (by decide) ?_
        refine lv_iadd hx hb nd_GL_law_146 ?_
        refine lv_topi (fun y ey => ?_)
        have ey : y = nI (n + 1) := ey.trans (nI_add n 1)
        subst ey
        refine va_sld hx hb hX hbl hbA hS (vp_in_nI (by omega) (by omega)) nd_GL_law_147 ?_
        refine lv_aload_n hx hb nd_GL_law_148 rfl (lv_at hl 3 rfl) ?_
        refine lv_iload_n hx hb nd_GL_law_149 rfl (lv_at hl 0 rfl) ?_
        refine lv_iconst (v := 2) hx hb nd_GL_law_150 (by decide) ?_
        refine lv_iadd hx hb nd_GL_law_151 ?_
        refine lv_topi (fun y ey => ?_)
        have ey : y = nI (n + 2) := ey.trans (nI_add n 2)
        subst ey
        refine va_sld hx hb hX hbl hbA hS (vp_in_nI (by omega) (by omega)) nd_GL_law_152 ?_
        refine lw_call (Y := Y2) (Y' := Y1) (V' := V1) (τ := σ1) [zI (xs (nI (n + 1)).toNatClampNeg), zI (xs (nI (n + 2)).toNatClampNeg)] [.int v1] hx hb hml hown hts hJ2 hK2 hd2 hn2 hl.1 hS hP2 hP1 hJ1 (c_GM_burn hJ2 g2) nd_GL_law_153 kl_153 rfl rfl (by decide) rfl (Nat.le_of_ble_eq_true rfl) ⟨Nat.le_of_ble_eq_true rfl, Nat.le_of_ble_eq_true rfl⟩ (fun H locs hP2 hP1 hS => ?_)
        refine lv_icmp_eq (tgt := 578) hx hb nd_GL_law_156 (by decide) (fun _ => ?_) (fun h => absurd rfl h)
        exact next σ1 τ1 H locs hR1 hP1 hP2 hS
      have n_0 : ¬ z.toInt = 0 := lv_neT (k := 0) hc (by decide)
      by_cases hc : z = 1
      · subst hc
        refine lv_tableIn (tgt := 161) (off := 129) hx hb nd_GL_law_32 (by decide) (by decide) (by decide) (by decide) ?_
        obtain ⟨σ1, τ1, v1, g1, g2, hR1⟩ := h_boot σ τ hRel
        refine lv_aload_n hx hb nd_GL_law_161 rfl (lv_at hl 2 rfl) ?_
        refine lw_call (Y := Y1) (Y' := Y2) (V' := V2) (τ := τ) [] [] hx hb hml hown hts hJ1 hK1 hd1 hn1 hl.1 hS hP1 hP2 hJ2 (c_GK_boot hJ1 g1) nd_GL_law_162 kl_162 rfl rfl (by decide) rfl (Nat.le_of_ble_eq_true rfl) ⟨Nat.le_of_ble_eq_true rfl, Nat.le_of_ble_eq_true rfl⟩ (fun H locs hP1 hP2 hS => ?_)
        refine lv_aload_n hx hb nd_GL_law_165 rfl (lv_at hl 1 rfl) ?_
        refine lw_call (Y := Y2) (Y' := Y1) (V' := V1) (τ := σ1) [] [.int v1] hx hb hml hown hts hJ2 hK2 hd2 hn2 hl.1 hS hP2 hP1 hJ1 (c_GM_boot hJ2 g2) nd_GL_law_166 kl_166 rfl rfl (by decide) rfl (Nat.le_of_ble_eq_true rfl) ⟨Nat.le_of_ble_eq_true rfl, Nat.le_of_ble_eq_true rfl⟩ (fun H locs hP2 hP1 hS => ?_)
        refine lv_icmp_eq (tgt := 578) hx hb nd_GL_law_169 (by decide) (fun _ => ?_) (fun h => absurd rfl h)
        exact next σ1 τ1 H locs hR1 hP1 hP2 hS
      have n_1 : ¬ z.toInt = 1 := lv_neT (k := 1) hc (by decide)
      by_cases hc : z = 2
      · subst hc
        refine lv_tableIn (tgt := 174) (off := 142) hx hb nd_GL_law_32 (by decide) (by decide) (by decide) (by decide) ?_
        obtain ⟨σ1, τ1, v1, g1, g2, hR1⟩ := h_run σ τ (xs (nI (n + 1)).toNatClampNeg) hRel
        refine lv_aload_n hx hb nd_GL_law_174 rfl (lv_at hl 2 rfl) ?_
        refine lv_aload_n hx hb nd_GL_law_175 rfl (lv_at hl 3 rfl) ?_
        refine lv_iload_n hx hb nd_GL_law_176 rfl (lv_at hl 0 rfl) ?_
        refine lv_iconst (v := 1) hx hb nd_GL_law_177 (by decide) ?_
        refine lv_iadd hx hb nd_GL_law_178 ?_
        refine lv_topi (fun y ey => ?_)
        have ey : y = nI (n + 1) := ey.trans (nI_add n 1)
        subst ey
        refine va_sld hx hb hX hbl hbA hS (vp_in_nI (by omega) (by omega)) nd_GL_law_179 ?_
        refine lw_call (Y := Y1) (Y' := Y2) (V' := V2) (τ := τ) [zI (xs (nI (n + 1)).toNatClampNeg)] [] hx hb hml hown hts hJ1 hK1 hd1 hn1 hl.1 hS hP1 hP2 hJ2 (c_GK_run hJ1 g1) nd_GL_law_180 kl_180 rfl rfl (by decide) rfl (Nat.le_of_ble_eq_true rfl) ⟨Nat.le_of_ble_eq_true rfl, Nat.le_of_ble_eq_true rfl⟩ (fun H locs hP1 hP2 hS => ?_)
        refine lv_aload_n hx hb nd_GL_law_183 rfl (lv_at hl 1 rfl) ?_
        refine lv_aload_n hx hb nd_GL_law_184 rfl (lv_at hl 3 rfl) ?_
        refine lv_iload_n hx hb nd_GL_law_185 rfl (lv_at hl 0 rfl) ?_
        refine lv_iconst (v := 1) hx hb nd_GL_law_186 (by decide) ?_
        refine lv_iadd hx hb nd_GL_law_187 ?_
        refine lv_topi (fun y ey => ?_)
        have ey : y = nI (n + 1) := ey.trans (nI_add n 1)
        subst ey
        refine va_sld hx hb hX hbl hbA hS (vp_in_nI (by omega) (by omega)) nd_GL_law_188 ?_
        refine lw_call (Y := Y2) (Y' := Y1) (V' := V1) (τ := σ1) [zI (xs (nI (n + 1)).toNatClampNeg)] [.int v1] hx hb hml hown hts hJ2 hK2 hd2 hn2 hl.1 hS hP2 hP1 hJ1 (c_GM_run hJ2 g2) nd_GL_law_189 kl_189 rfl rfl (by decide) rfl (Nat.le_of_ble_eq_true rfl) ⟨Nat.le_of_ble_eq_true rfl, Nat.le_of_ble_eq_true rfl⟩ (fun H locs hP2 hP1 hS => ?_)
        refine lv_icmp_eq (tgt := 578) hx hb nd_GL_law_192 (by decide) (fun _ => ?_) (fun h => absurd rfl h)
        exact next σ1 τ1 H locs hR1 hP1 hP2 hS
      have n_2 : ¬ z.toInt = 2 := lv_neT (k := 2) hc (by decide)
      by_cases hc : z = 3
      · subst hc
        refine lv_tableIn (tgt := 197) (off := 165) hx hb nd_GL_law_32 (by decide) (by decide) (by decide) (by decide) ?_
        obtain ⟨σ1, τ1, v1, g1, g2, hR1⟩ := h_type σ τ (xs (nI (n + 1)).toNatClampNeg) hRel
        refine lv_aload_n hx hb nd_GL_law_197 rfl (lv_at hl 2 rfl) ?_
        refine lv_aload_n hx hb nd_GL_law_198 rfl (lv_at hl 3 rfl) ?_
        refine lv_iload_n hx hb nd_GL_law_199 rfl (lv_at hl 0 rfl) ?_
        refine lv_iconst (v := 1) hx hb nd_GL_law_200 (by decide) ?_
        refine lv_iadd hx hb nd_GL_law_201 ?_
        refine lv_topi (fun y ey => ?_)
        have ey : y = nI (n + 1) := ey.trans (nI_add n 1)
        subst ey
        refine va_sld hx hb hX hbl hbA hS (vp_in_nI (by omega) (by omega)) nd_GL_law_202 ?_
        refine lw_call (Y := Y1) (Y' := Y2) (V' := V2) (τ := τ) [zI (xs (nI (n + 1)).toNatClampNeg)] [] hx hb hml hown hts hJ1 hK1 hd1 hn1 hl.1 hS hP1 hP2 hJ2 (c_GK_type hJ1 g1) nd_GL_law_203 kl_203 rfl rfl (by decide) rfl (Nat.le_of_ble_eq_true rfl) ⟨Nat.le_of_ble_eq_true rfl, Nat.le_of_ble_eq_true rfl⟩ (fun H locs hP1 hP2 hS => ?_)
        refine lv_aload_n hx hb nd_GL_law_206 rfl (lv_at hl 1 rfl) ?_
        refine lv_aload_n hx hb nd_GL_law_207 rfl (lv_at hl 3 rfl) ?_
        refine lv_iload_n hx hb nd_GL_law_208 rfl (lv_at hl 0 rfl) ?_
        refine lv_iconst (v := 1) hx hb nd_GL_law_209 (by decide) ?_
        refine lv_iadd hx hb nd_GL_law_210 ?_
        refine lv_topi (fun y ey => ?_)
        have ey : y = nI (n + 1) := ey.trans (nI_add n 1)
        subst ey
        refine va_sld hx hb hX hbl hbA hS (vp_in_nI (by omega) (by omega)) nd_GL_law_211 ?_
        refine lw_call (Y := Y2) (Y' := Y1) (V' := V1) (τ := σ1) [zI (xs (nI (n + 1)).toNatClampNeg)] [.int v1] hx hb hml hown hts hJ2 hK2 hd2 hn2 hl.1 hS hP2 hP1 hJ1 (c_GM_type hJ2 g2) nd_GL_law_212 kl_212 rfl rfl (by decide) rfl (Nat.le_of_ble_eq_true rfl) ⟨Nat.le_of_ble_eq_true rfl, Nat.le_of_ble_eq_true rfl⟩ (fun H locs hP2 hP1 hS => ?_)
        refine lv_icmp_eq (tgt := 578) hx hb nd_GL_law_215 (by decide) (fun _ => ?_) (fun h => absurd rfl h)
        exact next σ1 τ1 H locs hR1 hP1 hP2 hS
      have n_3 : ¬ z.toInt = 3 := lv_neT (k := 3) hc (by decide)
      by_cases hc : z = 4
      · subst hc
        refine lv_tableIn (tgt := 220) (off := 188) hx hb nd_GL_law_32 (by decide) (by decide) (by decide) (by decide) ?_
        obtain ⟨σ1, τ1, v1, g1, g2, hR1⟩ := h_sample σ τ (xs (nI (n + 1)).toNatClampNeg) hRel
        refine lv_aload_n hx hb nd_GL_law_220 rfl (lv_at hl 2 rfl) ?_
        refine lv_aload_n hx hb nd_GL_law_221 rfl (lv_at hl 3 rfl) ?_
        refine lv_iload_n hx hb nd_GL_law_222 rfl (lv_at hl 0 rfl) ?_
        refine lv_iconst (v := 1) hx hb nd_GL_law_223 (by decide) ?_
        refine lv_iadd hx hb nd_GL_law_224 ?_
        refine lv_topi (fun y ey => ?_)
        have ey : y = nI (n + 1) := ey.trans (nI_add n 1)
        subst ey
        refine va_sld hx hb hX hbl hbA hS (vp_in_nI (by omega) (by omega)) nd_GL_law_225 ?_
        refine lw_call (Y := Y1) (Y' := Y2) (V' := V2) (τ := τ) [zI (xs (nI (n + 1)).toNatClampNeg)] [] hx hb hml hown hts hJ1 hK1 hd1 hn1 hl.1 hS hP1 hP2 hJ2 (c_GK_sample hJ1 g1) nd_GL_law_226 kl_226 rfl rfl (by decide) rfl (Nat.le_of_ble_eq_true rfl) ⟨Nat.le_of_ble_eq_true rfl, Nat.le_of_ble_eq_true rfl⟩ (fun H locs hP1 hP2 hS => ?_)
        refine lv_aload_n hx hb nd_GL_law_229 rfl (lv_at hl 1 rfl) ?_
        refine lv_aload_n hx hb nd_GL_law_230 rfl (lv_at hl 3 rfl) ?_
        refine lv_iload_n hx hb nd_GL_law_231 rfl (lv_at hl 0 rfl) ?_
        refine lv_iconst (v := 1) hx hb nd_GL_law_232 (by decide) ?_
        refine lv_iadd hx hb nd_GL_law_233 ?_
        refine lv_topi (fun y ey => ?_)
        have ey : y = nI (n + 1) := ey.trans (nI_add n 1)
        subst ey
        refine va_sld hx hb hX hbl hbA hS (vp_in_nI (by omega) (by omega)) nd_GL_law_234 ?_
        refine lw_call (Y := Y2) (Y' := Y1) (V' := V1) (τ := σ1) [zI (xs (nI (n + 1)).toNatClampNeg)] [.int v1] hx hb hml hown hts hJ2 hK2 hd2 hn2 hl.1 hS hP2 hP1 hJ1 (c_GM_sample hJ2 g2) nd_GL_law_235 kl_235 rfl rfl (by decide) rfl (Nat.le_of_ble_eq_true rfl) ⟨Nat.le_of_ble_eq_true rfl, Nat.le_of_ble_eq_true rfl⟩ (fun H locs hP2 hP1 hS => ?_)
        refine lv_icmp_eq (tgt := 578) hx hb nd_GL_law_238 (by decide) (fun _ => ?_) (fun h => absurd rfl h)
        exact next σ1 τ1 H locs hR1 hP1 hP2 hS
      have n_4 : ¬ z.toInt = 4 := lv_neT (k := 4) hc (by decide)
      by_cases hc : z = 5
      · subst hc
        refine lv_tableIn (tgt := 243) (off := 211) hx hb nd_GL_law_32 (by decide) (by decide) (by decide) (by decide) ?_
        obtain ⟨σ1, τ1, v1, g1, g2, hR1⟩ := h_outputs σ τ hRel
        refine lv_aload_n hx hb nd_GL_law_243 rfl (lv_at hl 2 rfl) ?_
        refine lw_call (Y := Y1) (Y' := Y2) (V' := V2) (τ := τ) [] [] hx hb hml hown hts hJ1 hK1 hd1 hn1 hl.1 hS hP1 hP2 hJ2 (c_GK_outputs hJ1 g1) nd_GL_law_244 kl_244 rfl rfl (by decide) rfl (Nat.le_of_ble_eq_true rfl) ⟨Nat.le_of_ble_eq_true rfl, Nat.le_of_ble_eq_true rfl⟩ (fun H locs hP1 hP2 hS => ?_)
        refine lv_aload_n hx hb nd_GL_law_247 rfl (lv_at hl 1 rfl) ?_
        refine lw_call (Y := Y2) (Y' := Y1) (V' := V1) (τ := σ1) [] [.int v1] hx hb hml hown hts hJ2 hK2 hd2 hn2 hl.1 hS hP2 hP1 hJ1 (c_GM_outputs hJ2 g2) nd_GL_law_248 kl_248 rfl rfl (by decide) rfl (Nat.le_of_ble_eq_true rfl) ⟨Nat.le_of_ble_eq_true rfl, Nat.le_of_ble_eq_true rfl⟩ (fun H locs hP2 hP1 hS => ?_)
        refine lv_icmp_eq (tgt := 578) hx hb nd_GL_law_251 (by decide) (fun _ => ?_) (fun h => absurd rfl h)
        exact next σ1 τ1 H locs hR1 hP1 hP2 hS
      have n_5 : ¬ z.toInt = 5 := lv_neT (k := 5) hc (by decide)
      by_cases hc : z = 6
      · subst hc
        refine lv_tableIn (tgt := 256) (off := 224) hx hb nd_GL_law_32 (by decide) (by decide) (by decide) (by decide) ?_
        obtain ⟨σ1, τ1, v1, g1, g2, hR1⟩ := h_output σ τ (xs (nI (n + 1)).toNatClampNeg) hRel
        refine lv_aload_n hx hb nd_GL_law_256 rfl (lv_at hl 2 rfl) ?_
        refine lv_aload_n hx hb nd_GL_law_257 rfl (lv_at hl 3 rfl) ?_
        refine lv_iload_n hx hb nd_GL_law_258 rfl (lv_at hl 0 rfl) ?_
        refine lv_iconst (v := 1) hx hb nd_GL_law_259 (by decide) ?_
        refine lv_iadd hx hb nd_GL_law_260 ?_
        refine lv_topi (fun y ey => ?_)
        have ey : y = nI (n + 1) := ey.trans (nI_add n 1)
        subst ey
        refine va_sld hx hb hX hbl hbA hS (vp_in_nI (by omega) (by omega)) nd_GL_law_261 ?_
        refine lw_call (Y := Y1) (Y' := Y2) (V' := V2) (τ := τ) [zI (xs (nI (n + 1)).toNatClampNeg)] [] hx hb hml hown hts hJ1 hK1 hd1 hn1 hl.1 hS hP1 hP2 hJ2 (c_GK_output hJ1 g1) nd_GL_law_262 kl_262 rfl rfl (by decide) rfl (Nat.le_of_ble_eq_true rfl) ⟨Nat.le_of_ble_eq_true rfl, Nat.le_of_ble_eq_true rfl⟩ (fun H locs hP1 hP2 hS => ?_)
        refine lv_aload_n hx hb nd_GL_law_265 rfl (lv_at hl 1 rfl) ?_
        refine lv_aload_n hx hb nd_GL_law_266 rfl (lv_at hl 3 rfl) ?_
        refine lv_iload_n hx hb nd_GL_law_267 rfl (lv_at hl 0 rfl) ?_
        refine lv_iconst (v := 1) hx hb nd_GL_law_268 (by decide) ?_
        refine lv_iadd hx hb nd_GL_law_269 ?_
        refine lv_topi (fun y ey => ?_)
        have ey : y = nI (n + 1) := ey.trans (nI_add n 1)
        subst ey
        refine va_sld hx hb hX hbl hbA hS (vp_in_nI (by omega) (by omega)) nd_GL_law_270 ?_
        refine lw_call (Y := Y2) (Y' := Y1) (V' := V1) (τ := σ1) [zI (xs (nI (n + 1)).toNatClampNeg)] [.int v1] hx hb hml hown hts hJ2 hK2 hd2 hn2 hl.1 hS hP2 hP1 hJ1 (c_GM_output hJ2 g2) nd_GL_law_271 kl_271 rfl rfl (by decide) rfl (Nat.le_of_ble_eq_true rfl) ⟨Nat.le_of_ble_eq_true rfl, Nat.le_of_ble_eq_true rfl⟩ (fun H locs hP2 hP1 hS => ?_)
        refine lv_icmp_eq (tgt := 578) hx hb nd_GL_law_274 (by decide) (fun _ => ?_) (fun h => absurd rfl h)
        exact next σ1 τ1 H locs hR1 hP1 hP2 hS
      have n_6 : ¬ z.toInt = 6 := lv_neT (k := 6) hc (by decide)
      by_cases hc : z = 7
      · subst hc
        refine lv_tableIn (tgt := 279) (off := 247) hx hb nd_GL_law_32 (by decide) (by decide) (by decide) (by decide) ?_
        obtain ⟨σ1, τ1, v1, g1, g2, hR1⟩ := h_now σ τ hRel
        refine lv_aload_n hx hb nd_GL_law_279 rfl (lv_at hl 2 rfl) ?_
        refine lw_call (Y := Y1) (Y' := Y2) (V' := V2) (τ := τ) [] [] hx hb hml hown hts hJ1 hK1 hd1 hn1 hl.1 hS hP1 hP2 hJ2 (c_GK_now hJ1 g1) nd_GL_law_280 kl_280 rfl rfl (by decide) rfl (Nat.le_of_ble_eq_true rfl) ⟨Nat.le_of_ble_eq_true rfl, Nat.le_of_ble_eq_true rfl⟩ (fun H locs hP1 hP2 hS => ?_)
        refine lv_aload_n hx hb nd_GL_law_283 rfl (lv_at hl 1 rfl) ?_
        refine lw_call (Y := Y2) (Y' := Y1) (V' := V1) (τ := σ1) [] [.int v1] hx hb hml hown hts hJ2 hK2 hd2 hn2 hl.1 hS hP2 hP1 hJ1 (c_GM_now hJ2 g2) nd_GL_law_284 kl_284 rfl rfl (by decide) rfl (Nat.le_of_ble_eq_true rfl) ⟨Nat.le_of_ble_eq_true rfl, Nat.le_of_ble_eq_true rfl⟩ (fun H locs hP2 hP1 hS => ?_)
        refine lv_icmp_eq (tgt := 578) hx hb nd_GL_law_287 (by decide) (fun _ => ?_) (fun h => absurd rfl h)
        exact next σ1 τ1 H locs hR1 hP1 hP2 hS
      have n_7 : ¬ z.toInt = 7 := lv_neT (k := 7) hc (by decide)
      by_cases hc : z = 8
      · subst hc
        refine lv_tableIn (tgt := 292) (off := 260) hx hb nd_GL_law_32 (by decide) (by decide) (by decide) (by decide) ?_
        obtain ⟨σ1, τ1, v1, g1, g2, hR1⟩ := h_turn σ τ hRel
        refine lv_aload_n hx hb nd_GL_law_292 rfl (lv_at hl 2 rfl) ?_
        refine lw_call (Y := Y1) (Y' := Y2) (V' := V2) (τ := τ) [] [] hx hb hml hown hts hJ1 hK1 hd1 hn1 hl.1 hS hP1 hP2 hJ2 (c_GK_turn hJ1 g1) nd_GL_law_293 kl_293 rfl rfl (by decide) rfl (Nat.le_of_ble_eq_true rfl) ⟨Nat.le_of_ble_eq_true rfl, Nat.le_of_ble_eq_true rfl⟩ (fun H locs hP1 hP2 hS => ?_)
        refine lv_aload_n hx hb nd_GL_law_296 rfl (lv_at hl 1 rfl) ?_
        refine lw_call (Y := Y2) (Y' := Y1) (V' := V1) (τ := σ1) [] [.int v1] hx hb hml hown hts hJ2 hK2 hd2 hn2 hl.1 hS hP2 hP1 hJ1 (c_GM_turn hJ2 g2) nd_GL_law_297 kl_297 rfl rfl (by decide) rfl (Nat.le_of_ble_eq_true rfl) ⟨Nat.le_of_ble_eq_true rfl, Nat.le_of_ble_eq_true rfl⟩ (fun H locs hP2 hP1 hS => ?_)
        refine lv_icmp_eq (tgt := 578) hx hb nd_GL_law_300 (by decide) (fun _ => ?_) (fun h => absurd rfl h)
        exact next σ1 τ1 H locs hR1 hP1 hP2 hS
      have n_8 : ¬ z.toInt = 8 := lv_neT (k := 8) hc (by decide)
      by_cases hc : z = 9
      · subst hc
        refine lv_tableIn (tgt := 305) (off := 273) hx hb nd_GL_law_32 (by decide) (by decide) (by decide) (by decide) ?_
        obtain ⟨σ1, τ1, v1, g1, g2, hR1⟩ := h_state σ τ (xs (nI (n + 1)).toNatClampNeg) hRel
        refine lv_aload_n hx hb nd_GL_law_305 rfl (lv_at hl 2 rfl) ?_
        refine lv_aload_n hx hb nd_GL_law_306 rfl (lv_at hl 3 rfl) ?_
        refine lv_iload_n hx hb nd_GL_law_307 rfl (lv_at hl 0 rfl) ?_
        refine lv_iconst (v := 1) hx hb nd_GL_law_308 (by decide) ?_
        refine lv_iadd hx hb nd_GL_law_309 ?_
        refine lv_topi (fun y ey => ?_)
        have ey : y = nI (n + 1) := ey.trans (nI_add n 1)
        subst ey
        refine va_sld hx hb hX hbl hbA hS (vp_in_nI (by omega) (by omega)) nd_GL_law_310 ?_
        refine lw_call (Y := Y1) (Y' := Y2) (V' := V2) (τ := τ) [zI (xs (nI (n + 1)).toNatClampNeg)] [] hx hb hml hown hts hJ1 hK1 hd1 hn1 hl.1 hS hP1 hP2 hJ2 (c_GK_state hJ1 g1) nd_GL_law_311 kl_311 rfl rfl (by decide) rfl (Nat.le_of_ble_eq_true rfl) ⟨Nat.le_of_ble_eq_true rfl, Nat.le_of_ble_eq_true rfl⟩ (fun H locs hP1 hP2 hS => ?_)
        refine lv_aload_n hx hb nd_GL_law_314 rfl (lv_at hl 1 rfl) ?_
        refine lv_aload_n hx hb nd_GL_law_315 rfl (lv_at hl 3 rfl) ?_
        refine lv_iload_n hx hb nd_GL_law_316 rfl (lv_at hl 0 rfl) ?_
        refine lv_iconst (v := 1) hx hb nd_GL_law_317 (by decide) ?_
        refine lv_iadd hx hb nd_GL_law_318 ?_
        refine lv_topi (fun y ey => ?_)
        have ey : y = nI (n + 1) := ey.trans (nI_add n 1)
        subst ey
        refine va_sld hx hb hX hbl hbA hS (vp_in_nI (by omega) (by omega)) nd_GL_law_319 ?_
        refine lw_call (Y := Y2) (Y' := Y1) (V' := V1) (τ := σ1) [zI (xs (nI (n + 1)).toNatClampNeg)] [.int v1] hx hb hml hown hts hJ2 hK2 hd2 hn2 hl.1 hS hP2 hP1 hJ1 (c_GM_state hJ2 g2) nd_GL_law_320 kl_320 rfl rfl (by decide) rfl (Nat.le_of_ble_eq_true rfl) ⟨Nat.le_of_ble_eq_true rfl, Nat.le_of_ble_eq_true rfl⟩ (fun H locs hP2 hP1 hS => ?_)
        refine lv_icmp_eq (tgt := 578) hx hb nd_GL_law_323 (by decide) (fun _ => ?_) (fun h => absurd rfl h)
        exact next σ1 τ1 H locs hR1 hP1 hP2 hS
      have n_9 : ¬ z.toInt = 9 := lv_neT (k := 9) hc (by decide)
      by_cases hc : z = 10
      · subst hc
        refine lv_tableIn (tgt := 328) (off := 296) hx hb nd_GL_law_32 (by decide) (by decide) (by decide) (by decide) ?_
        obtain ⟨σ1, τ1, v1, g1, g2, hR1⟩ := h_register σ τ (xs (nI (n + 1)).toNatClampNeg) (xs (nI (n + 2)).toNatClampNeg) hRel
        refine lv_aload_n hx hb nd_GL_law_328 rfl (lv_at hl 2 rfl) ?_
        refine lv_aload_n hx hb nd_GL_law_329 rfl (lv_at hl 3 rfl) ?_
        refine lv_iload_n hx hb nd_GL_law_330 rfl (lv_at hl 0 rfl) ?_
        refine lv_iconst (v := 1) hx hb nd_GL_law_331 (by decide) ?_
        refine lv_iadd hx hb nd_GL_law_332 ?_
        refine lv_topi (fun y ey => ?_)
        have ey : y = nI (n + 1) := ey.trans (nI_add n 1)
        subst ey
        refine va_sld hx hb hX hbl hbA hS (vp_in_nI (by omega) (by omega)) nd_GL_law_333 ?_
        refine lv_aload_n hx hb nd_GL_law_334 rfl (lv_at hl 3 rfl) ?_
        refine lv_iload_n hx hb nd_GL_law_335 rfl (lv_at hl 0 rfl) ?_
        refine lv_iconst (v := 2) hx hb nd_GL_law_336 (by decide) ?_
        refine lv_iadd hx hb nd_GL_law_337 ?_
        refine lv_topi (fun y ey => ?_)
        have ey : y = nI (n + 2) := ey.trans (nI_add n 2)
        subst ey
        refine va_sld hx hb hX hbl hbA hS (vp_in_nI (by omega) (by omega)) nd_GL_law_338 ?_
        refine lw_call (Y := Y1) (Y' := Y2) (V' := V2) (τ := τ) [zI (xs (nI (n + 1)).toNatClampNeg), zI (xs (nI (n + 2)).toNatClampNeg)] [] hx hb hml hown hts hJ1 hK1 hd1 hn1 hl.1 hS hP1 hP2 hJ2 (c_GK_register hJ1 g1) nd_GL_law_339 kl_339 rfl rfl (by decide) rfl (Nat.le_of_ble_eq_true rfl) ⟨Nat.le_of_ble_eq_true rfl, Nat.le_of_ble_eq_true rfl⟩ (fun H locs hP1 hP2 hS => ?_)
        refine lv_aload_n hx hb nd_GL_law_342 rfl (lv_at hl 1 rfl) ?_
        refine lv_aload_n hx hb nd_GL_law_343 rfl (lv_at hl 3 rfl) ?_
        refine lv_iload_n hx hb nd_GL_law_344 rfl (lv_at hl 0 rfl) ?_
        refine lv_iconst (v := 1) hx hb nd_GL_law_345 (by decide) ?_
        refine lv_iadd hx hb nd_GL_law_346 ?_
        refine lv_topi (fun y ey => ?_)
        have ey : y = nI (n + 1) := ey.trans (nI_add n 1)
        subst ey
        refine va_sld hx hb hX hbl hbA hS (vp_in_nI (by omega) (by omega)) nd_GL_law_347 ?_
        refine lv_aload_n hx hb nd_GL_law_348 rfl (lv_at hl 3 rfl) ?_
        refine lv_iload_n hx hb nd_GL_law_349 rfl (lv_at hl 0 rfl) ?_
        refine lv_iconst (v := 2) hx hb nd_GL_law_350 (by decide) ?_
        refine lv_iadd hx hb nd_GL_law_351 ?_
        refine lv_topi (fun y ey => ?_)
        have ey : y = nI (n + 2) := ey.trans (nI_add n 2)
        subst ey
        refine va_sld hx hb hX hbl hbA hS (vp_in_nI (by omega) (by omega)) nd_GL_law_352 ?_
        refine lw_call (Y := Y2) (Y' := Y1) (V' := V1) (τ := σ1) [zI (xs (nI (n + 1)).toNatClampNeg), zI (xs (nI (n + 2)).toNatClampNeg)] [.int v1] hx hb hml hown hts hJ2 hK2 hd2 hn2 hl.1 hS hP2 hP1 hJ1 (c_GM_register hJ2 g2) nd_GL_law_353 kl_353 rfl rfl (by decide) rfl (Nat.le_of_ble_eq_true rfl) ⟨Nat.le_of_ble_eq_true rfl, Nat.le_of_ble_eq_true rfl⟩ (fun H locs hP2 hP1 hS => ?_)
        refine lv_icmp_eq (tgt := 578) hx hb nd_GL_law_356 (by decide) (fun _ => ?_) (fun h => absurd rfl h)
        exact next σ1 τ1 H locs hR1 hP1 hP2 hS
      have n_10 : ¬ z.toInt = 10 := lv_neT (k := 10) hc (by decide)
      by_cases hc : z = 11
      · subst hc
        refine lv_tableIn (tgt := 361) (off := 329) hx hb nd_GL_law_32 (by decide) (by decide) (by decide) (by decide) ?_
        obtain ⟨σ1, τ1, v1, g1, g2, hR1⟩ := h_word σ τ (xs (nI (n + 1)).toNatClampNeg) hRel
        refine lv_aload_n hx hb nd_GL_law_361 rfl (lv_at hl 2 rfl) ?_
        refine lv_aload_n hx hb nd_GL_law_362 rfl (lv_at hl 3 rfl) ?_
        refine lv_iload_n hx hb nd_GL_law_363 rfl (lv_at hl 0 rfl) ?_
        refine lv_iconst (v := 1) hx hb nd_GL_law_364 (by decide) ?_
        refine lv_iadd hx hb nd_GL_law_365 ?_
        refine lv_topi (fun y ey => ?_)
        have ey : y = nI (n + 1) := ey.trans (nI_add n 1)
        subst ey
        refine va_sld hx hb hX hbl hbA hS (vp_in_nI (by omega) (by omega)) nd_GL_law_366 ?_
        refine lw_call (Y := Y1) (Y' := Y2) (V' := V2) (τ := τ) [zI (xs (nI (n + 1)).toNatClampNeg)] [] hx hb hml hown hts hJ1 hK1 hd1 hn1 hl.1 hS hP1 hP2 hJ2 (c_GK_word hJ1 g1) nd_GL_law_367 kl_367 rfl rfl (by decide) rfl (Nat.le_of_ble_eq_true rfl) ⟨Nat.le_of_ble_eq_true rfl, Nat.le_of_ble_eq_true rfl⟩ (fun H locs hP1 hP2 hS => ?_)
        refine lv_aload_n hx hb nd_GL_law_370 rfl (lv_at hl 1 rfl) ?_
        refine lv_aload_n hx hb nd_GL_law_371 rfl (lv_at hl 3 rfl) ?_
        refine lv_iload_n hx hb nd_GL_law_372 rfl (lv_at hl 0 rfl) ?_
        refine lv_iconst (v := 1) hx hb nd_GL_law_373 (by decide) ?_
        refine lv_iadd hx hb nd_GL_law_374 ?_
        refine lv_topi (fun y ey => ?_)
        have ey : y = nI (n + 1) := ey.trans (nI_add n 1)
        subst ey
        refine va_sld hx hb hX hbl hbA hS (vp_in_nI (by omega) (by omega)) nd_GL_law_375 ?_
        refine lw_call (Y := Y2) (Y' := Y1) (V' := V1) (τ := σ1) [zI (xs (nI (n + 1)).toNatClampNeg)] [.int v1] hx hb hml hown hts hJ2 hK2 hd2 hn2 hl.1 hS hP2 hP1 hJ1 (c_GM_word hJ2 g2) nd_GL_law_376 kl_376 rfl rfl (by decide) rfl (Nat.le_of_ble_eq_true rfl) ⟨Nat.le_of_ble_eq_true rfl, Nat.le_of_ble_eq_true rfl⟩ (fun H locs hP2 hP1 hS => ?_)
        refine lv_icmp_eq (tgt := 578) hx hb nd_GL_law_379 (by decide) (fun _ => ?_) (fun h => absurd rfl h)
        exact next σ1 τ1 H locs hR1 hP1 hP2 hS
      have n_11 : ¬ z.toInt = 11 := lv_neT (k := 11) hc (by decide)
      by_cases hc : z = 12
      · subst hc
        refine lv_tableIn (tgt := 384) (off := 352) hx hb nd_GL_law_32 (by decide) (by decide) (by decide) (by decide) ?_
        obtain ⟨σ1, τ1, v1, g1, g2, hR1⟩ := h_block σ τ (xs (nI (n + 1)).toNatClampNeg) hRel
        refine lv_aload_n hx hb nd_GL_law_384 rfl (lv_at hl 2 rfl) ?_
        refine lv_aload_n hx hb nd_GL_law_385 rfl (lv_at hl 3 rfl) ?_
        refine lv_iload_n hx hb nd_GL_law_386 rfl (lv_at hl 0 rfl) ?_
        refine lv_iconst (v := 1) hx hb nd_GL_law_387 (by decide) ?_
        refine lv_iadd hx hb nd_GL_law_388 ?_
        refine lv_topi (fun y ey => ?_)
        have ey : y = nI (n + 1) := ey.trans (nI_add n 1)
        subst ey
        refine va_sld hx hb hX hbl hbA hS (vp_in_nI (by omega) (by omega)) nd_GL_law_389 ?_
        refine lw_call (Y := Y1) (Y' := Y2) (V' := V2) (τ := τ) [zI (xs (nI (n + 1)).toNatClampNeg)] [] hx hb hml hown hts hJ1 hK1 hd1 hn1 hl.1 hS hP1 hP2 hJ2 (c_GK_block hJ1 g1) nd_GL_law_390 kl_390 rfl rfl (by decide) rfl (Nat.le_of_ble_eq_true rfl) ⟨Nat.le_of_ble_eq_true rfl, Nat.le_of_ble_eq_true rfl⟩ (fun H locs hP1 hP2 hS => ?_)
        refine lv_aload_n hx hb nd_GL_law_393 rfl (lv_at hl 1 rfl) ?_
        refine lv_aload_n hx hb nd_GL_law_394 rfl (lv_at hl 3 rfl) ?_
        refine lv_iload_n hx hb nd_GL_law_395 rfl (lv_at hl 0 rfl) ?_
        refine lv_iconst (v := 1) hx hb nd_GL_law_396 (by decide) ?_
        refine lv_iadd hx hb nd_GL_law_397 ?_
        refine lv_topi (fun y ey => ?_)
        have ey : y = nI (n + 1) := ey.trans (nI_add n 1)
        subst ey
        refine va_sld hx hb hX hbl hbA hS (vp_in_nI (by omega) (by omega)) nd_GL_law_398 ?_
        refine lw_call (Y := Y2) (Y' := Y1) (V' := V1) (τ := σ1) [zI (xs (nI (n + 1)).toNatClampNeg)] [.int v1] hx hb hml hown hts hJ2 hK2 hd2 hn2 hl.1 hS hP2 hP1 hJ1 (c_GM_block hJ2 g2) nd_GL_law_399 kl_399 rfl rfl (by decide) rfl (Nat.le_of_ble_eq_true rfl) ⟨Nat.le_of_ble_eq_true rfl, Nat.le_of_ble_eq_true rfl⟩ (fun H locs hP2 hP1 hS => ?_)
        refine lv_icmp_eq (tgt := 578) hx hb nd_GL_law_402 (by decide) (fun _ => ?_) (fun h => absurd rfl h)
        exact next σ1 τ1 H locs hR1 hP1 hP2 hS
      have n_12 : ¬ z.toInt = 12 := lv_neT (k := 12) hc (by decide)
      by_cases hc : z = 13
      · subst hc
        refine lv_tableIn (tgt := 407) (off := 375) hx hb nd_GL_law_32 (by decide) (by decide) (by decide) (by decide) ?_
        obtain ⟨σ1, τ1, v1, g1, g2, hR1⟩ := h_open σ τ (xs (nI (n + 1)).toNatClampNeg) hRel
        refine lv_aload_n hx hb nd_GL_law_407 rfl (lv_at hl 2 rfl) ?_
        refine lv_aload_n hx hb nd_GL_law_408 rfl (lv_at hl 3 rfl) ?_
        refine lv_iload_n hx hb nd_GL_law_409 rfl (lv_at hl 0 rfl) ?_
        refine lv_iconst (v := 1) hx hb nd_GL_law_410 (by decide) ?_
        refine lv_iadd hx hb nd_GL_law_411 ?_
        refine lv_topi (fun y ey => ?_)
        have ey : y = nI (n + 1) := ey.trans (nI_add n 1)
        subst ey
        refine va_sld hx hb hX hbl hbA hS (vp_in_nI (by omega) (by omega)) nd_GL_law_412 ?_
        refine lw_call (Y := Y1) (Y' := Y2) (V' := V2) (τ := τ) [zI (xs (nI (n + 1)).toNatClampNeg)] [] hx hb hml hown hts hJ1 hK1 hd1 hn1 hl.1 hS hP1 hP2 hJ2 (c_GK_open hJ1 g1) nd_GL_law_413 kl_413 rfl rfl (by decide) rfl (Nat.le_of_ble_eq_true rfl) ⟨Nat.le_of_ble_eq_true rfl, Nat.le_of_ble_eq_true rfl⟩ (fun H locs hP1 hP2 hS => ?_)
        refine lv_aload_n hx hb nd_GL_law_416 rfl (lv_at hl 1 rfl) ?_
        refine lv_aload_n hx hb nd_GL_law_417 rfl (lv_at hl 3 rfl) ?_
        refine lv_iload_n hx hb nd_GL_law_418 rfl (lv_at hl 0 rfl) ?_
        refine lv_iconst (v := 1) hx hb nd_GL_law_419 (by decide) ?_
        refine lv_iadd hx hb nd_GL_law_420 ?_
        refine lv_topi (fun y ey => ?_)
        have ey : y = nI (n + 1) := ey.trans (nI_add n 1)
        subst ey
        refine va_sld hx hb hX hbl hbA hS (vp_in_nI (by omega) (by omega)) nd_GL_law_421 ?_
        refine lw_call (Y := Y2) (Y' := Y1) (V' := V1) (τ := σ1) [zI (xs (nI (n + 1)).toNatClampNeg)] [.int v1] hx hb hml hown hts hJ2 hK2 hd2 hn2 hl.1 hS hP2 hP1 hJ1 (c_GM_open hJ2 g2) nd_GL_law_422 kl_422 rfl rfl (by decide) rfl (Nat.le_of_ble_eq_true rfl) ⟨Nat.le_of_ble_eq_true rfl, Nat.le_of_ble_eq_true rfl⟩ (fun H locs hP2 hP1 hS => ?_)
        refine lv_icmp_eq (tgt := 578) hx hb nd_GL_law_425 (by decide) (fun _ => ?_) (fun h => absurd rfl h)
        exact next σ1 τ1 H locs hR1 hP1 hP2 hS
      have n_13 : ¬ z.toInt = 13 := lv_neT (k := 13) hc (by decide)
      by_cases hc : z = 14
      · subst hc
        refine lv_tableIn (tgt := 430) (off := 398) hx hb nd_GL_law_32 (by decide) (by decide) (by decide) (by decide) ?_
        obtain ⟨σ1, τ1, v1, g1, g2, hR1⟩ := h_grant σ τ (xs (nI (n + 1)).toNatClampNeg) (xs (nI (n + 2)).toNatClampNeg) hRel
        refine lv_aload_n hx hb nd_GL_law_430 rfl (lv_at hl 2 rfl) ?_
        refine lv_aload_n hx hb nd_GL_law_431 rfl (lv_at hl 3 rfl) ?_
        refine lv_iload_n hx hb nd_GL_law_432 rfl (lv_at hl 0 rfl) ?_
        refine lv_iconst (v := 1) hx hb nd_GL_law_433 (by decide) ?_
        refine lv_iadd hx hb nd_GL_law_434 ?_
        refine lv_topi (fun y ey => ?_)
        have ey : y = nI (n + 1) := ey.trans (nI_add n 1)
        subst ey
        refine va_sld hx hb hX hbl hbA hS (vp_in_nI (by omega) (by omega)) nd_GL_law_435 ?_
        refine lv_aload_n hx hb nd_GL_law_436 rfl (lv_at hl 3 rfl) ?_
        refine lv_iload_n hx hb nd_GL_law_437 rfl (lv_at hl 0 rfl) ?_
        refine lv_iconst (v := 2) hx hb nd_GL_law_438 (by decide) ?_
        refine lv_iadd hx hb nd_GL_law_439 ?_
        refine lv_topi (fun y ey => ?_)
        have ey : y = nI (n + 2) := ey.trans (nI_add n 2)
        subst ey
        refine va_sld hx hb hX hbl hbA hS (vp_in_nI (by omega) (by omega)) nd_GL_law_440 ?_
        refine lw_call (Y := Y1) (Y' := Y2) (V' := V2) (τ := τ) [zI (xs (nI (n + 1)).toNatClampNeg), zI (xs (nI (n + 2)).toNatClampNeg)] [] hx hb hml hown hts hJ1 hK1 hd1 hn1 hl.1 hS hP1 hP2 hJ2 (c_GK_grant hJ1 g1) nd_GL_law_441 kl_441 rfl rfl (by decide) rfl (Nat.le_of_ble_eq_true rfl) ⟨Nat.le_of_ble_eq_true rfl, Nat.le_of_ble_eq_true rfl⟩ (fun H locs hP1 hP2 hS => ?_)
        refine lv_aload_n hx hb nd_GL_law_444 rfl (lv_at hl 1 rfl) ?_
        refine lv_aload_n hx hb nd_GL_law_445 rfl (lv_at hl 3 rfl) ?_
        refine lv_iload_n hx hb nd_GL_law_446 rfl (lv_at hl 0 rfl) ?_
        refine lv_iconst (v := 1) hx hb nd_GL_law_447 (by decide) ?_
        refine lv_iadd hx hb nd_GL_law_448 ?_
        refine lv_topi (fun y ey => ?_)
        have ey : y = nI (n + 1) := ey.trans (nI_add n 1)
        subst ey
        refine va_sld hx hb hX hbl hbA hS (vp_in_nI (by omega) (by omega)) nd_GL_law_449 ?_
        refine lv_aload_n hx hb nd_GL_law_450 rfl (lv_at hl 3 rfl) ?_
        refine lv_iload_n hx hb nd_GL_law_451 rfl (lv_at hl 0 rfl) ?_
        refine lv_iconst (v := 2) hx hb nd_GL_law_452 (by decide) ?_
        refine lv_iadd hx hb nd_GL_law_453 ?_
        refine lv_topi (fun y ey => ?_)
        have ey : y = nI (n + 2) := ey.trans (nI_add n 2)
        subst ey
        refine va_sld hx hb hX hbl hbA hS (vp_in_nI (by omega) (by omega)) nd_GL_law_454 ?_
        refine lw_call (Y := Y2) (Y' := Y1) (V' := V1) (τ := σ1) [zI (xs (nI (n + 1)).toNatClampNeg), zI (xs (nI (n + 2)).toNatClampNeg)] [.int v1] hx hb hml hown hts hJ2 hK2 hd2 hn2 hl.1 hS hP2 hP1 hJ1 (c_GM_grant hJ2 g2) nd_GL_law_455 kl_455 rfl rfl (by decide) rfl (Nat.le_of_ble_eq_true rfl) ⟨Nat.le_of_ble_eq_true rfl, Nat.le_of_ble_eq_true rfl⟩ (fun H locs hP2 hP1 hS => ?_)
        refine lv_icmp_eq (tgt := 578) hx hb nd_GL_law_458 (by decide) (fun _ => ?_) (fun h => absurd rfl h)
        exact next σ1 τ1 H locs hR1 hP1 hP2 hS
      have n_14 : ¬ z.toInt = 14 := lv_neT (k := 14) hc (by decide)
      by_cases hc : z = 15
      · subst hc
        refine lv_tableIn (tgt := 463) (off := 431) hx hb nd_GL_law_32 (by decide) (by decide) (by decide) (by decide) ?_
        obtain ⟨σ1, τ1, v1, g1, g2, hR1⟩ := h_queued σ τ (xs (nI (n + 1)).toNatClampNeg) hRel
        refine lv_aload_n hx hb nd_GL_law_463 rfl (lv_at hl 2 rfl) ?_
        refine lv_aload_n hx hb nd_GL_law_464 rfl (lv_at hl 3 rfl) ?_
        refine lv_iload_n hx hb nd_GL_law_465 rfl (lv_at hl 0 rfl) ?_
        refine lv_iconst (v := 1) hx hb nd_GL_law_466 (by decide) ?_
        refine lv_iadd hx hb nd_GL_law_467 ?_
        refine lv_topi (fun y ey => ?_)
        have ey : y = nI (n + 1) := ey.trans (nI_add n 1)
        subst ey
        refine va_sld hx hb hX hbl hbA hS (vp_in_nI (by omega) (by omega)) nd_GL_law_468 ?_
        refine lw_call (Y := Y1) (Y' := Y2) (V' := V2) (τ := τ) [zI (xs (nI (n + 1)).toNatClampNeg)] [] hx hb hml hown hts hJ1 hK1 hd1 hn1 hl.1 hS hP1 hP2 hJ2 (c_GK_queued hJ1 g1) nd_GL_law_469 kl_469 rfl rfl (by decide) rfl (Nat.le_of_ble_eq_true rfl) ⟨Nat.le_of_ble_eq_true rfl, Nat.le_of_ble_eq_true rfl⟩ (fun H locs hP1 hP2 hS => ?_)
        refine lv_aload_n hx hb nd_GL_law_472 rfl (lv_at hl 1 rfl) ?_
        refine lv_aload_n hx hb nd_GL_law_473 rfl (lv_at hl 3 rfl) ?_
        refine lv_iload_n hx hb nd_GL_law_474 rfl (lv_at hl 0 rfl) ?_
        refine lv_iconst (v := 1) hx hb nd_GL_law_475 (by decide) ?_
        refine lv_iadd hx hb nd_GL_law_476 ?_
        refine lv_topi (fun y ey => ?_)
        have ey : y = nI (n + 1) := ey.trans (nI_add n 1)
        subst ey
        refine va_sld hx hb hX hbl hbA hS (vp_in_nI (by omega) (by omega)) nd_GL_law_477 ?_
        refine lw_call (Y := Y2) (Y' := Y1) (V' := V1) (τ := σ1) [zI (xs (nI (n + 1)).toNatClampNeg)] [.int v1] hx hb hml hown hts hJ2 hK2 hd2 hn2 hl.1 hS hP2 hP1 hJ1 (c_GM_queued hJ2 g2) nd_GL_law_478 kl_478 rfl rfl (by decide) rfl (Nat.le_of_ble_eq_true rfl) ⟨Nat.le_of_ble_eq_true rfl, Nat.le_of_ble_eq_true rfl⟩ (fun H locs hP2 hP1 hS => ?_)
        refine lv_icmp_eq (tgt := 578) hx hb nd_GL_law_481 (by decide) (fun _ => ?_) (fun h => absurd rfl h)
        exact next σ1 τ1 H locs hR1 hP1 hP2 hS
      have n_15 : ¬ z.toInt = 15 := lv_neT (k := 15) hc (by decide)
      by_cases hc : z = 16
      · subst hc
        refine lv_tableIn (tgt := 486) (off := 454) hx hb nd_GL_law_32 (by decide) (by decide) (by decide) (by decide) ?_
        obtain ⟨σ1, τ1, v1, g1, g2, hR1⟩ := h_fault σ τ (xs (nI (n + 1)).toNatClampNeg) hRel
        refine lv_aload_n hx hb nd_GL_law_486 rfl (lv_at hl 2 rfl) ?_
        refine lv_aload_n hx hb nd_GL_law_487 rfl (lv_at hl 3 rfl) ?_
        refine lv_iload_n hx hb nd_GL_law_488 rfl (lv_at hl 0 rfl) ?_
        refine lv_iconst (v := 1) hx hb nd_GL_law_489 (by decide) ?_
        refine lv_iadd hx hb nd_GL_law_490 ?_
        refine lv_topi (fun y ey => ?_)
        have ey : y = nI (n + 1) := ey.trans (nI_add n 1)
        subst ey
        refine va_sld hx hb hX hbl hbA hS (vp_in_nI (by omega) (by omega)) nd_GL_law_491 ?_
        refine lw_call (Y := Y1) (Y' := Y2) (V' := V2) (τ := τ) [zI (xs (nI (n + 1)).toNatClampNeg)] [] hx hb hml hown hts hJ1 hK1 hd1 hn1 hl.1 hS hP1 hP2 hJ2 (c_GK_fault hJ1 g1) nd_GL_law_492 kl_492 rfl rfl (by decide) rfl (Nat.le_of_ble_eq_true rfl) ⟨Nat.le_of_ble_eq_true rfl, Nat.le_of_ble_eq_true rfl⟩ (fun H locs hP1 hP2 hS => ?_)
        refine lv_aload_n hx hb nd_GL_law_495 rfl (lv_at hl 1 rfl) ?_
        refine lv_aload_n hx hb nd_GL_law_496 rfl (lv_at hl 3 rfl) ?_
        refine lv_iload_n hx hb nd_GL_law_497 rfl (lv_at hl 0 rfl) ?_
        refine lv_iconst (v := 1) hx hb nd_GL_law_498 (by decide) ?_
        refine lv_iadd hx hb nd_GL_law_499 ?_
        refine lv_topi (fun y ey => ?_)
        have ey : y = nI (n + 1) := ey.trans (nI_add n 1)
        subst ey
        refine va_sld hx hb hX hbl hbA hS (vp_in_nI (by omega) (by omega)) nd_GL_law_500 ?_
        refine lw_call (Y := Y2) (Y' := Y1) (V' := V1) (τ := σ1) [zI (xs (nI (n + 1)).toNatClampNeg)] [.int v1] hx hb hml hown hts hJ2 hK2 hd2 hn2 hl.1 hS hP2 hP1 hJ1 (c_GM_fault hJ2 g2) nd_GL_law_501 kl_501 rfl rfl (by decide) rfl (Nat.le_of_ble_eq_true rfl) ⟨Nat.le_of_ble_eq_true rfl, Nat.le_of_ble_eq_true rfl⟩ (fun H locs hP2 hP1 hS => ?_)
        refine lv_icmp_eq (tgt := 578) hx hb nd_GL_law_504 (by decide) (fun _ => ?_) (fun h => absurd rfl h)
        exact next σ1 τ1 H locs hR1 hP1 hP2 hS
      have n_16 : ¬ z.toInt = 16 := lv_neT (k := 16) hc (by decide)
      by_cases hc : z = 17
      · subst hc
        refine lv_tableIn (tgt := 509) (off := 477) hx hb nd_GL_law_32 (by decide) (by decide) (by decide) (by decide) ?_
        obtain ⟨σ1, τ1, v1, g1, g2, hR1⟩ := h_faults σ τ (xs (nI (n + 1)).toNatClampNeg) hRel
        refine lv_aload_n hx hb nd_GL_law_509 rfl (lv_at hl 2 rfl) ?_
        refine lv_aload_n hx hb nd_GL_law_510 rfl (lv_at hl 3 rfl) ?_
        refine lv_iload_n hx hb nd_GL_law_511 rfl (lv_at hl 0 rfl) ?_
        refine lv_iconst (v := 1) hx hb nd_GL_law_512 (by decide) ?_
        refine lv_iadd hx hb nd_GL_law_513 ?_
        refine lv_topi (fun y ey => ?_)
        have ey : y = nI (n + 1) := ey.trans (nI_add n 1)
        subst ey
        refine va_sld hx hb hX hbl hbA hS (vp_in_nI (by omega) (by omega)) nd_GL_law_514 ?_
        refine lw_call (Y := Y1) (Y' := Y2) (V' := V2) (τ := τ) [zI (xs (nI (n + 1)).toNatClampNeg)] [] hx hb hml hown hts hJ1 hK1 hd1 hn1 hl.1 hS hP1 hP2 hJ2 (c_GK_faults hJ1 g1) nd_GL_law_515 kl_515 rfl rfl (by decide) rfl (Nat.le_of_ble_eq_true rfl) ⟨Nat.le_of_ble_eq_true rfl, Nat.le_of_ble_eq_true rfl⟩ (fun H locs hP1 hP2 hS => ?_)
        refine lv_aload_n hx hb nd_GL_law_518 rfl (lv_at hl 1 rfl) ?_
        refine lv_aload_n hx hb nd_GL_law_519 rfl (lv_at hl 3 rfl) ?_
        refine lv_iload_n hx hb nd_GL_law_520 rfl (lv_at hl 0 rfl) ?_
        refine lv_iconst (v := 1) hx hb nd_GL_law_521 (by decide) ?_
        refine lv_iadd hx hb nd_GL_law_522 ?_
        refine lv_topi (fun y ey => ?_)
        have ey : y = nI (n + 1) := ey.trans (nI_add n 1)
        subst ey
        refine va_sld hx hb hX hbl hbA hS (vp_in_nI (by omega) (by omega)) nd_GL_law_523 ?_
        refine lw_call (Y := Y2) (Y' := Y1) (V' := V1) (τ := σ1) [zI (xs (nI (n + 1)).toNatClampNeg)] [.int v1] hx hb hml hown hts hJ2 hK2 hd2 hn2 hl.1 hS hP2 hP1 hJ1 (c_GM_faults hJ2 g2) nd_GL_law_524 kl_524 rfl rfl (by decide) rfl (Nat.le_of_ble_eq_true rfl) ⟨Nat.le_of_ble_eq_true rfl, Nat.le_of_ble_eq_true rfl⟩ (fun H locs hP2 hP1 hS => ?_)
        refine lv_icmp_eq (tgt := 578) hx hb nd_GL_law_527 (by decide) (fun _ => ?_) (fun h => absurd rfl h)
        exact next σ1 τ1 H locs hR1 hP1 hP2 hS
      have n_17 : ¬ z.toInt = 17 := lv_neT (k := 17) hc (by decide)
      by_cases hc : z = 18
      · subst hc
        refine lv_tableIn (tgt := 532) (off := 500) hx hb nd_GL_law_32 (by decide) (by decide) (by decide) (by decide) ?_
        obtain ⟨σ1, τ1, v1, g1, g2, hR1⟩ := h_restart σ τ (xs (nI (n + 1)).toNatClampNeg) hRel
        refine lv_aload_n hx hb nd_GL_law_532 rfl (lv_at hl 2 rfl) ?_
        refine lv_aload_n hx hb nd_GL_law_533 rfl (lv_at hl 3 rfl) ?_
        refine lv_iload_n hx hb nd_GL_law_534 rfl (lv_at hl 0 rfl) ?_
        refine lv_iconst (v := 1) hx hb nd_GL_law_535 (by decide) ?_
        refine lv_iadd hx hb nd_GL_law_536 ?_
        refine lv_topi (fun y ey => ?_)
        have ey : y = nI (n + 1) := ey.trans (nI_add n 1)
        subst ey
        refine va_sld hx hb hX hbl hbA hS (vp_in_nI (by omega) (by omega)) nd_GL_law_537 ?_
        refine lw_call (Y := Y1) (Y' := Y2) (V' := V2) (τ := τ) [zI (xs (nI (n + 1)).toNatClampNeg)] [] hx hb hml hown hts hJ1 hK1 hd1 hn1 hl.1 hS hP1 hP2 hJ2 (c_GK_restart hJ1 g1) nd_GL_law_538 kl_538 rfl rfl (by decide) rfl (Nat.le_of_ble_eq_true rfl) ⟨Nat.le_of_ble_eq_true rfl, Nat.le_of_ble_eq_true rfl⟩ (fun H locs hP1 hP2 hS => ?_)
        refine lv_aload_n hx hb nd_GL_law_541 rfl (lv_at hl 1 rfl) ?_
        refine lv_aload_n hx hb nd_GL_law_542 rfl (lv_at hl 3 rfl) ?_
        refine lv_iload_n hx hb nd_GL_law_543 rfl (lv_at hl 0 rfl) ?_
        refine lv_iconst (v := 1) hx hb nd_GL_law_544 (by decide) ?_
        refine lv_iadd hx hb nd_GL_law_545 ?_
        refine lv_topi (fun y ey => ?_)
        have ey : y = nI (n + 1) := ey.trans (nI_add n 1)
        subst ey
        refine va_sld hx hb hX hbl hbA hS (vp_in_nI (by omega) (by omega)) nd_GL_law_546 ?_
        refine lw_call (Y := Y2) (Y' := Y1) (V' := V1) (τ := σ1) [zI (xs (nI (n + 1)).toNatClampNeg)] [.int v1] hx hb hml hown hts hJ2 hK2 hd2 hn2 hl.1 hS hP2 hP1 hJ1 (c_GM_restart hJ2 g2) nd_GL_law_547 kl_547 rfl rfl (by decide) rfl (Nat.le_of_ble_eq_true rfl) ⟨Nat.le_of_ble_eq_true rfl, Nat.le_of_ble_eq_true rfl⟩ (fun H locs hP2 hP1 hS => ?_)
        refine lv_icmp_eq (tgt := 578) hx hb nd_GL_law_550 (by decide) (fun _ => ?_) (fun h => absurd rfl h)
        exact next σ1 τ1 H locs hR1 hP1 hP2 hS
      have n_18 : ¬ z.toInt = 18 := lv_neT (k := 18) hc (by decide)
      by_cases hc : z = 19
      · subst hc
        refine lv_tableIn (tgt := 555) (off := 523) hx hb nd_GL_law_32 (by decide) (by decide) (by decide) (by decide) ?_
        obtain ⟨σ1, τ1, v1, g1, g2, hR1⟩ := h_stop σ τ (xs (nI (n + 1)).toNatClampNeg) hRel
        refine lv_aload_n hx hb nd_GL_law_555 rfl (lv_at hl 2 rfl) ?_
        refine lv_aload_n hx hb nd_GL_law_556 rfl (lv_at hl 3 rfl) ?_
        refine lv_iload_n hx hb nd_GL_law_557 rfl (lv_at hl 0 rfl) ?_
        refine lv_iconst (v := 1) hx hb nd_GL_law_558 (by decide) ?_
        refine lv_iadd hx hb nd_GL_law_559 ?_
        refine lv_topi (fun y ey => ?_)
        have ey : y = nI (n + 1) := ey.trans (nI_add n 1)
        subst ey
        refine va_sld hx hb hX hbl hbA hS (vp_in_nI (by omega) (by omega)) nd_GL_law_560 ?_
        refine lw_call (Y := Y1) (Y' := Y2) (V' := V2) (τ := τ) [zI (xs (nI (n + 1)).toNatClampNeg)] [] hx hb hml hown hts hJ1 hK1 hd1 hn1 hl.1 hS hP1 hP2 hJ2 (c_GK_stop hJ1 g1) nd_GL_law_561 kl_561 rfl rfl (by decide) rfl (Nat.le_of_ble_eq_true rfl) ⟨Nat.le_of_ble_eq_true rfl, Nat.le_of_ble_eq_true rfl⟩ (fun H locs hP1 hP2 hS => ?_)
        refine lv_aload_n hx hb nd_GL_law_564 rfl (lv_at hl 1 rfl) ?_
        refine lv_aload_n hx hb nd_GL_law_565 rfl (lv_at hl 3 rfl) ?_
        refine lv_iload_n hx hb nd_GL_law_566 rfl (lv_at hl 0 rfl) ?_
        refine lv_iconst (v := 1) hx hb nd_GL_law_567 (by decide) ?_
        refine lv_iadd hx hb nd_GL_law_568 ?_
        refine lv_topi (fun y ey => ?_)
        have ey : y = nI (n + 1) := ey.trans (nI_add n 1)
        subst ey
        refine va_sld hx hb hX hbl hbA hS (vp_in_nI (by omega) (by omega)) nd_GL_law_569 ?_
        refine lw_call (Y := Y2) (Y' := Y1) (V' := V1) (τ := σ1) [zI (xs (nI (n + 1)).toNatClampNeg)] [.int v1] hx hb hml hown hts hJ2 hK2 hd2 hn2 hl.1 hS hP2 hP1 hJ1 (c_GM_stop hJ2 g2) nd_GL_law_570 kl_570 rfl rfl (by decide) rfl (Nat.le_of_ble_eq_true rfl) ⟨Nat.le_of_ble_eq_true rfl, Nat.le_of_ble_eq_true rfl⟩ (fun H locs hP2 hP1 hS => ?_)
        refine lv_icmp_eq (tgt := 578) hx hb nd_GL_law_573 (by decide) (fun _ => ?_) (fun h => absurd rfl h)
        exact next σ1 τ1 H locs hR1 hP1 hP2 hS
      have n_19 : ¬ z.toInt = 19 := lv_neT (k := 19) hc (by decide)
      refine lv_tableOut (tgt := 578) hx hb nd_GL_law_32 (by omega) (by decide) ?_
      exact next σ τ H locs hRel hP1 hP2 hS
