/-! layouts, methods (printed) -/
def gw : List Cond := lw_tbl.filter goodWord
theorem gw_good : GoodIn gw gw := fun w h => ⟨h, good_of_word (List.mem_filter.mp h).2⟩
theorem gw_in {w : Cond} (h : w ∈ lw_tbl) (hg : goodWord w = true) : w ∈ gw := List.mem_filter.mpr ⟨h, hg⟩
def Y1 : zY := [(1, .inl (0, [some (1, false), some (4, false), some (5, false), some (8, false), some (9, false), some (10, false), none, none, none])),
  (1, .inl (1, [some (2, false), some (3, false)])),
  (1, .inr (256, 0, none)),
  (1, .inr (128, 0, none)),
  (1, .inr (4, 1, some 11)),
  (1, .inl (6, [some (6, false), some (7, false), none, none])),
  (1, .inr (8, 0, none)),
  (1, .inr (16, 0, none)),
  (1, .inl (7, [some (1, false), some (4, false), some (5, false), none])),
  (1, .inl (5, [some (1, false), some (4, false), none, none])),
  (1, .inl (8, [some (1, false), none])),
  (4, .inl (4, [some (1, false), some (13, true), none, none, none, none, none, none, none, none, some (12, true), none, none, none, none, none, none, none, none, none])),
  (4, .inr (8, 0, none)),
  (4, .inl (3, [some (14, true), some (15, true), some (16, true), some (17, true), some (18, true), some (19, true), none])),
  (4, .inr (3, 0, none)),
  (4, .inr (3, 0, none)),
  (4, .inr (3, 0, none)),
  (4, .inr (3, 0, none)),
  (4, .inr (3, 0, none)),
  (4, .inl (2, [some (20, true), some (21, true), some (22, true), none])),
  (4, .inr (4, 0, none)),
  (4, .inr (4, 0, none)),
  (4, .inr (4, 0, none))]
def Y2 : zY := [(1, .inl (9, [some (1, false), some (2, false), none, none, none, none, some (3, false), some (4, false), some (5, false), some (6, false), some (7, false), some (8, false), some (9, false), some (10, false), some (11, false), some (12, false), some (13, false), some (14, false), some (15, false), some (16, false), some (17, false), some (18, false), some (19, false), some (20, false), some (21, false), some (22, false), some (23, false), some (24, false), none, some (25, false), some (26, false), some (27, false), some (28, false), none, some (29, false), none, some (30, false), none, none, none])),
  (1, .inr (256, 0, none)),
  (1, .inr (128, 0, none)),
  (1, .inr (4, 0, none)),
  (1, .inr (4, 0, none)),
  (1, .inr (4, 0, none)),
  (1, .inr (4, 0, none)),
  (1, .inr (4, 0, none)),
  (1, .inr (4, 0, none)),
  (1, .inr (4, 0, none)),
  (1, .inr (4, 0, none)),
  (1, .inr (32, 0, none)),
  (1, .inr (4, 0, none)),
  (1, .inr (4, 0, none)),
  (1, .inr (4, 0, none)),
  (1, .inr (4, 0, none)),
  (1, .inr (4, 2, none)),
  (1, .inr (4, 0, none)),
  (1, .inr (4, 0, none)),
  (1, .inr (4, 0, none)),
  (1, .inr (12, 0, none)),
  (1, .inr (12, 0, none)),
  (1, .inr (12, 0, none)),
  (1, .inr (12, 0, none)),
  (1, .inr (12, 0, none)),
  (1, .inr (16, 0, none)),
  (1, .inr (16, 0, none)),
  (1, .inr (16, 0, none)),
  (1, .inr (16, 0, none)),
  (1, .inr (8, 0, none)),
  (1, .inr (16, 0, none))]
def TY : List FieldType := [.int, .object "GrantKernel$BoardProcess", .boolean]
abbrev sC (l : Launch) (V : zG) : zQS := (l, Y1, TY, gw, V)
abbrev sM (l : Launch) (V : zG) : zQS := (l, Y2, TY, gw, V)
abbrev zQv (o : Option Nat) : zV := Sum.inr (Sum.inr (o.map (fun p => (11, p))))
theorem zr_q {s0 s1 : zS} {e : Nat} {v : Option Nat} (h : some (s0, some e) = some (s1, v)) : (s0, some (zR 11 e)) = (s1, some (zQv v)) := by cases h; rfl
theorem zr_qn {s0 s1 : zS} {v : Option Nat} (h : some (s0, (none : Option Nat)) = some (s1, v)) : (s0, some zN) = (s1, some (zQv v)) := by cases h; rfl
theorem y1_nd : (zkey Y1).Nodup := by decide +kernel
theorem y2_nd : (zkey Y2).Nodup := by decide +kernel
abbrev md_GK_burn : zMd := (ny_GK_burn, nc_GK_burn, 4, (some .int), { frames := 0, cells := 0, slots := 0, locals := 0 })
abbrev md_Me_setRamWord : zMd := (ny_Me_setRamWord, nc_Me_setRamWord, 4, none, { frames := 0, cells := 0, slots := 0, locals := 0 })
abbrev md_Me_clearRam : zMd := (ny_Me_clearRam, nc_Me_clearRam, 4, none, { frames := 1, cells := 0, slots := 0, locals := 23 })
abbrev md_Co_clear : zMd := (ny_Co_clear, nc_Co_clear, 1, none, { frames := 0, cells := 0, slots := 0, locals := 0 })
abbrev md_No_clear : zMd := (ny_No_clear, nc_No_clear, 2, none, { frames := 0, cells := 0, slots := 0, locals := 0 })
abbrev md_BP_loseNotes : zMd := (ny_BP_loseNotes, nc_BP_loseNotes, 1, none, { frames := 1, cells := 0, slots := 0, locals := 21 })
abbrev md_BP_halt : zMd := (ny_BP_halt, nc_BP_halt, 1, none, { frames := 2, cells := 0, slots := 0, locals := 41 })
abbrev md_BP_forgetFaults : zMd := (ny_BP_forgetFaults, nc_BP_forgetFaults, 1, none, { frames := 0, cells := 0, slots := 0, locals := 0 })
abbrev md_Lo_isHeader : zMd := (ny_Lo_isHeader, nc_Lo_isHeader, 3, (some .boolean), { frames := 0, cells := 0, slots := 0, locals := 0 })
abbrev md_BP_begin : zMd := (ny_BP_begin, nc_BP_begin, 2, none, { frames := 2, cells := 0, slots := 0, locals := 46 })
abbrev md_Lo_loadAt : zMd := (ny_Lo_loadAt, nc_Lo_loadAt, 11, none, { frames := 3, cells := 0, slots := 0, locals := 67 })
abbrev md_Lo_loadAll : zMd := (ny_Lo_loadAll, nc_Lo_loadAll, 3, (some .int), { frames := 4, cells := 0, slots := 0, locals := 97 })
abbrev md_GK_boot : zMd := (ny_GK_boot, nc_GK_boot, 1, (some .int), { frames := 5, cells := 0, slots := 0, locals := 119 })
abbrev md_No_hasGrant : zMd := (ny_No_hasGrant, nc_No_hasGrant, 2, (some .boolean), { frames := 0, cells := 0, slots := 0, locals := 0 })
abbrev md_Me_ramWord : zMd := (ny_Me_ramWord, nc_Me_ramWord, 3, (some .int), { frames := 0, cells := 0, slots := 0, locals := 0 })
abbrev md_Ke_isPending : zMd := (ny_Ke_isPending, nc_Ke_isPending, 3, (some .boolean), { frames := 1, cells := 0, slots := 0, locals := 22 })
abbrev md_UQ_enqueue : zMd := (ny_UQ_enqueue, nc_UQ_enqueue, 4, none, { frames := 0, cells := 0, slots := 0, locals := 0 })
abbrev md_Ke_upcall : zMd := (ny_Ke_upcall, nc_Ke_upcall, 9, none, { frames := 1, cells := 0, slots := 0, locals := 23 })
abbrev md_Ke_ringIfDue : zMd := (ny_Ke_ringIfDue, nc_Ke_ringIfDue, 4, none, { frames := 2, cells := 0, slots := 0, locals := 51 })
abbrev md_Ke_beginTick : zMd := (ny_Ke_beginTick, nc_Ke_beginTick, 2, none, { frames := 3, cells := 0, slots := 0, locals := 74 })
abbrev md_GK_giveTurn : zMd := (ny_GK_giveTurn, nc_GK_giveTurn, 3, (some .boolean), { frames := 0, cells := 0, slots := 0, locals := 0 })
abbrev md_BP_areOpen : zMd := (ny_BP_areOpen, nc_BP_areOpen, 5, (some .boolean), { frames := 0, cells := 0, slots := 0, locals := 0 })
abbrev md_BP_frameWord : zMd := (ny_BP_frameWord, nc_BP_frameWord, 2, (some .int), { frames := 1, cells := 0, slots := 0, locals := 22 })
abbrev md_BP_takeFrame : zMd := (ny_BP_takeFrame, nc_BP_takeFrame, 2, (some .boolean), { frames := 2, cells := 0, slots := 0, locals := 43 })
abbrev md_BP_isInCode : zMd := (ny_BP_isInCode, nc_BP_isInCode, 2, (some .boolean), { frames := 0, cells := 0, slots := 0, locals := 0 })
abbrev md_Me_halfword : zMd := (ny_Me_halfword, nc_Me_halfword, 3, (some .int), { frames := 0, cells := 0, slots := 0, locals := 0 })
abbrev md_Pr_setCarry : zMd := (ny_Pr_setCarry, nc_Pr_setCarry, 3, none, { frames := 0, cells := 0, slots := 0, locals := 0 })
abbrev md_Pr_setSigns : zMd := (ny_Pr_setSigns, nc_Pr_setSigns, 4, none, { frames := 0, cells := 0, slots := 0, locals := 0 })
abbrev md_Pr_shift : zMd := (ny_Pr_shift, nc_Pr_shift, 11, (some .int), { frames := 1, cells := 0, slots := 0, locals := 23 })
abbrev md_Pr_shiftByNumber : zMd := (ny_Pr_shiftByNumber, nc_Pr_shiftByNumber, 5, (some .int), { frames := 2, cells := 0, slots := 0, locals := 53 })
abbrev md_Pr_add : zMd := (ny_Pr_add, nc_Pr_add, 10, (some .int), { frames := 1, cells := 0, slots := 0, locals := 23 })
abbrev md_Pr_addThree : zMd := (ny_Pr_addThree, nc_Pr_addThree, 7, (some .int), { frames := 2, cells := 0, slots := 0, locals := 52 })
abbrev md_Pr_withByte : zMd := (ny_Pr_withByte, nc_Pr_withByte, 6, (some .int), { frames := 2, cells := 0, slots := 0, locals := 52 })
abbrev md_Pr_rotate : zMd := (ny_Pr_rotate, nc_Pr_rotate, 6, (some .int), { frames := 1, cells := 0, slots := 0, locals := 23 })
abbrev md_Pr_bitwise : zMd := (ny_Pr_bitwise, nc_Pr_bitwise, 4, (some .int), { frames := 0, cells := 0, slots := 0, locals := 0 })
abbrev md_Pr_combine : zMd := (ny_Pr_combine, nc_Pr_combine, 9, (some .int), { frames := 2, cells := 0, slots := 0, locals := 53 })
abbrev md_Pr_jump : zMd := (ny_Pr_jump, nc_Pr_jump, 6, (some .int), { frames := 0, cells := 0, slots := 0, locals := 0 })
abbrev md_BP_mayLoad : zMd := (ny_BP_mayLoad, nc_BP_mayLoad, 2, (some .boolean), { frames := 1, cells := 0, slots := 0, locals := 24 })
abbrev md_Me_flashWord : zMd := (ny_Me_flashWord, nc_Me_flashWord, 3, (some .int), { frames := 0, cells := 0, slots := 0, locals := 0 })
abbrev md_BP_readWord : zMd := (ny_BP_readWord, nc_BP_readWord, 2, (some .int), { frames := 1, cells := 0, slots := 0, locals := 22 })
abbrev md_Pr_loadInto : zMd := (ny_Pr_loadInto, nc_Pr_loadInto, 4, (some .int), { frames := 2, cells := 0, slots := 0, locals := 45 })
abbrev md_Pr_storeFrom : zMd := (ny_Pr_storeFrom, nc_Pr_storeFrom, 4, (some .int), { frames := 1, cells := 0, slots := 0, locals := 24 })
abbrev md_Pr_moveStack : zMd := (ny_Pr_moveStack, nc_Pr_moveStack, 4, (some .int), { frames := 0, cells := 0, slots := 0, locals := 0 })
abbrev md_JI_bitCount : zMd := (ny_JI_bitCount, nc_JI_bitCount, 1, (some .int), { frames := 0, cells := 0, slots := 0, locals := 0 })
abbrev md_Pr_push : zMd := (ny_Pr_push, nc_Pr_push, 7, (some .int), { frames := 1, cells := 0, slots := 0, locals := 24 })
abbrev md_Pr_pop : zMd := (ny_Pr_pop, nc_Pr_pop, 7, (some .int), { frames := 2, cells := 0, slots := 0, locals := 45 })
abbrev md_Pr_holds : zMd := (ny_Pr_holds, nc_Pr_holds, 7, (some .boolean), { frames := 0, cells := 0, slots := 0, locals := 0 })
abbrev md_Pr_branchIf : zMd := (ny_Pr_branchIf, nc_Pr_branchIf, 5, (some .int), { frames := 1, cells := 0, slots := 0, locals := 26 })
abbrev md_Pr_dispatch : zMd := (ny_Pr_dispatch, nc_Pr_dispatch, 5, (some .int), { frames := 3, cells := 0, slots := 0, locals := 81 })
abbrev md_Pr_execute : zMd := (ny_Pr_execute, nc_Pr_execute, 3, (some .int), { frames := 4, cells := 0, slots := 0, locals := 105 })
abbrev md_GK_doInstruction : zMd := (ny_GK_doInstruction, nc_GK_doInstruction, 2, (some .int), { frames := 5, cells := 0, slots := 0, locals := 127 })
abbrev md_BP_setFrameWord : zMd := (ny_BP_setFrameWord, nc_BP_setFrameWord, 3, none, { frames := 1, cells := 0, slots := 0, locals := 23 })
abbrev md_BP_stackFrame : zMd := (ny_BP_stackFrame, nc_BP_stackFrame, 5, (some .boolean), { frames := 2, cells := 0, slots := 0, locals := 45 })
abbrev md_UQ_move : zMd := (ny_UQ_move, nc_UQ_move, 3, none, { frames := 0, cells := 0, slots := 0, locals := 0 })
abbrev md_UQ_removeOldest : zMd := (ny_UQ_removeOldest, nc_UQ_removeOldest, 2, none, { frames := 1, cells := 0, slots := 0, locals := 22 })
abbrev md_Ke_waitForUpcall : zMd := (ny_Ke_waitForUpcall, nc_Ke_waitForUpcall, 6, none, { frames := 2, cells := 0, slots := 0, locals := 51 })
abbrev md_BP_openWordsBefore : zMd := (ny_BP_openWordsBefore, nc_BP_openWordsBefore, 2, (some .int), { frames := 0, cells := 0, slots := 0, locals := 0 })
abbrev md_No_buffersEndBy : zMd := (ny_No_buffersEndBy, nc_No_buffersEndBy, 4, (some .boolean), { frames := 0, cells := 0, slots := 0, locals := 0 })
abbrev md_Ke_makeGrant : zMd := (ny_Ke_makeGrant, nc_Ke_makeGrant, 7, (some .boolean), { frames := 2, cells := 0, slots := 0, locals := 46 })
abbrev md_UQ_removeDriver : zMd := (ny_UQ_removeDriver, nc_UQ_removeDriver, 4, none, { frames := 1, cells := 0, slots := 0, locals := 22 })
abbrev md_Ke_subscribe : zMd := (ny_Ke_subscribe, nc_Ke_subscribe, 5, (some .int), { frames := 2, cells := 0, slots := 0, locals := 45 })
abbrev md_Ke_allow : zMd := (ny_Ke_allow, nc_Ke_allow, 6, (some .int), { frames := 1, cells := 0, slots := 0, locals := 24 })
abbrev md_Ke_setAlarm : zMd := (ny_Ke_setAlarm, nc_Ke_setAlarm, 3, (some .int), { frames := 1, cells := 0, slots := 0, locals := 23 })
abbrev md_Ke_cancelAlarm : zMd := (ny_Ke_cancelAlarm, nc_Ke_cancelAlarm, 3, (some .int), { frames := 1, cells := 0, slots := 0, locals := 23 })
abbrev md_Ke_commandAlarm : zMd := (ny_Ke_commandAlarm, nc_Ke_commandAlarm, 5, (some .int), { frames := 2, cells := 0, slots := 0, locals := 45 })
abbrev md_Co_addOutput : zMd := (ny_Co_addOutput, nc_Co_addOutput, 2, none, { frames := 0, cells := 0, slots := 0, locals := 0 })
abbrev md_Ke_putOut : zMd := (ny_Ke_putOut, nc_Ke_putOut, 6, (some .int), { frames := 2, cells := 0, slots := 0, locals := 51 })
abbrev md_Co_removeInput : zMd := (ny_Co_removeInput, nc_Co_removeInput, 3, (some .int), { frames := 1, cells := 0, slots := 0, locals := 21 })
abbrev md_Ke_receive : zMd := (ny_Ke_receive, nc_Ke_receive, 3, none, { frames := 2, cells := 0, slots := 0, locals := 51 })
abbrev md_Ke_commandConsole : zMd := (ny_Ke_commandConsole, nc_Ke_commandConsole, 4, (some .int), { frames := 3, cells := 0, slots := 0, locals := 76 })
abbrev md_Ke_commandSensor : zMd := (ny_Ke_commandSensor, nc_Ke_commandSensor, 3, (some .int), { frames := 2, cells := 0, slots := 0, locals := 44 })
abbrev md_Ke_answer : zMd := (ny_Ke_answer, nc_Ke_answer, 6, (some .int), { frames := 4, cells := 0, slots := 0, locals := 99 })
abbrev md_GK_serve : zMd := (ny_GK_serve, nc_GK_serve, 3, (some .int), { frames := 5, cells := 0, slots := 0, locals := 124 })
abbrev md_BP_fail : zMd := (ny_BP_fail, nc_BP_fail, 2, none, { frames := 3, cells := 0, slots := 0, locals := 67 })
abbrev md_GK_endStep : zMd := (ny_GK_endStep, nc_GK_endStep, 4, none, { frames := 4, cells := 0, slots := 0, locals := 88 })
abbrev md_GK_run : zMd := (ny_GK_run, nc_GK_run, 6, (some .int), { frames := 6, cells := 0, slots := 0, locals := 148 })
abbrev md_Co_addInput : zMd := (ny_Co_addInput, nc_Co_addInput, 2, (some .boolean), { frames := 0, cells := 0, slots := 0, locals := 0 })
abbrev md_Ke_takeInput : zMd := (ny_Ke_takeInput, nc_Ke_takeInput, 3, (some .boolean), { frames := 3, cells := 0, slots := 0, locals := 73 })
abbrev md_GK_type : zMd := (ny_GK_type, nc_GK_type, 2, (some .boolean), { frames := 4, cells := 0, slots := 0, locals := 95 })
abbrev md_Ke_takeSample : zMd := (ny_Ke_takeSample, nc_Ke_takeSample, 7, (some .int), { frames := 2, cells := 0, slots := 0, locals := 51 })
abbrev md_GK_sample : zMd := (ny_GK_sample, nc_GK_sample, 2, (some .int), { frames := 3, cells := 0, slots := 0, locals := 77 })
abbrev md_GK_outputs : zMd := (ny_GK_outputs, nc_GK_outputs, 1, (some .int), { frames := 0, cells := 0, slots := 0, locals := 0 })
abbrev md_Co_latestOutput : zMd := (ny_Co_latestOutput, nc_Co_latestOutput, 2, (some .int), { frames := 0, cells := 0, slots := 0, locals := 0 })
abbrev md_GK_output : zMd := (ny_GK_output, nc_GK_output, 2, (some .int), { frames := 1, cells := 0, slots := 0, locals := 21 })
abbrev md_GK_now : zMd := (ny_GK_now, nc_GK_now, 1, (some .int), { frames := 0, cells := 0, slots := 0, locals := 0 })
abbrev md_GK_turn : zMd := (ny_GK_turn, nc_GK_turn, 1, (some .int), { frames := 0, cells := 0, slots := 0, locals := 0 })
abbrev md_GK_find : zMd := (ny_GK_find, nc_GK_find, 2, (some (.object "GrantKernel$BoardProcess")), { frames := 0, cells := 0, slots := 0, locals := 0 })
abbrev md_GK_state : zMd := (ny_GK_state, nc_GK_state, 3, (some .int), { frames := 1, cells := 0, slots := 0, locals := 21 })
abbrev md_BP_registerValue : zMd := (ny_BP_registerValue, nc_BP_registerValue, 2, (some .int), { frames := 2, cells := 0, slots := 0, locals := 43 })
abbrev md_GK_register : zMd := (ny_GK_register, nc_GK_register, 4, (some .int), { frames := 3, cells := 0, slots := 0, locals := 64 })
abbrev md_GK_word : zMd := (ny_GK_word, nc_GK_word, 2, (some .int), { frames := 0, cells := 0, slots := 0, locals := 0 })
abbrev md_GK_block : zMd := (ny_GK_block, nc_GK_block, 3, (some .int), { frames := 1, cells := 0, slots := 0, locals := 21 })
abbrev md_GK_open : zMd := (ny_GK_open, nc_GK_open, 3, (some .int), { frames := 1, cells := 0, slots := 0, locals := 21 })
abbrev md_GK_grant : zMd := (ny_GK_grant, nc_GK_grant, 4, (some .int), { frames := 1, cells := 0, slots := 0, locals := 21 })
abbrev md_GK_queued : zMd := (ny_GK_queued, nc_GK_queued, 3, (some .int), { frames := 1, cells := 0, slots := 0, locals := 21 })
abbrev md_GK_fault : zMd := (ny_GK_fault, nc_GK_fault, 3, (some .int), { frames := 1, cells := 0, slots := 0, locals := 21 })
abbrev md_GK_faults : zMd := (ny_GK_faults, nc_GK_faults, 3, (some .int), { frames := 1, cells := 0, slots := 0, locals := 21 })
abbrev md_GK_restart : zMd := (ny_GK_restart, nc_GK_restart, 3, (some .boolean), { frames := 3, cells := 0, slots := 0, locals := 67 })
abbrev md_GK_stop : zMd := (ny_GK_stop, nc_GK_stop, 3, (some .boolean), { frames := 3, cells := 0, slots := 0, locals := 61 })
abbrev md_GM_there : zMd := (ny_GM_there, nc_GM_there, 2, (some .boolean), { frames := 0, cells := 0, slots := 0, locals := 0 })
abbrev md_GM_burn : zMd := (ny_GM_burn, nc_GM_burn, 4, (some .int), { frames := 0, cells := 0, slots := 0, locals := 0 })
abbrev md_GM_move : zMd := (ny_GM_move, nc_GM_move, 3, none, { frames := 0, cells := 0, slots := 0, locals := 0 })
abbrev md_GM_drop : zMd := (ny_GM_drop, nc_GM_drop, 5, none, { frames := 1, cells := 0, slots := 0, locals := 22 })
abbrev md_GM_forget : zMd := (ny_GM_forget, nc_GM_forget, 3, none, { frames := 2, cells := 0, slots := 0, locals := 46 })
abbrev md_GM_begin : zMd := (ny_GM_begin, nc_GM_begin, 3, none, { frames := 3, cells := 0, slots := 0, locals := 68 })
abbrev md_GM_load : zMd := (ny_GM_load, nc_GM_load, 5, none, { frames := 4, cells := 0, slots := 0, locals := 90 })
abbrev md_GM_boot : zMd := (ny_GM_boot, nc_GM_boot, 7, (some .int), { frames := 5, cells := 0, slots := 0, locals := 114 })
abbrev md_GM_halt : zMd := (ny_GM_halt, nc_GM_halt, 2, none, { frames := 3, cells := 0, slots := 0, locals := 68 })
abbrev md_GM_openWords : zMd := (ny_GM_openWords, nc_GM_openWords, 4, (some .int), { frames := 0, cells := 0, slots := 0, locals := 0 })
abbrev md_GM_granted : zMd := (ny_GM_granted, nc_GM_granted, 4, (some .int), { frames := 0, cells := 0, slots := 0, locals := 0 })
abbrev md_GM_within : zMd := (ny_GM_within, nc_GM_within, 5, (some .boolean), { frames := 0, cells := 0, slots := 0, locals := 0 })
abbrev md_GM_isOpen : zMd := (ny_GM_isOpen, nc_GM_isOpen, 4, (some .boolean), { frames := 1, cells := 0, slots := 0, locals := 24 })
abbrev md_GM_inCode : zMd := (ny_GM_inCode, nc_GM_inCode, 3, (some .boolean), { frames := 0, cells := 0, slots := 0, locals := 0 })
abbrev md_GM_may : zMd := (ny_GM_may, nc_GM_may, 5, (some .boolean), { frames := 2, cells := 0, slots := 0, locals := 47 })
abbrev md_GM_get : zMd := (ny_GM_get, nc_GM_get, 2, (some .int), { frames := 0, cells := 0, slots := 0, locals := 0 })
abbrev md_GM_set : zMd := (ny_GM_set, nc_GM_set, 3, none, { frames := 0, cells := 0, slots := 0, locals := 0 })
abbrev md_GM_eight : zMd := (ny_GM_eight, nc_GM_eight, 5, (some .boolean), { frames := 2, cells := 0, slots := 0, locals := 47 })
abbrev md_GM_stack : zMd := (ny_GM_stack, nc_GM_stack, 6, none, { frames := 3, cells := 0, slots := 0, locals := 71 })
abbrev md_GM_unstack : zMd := (ny_GM_unstack, nc_GM_unstack, 4, none, { frames := 3, cells := 0, slots := 0, locals := 71 })
abbrev md_GM_nz : zMd := (ny_GM_nz, nc_GM_nz, 3, none, { frames := 0, cells := 0, slots := 0, locals := 0 })
abbrev md_GM_sum : zMd := (ny_GM_sum, nc_GM_sum, 10, (some .int), { frames := 0, cells := 0, slots := 0, locals := 0 })
abbrev md_GM_setCarry : zMd := (ny_GM_setCarry, nc_GM_setCarry, 3, none, { frames := 0, cells := 0, slots := 0, locals := 0 })
abbrev md_GM_shifted : zMd := (ny_GM_shifted, nc_GM_shifted, 7, (some .int), { frames := 1, cells := 0, slots := 0, locals := 22 })
abbrev md_GM_calculate : zMd := (ny_GM_calculate, nc_GM_calculate, 9, none, { frames := 2, cells := 0, slots := 0, locals := 48 })
abbrev md_GM_immediate : zMd := (ny_GM_immediate, nc_GM_immediate, 7, none, { frames := 1, cells := 0, slots := 0, locals := 29 })
abbrev md_GM_addOrTake : zMd := (ny_GM_addOrTake, nc_GM_addOrTake, 7, none, { frames := 1, cells := 0, slots := 0, locals := 29 })
abbrev md_GM_access : zMd := (ny_GM_access, nc_GM_access, 5, none, { frames := 3, cells := 0, slots := 0, locals := 71 })
abbrev md_GM_leap : zMd := (ny_GM_leap, nc_GM_leap, 6, none, { frames := 0, cells := 0, slots := 0, locals := 0 })
abbrev md_GM_named : zMd := (ny_GM_named, nc_GM_named, 3, (some .int), { frames := 0, cells := 0, slots := 0, locals := 0 })
abbrev md_GM_push : zMd := (ny_GM_push, nc_GM_push, 6, none, { frames := 3, cells := 0, slots := 0, locals := 71 })
abbrev md_GM_pop : zMd := (ny_GM_pop, nc_GM_pop, 7, none, { frames := 3, cells := 0, slots := 0, locals := 71 })
abbrev md_GM_holds : zMd := (ny_GM_holds, nc_GM_holds, 9, (some .boolean), { frames := 0, cells := 0, slots := 0, locals := 0 })
abbrev md_GM_oldest : zMd := (ny_GM_oldest, nc_GM_oldest, 3, (some .int), { frames := 0, cells := 0, slots := 0, locals := 0 })
abbrev md_GM_deliver : zMd := (ny_GM_deliver, nc_GM_deliver, 7, none, { frames := 1, cells := 0, slots := 0, locals := 22 })
abbrev md_GM_grantAddress : zMd := (ny_GM_grantAddress, nc_GM_grantAddress, 3, (some .int), { frames := 0, cells := 0, slots := 0, locals := 0 })
abbrev md_GM_write : zMd := (ny_GM_write, nc_GM_write, 5, none, { frames := 1, cells := 0, slots := 0, locals := 22 })
abbrev md_GM_ensure : zMd := (ny_GM_ensure, nc_GM_ensure, 8, (some .boolean), { frames := 2, cells := 0, slots := 0, locals := 46 })
abbrev md_GM_subscribe : zMd := (ny_GM_subscribe, nc_GM_subscribe, 5, (some .int), { frames := 2, cells := 0, slots := 0, locals := 46 })
abbrev md_GM_note : zMd := (ny_GM_note, nc_GM_note, 4, (some .int), { frames := 1, cells := 0, slots := 0, locals := 22 })
abbrev md_GM_waiting : zMd := (ny_GM_waiting, nc_GM_waiting, 4, (some .int), { frames := 0, cells := 0, slots := 0, locals := 0 })
abbrev md_GM_upcall : zMd := (ny_GM_upcall, nc_GM_upcall, 5, none, { frames := 2, cells := 0, slots := 0, locals := 48 })
abbrev md_GM_print : zMd := (ny_GM_print, nc_GM_print, 5, (some .int), { frames := 3, cells := 0, slots := 0, locals := 72 })
abbrev md_GM_receive : zMd := (ny_GM_receive, nc_GM_receive, 3, none, { frames := 3, cells := 0, slots := 0, locals := 72 })
abbrev md_GM_command : zMd := (ny_GM_command, nc_GM_command, 7, (some .int), { frames := 4, cells := 0, slots := 0, locals := 96 })
abbrev md_GM_allow : zMd := (ny_GM_allow, nc_GM_allow, 6, (some .int), { frames := 2, cells := 0, slots := 0, locals := 47 })
abbrev md_GM_kernel : zMd := (ny_GM_kernel, nc_GM_kernel, 12, none, { frames := 5, cells := 0, slots := 0, locals := 122 })
abbrev md_GM_branch : zMd := (ny_GM_branch, nc_GM_branch, 5, none, { frames := 6, cells := 0, slots := 0, locals := 153 })
abbrev md_GM_stackWord : zMd := (ny_GM_stackWord, nc_GM_stackWord, 6, none, { frames := 4, cells := 0, slots := 0, locals := 97 })
abbrev md_GM_instruction : zMd := (ny_GM_instruction, nc_GM_instruction, 7, none, { frames := 7, cells := 0, slots := 0, locals := 177 })
abbrev md_GM_faulted : zMd := (ny_GM_faulted, nc_GM_faulted, 2, none, { frames := 4, cells := 0, slots := 0, locals := 90 })
abbrev md_GM_alarms : zMd := (ny_GM_alarms, nc_GM_alarms, 3, none, { frames := 3, cells := 0, slots := 0, locals := 72 })
abbrev md_GM_choose : zMd := (ny_GM_choose, nc_GM_choose, 3, (some .boolean), { frames := 0, cells := 0, slots := 0, locals := 0 })
abbrev md_GM_step : zMd := (ny_GM_step, nc_GM_step, 2, none, { frames := 8, cells := 0, slots := 0, locals := 203 })
abbrev md_GM_run : zMd := (ny_GM_run, nc_GM_run, 4, (some .int), { frames := 9, cells := 0, slots := 0, locals := 224 })
abbrev md_GM_type : zMd := (ny_GM_type, nc_GM_type, 3, (some .boolean), { frames := 4, cells := 0, slots := 0, locals := 94 })
abbrev md_GM_sample : zMd := (ny_GM_sample, nc_GM_sample, 5, (some .int), { frames := 3, cells := 0, slots := 0, locals := 72 })
abbrev md_GM_outputs : zMd := (ny_GM_outputs, nc_GM_outputs, 1, (some .int), { frames := 0, cells := 0, slots := 0, locals := 0 })
abbrev md_GM_output : zMd := (ny_GM_output, nc_GM_output, 2, (some .int), { frames := 0, cells := 0, slots := 0, locals := 0 })
abbrev md_GM_now : zMd := (ny_GM_now, nc_GM_now, 1, (some .int), { frames := 0, cells := 0, slots := 0, locals := 0 })
abbrev md_GM_turn : zMd := (ny_GM_turn, nc_GM_turn, 1, (some .int), { frames := 0, cells := 0, slots := 0, locals := 0 })
abbrev md_GM_state : zMd := (ny_GM_state, nc_GM_state, 2, (some .int), { frames := 1, cells := 0, slots := 0, locals := 21 })
abbrev md_GM_register : zMd := (ny_GM_register, nc_GM_register, 5, (some .int), { frames := 1, cells := 0, slots := 0, locals := 21 })
abbrev md_GM_word : zMd := (ny_GM_word, nc_GM_word, 2, (some .int), { frames := 0, cells := 0, slots := 0, locals := 0 })
abbrev md_GM_block : zMd := (ny_GM_block, nc_GM_block, 2, (some .int), { frames := 1, cells := 0, slots := 0, locals := 21 })
abbrev md_GM_open : zMd := (ny_GM_open, nc_GM_open, 2, (some .int), { frames := 1, cells := 0, slots := 0, locals := 23 })
abbrev md_GM_grant : zMd := (ny_GM_grant, nc_GM_grant, 3, (some .int), { frames := 1, cells := 0, slots := 0, locals := 22 })
abbrev md_GM_queued : zMd := (ny_GM_queued, nc_GM_queued, 2, (some .int), { frames := 1, cells := 0, slots := 0, locals := 23 })
abbrev md_GM_fault : zMd := (ny_GM_fault, nc_GM_fault, 2, (some .int), { frames := 1, cells := 0, slots := 0, locals := 21 })
abbrev md_GM_faults : zMd := (ny_GM_faults, nc_GM_faults, 2, (some .int), { frames := 1, cells := 0, slots := 0, locals := 21 })
abbrev md_GM_restart : zMd := (ny_GM_restart, nc_GM_restart, 2, (some .boolean), { frames := 4, cells := 0, slots := 0, locals := 90 })
abbrev md_GM_stop : zMd := (ny_GM_stop, nc_GM_stop, 2, (some .boolean), { frames := 4, cells := 0, slots := 0, locals := 89 })
