section
-- ===== PART A: goes FIRST, ahead of the names: the tables' words, and 'selects' of the private methods out of them =====
/-- a private method of a class that the tables say can be made, by its rows of tables_1 -/
def lw_okq (q : MethodName × Nat) : Prop := (q.1.cls ≠ "java/lang/invoke/MethodHandle" ∧ q.1.cls ≠ "java/lang/invoke/VarHandle") ∧ Cond.instantiable q.1.cls q.2 ∈ tables_1 ∧ Cond.privateMethod q.1 ∈ tables_1 ∧ Cond.instanceMethod q.1 ∈ tables_1
theorem lw_p0 : lw_okq (⟨"GrantKernel$BoardProcess", "loseNotes", "()V"⟩, 20) := ⟨⟨by decide +kernel, by decide +kernel⟩, List.mem_of_getElem? (i := 40) (by decide +kernel), List.mem_of_getElem? (i := 327) (by decide +kernel), List.mem_of_getElem? (i := 328) (by decide +kernel)⟩
theorem lw_p1 : lw_okq (⟨"GrantKernel$Loader", "isHeader", "(I)Z"⟩, 4) := ⟨⟨by decide +kernel, by decide +kernel⟩, List.mem_of_getElem? (i := 238) (by decide +kernel), List.mem_of_getElem? (i := 339) (by decide +kernel), List.mem_of_getElem? (i := 340) (by decide +kernel)⟩
theorem lw_p2 : lw_okq (⟨"GrantKernel$Loader", "loadAt", "(I)V"⟩, 4) := ⟨⟨by decide +kernel, by decide +kernel⟩, List.mem_of_getElem? (i := 238) (by decide +kernel), List.mem_of_getElem? (i := 343) (by decide +kernel), List.mem_of_getElem? (i := 344) (by decide +kernel)⟩
theorem lw_p3 : lw_okq (⟨"GrantKernel$Kernel", "isPending", "(LGrantKernel$BoardProcess;I)Z"⟩, 4) := ⟨⟨by decide +kernel, by decide +kernel⟩, List.mem_of_getElem? (i := 218) (by decide +kernel), List.mem_of_getElem? (i := 360) (by decide +kernel), List.mem_of_getElem? (i := 361) (by decide +kernel)⟩
theorem lw_p4 : lw_okq (⟨"GrantKernel$Kernel", "ringIfDue", "(LGrantKernel$BoardProcess;)V"⟩, 4) := ⟨⟨by decide +kernel, by decide +kernel⟩, List.mem_of_getElem? (i := 218) (by decide +kernel), List.mem_of_getElem? (i := 372) (by decide +kernel), List.mem_of_getElem? (i := 373) (by decide +kernel)⟩
theorem lw_p5 : lw_okq (⟨"GrantKernel$Kernel", "upcall", "(LGrantKernel$BoardProcess;III)V"⟩, 4) := ⟨⟨by decide +kernel, by decide +kernel⟩, List.mem_of_getElem? (i := 218) (by decide +kernel), List.mem_of_getElem? (i := 377) (by decide +kernel), List.mem_of_getElem? (i := 378) (by decide +kernel)⟩
theorem lw_p6 : lw_okq (⟨"GrantKernel", "giveTurn", "()Z"⟩, 9) := ⟨⟨by decide +kernel, by decide +kernel⟩, List.mem_of_getElem? (i := 14) (by decide +kernel), List.mem_of_getElem? (i := 385) (by decide +kernel), List.mem_of_getElem? (i := 386) (by decide +kernel)⟩
theorem lw_p7 : lw_okq (⟨"GrantKernel", "doInstruction", "(LGrantKernel$BoardProcess;)I"⟩, 9) := ⟨⟨by decide +kernel, by decide +kernel⟩, List.mem_of_getElem? (i := 14) (by decide +kernel), List.mem_of_getElem? (i := 389) (by decide +kernel), List.mem_of_getElem? (i := 390) (by decide +kernel)⟩
theorem lw_p8 : lw_okq (⟨"GrantKernel$Processor", "dispatch", "(LGrantKernel$BoardProcess;I)I"⟩, 2) := ⟨⟨by decide +kernel, by decide +kernel⟩, List.mem_of_getElem? (i := 257) (by decide +kernel), List.mem_of_getElem? (i := 418) (by decide +kernel), List.mem_of_getElem? (i := 419) (by decide +kernel)⟩
theorem lw_p9 : lw_okq (⟨"GrantKernel$Processor", "shiftByNumber", "(LGrantKernel$BoardProcess;I)I"⟩, 2) := ⟨⟨by decide +kernel, by decide +kernel⟩, List.mem_of_getElem? (i := 257) (by decide +kernel), List.mem_of_getElem? (i := 422) (by decide +kernel), List.mem_of_getElem? (i := 423) (by decide +kernel)⟩
theorem lw_p10 : lw_okq (⟨"GrantKernel$Processor", "shift", "(LGrantKernel$BoardProcess;III)I"⟩, 2) := ⟨⟨by decide +kernel, by decide +kernel⟩, List.mem_of_getElem? (i := 257) (by decide +kernel), List.mem_of_getElem? (i := 426) (by decide +kernel), List.mem_of_getElem? (i := 427) (by decide +kernel)⟩
theorem lw_p11 : lw_okq (⟨"GrantKernel$Processor", "setCarry", "(LGrantKernel$BoardProcess;Z)V"⟩, 2) := ⟨⟨by decide +kernel, by decide +kernel⟩, List.mem_of_getElem? (i := 257) (by decide +kernel), List.mem_of_getElem? (i := 434) (by decide +kernel), List.mem_of_getElem? (i := 435) (by decide +kernel)⟩
theorem lw_p12 : lw_okq (⟨"GrantKernel$Processor", "setSigns", "(LGrantKernel$BoardProcess;I)V"⟩, 2) := ⟨⟨by decide +kernel, by decide +kernel⟩, List.mem_of_getElem? (i := 257) (by decide +kernel), List.mem_of_getElem? (i := 438) (by decide +kernel), List.mem_of_getElem? (i := 439) (by decide +kernel)⟩
theorem lw_p13 : lw_okq (⟨"GrantKernel$Processor", "addThree", "(LGrantKernel$BoardProcess;I)I"⟩, 2) := ⟨⟨by decide +kernel, by decide +kernel⟩, List.mem_of_getElem? (i := 257) (by decide +kernel), List.mem_of_getElem? (i := 442) (by decide +kernel), List.mem_of_getElem? (i := 443) (by decide +kernel)⟩
theorem lw_p14 : lw_okq (⟨"GrantKernel$Processor", "add", "(LGrantKernel$BoardProcess;III)I"⟩, 2) := ⟨⟨by decide +kernel, by decide +kernel⟩, List.mem_of_getElem? (i := 257) (by decide +kernel), List.mem_of_getElem? (i := 446) (by decide +kernel), List.mem_of_getElem? (i := 447) (by decide +kernel)⟩
theorem lw_p15 : lw_okq (⟨"GrantKernel$Processor", "withByte", "(LGrantKernel$BoardProcess;I)I"⟩, 2) := ⟨⟨by decide +kernel, by decide +kernel⟩, List.mem_of_getElem? (i := 257) (by decide +kernel), List.mem_of_getElem? (i := 450) (by decide +kernel), List.mem_of_getElem? (i := 451) (by decide +kernel)⟩
def lw_privs_1 : List (MethodName × Nat) := [(⟨"GrantKernel$BoardProcess", "loseNotes", "()V"⟩, 20), (⟨"GrantKernel$Loader", "isHeader", "(I)Z"⟩, 4), (⟨"GrantKernel$Loader", "loadAt", "(I)V"⟩, 4), (⟨"GrantKernel$Kernel", "isPending", "(LGrantKernel$BoardProcess;I)Z"⟩, 4), (⟨"GrantKernel$Kernel", "ringIfDue", "(LGrantKernel$BoardProcess;)V"⟩, 4), (⟨"GrantKernel$Kernel", "upcall", "(LGrantKernel$BoardProcess;III)V"⟩, 4), (⟨"GrantKernel", "giveTurn", "()Z"⟩, 9), (⟨"GrantKernel", "doInstruction", "(LGrantKernel$BoardProcess;)I"⟩, 9), (⟨"GrantKernel$Processor", "dispatch", "(LGrantKernel$BoardProcess;I)I"⟩, 2), (⟨"GrantKernel$Processor", "shiftByNumber", "(LGrantKernel$BoardProcess;I)I"⟩, 2), (⟨"GrantKernel$Processor", "shift", "(LGrantKernel$BoardProcess;III)I"⟩, 2), (⟨"GrantKernel$Processor", "setCarry", "(LGrantKernel$BoardProcess;Z)V"⟩, 2), (⟨"GrantKernel$Processor", "setSigns", "(LGrantKernel$BoardProcess;I)V"⟩, 2), (⟨"GrantKernel$Processor", "addThree", "(LGrantKernel$BoardProcess;I)I"⟩, 2), (⟨"GrantKernel$Processor", "add", "(LGrantKernel$BoardProcess;III)I"⟩, 2), (⟨"GrantKernel$Processor", "withByte", "(LGrantKernel$BoardProcess;I)I"⟩, 2)]
theorem lw_r1 : ∀ q ∈ lw_privs_1, lw_okq q := List.forall_mem_cons.mpr ⟨lw_p0, List.forall_mem_cons.mpr ⟨lw_p1, List.forall_mem_cons.mpr ⟨lw_p2, List.forall_mem_cons.mpr ⟨lw_p3, List.forall_mem_cons.mpr ⟨lw_p4, List.forall_mem_cons.mpr ⟨lw_p5, List.forall_mem_cons.mpr ⟨lw_p6, List.forall_mem_cons.mpr ⟨lw_p7, List.forall_mem_cons.mpr ⟨lw_p8, List.forall_mem_cons.mpr ⟨lw_p9, List.forall_mem_cons.mpr ⟨lw_p10, List.forall_mem_cons.mpr ⟨lw_p11, List.forall_mem_cons.mpr ⟨lw_p12, List.forall_mem_cons.mpr ⟨lw_p13, List.forall_mem_cons.mpr ⟨lw_p14, List.forall_mem_cons.mpr ⟨lw_p15, fun _ h => absurd h List.not_mem_nil⟩⟩⟩⟩⟩⟩⟩⟩⟩⟩⟩⟩⟩⟩⟩⟩
theorem lw_p16 : lw_okq (⟨"GrantKernel$Processor", "combine", "(LGrantKernel$BoardProcess;I)I"⟩, 2) := ⟨⟨by decide +kernel, by decide +kernel⟩, List.mem_of_getElem? (i := 257) (by decide +kernel), List.mem_of_getElem? (i := 454) (by decide +kernel), List.mem_of_getElem? (i := 455) (by decide +kernel)⟩
theorem lw_p17 : lw_okq (⟨"GrantKernel$Processor", "rotate", "(LGrantKernel$BoardProcess;II)I"⟩, 2) := ⟨⟨by decide +kernel, by decide +kernel⟩, List.mem_of_getElem? (i := 257) (by decide +kernel), List.mem_of_getElem? (i := 458) (by decide +kernel), List.mem_of_getElem? (i := 459) (by decide +kernel)⟩
theorem lw_p18 : lw_okq (⟨"GrantKernel$Processor", "bitwise", "(III)I"⟩, 2) := ⟨⟨by decide +kernel, by decide +kernel⟩, List.mem_of_getElem? (i := 257) (by decide +kernel), List.mem_of_getElem? (i := 462) (by decide +kernel), List.mem_of_getElem? (i := 463) (by decide +kernel)⟩
theorem lw_p19 : lw_okq (⟨"GrantKernel$Processor", "jump", "(LGrantKernel$BoardProcess;I)I"⟩, 2) := ⟨⟨by decide +kernel, by decide +kernel⟩, List.mem_of_getElem? (i := 257) (by decide +kernel), List.mem_of_getElem? (i := 466) (by decide +kernel), List.mem_of_getElem? (i := 467) (by decide +kernel)⟩
theorem lw_p20 : lw_okq (⟨"GrantKernel$Processor", "loadInto", "(LGrantKernel$BoardProcess;II)I"⟩, 2) := ⟨⟨by decide +kernel, by decide +kernel⟩, List.mem_of_getElem? (i := 257) (by decide +kernel), List.mem_of_getElem? (i := 470) (by decide +kernel), List.mem_of_getElem? (i := 471) (by decide +kernel)⟩
theorem lw_p21 : lw_okq (⟨"GrantKernel$Processor", "storeFrom", "(LGrantKernel$BoardProcess;II)I"⟩, 2) := ⟨⟨by decide +kernel, by decide +kernel⟩, List.mem_of_getElem? (i := 257) (by decide +kernel), List.mem_of_getElem? (i := 487) (by decide +kernel), List.mem_of_getElem? (i := 488) (by decide +kernel)⟩
theorem lw_p22 : lw_okq (⟨"GrantKernel$Processor", "moveStack", "(LGrantKernel$BoardProcess;I)I"⟩, 2) := ⟨⟨by decide +kernel, by decide +kernel⟩, List.mem_of_getElem? (i := 257) (by decide +kernel), List.mem_of_getElem? (i := 493) (by decide +kernel), List.mem_of_getElem? (i := 494) (by decide +kernel)⟩
theorem lw_p23 : lw_okq (⟨"GrantKernel$Processor", "push", "(LGrantKernel$BoardProcess;I)I"⟩, 2) := ⟨⟨by decide +kernel, by decide +kernel⟩, List.mem_of_getElem? (i := 257) (by decide +kernel), List.mem_of_getElem? (i := 497) (by decide +kernel), List.mem_of_getElem? (i := 498) (by decide +kernel)⟩
theorem lw_p24 : lw_okq (⟨"GrantKernel$Processor", "pop", "(LGrantKernel$BoardProcess;I)I"⟩, 2) := ⟨⟨by decide +kernel, by decide +kernel⟩, List.mem_of_getElem? (i := 257) (by decide +kernel), List.mem_of_getElem? (i := 507) (by decide +kernel), List.mem_of_getElem? (i := 508) (by decide +kernel)⟩
theorem lw_p25 : lw_okq (⟨"GrantKernel$Processor", "branchIf", "(LGrantKernel$BoardProcess;I)I"⟩, 2) := ⟨⟨by decide +kernel, by decide +kernel⟩, List.mem_of_getElem? (i := 257) (by decide +kernel), List.mem_of_getElem? (i := 511) (by decide +kernel), List.mem_of_getElem? (i := 512) (by decide +kernel)⟩
theorem lw_p26 : lw_okq (⟨"GrantKernel$Processor", "holds", "(II)Z"⟩, 2) := ⟨⟨by decide +kernel, by decide +kernel⟩, List.mem_of_getElem? (i := 257) (by decide +kernel), List.mem_of_getElem? (i := 515) (by decide +kernel), List.mem_of_getElem? (i := 516) (by decide +kernel)⟩
theorem lw_p27 : lw_okq (⟨"GrantKernel", "serve", "(LGrantKernel$BoardProcess;I)I"⟩, 9) := ⟨⟨by decide +kernel, by decide +kernel⟩, List.mem_of_getElem? (i := 14) (by decide +kernel), List.mem_of_getElem? (i := 519) (by decide +kernel), List.mem_of_getElem? (i := 520) (by decide +kernel)⟩
theorem lw_p28 : lw_okq (⟨"GrantKernel$UpcallQueue", "move", "(II)V"⟩, 4) := ⟨⟨by decide +kernel, by decide +kernel⟩, List.mem_of_getElem? (i := 52) (by decide +kernel), List.mem_of_getElem? (i := 541) (by decide +kernel), List.mem_of_getElem? (i := 542) (by decide +kernel)⟩
theorem lw_p29 : lw_okq (⟨"GrantKernel$Kernel", "makeGrant", "(LGrantKernel$BoardProcess;I)Z"⟩, 4) := ⟨⟨by decide +kernel, by decide +kernel⟩, List.mem_of_getElem? (i := 218) (by decide +kernel), List.mem_of_getElem? (i := 552) (by decide +kernel), List.mem_of_getElem? (i := 553) (by decide +kernel)⟩
theorem lw_p30 : lw_okq (⟨"GrantKernel$Kernel", "subscribe", "(LGrantKernel$Notes;III)I"⟩, 4) := ⟨⟨by decide +kernel, by decide +kernel⟩, List.mem_of_getElem? (i := 218) (by decide +kernel), List.mem_of_getElem? (i := 565) (by decide +kernel), List.mem_of_getElem? (i := 566) (by decide +kernel)⟩
theorem lw_p31 : lw_okq (⟨"GrantKernel$Kernel", "allow", "(LGrantKernel$BoardProcess;III)I"⟩, 4) := ⟨⟨by decide +kernel, by decide +kernel⟩, List.mem_of_getElem? (i := 218) (by decide +kernel), List.mem_of_getElem? (i := 573) (by decide +kernel), List.mem_of_getElem? (i := 574) (by decide +kernel)⟩
def lw_privs_2 : List (MethodName × Nat) := [(⟨"GrantKernel$Processor", "combine", "(LGrantKernel$BoardProcess;I)I"⟩, 2), (⟨"GrantKernel$Processor", "rotate", "(LGrantKernel$BoardProcess;II)I"⟩, 2), (⟨"GrantKernel$Processor", "bitwise", "(III)I"⟩, 2), (⟨"GrantKernel$Processor", "jump", "(LGrantKernel$BoardProcess;I)I"⟩, 2), (⟨"GrantKernel$Processor", "loadInto", "(LGrantKernel$BoardProcess;II)I"⟩, 2), (⟨"GrantKernel$Processor", "storeFrom", "(LGrantKernel$BoardProcess;II)I"⟩, 2), (⟨"GrantKernel$Processor", "moveStack", "(LGrantKernel$BoardProcess;I)I"⟩, 2), (⟨"GrantKernel$Processor", "push", "(LGrantKernel$BoardProcess;I)I"⟩, 2), (⟨"GrantKernel$Processor", "pop", "(LGrantKernel$BoardProcess;I)I"⟩, 2), (⟨"GrantKernel$Processor", "branchIf", "(LGrantKernel$BoardProcess;I)I"⟩, 2), (⟨"GrantKernel$Processor", "holds", "(II)Z"⟩, 2), (⟨"GrantKernel", "serve", "(LGrantKernel$BoardProcess;I)I"⟩, 9), (⟨"GrantKernel$UpcallQueue", "move", "(II)V"⟩, 4), (⟨"GrantKernel$Kernel", "makeGrant", "(LGrantKernel$BoardProcess;I)Z"⟩, 4), (⟨"GrantKernel$Kernel", "subscribe", "(LGrantKernel$Notes;III)I"⟩, 4), (⟨"GrantKernel$Kernel", "allow", "(LGrantKernel$BoardProcess;III)I"⟩, 4)]
theorem lw_r2 : ∀ q ∈ lw_privs_2, lw_okq q := List.forall_mem_cons.mpr ⟨lw_p16, List.forall_mem_cons.mpr ⟨lw_p17, List.forall_mem_cons.mpr ⟨lw_p18, List.forall_mem_cons.mpr ⟨lw_p19, List.forall_mem_cons.mpr ⟨lw_p20, List.forall_mem_cons.mpr ⟨lw_p21, List.forall_mem_cons.mpr ⟨lw_p22, List.forall_mem_cons.mpr ⟨lw_p23, List.forall_mem_cons.mpr ⟨lw_p24, List.forall_mem_cons.mpr ⟨lw_p25, List.forall_mem_cons.mpr ⟨lw_p26, List.forall_mem_cons.mpr ⟨lw_p27, List.forall_mem_cons.mpr ⟨lw_p28, List.forall_mem_cons.mpr ⟨lw_p29, List.forall_mem_cons.mpr ⟨lw_p30, List.forall_mem_cons.mpr ⟨lw_p31, fun _ h => absurd h List.not_mem_nil⟩⟩⟩⟩⟩⟩⟩⟩⟩⟩⟩⟩⟩⟩⟩⟩
theorem lw_p32 : lw_okq (⟨"GrantKernel$Kernel", "commandAlarm", "(LGrantKernel$BoardProcess;II)I"⟩, 4) := ⟨⟨by decide +kernel, by decide +kernel⟩, List.mem_of_getElem? (i := 218) (by decide +kernel), List.mem_of_getElem? (i := 578) (by decide +kernel), List.mem_of_getElem? (i := 579) (by decide +kernel)⟩
theorem lw_p33 : lw_okq (⟨"GrantKernel$Kernel", "setAlarm", "(II)I"⟩, 4) := ⟨⟨by decide +kernel, by decide +kernel⟩, List.mem_of_getElem? (i := 218) (by decide +kernel), List.mem_of_getElem? (i := 582) (by decide +kernel), List.mem_of_getElem? (i := 583) (by decide +kernel)⟩
theorem lw_p34 : lw_okq (⟨"GrantKernel$Kernel", "cancelAlarm", "(I)I"⟩, 4) := ⟨⟨by decide +kernel, by decide +kernel⟩, List.mem_of_getElem? (i := 218) (by decide +kernel), List.mem_of_getElem? (i := 586) (by decide +kernel), List.mem_of_getElem? (i := 587) (by decide +kernel)⟩
theorem lw_p35 : lw_okq (⟨"GrantKernel$Kernel", "commandConsole", "(LGrantKernel$BoardProcess;II)I"⟩, 4) := ⟨⟨by decide +kernel, by decide +kernel⟩, List.mem_of_getElem? (i := 218) (by decide +kernel), List.mem_of_getElem? (i := 590) (by decide +kernel), List.mem_of_getElem? (i := 591) (by decide +kernel)⟩
theorem lw_p36 : lw_okq (⟨"GrantKernel$Kernel", "putOut", "(LGrantKernel$BoardProcess;I)I"⟩, 4) := ⟨⟨by decide +kernel, by decide +kernel⟩, List.mem_of_getElem? (i := 218) (by decide +kernel), List.mem_of_getElem? (i := 594) (by decide +kernel), List.mem_of_getElem? (i := 595) (by decide +kernel)⟩
theorem lw_p37 : lw_okq (⟨"GrantKernel$Kernel", "receive", "(LGrantKernel$BoardProcess;I)V"⟩, 4) := ⟨⟨by decide +kernel, by decide +kernel⟩, List.mem_of_getElem? (i := 218) (by decide +kernel), List.mem_of_getElem? (i := 608) (by decide +kernel), List.mem_of_getElem? (i := 609) (by decide +kernel)⟩
theorem lw_p38 : lw_okq (⟨"GrantKernel$Kernel", "commandSensor", "(LGrantKernel$BoardProcess;I)I"⟩, 4) := ⟨⟨by decide +kernel, by decide +kernel⟩, List.mem_of_getElem? (i := 218) (by decide +kernel), List.mem_of_getElem? (i := 612) (by decide +kernel), List.mem_of_getElem? (i := 613) (by decide +kernel)⟩
theorem lw_p39 : lw_okq (⟨"GrantKernel", "endStep", "(LGrantKernel$BoardProcess;I)V"⟩, 9) := ⟨⟨by decide +kernel, by decide +kernel⟩, List.mem_of_getElem? (i := 14) (by decide +kernel), List.mem_of_getElem? (i := 617) (by decide +kernel), List.mem_of_getElem? (i := 618) (by decide +kernel)⟩
theorem lw_p40 : lw_okq (⟨"GrantKernel", "find", "(I)LGrantKernel$BoardProcess;"⟩, 9) := ⟨⟨by decide +kernel, by decide +kernel⟩, List.mem_of_getElem? (i := 14) (by decide +kernel), List.mem_of_getElem? (i := 671) (by decide +kernel), List.mem_of_getElem? (i := 672) (by decide +kernel)⟩
theorem lw_p41 : lw_okq (⟨"GrantKernelModel", "load", "(III)V"⟩, 40) := ⟨⟨by decide +kernel, by decide +kernel⟩, List.mem_of_getElem? (i := 722) (by decide +kernel), List.mem_of_getElem? (i := 859) (by decide +kernel), List.mem_of_getElem? (i := 860) (by decide +kernel)⟩
theorem lw_p42 : lw_okq (⟨"GrantKernelModel", "begin", "(I)V"⟩, 40) := ⟨⟨by decide +kernel, by decide +kernel⟩, List.mem_of_getElem? (i := 722) (by decide +kernel), List.mem_of_getElem? (i := 863) (by decide +kernel), List.mem_of_getElem? (i := 864) (by decide +kernel)⟩
theorem lw_p43 : lw_okq (⟨"GrantKernelModel", "forget", "(I)V"⟩, 40) := ⟨⟨by decide +kernel, by decide +kernel⟩, List.mem_of_getElem? (i := 722) (by decide +kernel), List.mem_of_getElem? (i := 867) (by decide +kernel), List.mem_of_getElem? (i := 868) (by decide +kernel)⟩
theorem lw_p44 : lw_okq (⟨"GrantKernelModel", "drop", "(II)V"⟩, 40) := ⟨⟨by decide +kernel, by decide +kernel⟩, List.mem_of_getElem? (i := 722) (by decide +kernel), List.mem_of_getElem? (i := 871) (by decide +kernel), List.mem_of_getElem? (i := 872) (by decide +kernel)⟩
theorem lw_p45 : lw_okq (⟨"GrantKernelModel", "move", "(II)V"⟩, 40) := ⟨⟨by decide +kernel, by decide +kernel⟩, List.mem_of_getElem? (i := 722) (by decide +kernel), List.mem_of_getElem? (i := 875) (by decide +kernel), List.mem_of_getElem? (i := 876) (by decide +kernel)⟩
theorem lw_p46 : lw_okq (⟨"GrantKernelModel", "alarms", "()V"⟩, 40) := ⟨⟨by decide +kernel, by decide +kernel⟩, List.mem_of_getElem? (i := 722) (by decide +kernel), List.mem_of_getElem? (i := 883) (by decide +kernel), List.mem_of_getElem? (i := 884) (by decide +kernel)⟩
theorem lw_p47 : lw_okq (⟨"GrantKernelModel", "note", "(III)I"⟩, 40) := ⟨⟨by decide +kernel, by decide +kernel⟩, List.mem_of_getElem? (i := 722) (by decide +kernel), List.mem_of_getElem? (i := 887) (by decide +kernel), List.mem_of_getElem? (i := 888) (by decide +kernel)⟩
def lw_privs_3 : List (MethodName × Nat) := [(⟨"GrantKernel$Kernel", "commandAlarm", "(LGrantKernel$BoardProcess;II)I"⟩, 4), (⟨"GrantKernel$Kernel", "setAlarm", "(II)I"⟩, 4), (⟨"GrantKernel$Kernel", "cancelAlarm", "(I)I"⟩, 4), (⟨"GrantKernel$Kernel", "commandConsole", "(LGrantKernel$BoardProcess;II)I"⟩, 4), (⟨"GrantKernel$Kernel", "putOut", "(LGrantKernel$BoardProcess;I)I"⟩, 4), (⟨"GrantKernel$Kernel", "receive", "(LGrantKernel$BoardProcess;I)V"⟩, 4), (⟨"GrantKernel$Kernel", "commandSensor", "(LGrantKernel$BoardProcess;I)I"⟩, 4), (⟨"GrantKernel", "endStep", "(LGrantKernel$BoardProcess;I)V"⟩, 9), (⟨"GrantKernel", "find", "(I)LGrantKernel$BoardProcess;"⟩, 9), (⟨"GrantKernelModel", "load", "(III)V"⟩, 40), (⟨"GrantKernelModel", "begin", "(I)V"⟩, 40), (⟨"GrantKernelModel", "forget", "(I)V"⟩, 40), (⟨"GrantKernelModel", "drop", "(II)V"⟩, 40), (⟨"GrantKernelModel", "move", "(II)V"⟩, 40), (⟨"GrantKernelModel", "alarms", "()V"⟩, 40), (⟨"GrantKernelModel", "note", "(III)I"⟩, 40)]
theorem lw_r3 : ∀ q ∈ lw_privs_3, lw_okq q := List.forall_mem_cons.mpr ⟨lw_p32, List.forall_mem_cons.mpr ⟨lw_p33, List.forall_mem_cons.mpr ⟨lw_p34, List.forall_mem_cons.mpr ⟨lw_p35, List.forall_mem_cons.mpr ⟨lw_p36, List.forall_mem_cons.mpr ⟨lw_p37, List.forall_mem_cons.mpr ⟨lw_p38, List.forall_mem_cons.mpr ⟨lw_p39, List.forall_mem_cons.mpr ⟨lw_p40, List.forall_mem_cons.mpr ⟨lw_p41, List.forall_mem_cons.mpr ⟨lw_p42, List.forall_mem_cons.mpr ⟨lw_p43, List.forall_mem_cons.mpr ⟨lw_p44, List.forall_mem_cons.mpr ⟨lw_p45, List.forall_mem_cons.mpr ⟨lw_p46, List.forall_mem_cons.mpr ⟨lw_p47, fun _ h => absurd h List.not_mem_nil⟩⟩⟩⟩⟩⟩⟩⟩⟩⟩⟩⟩⟩⟩⟩⟩
theorem lw_p48 : lw_okq (⟨"GrantKernelModel", "grantAddress", "(II)I"⟩, 40) := ⟨⟨by decide +kernel, by decide +kernel⟩, List.mem_of_getElem? (i := 722) (by decide +kernel), List.mem_of_getElem? (i := 891) (by decide +kernel), List.mem_of_getElem? (i := 892) (by decide +kernel)⟩
theorem lw_p49 : lw_okq (⟨"GrantKernelModel", "get", "(I)I"⟩, 40) := ⟨⟨by decide +kernel, by decide +kernel⟩, List.mem_of_getElem? (i := 722) (by decide +kernel), List.mem_of_getElem? (i := 895) (by decide +kernel), List.mem_of_getElem? (i := 896) (by decide +kernel)⟩
theorem lw_p50 : lw_okq (⟨"GrantKernelModel", "write", "(IIII)V"⟩, 40) := ⟨⟨by decide +kernel, by decide +kernel⟩, List.mem_of_getElem? (i := 722) (by decide +kernel), List.mem_of_getElem? (i := 899) (by decide +kernel), List.mem_of_getElem? (i := 900) (by decide +kernel)⟩
theorem lw_p51 : lw_okq (⟨"GrantKernelModel", "set", "(II)V"⟩, 40) := ⟨⟨by decide +kernel, by decide +kernel⟩, List.mem_of_getElem? (i := 722) (by decide +kernel), List.mem_of_getElem? (i := 903) (by decide +kernel), List.mem_of_getElem? (i := 904) (by decide +kernel)⟩
theorem lw_p52 : lw_okq (⟨"GrantKernelModel", "upcall", "(IIII)V"⟩, 40) := ⟨⟨by decide +kernel, by decide +kernel⟩, List.mem_of_getElem? (i := 722) (by decide +kernel), List.mem_of_getElem? (i := 907) (by decide +kernel), List.mem_of_getElem? (i := 908) (by decide +kernel)⟩
theorem lw_p53 : lw_okq (⟨"GrantKernelModel", "deliver", "(IIII)V"⟩, 40) := ⟨⟨by decide +kernel, by decide +kernel⟩, List.mem_of_getElem? (i := 722) (by decide +kernel), List.mem_of_getElem? (i := 911) (by decide +kernel), List.mem_of_getElem? (i := 912) (by decide +kernel)⟩
theorem lw_p54 : lw_okq (⟨"GrantKernelModel", "waiting", "(I)I"⟩, 40) := ⟨⟨by decide +kernel, by decide +kernel⟩, List.mem_of_getElem? (i := 722) (by decide +kernel), List.mem_of_getElem? (i := 915) (by decide +kernel), List.mem_of_getElem? (i := 916) (by decide +kernel)⟩
theorem lw_p55 : lw_okq (⟨"GrantKernelModel", "choose", "()Z"⟩, 40) := ⟨⟨by decide +kernel, by decide +kernel⟩, List.mem_of_getElem? (i := 722) (by decide +kernel), List.mem_of_getElem? (i := 919) (by decide +kernel), List.mem_of_getElem? (i := 920) (by decide +kernel)⟩
theorem lw_p56 : lw_okq (⟨"GrantKernelModel", "step", "(I)V"⟩, 40) := ⟨⟨by decide +kernel, by decide +kernel⟩, List.mem_of_getElem? (i := 722) (by decide +kernel), List.mem_of_getElem? (i := 923) (by decide +kernel), List.mem_of_getElem? (i := 924) (by decide +kernel)⟩
theorem lw_p57 : lw_okq (⟨"GrantKernelModel", "unstack", "(I)V"⟩, 40) := ⟨⟨by decide +kernel, by decide +kernel⟩, List.mem_of_getElem? (i := 722) (by decide +kernel), List.mem_of_getElem? (i := 927) (by decide +kernel), List.mem_of_getElem? (i := 928) (by decide +kernel)⟩
theorem lw_p58 : lw_okq (⟨"GrantKernelModel", "eight", "(II)Z"⟩, 40) := ⟨⟨by decide +kernel, by decide +kernel⟩, List.mem_of_getElem? (i := 722) (by decide +kernel), List.mem_of_getElem? (i := 931) (by decide +kernel), List.mem_of_getElem? (i := 932) (by decide +kernel)⟩
theorem lw_p59 : lw_okq (⟨"GrantKernelModel", "isOpen", "(II)Z"⟩, 40) := ⟨⟨by decide +kernel, by decide +kernel⟩, List.mem_of_getElem? (i := 722) (by decide +kernel), List.mem_of_getElem? (i := 935) (by decide +kernel), List.mem_of_getElem? (i := 936) (by decide +kernel)⟩
theorem lw_p60 : lw_okq (⟨"GrantKernelModel", "granted", "(I)I"⟩, 40) := ⟨⟨by decide +kernel, by decide +kernel⟩, List.mem_of_getElem? (i := 722) (by decide +kernel), List.mem_of_getElem? (i := 939) (by decide +kernel), List.mem_of_getElem? (i := 940) (by decide +kernel)⟩
theorem lw_p61 : lw_okq (⟨"GrantKernelModel", "openWords", "(II)I"⟩, 40) := ⟨⟨by decide +kernel, by decide +kernel⟩, List.mem_of_getElem? (i := 722) (by decide +kernel), List.mem_of_getElem? (i := 943) (by decide +kernel), List.mem_of_getElem? (i := 944) (by decide +kernel)⟩
theorem lw_p62 : lw_okq (⟨"GrantKernelModel", "within", "(III)Z"⟩, 40) := ⟨⟨by decide +kernel, by decide +kernel⟩, List.mem_of_getElem? (i := 722) (by decide +kernel), List.mem_of_getElem? (i := 947) (by decide +kernel), List.mem_of_getElem? (i := 948) (by decide +kernel)⟩
theorem lw_p63 : lw_okq (⟨"GrantKernelModel", "instruction", "(I)V"⟩, 40) := ⟨⟨by decide +kernel, by decide +kernel⟩, List.mem_of_getElem? (i := 722) (by decide +kernel), List.mem_of_getElem? (i := 951) (by decide +kernel), List.mem_of_getElem? (i := 952) (by decide +kernel)⟩
def lw_privs_4 : List (MethodName × Nat) := [(⟨"GrantKernelModel", "grantAddress", "(II)I"⟩, 40), (⟨"GrantKernelModel", "get", "(I)I"⟩, 40), (⟨"GrantKernelModel", "write", "(IIII)V"⟩, 40), (⟨"GrantKernelModel", "set", "(II)V"⟩, 40), (⟨"GrantKernelModel", "upcall", "(IIII)V"⟩, 40), (⟨"GrantKernelModel", "deliver", "(IIII)V"⟩, 40), (⟨"GrantKernelModel", "waiting", "(I)I"⟩, 40), (⟨"GrantKernelModel", "choose", "()Z"⟩, 40), (⟨"GrantKernelModel", "step", "(I)V"⟩, 40), (⟨"GrantKernelModel", "unstack", "(I)V"⟩, 40), (⟨"GrantKernelModel", "eight", "(II)Z"⟩, 40), (⟨"GrantKernelModel", "isOpen", "(II)Z"⟩, 40), (⟨"GrantKernelModel", "granted", "(I)I"⟩, 40), (⟨"GrantKernelModel", "openWords", "(II)I"⟩, 40), (⟨"GrantKernelModel", "within", "(III)Z"⟩, 40), (⟨"GrantKernelModel", "instruction", "(I)V"⟩, 40)]
theorem lw_r4 : ∀ q ∈ lw_privs_4, lw_okq q := List.forall_mem_cons.mpr ⟨lw_p48, List.forall_mem_cons.mpr ⟨lw_p49, List.forall_mem_cons.mpr ⟨lw_p50, List.forall_mem_cons.mpr ⟨lw_p51, List.forall_mem_cons.mpr ⟨lw_p52, List.forall_mem_cons.mpr ⟨lw_p53, List.forall_mem_cons.mpr ⟨lw_p54, List.forall_mem_cons.mpr ⟨lw_p55, List.forall_mem_cons.mpr ⟨lw_p56, List.forall_mem_cons.mpr ⟨lw_p57, List.forall_mem_cons.mpr ⟨lw_p58, List.forall_mem_cons.mpr ⟨lw_p59, List.forall_mem_cons.mpr ⟨lw_p60, List.forall_mem_cons.mpr ⟨lw_p61, List.forall_mem_cons.mpr ⟨lw_p62, List.forall_mem_cons.mpr ⟨lw_p63, fun _ h => absurd h List.not_mem_nil⟩⟩⟩⟩⟩⟩⟩⟩⟩⟩⟩⟩⟩⟩⟩⟩
theorem lw_p64 : lw_okq (⟨"GrantKernelModel", "inCode", "(II)Z"⟩, 40) := ⟨⟨by decide +kernel, by decide +kernel⟩, List.mem_of_getElem? (i := 722) (by decide +kernel), List.mem_of_getElem? (i := 955) (by decide +kernel), List.mem_of_getElem? (i := 956) (by decide +kernel)⟩
theorem lw_p65 : lw_okq (⟨"GrantKernelModel", "shifted", "(IIII)I"⟩, 40) := ⟨⟨by decide +kernel, by decide +kernel⟩, List.mem_of_getElem? (i := 722) (by decide +kernel), List.mem_of_getElem? (i := 959) (by decide +kernel), List.mem_of_getElem? (i := 960) (by decide +kernel)⟩
theorem lw_p66 : lw_okq (⟨"GrantKernelModel", "nz", "(II)V"⟩, 40) := ⟨⟨by decide +kernel, by decide +kernel⟩, List.mem_of_getElem? (i := 722) (by decide +kernel), List.mem_of_getElem? (i := 963) (by decide +kernel), List.mem_of_getElem? (i := 964) (by decide +kernel)⟩
theorem lw_p67 : lw_okq (⟨"GrantKernelModel", "setCarry", "(II)V"⟩, 40) := ⟨⟨by decide +kernel, by decide +kernel⟩, List.mem_of_getElem? (i := 722) (by decide +kernel), List.mem_of_getElem? (i := 967) (by decide +kernel), List.mem_of_getElem? (i := 968) (by decide +kernel)⟩
theorem lw_p68 : lw_okq (⟨"GrantKernelModel", "addOrTake", "(II)V"⟩, 40) := ⟨⟨by decide +kernel, by decide +kernel⟩, List.mem_of_getElem? (i := 722) (by decide +kernel), List.mem_of_getElem? (i := 971) (by decide +kernel), List.mem_of_getElem? (i := 972) (by decide +kernel)⟩
theorem lw_p69 : lw_okq (⟨"GrantKernelModel", "sum", "(IIII)I"⟩, 40) := ⟨⟨by decide +kernel, by decide +kernel⟩, List.mem_of_getElem? (i := 722) (by decide +kernel), List.mem_of_getElem? (i := 975) (by decide +kernel), List.mem_of_getElem? (i := 976) (by decide +kernel)⟩
theorem lw_p70 : lw_okq (⟨"GrantKernelModel", "immediate", "(II)V"⟩, 40) := ⟨⟨by decide +kernel, by decide +kernel⟩, List.mem_of_getElem? (i := 722) (by decide +kernel), List.mem_of_getElem? (i := 981) (by decide +kernel), List.mem_of_getElem? (i := 982) (by decide +kernel)⟩
theorem lw_p71 : lw_okq (⟨"GrantKernelModel", "calculate", "(II)V"⟩, 40) := ⟨⟨by decide +kernel, by decide +kernel⟩, List.mem_of_getElem? (i := 722) (by decide +kernel), List.mem_of_getElem? (i := 985) (by decide +kernel), List.mem_of_getElem? (i := 986) (by decide +kernel)⟩
theorem lw_p72 : lw_okq (⟨"GrantKernelModel", "leap", "(II)V"⟩, 40) := ⟨⟨by decide +kernel, by decide +kernel⟩, List.mem_of_getElem? (i := 722) (by decide +kernel), List.mem_of_getElem? (i := 989) (by decide +kernel), List.mem_of_getElem? (i := 990) (by decide +kernel)⟩
theorem lw_p73 : lw_okq (⟨"GrantKernelModel", "access", "(IIIZ)V"⟩, 40) := ⟨⟨by decide +kernel, by decide +kernel⟩, List.mem_of_getElem? (i := 722) (by decide +kernel), List.mem_of_getElem? (i := 993) (by decide +kernel), List.mem_of_getElem? (i := 994) (by decide +kernel)⟩
theorem lw_p74 : lw_okq (⟨"GrantKernelModel", "may", "(IIZ)Z"⟩, 40) := ⟨⟨by decide +kernel, by decide +kernel⟩, List.mem_of_getElem? (i := 722) (by decide +kernel), List.mem_of_getElem? (i := 997) (by decide +kernel), List.mem_of_getElem? (i := 998) (by decide +kernel)⟩
theorem lw_p75 : lw_okq (⟨"GrantKernelModel", "branch", "(II)V"⟩, 40) := ⟨⟨by decide +kernel, by decide +kernel⟩, List.mem_of_getElem? (i := 722) (by decide +kernel), List.mem_of_getElem? (i := 1001) (by decide +kernel), List.mem_of_getElem? (i := 1002) (by decide +kernel)⟩
theorem lw_p76 : lw_okq (⟨"GrantKernelModel", "stack", "(II)V"⟩, 40) := ⟨⟨by decide +kernel, by decide +kernel⟩, List.mem_of_getElem? (i := 722) (by decide +kernel), List.mem_of_getElem? (i := 1005) (by decide +kernel), List.mem_of_getElem? (i := 1006) (by decide +kernel)⟩
theorem lw_p77 : lw_okq (⟨"GrantKernelModel", "kernel", "(II)V"⟩, 40) := ⟨⟨by decide +kernel, by decide +kernel⟩, List.mem_of_getElem? (i := 722) (by decide +kernel), List.mem_of_getElem? (i := 1011) (by decide +kernel), List.mem_of_getElem? (i := 1012) (by decide +kernel)⟩
theorem lw_p78 : lw_okq (⟨"GrantKernelModel", "oldest", "(I)I"⟩, 40) := ⟨⟨by decide +kernel, by decide +kernel⟩, List.mem_of_getElem? (i := 722) (by decide +kernel), List.mem_of_getElem? (i := 1015) (by decide +kernel), List.mem_of_getElem? (i := 1016) (by decide +kernel)⟩
theorem lw_p79 : lw_okq (⟨"GrantKernelModel", "ensure", "(II)Z"⟩, 40) := ⟨⟨by decide +kernel, by decide +kernel⟩, List.mem_of_getElem? (i := 722) (by decide +kernel), List.mem_of_getElem? (i := 1019) (by decide +kernel), List.mem_of_getElem? (i := 1020) (by decide +kernel)⟩
def lw_privs_5 : List (MethodName × Nat) := [(⟨"GrantKernelModel", "inCode", "(II)Z"⟩, 40), (⟨"GrantKernelModel", "shifted", "(IIII)I"⟩, 40), (⟨"GrantKernelModel", "nz", "(II)V"⟩, 40), (⟨"GrantKernelModel", "setCarry", "(II)V"⟩, 40), (⟨"GrantKernelModel", "addOrTake", "(II)V"⟩, 40), (⟨"GrantKernelModel", "sum", "(IIII)I"⟩, 40), (⟨"GrantKernelModel", "immediate", "(II)V"⟩, 40), (⟨"GrantKernelModel", "calculate", "(II)V"⟩, 40), (⟨"GrantKernelModel", "leap", "(II)V"⟩, 40), (⟨"GrantKernelModel", "access", "(IIIZ)V"⟩, 40), (⟨"GrantKernelModel", "may", "(IIZ)Z"⟩, 40), (⟨"GrantKernelModel", "branch", "(II)V"⟩, 40), (⟨"GrantKernelModel", "stack", "(II)V"⟩, 40), (⟨"GrantKernelModel", "kernel", "(II)V"⟩, 40), (⟨"GrantKernelModel", "oldest", "(I)I"⟩, 40), (⟨"GrantKernelModel", "ensure", "(II)Z"⟩, 40)]
theorem lw_r5 : ∀ q ∈ lw_privs_5, lw_okq q := List.forall_mem_cons.mpr ⟨lw_p64, List.forall_mem_cons.mpr ⟨lw_p65, List.forall_mem_cons.mpr ⟨lw_p66, List.forall_mem_cons.mpr ⟨lw_p67, List.forall_mem_cons.mpr ⟨lw_p68, List.forall_mem_cons.mpr ⟨lw_p69, List.forall_mem_cons.mpr ⟨lw_p70, List.forall_mem_cons.mpr ⟨lw_p71, List.forall_mem_cons.mpr ⟨lw_p72, List.forall_mem_cons.mpr ⟨lw_p73, List.forall_mem_cons.mpr ⟨lw_p74, List.forall_mem_cons.mpr ⟨lw_p75, List.forall_mem_cons.mpr ⟨lw_p76, List.forall_mem_cons.mpr ⟨lw_p77, List.forall_mem_cons.mpr ⟨lw_p78, List.forall_mem_cons.mpr ⟨lw_p79, fun _ h => absurd h List.not_mem_nil⟩⟩⟩⟩⟩⟩⟩⟩⟩⟩⟩⟩⟩⟩⟩⟩
theorem lw_p80 : lw_okq (⟨"GrantKernelModel", "subscribe", "(IIII)I"⟩, 40) := ⟨⟨by decide +kernel, by decide +kernel⟩, List.mem_of_getElem? (i := 722) (by decide +kernel), List.mem_of_getElem? (i := 1023) (by decide +kernel), List.mem_of_getElem? (i := 1024) (by decide +kernel)⟩
theorem lw_p81 : lw_okq (⟨"GrantKernelModel", "command", "(IIII)I"⟩, 40) := ⟨⟨by decide +kernel, by decide +kernel⟩, List.mem_of_getElem? (i := 722) (by decide +kernel), List.mem_of_getElem? (i := 1027) (by decide +kernel), List.mem_of_getElem? (i := 1028) (by decide +kernel)⟩
theorem lw_p82 : lw_okq (⟨"GrantKernelModel", "print", "(II)I"⟩, 40) := ⟨⟨by decide +kernel, by decide +kernel⟩, List.mem_of_getElem? (i := 722) (by decide +kernel), List.mem_of_getElem? (i := 1031) (by decide +kernel), List.mem_of_getElem? (i := 1032) (by decide +kernel)⟩
theorem lw_p83 : lw_okq (⟨"GrantKernelModel", "receive", "(II)V"⟩, 40) := ⟨⟨by decide +kernel, by decide +kernel⟩, List.mem_of_getElem? (i := 722) (by decide +kernel), List.mem_of_getElem? (i := 1035) (by decide +kernel), List.mem_of_getElem? (i := 1036) (by decide +kernel)⟩
theorem lw_p84 : lw_okq (⟨"GrantKernelModel", "allow", "(IIII)I"⟩, 40) := ⟨⟨by decide +kernel, by decide +kernel⟩, List.mem_of_getElem? (i := 722) (by decide +kernel), List.mem_of_getElem? (i := 1039) (by decide +kernel), List.mem_of_getElem? (i := 1040) (by decide +kernel)⟩
theorem lw_p85 : lw_okq (⟨"GrantKernelModel", "holds", "(II)Z"⟩, 40) := ⟨⟨by decide +kernel, by decide +kernel⟩, List.mem_of_getElem? (i := 722) (by decide +kernel), List.mem_of_getElem? (i := 1043) (by decide +kernel), List.mem_of_getElem? (i := 1044) (by decide +kernel)⟩
theorem lw_p86 : lw_okq (⟨"GrantKernelModel", "stackWord", "(II)V"⟩, 40) := ⟨⟨by decide +kernel, by decide +kernel⟩, List.mem_of_getElem? (i := 722) (by decide +kernel), List.mem_of_getElem? (i := 1047) (by decide +kernel), List.mem_of_getElem? (i := 1048) (by decide +kernel)⟩
theorem lw_p87 : lw_okq (⟨"GrantKernelModel", "push", "(II)V"⟩, 40) := ⟨⟨by decide +kernel, by decide +kernel⟩, List.mem_of_getElem? (i := 722) (by decide +kernel), List.mem_of_getElem? (i := 1051) (by decide +kernel), List.mem_of_getElem? (i := 1052) (by decide +kernel)⟩
theorem lw_p88 : lw_okq (⟨"GrantKernelModel", "pop", "(II)V"⟩, 40) := ⟨⟨by decide +kernel, by decide +kernel⟩, List.mem_of_getElem? (i := 722) (by decide +kernel), List.mem_of_getElem? (i := 1058) (by decide +kernel), List.mem_of_getElem? (i := 1059) (by decide +kernel)⟩
theorem lw_p89 : lw_okq (⟨"GrantKernelModel", "faulted", "(I)V"⟩, 40) := ⟨⟨by decide +kernel, by decide +kernel⟩, List.mem_of_getElem? (i := 722) (by decide +kernel), List.mem_of_getElem? (i := 1062) (by decide +kernel), List.mem_of_getElem? (i := 1063) (by decide +kernel)⟩
theorem lw_p90 : lw_okq (⟨"GrantKernelModel", "halt", "(I)V"⟩, 40) := ⟨⟨by decide +kernel, by decide +kernel⟩, List.mem_of_getElem? (i := 722) (by decide +kernel), List.mem_of_getElem? (i := 1066) (by decide +kernel), List.mem_of_getElem? (i := 1067) (by decide +kernel)⟩
theorem lw_p91 : lw_okq (⟨"GrantKernelModel", "there", "(I)Z"⟩, 40) := ⟨⟨by decide +kernel, by decide +kernel⟩, List.mem_of_getElem? (i := 722) (by decide +kernel), List.mem_of_getElem? (i := 1098) (by decide +kernel), List.mem_of_getElem? (i := 1099) (by decide +kernel)⟩
def lw_privs_6 : List (MethodName × Nat) := [(⟨"GrantKernelModel", "subscribe", "(IIII)I"⟩, 40), (⟨"GrantKernelModel", "command", "(IIII)I"⟩, 40), (⟨"GrantKernelModel", "print", "(II)I"⟩, 40), (⟨"GrantKernelModel", "receive", "(II)V"⟩, 40), (⟨"GrantKernelModel", "allow", "(IIII)I"⟩, 40), (⟨"GrantKernelModel", "holds", "(II)Z"⟩, 40), (⟨"GrantKernelModel", "stackWord", "(II)V"⟩, 40), (⟨"GrantKernelModel", "push", "(II)V"⟩, 40), (⟨"GrantKernelModel", "pop", "(II)V"⟩, 40), (⟨"GrantKernelModel", "faulted", "(I)V"⟩, 40), (⟨"GrantKernelModel", "halt", "(I)V"⟩, 40), (⟨"GrantKernelModel", "there", "(I)Z"⟩, 40)]
theorem lw_r6 : ∀ q ∈ lw_privs_6, lw_okq q := List.forall_mem_cons.mpr ⟨lw_p80, List.forall_mem_cons.mpr ⟨lw_p81, List.forall_mem_cons.mpr ⟨lw_p82, List.forall_mem_cons.mpr ⟨lw_p83, List.forall_mem_cons.mpr ⟨lw_p84, List.forall_mem_cons.mpr ⟨lw_p85, List.forall_mem_cons.mpr ⟨lw_p86, List.forall_mem_cons.mpr ⟨lw_p87, List.forall_mem_cons.mpr ⟨lw_p88, List.forall_mem_cons.mpr ⟨lw_p89, List.forall_mem_cons.mpr ⟨lw_p90, List.forall_mem_cons.mpr ⟨lw_p91, fun _ h => absurd h List.not_mem_nil⟩⟩⟩⟩⟩⟩⟩⟩⟩⟩⟩⟩
def lw_privs : List (MethodName × Nat) := lw_privs_1 ++ (lw_privs_2 ++ (lw_privs_3 ++ (lw_privs_4 ++ (lw_privs_5 ++ (lw_privs_6)))))
def lw_tbl : List Cond := k2_sels lw_privs ++ tables_1
theorem lw_privs_ok : ∀ q ∈ lw_privs, lw_okq q := by
  show ∀ q ∈ lw_privs_1 ++ (lw_privs_2 ++ (lw_privs_3 ++ (lw_privs_4 ++ (lw_privs_5 ++ (lw_privs_6))))), lw_okq q
  exact List.forall_mem_append.mpr ⟨lw_r1, List.forall_mem_append.mpr ⟨lw_r2, List.forall_mem_append.mpr ⟨lw_r3, List.forall_mem_append.mpr ⟨lw_r4, List.forall_mem_append.mpr ⟨lw_r5, lw_r6⟩⟩⟩⟩⟩
end
section
/-! names, fields, codes (printed) -/
def nR_GK : String := "GrantKernel"
def nR_Me : String := "GrantKernel$Memory"
def nR_UQ : String := "GrantKernel$UpcallQueue"
def nR_No : String := "GrantKernel$Notes"
def nR_BP : String := "GrantKernel$BoardProcess"
def nR_Lo : String := "GrantKernel$Loader"
def nR_Co : String := "GrantKernel$Console"
def nR_Ke : String := "GrantKernel$Kernel"
def nR_Pr : String := "GrantKernel$Processor"
def nR_GM : String := "GrantKernelModel"
def nR_GL : String := "GrantKernelLaw"
def nR_JI : String := "java/lang/Integer"
def nT_GK : u_T := fun k => match k with
  | 0 => ("GrantKernel", "memory", "LGrantKernel$Memory;", true)
  | 1 => ("GrantKernel", "processes", "[LGrantKernel$BoardProcess;", true)
  | 2 => ("GrantKernel", "console", "LGrantKernel$Console;", true)
  | 3 => ("GrantKernel", "kernel", "LGrantKernel$Kernel;", true)
  | 4 => ("GrantKernel", "loader", "LGrantKernel$Loader;", true)
  | 5 => ("GrantKernel", "processor", "LGrantKernel$Processor;", true)
  | 6 => ("GrantKernel", "processCount", "I", false)
  | 7 => ("GrantKernel", "turn", "I", false)
  | _ => ("GrantKernel", "left", "I", false)
def nt_GK : Nat → FieldType := fun k => match k with
  | 0 => .object "GrantKernel$Memory"
  | 1 => .array (.object "GrantKernel$BoardProcess")
  | 2 => .object "GrantKernel$Console"
  | 3 => .object "GrantKernel$Kernel"
  | 4 => .object "GrantKernel$Loader"
  | 5 => .object "GrantKernel$Processor"
  | 6 => .int
  | 7 => .int
  | _ => .int
def nT_Me : u_T := fun k => match k with
  | 0 => ("GrantKernel$Memory", "flash", "[I", true)
  | _ => ("GrantKernel$Memory", "ram", "[I", true)
def nt_Me : Nat → FieldType := fun k => match k with
  | 0 => .array (.int)
  | _ => .array (.int)
def nT_UQ : u_T := fun k => match k with
  | 0 => ("GrantKernel$UpcallQueue", "drivers", "[I", true)
  | 1 => ("GrantKernel$UpcallQueue", "firsts", "[I", true)
  | 2 => ("GrantKernel$UpcallQueue", "seconds", "[I", true)
  | _ => ("GrantKernel$UpcallQueue", "count", "I", false)
def nt_UQ : Nat → FieldType := fun k => match k with
  | 0 => .array (.int)
  | 1 => .array (.int)
  | 2 => .array (.int)
  | _ => .int
def nT_No : u_T := fun k => match k with
  | 0 => ("GrantKernel$Notes", "grants", "[I", true)
  | 1 => ("GrantKernel$Notes", "functions", "[I", true)
  | 2 => ("GrantKernel$Notes", "data", "[I", true)
  | 3 => ("GrantKernel$Notes", "bufferAddresses", "[I", true)
  | 4 => ("GrantKernel$Notes", "bufferWords", "[I", true)
  | 5 => ("GrantKernel$Notes", "upcalls", "LGrantKernel$UpcallQueue;", true)
  | _ => ("GrantKernel$Notes", "grantWords", "I", false)
def nt_No : Nat → FieldType := fun k => match k with
  | 0 => .array (.int)
  | 1 => .array (.int)
  | 2 => .array (.int)
  | 3 => .array (.int)
  | 4 => .array (.int)
  | 5 => .object "GrantKernel$UpcallQueue"
  | _ => .int
def nT_BP : u_T := fun k => match k with
  | 0 => ("GrantKernel$BoardProcess", "memory", "LGrantKernel$Memory;", true)
  | 1 => ("GrantKernel$BoardProcess", "notes", "LGrantKernel$Notes;", true)
  | 2 => ("GrantKernel$BoardProcess", "codeStart", "I", false)
  | 3 => ("GrantKernel$BoardProcess", "codeEnd", "I", false)
  | 4 => ("GrantKernel$BoardProcess", "entry", "I", false)
  | 5 => ("GrantKernel$BoardProcess", "blockAddress", "I", false)
  | 6 => ("GrantKernel$BoardProcess", "blockWords", "I", false)
  | 7 => ("GrantKernel$BoardProcess", "keepWords", "I", false)
  | 8 => ("GrantKernel$BoardProcess", "openWords", "I", false)
  | 9 => ("GrantKernel$BoardProcess", "policy", "I", false)
  | 10 => ("GrantKernel$BoardProcess", "low", "[I", true)
  | 11 => ("GrantKernel$BoardProcess", "sp", "I", false)
  | 12 => ("GrantKernel$BoardProcess", "lr", "I", false)
  | 13 => ("GrantKernel$BoardProcess", "pc", "I", false)
  | 14 => ("GrantKernel$BoardProcess", "flags", "I", false)
  | 15 => ("GrantKernel$BoardProcess", "inFrame", "Z", false)
  | 16 => ("GrantKernel$BoardProcess", "state", "I", false)
  | 17 => ("GrantKernel$BoardProcess", "latestFault", "I", false)
  | 18 => ("GrantKernel$BoardProcess", "faultCount", "I", false)
  | _ => ("GrantKernel$BoardProcess", "faultRestarts", "I", false)
def nt_BP : Nat → FieldType := fun k => match k with
  | 0 => .object "GrantKernel$Memory"
  | 1 => .object "GrantKernel$Notes"
  | 2 => .int
  | 3 => .int
  | 4 => .int
  | 5 => .int
  | 6 => .int
  | 7 => .int
  | 8 => .int
  | 9 => .int
  | 10 => .array (.int)
  | 11 => .int
  | 12 => .int
  | 13 => .int
  | 14 => .int
  | 15 => .boolean
  | 16 => .int
  | 17 => .int
  | 18 => .int
  | _ => .int
def nT_Lo : u_T := fun k => match k with
  | 0 => ("GrantKernel$Loader", "memory", "LGrantKernel$Memory;", true)
  | 1 => ("GrantKernel$Loader", "processes", "[LGrantKernel$BoardProcess;", true)
  | 2 => ("GrantKernel$Loader", "loaded", "I", false)
  | _ => ("GrantKernel$Loader", "usedWords", "I", false)
def nt_Lo : Nat → FieldType := fun k => match k with
  | 0 => .object "GrantKernel$Memory"
  | 1 => .array (.object "GrantKernel$BoardProcess")
  | 2 => .int
  | _ => .int
def nT_Co : u_T := fun k => match k with
  | 0 => ("GrantKernel$Console", "inputs", "[I", true)
  | 1 => ("GrantKernel$Console", "outputRing", "[I", true)
  | 2 => ("GrantKernel$Console", "inputCount", "I", false)
  | _ => ("GrantKernel$Console", "outputCount", "I", false)
def nt_Co : Nat → FieldType := fun k => match k with
  | 0 => .array (.int)
  | 1 => .array (.int)
  | 2 => .int
  | _ => .int
def nT_Ke : u_T := fun k => match k with
  | 0 => ("GrantKernel$Kernel", "memory", "LGrantKernel$Memory;", true)
  | 1 => ("GrantKernel$Kernel", "processes", "[LGrantKernel$BoardProcess;", true)
  | 2 => ("GrantKernel$Kernel", "console", "LGrantKernel$Console;", true)
  | _ => ("GrantKernel$Kernel", "now", "I", false)
def nt_Ke : Nat → FieldType := fun k => match k with
  | 0 => .object "GrantKernel$Memory"
  | 1 => .array (.object "GrantKernel$BoardProcess")
  | 2 => .object "GrantKernel$Console"
  | _ => .int
def nT_Pr : u_T := fun k => match k with
  | 0 => ("GrantKernel$Processor", "memory", "LGrantKernel$Memory;", true)
  | _ => ("GrantKernel$Processor", "next", "I", false)
def nt_Pr : Nat → FieldType := fun k => match k with
  | 0 => .object "GrantKernel$Memory"
  | _ => .int
def nT_GM : u_T := fun k => match k with
  | 0 => ("GrantKernelModel", "flash", "[I", false)
  | 1 => ("GrantKernelModel", "ram", "[I", false)
  | 2 => ("GrantKernelModel", "now", "I", false)
  | 3 => ("GrantKernelModel", "turn", "I", false)
  | 4 => ("GrantKernelModel", "left", "I", false)
  | 5 => ("GrantKernelModel", "processes", "I", false)
  | 6 => ("GrantKernelModel", "from", "[I", false)
  | 7 => ("GrantKernelModel", "total", "[I", false)
  | 8 => ("GrantKernelModel", "base", "[I", false)
  | 9 => ("GrantKernelModel", "size", "[I", false)
  | 10 => ("GrantKernelModel", "keep", "[I", false)
  | 11 => ("GrantKernelModel", "entry", "[I", false)
  | 12 => ("GrantKernelModel", "policy", "[I", false)
  | 13 => ("GrantKernelModel", "states", "[I", false)
  | 14 => ("GrantKernelModel", "general", "[I", false)
  | 15 => ("GrantKernelModel", "sp", "[I", false)
  | 16 => ("GrantKernelModel", "lr", "[I", false)
  | 17 => ("GrantKernelModel", "pc", "[I", false)
  | 18 => ("GrantKernelModel", "flags", "[I", false)
  | 19 => ("GrantKernelModel", "framed", "[Z", false)
  | 20 => ("GrantKernelModel", "latest", "[I", false)
  | 21 => ("GrantKernelModel", "many", "[I", false)
  | 22 => ("GrantKernelModel", "again", "[I", false)
  | 23 => ("GrantKernelModel", "rank", "[I", false)
  | 24 => ("GrantKernelModel", "function", "[I", false)
  | 25 => ("GrantKernelModel", "data", "[I", false)
  | 26 => ("GrantKernelModel", "buffer", "[I", false)
  | 27 => ("GrantKernelModel", "words", "[I", false)
  | 28 => ("GrantKernelModel", "upcalls", "I", false)
  | 29 => ("GrantKernelModel", "owner", "[I", false)
  | 30 => ("GrantKernelModel", "driver", "[I", false)
  | 31 => ("GrantKernelModel", "first", "[I", false)
  | 32 => ("GrantKernelModel", "second", "[I", false)
  | 33 => ("GrantKernelModel", "inputs", "I", false)
  | 34 => ("GrantKernelModel", "input", "[I", false)
  | 35 => ("GrantKernelModel", "outs", "I", false)
  | 36 => ("GrantKernelModel", "out", "[I", false)
  | 37 => ("GrantKernelModel", "bad", "I", false)
  | 38 => ("GrantKernelModel", "carry", "I", false)
  | _ => ("GrantKernelModel", "next", "I", false)
def nt_GM : Nat → FieldType := fun k => match k with
  | 0 => .array (.int)
  | 1 => .array (.int)
  | 2 => .int
  | 3 => .int
  | 4 => .int
  | 5 => .int
  | 6 => .array (.int)
  | 7 => .array (.int)
  | 8 => .array (.int)
  | 9 => .array (.int)
  | 10 => .array (.int)
  | 11 => .array (.int)
  | 12 => .array (.int)
  | 13 => .array (.int)
  | 14 => .array (.int)
  | 15 => .array (.int)
  | 16 => .array (.int)
  | 17 => .array (.int)
  | 18 => .array (.int)
  | 19 => .array (.boolean)
  | 20 => .array (.int)
  | 21 => .array (.int)
  | 22 => .array (.int)
  | 23 => .array (.int)
  | 24 => .array (.int)
  | 25 => .array (.int)
  | 26 => .array (.int)
  | 27 => .array (.int)
  | 28 => .int
  | 29 => .array (.int)
  | 30 => .array (.int)
  | 31 => .array (.int)
  | 32 => .array (.int)
  | 33 => .int
  | 34 => .array (.int)
  | 35 => .int
  | 36 => .array (.int)
  | 37 => .int
  | 38 => .int
  | _ => .int
abbrev vwCl : List vw_C := [(nR_GK, nT_GK, 9), (nR_Me, nT_Me, 2), (nR_UQ, nT_UQ, 4), (nR_No, nT_No, 7), (nR_BP, nT_BP, 20), (nR_Lo, nT_Lo, 4), (nR_Co, nT_Co, 4), (nR_Ke, nT_Ke, 4), (nR_Pr, nT_Pr, 2), (nR_GM, nT_GM, 40)]
abbrev nc_GK_init : ByteArray := prog_1_method_1_code
def ny_GK_init : MethodName := ⟨nR_GK, "<init>", "()V"⟩
abbrev nc_GK_burn : ByteArray := prog_1_method_2_code
def ny_GK_burn : MethodName := ⟨nR_GK, "burn", "(II)I"⟩
abbrev nc_GK_boot : ByteArray := prog_1_method_3_code
def ny_GK_boot : MethodName := ⟨nR_GK, "boot", "()I"⟩
abbrev nc_GK_run : ByteArray := prog_1_method_4_code
def ny_GK_run : MethodName := ⟨nR_GK, "run", "(I)I"⟩
abbrev nc_GK_type : ByteArray := prog_1_method_5_code
def ny_GK_type : MethodName := ⟨nR_GK, "type", "(I)Z"⟩
abbrev nc_GK_sample : ByteArray := prog_1_method_6_code
def ny_GK_sample : MethodName := ⟨nR_GK, "sample", "(I)I"⟩
abbrev nc_GK_outputs : ByteArray := prog_1_method_7_code
def ny_GK_outputs : MethodName := ⟨nR_GK, "outputs", "()I"⟩
abbrev nc_GK_output : ByteArray := prog_1_method_8_code
def ny_GK_output : MethodName := ⟨nR_GK, "output", "(I)I"⟩
abbrev nc_GK_now : ByteArray := prog_1_method_9_code
def ny_GK_now : MethodName := ⟨nR_GK, "now", "()I"⟩
abbrev nc_GK_turn : ByteArray := prog_1_method_10_code
def ny_GK_turn : MethodName := ⟨nR_GK, "turn", "()I"⟩
abbrev nc_GK_state : ByteArray := prog_1_method_11_code
def ny_GK_state : MethodName := ⟨nR_GK, "state", "(I)I"⟩
abbrev nc_GK_register : ByteArray := prog_1_method_12_code
def ny_GK_register : MethodName := ⟨nR_GK, "register", "(II)I"⟩
abbrev nc_GK_word : ByteArray := prog_1_method_13_code
def ny_GK_word : MethodName := ⟨nR_GK, "word", "(I)I"⟩
abbrev nc_GK_block : ByteArray := prog_1_method_14_code
def ny_GK_block : MethodName := ⟨nR_GK, "block", "(I)I"⟩
abbrev nc_GK_open : ByteArray := prog_1_method_15_code
def ny_GK_open : MethodName := ⟨nR_GK, "open", "(I)I"⟩
abbrev nc_GK_grant : ByteArray := prog_1_method_16_code
def ny_GK_grant : MethodName := ⟨nR_GK, "grant", "(II)I"⟩
abbrev nc_GK_queued : ByteArray := prog_1_method_17_code
def ny_GK_queued : MethodName := ⟨nR_GK, "queued", "(I)I"⟩
abbrev nc_GK_fault : ByteArray := prog_1_method_18_code
def ny_GK_fault : MethodName := ⟨nR_GK, "fault", "(I)I"⟩
abbrev nc_GK_faults : ByteArray := prog_1_method_19_code
def ny_GK_faults : MethodName := ⟨nR_GK, "faults", "(I)I"⟩
abbrev nc_GK_restart : ByteArray := prog_1_method_20_code
def ny_GK_restart : MethodName := ⟨nR_GK, "restart", "(I)Z"⟩
abbrev nc_GK_stop : ByteArray := prog_1_method_21_code
def ny_GK_stop : MethodName := ⟨nR_GK, "stop", "(I)Z"⟩
abbrev nc_GK_find : ByteArray := prog_1_method_22_code
def ny_GK_find : MethodName := ⟨nR_GK, "find", "(I)LGrantKernel$BoardProcess;"⟩
abbrev nc_GK_giveTurn : ByteArray := prog_1_method_23_code
def ny_GK_giveTurn : MethodName := ⟨nR_GK, "giveTurn", "()Z"⟩
abbrev nc_GK_doInstruction : ByteArray := prog_1_method_24_code
def ny_GK_doInstruction : MethodName := ⟨nR_GK, "doInstruction", "(LGrantKernel$BoardProcess;)I"⟩
abbrev nc_GK_serve : ByteArray := prog_1_method_25_code
def ny_GK_serve : MethodName := ⟨nR_GK, "serve", "(LGrantKernel$BoardProcess;I)I"⟩
abbrev nc_GK_endStep : ByteArray := prog_1_method_26_code
def ny_GK_endStep : MethodName := ⟨nR_GK, "endStep", "(LGrantKernel$BoardProcess;I)V"⟩
abbrev nc_Me_init : ByteArray := prog_6_method_1_code
def ny_Me_init : MethodName := ⟨nR_Me, "<init>", "()V"⟩
abbrev nc_Me_halfword : ByteArray := prog_6_method_2_code
def ny_Me_halfword : MethodName := ⟨nR_Me, "halfword", "(I)I"⟩
abbrev nc_Me_flashWord : ByteArray := prog_6_method_3_code
def ny_Me_flashWord : MethodName := ⟨nR_Me, "flashWord", "(I)I"⟩
abbrev nc_Me_ramWord : ByteArray := prog_6_method_4_code
def ny_Me_ramWord : MethodName := ⟨nR_Me, "ramWord", "(I)I"⟩
abbrev nc_Me_setRamWord : ByteArray := prog_6_method_5_code
def ny_Me_setRamWord : MethodName := ⟨nR_Me, "setRamWord", "(II)V"⟩
abbrev nc_Me_clearRam : ByteArray := prog_6_method_6_code
def ny_Me_clearRam : MethodName := ⟨nR_Me, "clearRam", "(II)V"⟩
abbrev nc_UQ_init : ByteArray := prog_9_method_1_code
def ny_UQ_init : MethodName := ⟨nR_UQ, "<init>", "()V"⟩
abbrev nc_UQ_enqueue : ByteArray := prog_9_method_2_code
def ny_UQ_enqueue : MethodName := ⟨nR_UQ, "enqueue", "(III)V"⟩
abbrev nc_UQ_removeOldest : ByteArray := prog_9_method_3_code
def ny_UQ_removeOldest : MethodName := ⟨nR_UQ, "removeOldest", "()V"⟩
abbrev nc_UQ_removeDriver : ByteArray := prog_9_method_4_code
def ny_UQ_removeDriver : MethodName := ⟨nR_UQ, "removeDriver", "(I)V"⟩
abbrev nc_UQ_move : ByteArray := prog_9_method_5_code
def ny_UQ_move : MethodName := ⟨nR_UQ, "move", "(II)V"⟩
abbrev nc_No_init : ByteArray := prog_7_method_1_code
def ny_No_init : MethodName := ⟨nR_No, "<init>", "()V"⟩
abbrev nc_No_hasGrant : ByteArray := prog_7_method_2_code
def ny_No_hasGrant : MethodName := ⟨nR_No, "hasGrant", "(I)Z"⟩
abbrev nc_No_clear : ByteArray := prog_7_method_3_code
def ny_No_clear : MethodName := ⟨nR_No, "clear", "()V"⟩
abbrev nc_No_buffersEndBy : ByteArray := prog_7_method_4_code
def ny_No_buffersEndBy : MethodName := ⟨nR_No, "buffersEndBy", "(I)Z"⟩
abbrev nc_BP_init : ByteArray := prog_2_method_1_code
def ny_BP_init : MethodName := ⟨nR_BP, "<init>", "(LGrantKernel$Memory;)V"⟩
abbrev nc_BP_begin : ByteArray := prog_2_method_2_code
def ny_BP_begin : MethodName := ⟨nR_BP, "begin", "()V"⟩
abbrev nc_BP_halt : ByteArray := prog_2_method_3_code
def ny_BP_halt : MethodName := ⟨nR_BP, "halt", "()V"⟩
abbrev nc_BP_loseNotes : ByteArray := prog_2_method_4_code
def ny_BP_loseNotes : MethodName := ⟨nR_BP, "loseNotes", "()V"⟩
abbrev nc_BP_forgetFaults : ByteArray := prog_2_method_5_code
def ny_BP_forgetFaults : MethodName := ⟨nR_BP, "forgetFaults", "()V"⟩
abbrev nc_BP_fail : ByteArray := prog_2_method_6_code
def ny_BP_fail : MethodName := ⟨nR_BP, "fail", "(I)V"⟩
abbrev nc_BP_openWordsBefore : ByteArray := prog_2_method_7_code
def ny_BP_openWordsBefore : MethodName := ⟨nR_BP, "openWordsBefore", "(I)I"⟩
abbrev nc_BP_areOpen : ByteArray := prog_2_method_8_code
def ny_BP_areOpen : MethodName := ⟨nR_BP, "areOpen", "(II)Z"⟩
abbrev nc_BP_isInCode : ByteArray := prog_2_method_9_code
def ny_BP_isInCode : MethodName := ⟨nR_BP, "isInCode", "(I)Z"⟩
abbrev nc_BP_mayLoad : ByteArray := prog_2_method_10_code
def ny_BP_mayLoad : MethodName := ⟨nR_BP, "mayLoad", "(I)Z"⟩
abbrev nc_BP_readWord : ByteArray := prog_2_method_11_code
def ny_BP_readWord : MethodName := ⟨nR_BP, "readWord", "(I)I"⟩
abbrev nc_BP_frameWord : ByteArray := prog_2_method_12_code
def ny_BP_frameWord : MethodName := ⟨nR_BP, "frameWord", "(I)I"⟩
abbrev nc_BP_setFrameWord : ByteArray := prog_2_method_13_code
def ny_BP_setFrameWord : MethodName := ⟨nR_BP, "setFrameWord", "(II)V"⟩
abbrev nc_BP_stackFrame : ByteArray := prog_2_method_14_code
def ny_BP_stackFrame : MethodName := ⟨nR_BP, "stackFrame", "(I)Z"⟩
abbrev nc_BP_takeFrame : ByteArray := prog_2_method_15_code
def ny_BP_takeFrame : MethodName := ⟨nR_BP, "takeFrame", "()Z"⟩
abbrev nc_BP_registerValue : ByteArray := prog_2_method_16_code
def ny_BP_registerValue : MethodName := ⟨nR_BP, "registerValue", "(I)I"⟩
abbrev nc_Lo_init : ByteArray := prog_5_method_1_code
def ny_Lo_init : MethodName := ⟨nR_Lo, "<init>", "(LGrantKernel$Memory;[LGrantKernel$BoardProcess;)V"⟩
abbrev nc_Lo_loadAll : ByteArray := prog_5_method_2_code
def ny_Lo_loadAll : MethodName := ⟨nR_Lo, "loadAll", "()I"⟩
abbrev nc_Lo_isHeader : ByteArray := prog_5_method_3_code
def ny_Lo_isHeader : MethodName := ⟨nR_Lo, "isHeader", "(I)Z"⟩
abbrev nc_Lo_loadAt : ByteArray := prog_5_method_4_code
def ny_Lo_loadAt : MethodName := ⟨nR_Lo, "loadAt", "(I)V"⟩
abbrev nc_Co_init : ByteArray := prog_3_method_1_code
def ny_Co_init : MethodName := ⟨nR_Co, "<init>", "()V"⟩
abbrev nc_Co_clear : ByteArray := prog_3_method_2_code
def ny_Co_clear : MethodName := ⟨nR_Co, "clear", "()V"⟩
abbrev nc_Co_addInput : ByteArray := prog_3_method_3_code
def ny_Co_addInput : MethodName := ⟨nR_Co, "addInput", "(I)Z"⟩
abbrev nc_Co_removeInput : ByteArray := prog_3_method_4_code
def ny_Co_removeInput : MethodName := ⟨nR_Co, "removeInput", "()I"⟩
abbrev nc_Co_addOutput : ByteArray := prog_3_method_5_code
def ny_Co_addOutput : MethodName := ⟨nR_Co, "addOutput", "(I)V"⟩
abbrev nc_Co_latestOutput : ByteArray := prog_3_method_6_code
def ny_Co_latestOutput : MethodName := ⟨nR_Co, "latestOutput", "(I)I"⟩
abbrev nc_Ke_init : ByteArray := prog_4_method_1_code
def ny_Ke_init : MethodName := ⟨nR_Ke, "<init>", "(LGrantKernel$Memory;[LGrantKernel$BoardProcess;LGrantKernel$Console;)V"⟩
abbrev nc_Ke_beginTick : ByteArray := prog_4_method_2_code
def ny_Ke_beginTick : MethodName := ⟨nR_Ke, "beginTick", "()V"⟩
abbrev nc_Ke_takeInput : ByteArray := prog_4_method_3_code
def ny_Ke_takeInput : MethodName := ⟨nR_Ke, "takeInput", "(I)Z"⟩
abbrev nc_Ke_takeSample : ByteArray := prog_4_method_4_code
def ny_Ke_takeSample : MethodName := ⟨nR_Ke, "takeSample", "(I)I"⟩
abbrev nc_Ke_waitForUpcall : ByteArray := prog_4_method_5_code
def ny_Ke_waitForUpcall : MethodName := ⟨nR_Ke, "waitForUpcall", "(LGrantKernel$BoardProcess;)V"⟩
abbrev nc_Ke_answer : ByteArray := prog_4_method_6_code
def ny_Ke_answer : MethodName := ⟨nR_Ke, "answer", "(LGrantKernel$BoardProcess;I)I"⟩
abbrev nc_Ke_makeGrant : ByteArray := prog_4_method_7_code
def ny_Ke_makeGrant : MethodName := ⟨nR_Ke, "makeGrant", "(LGrantKernel$BoardProcess;I)Z"⟩
abbrev nc_Ke_subscribe : ByteArray := prog_4_method_8_code
def ny_Ke_subscribe : MethodName := ⟨nR_Ke, "subscribe", "(LGrantKernel$Notes;III)I"⟩
abbrev nc_Ke_allow : ByteArray := prog_4_method_9_code
def ny_Ke_allow : MethodName := ⟨nR_Ke, "allow", "(LGrantKernel$BoardProcess;III)I"⟩
abbrev nc_Ke_commandAlarm : ByteArray := prog_4_method_10_code
def ny_Ke_commandAlarm : MethodName := ⟨nR_Ke, "commandAlarm", "(LGrantKernel$BoardProcess;II)I"⟩
abbrev nc_Ke_setAlarm : ByteArray := prog_4_method_11_code
def ny_Ke_setAlarm : MethodName := ⟨nR_Ke, "setAlarm", "(II)I"⟩
abbrev nc_Ke_cancelAlarm : ByteArray := prog_4_method_12_code
def ny_Ke_cancelAlarm : MethodName := ⟨nR_Ke, "cancelAlarm", "(I)I"⟩
abbrev nc_Ke_commandConsole : ByteArray := prog_4_method_13_code
def ny_Ke_commandConsole : MethodName := ⟨nR_Ke, "commandConsole", "(LGrantKernel$BoardProcess;II)I"⟩
abbrev nc_Ke_putOut : ByteArray := prog_4_method_14_code
def ny_Ke_putOut : MethodName := ⟨nR_Ke, "putOut", "(LGrantKernel$BoardProcess;I)I"⟩
abbrev nc_Ke_commandSensor : ByteArray := prog_4_method_15_code
def ny_Ke_commandSensor : MethodName := ⟨nR_Ke, "commandSensor", "(LGrantKernel$BoardProcess;I)I"⟩
abbrev nc_Ke_isPending : ByteArray := prog_4_method_16_code
def ny_Ke_isPending : MethodName := ⟨nR_Ke, "isPending", "(LGrantKernel$BoardProcess;I)Z"⟩
abbrev nc_Ke_ringIfDue : ByteArray := prog_4_method_17_code
def ny_Ke_ringIfDue : MethodName := ⟨nR_Ke, "ringIfDue", "(LGrantKernel$BoardProcess;)V"⟩
abbrev nc_Ke_receive : ByteArray := prog_4_method_18_code
def ny_Ke_receive : MethodName := ⟨nR_Ke, "receive", "(LGrantKernel$BoardProcess;I)V"⟩
abbrev nc_Ke_upcall : ByteArray := prog_4_method_19_code
def ny_Ke_upcall : MethodName := ⟨nR_Ke, "upcall", "(LGrantKernel$BoardProcess;III)V"⟩
abbrev nc_Pr_init : ByteArray := prog_8_method_1_code
def ny_Pr_init : MethodName := ⟨nR_Pr, "<init>", "(LGrantKernel$Memory;)V"⟩
abbrev nc_Pr_execute : ByteArray := prog_8_method_2_code
def ny_Pr_execute : MethodName := ⟨nR_Pr, "execute", "(LGrantKernel$BoardProcess;)I"⟩
abbrev nc_Pr_dispatch : ByteArray := prog_8_method_3_code
def ny_Pr_dispatch : MethodName := ⟨nR_Pr, "dispatch", "(LGrantKernel$BoardProcess;I)I"⟩
abbrev nc_Pr_shiftByNumber : ByteArray := prog_8_method_4_code
def ny_Pr_shiftByNumber : MethodName := ⟨nR_Pr, "shiftByNumber", "(LGrantKernel$BoardProcess;I)I"⟩
abbrev nc_Pr_addThree : ByteArray := prog_8_method_5_code
def ny_Pr_addThree : MethodName := ⟨nR_Pr, "addThree", "(LGrantKernel$BoardProcess;I)I"⟩
abbrev nc_Pr_withByte : ByteArray := prog_8_method_6_code
def ny_Pr_withByte : MethodName := ⟨nR_Pr, "withByte", "(LGrantKernel$BoardProcess;I)I"⟩
abbrev nc_Pr_combine : ByteArray := prog_8_method_7_code
def ny_Pr_combine : MethodName := ⟨nR_Pr, "combine", "(LGrantKernel$BoardProcess;I)I"⟩
abbrev nc_Pr_bitwise : ByteArray := prog_8_method_8_code
def ny_Pr_bitwise : MethodName := ⟨nR_Pr, "bitwise", "(III)I"⟩
abbrev nc_Pr_jump : ByteArray := prog_8_method_9_code
def ny_Pr_jump : MethodName := ⟨nR_Pr, "jump", "(LGrantKernel$BoardProcess;I)I"⟩
abbrev nc_Pr_loadInto : ByteArray := prog_8_method_10_code
def ny_Pr_loadInto : MethodName := ⟨nR_Pr, "loadInto", "(LGrantKernel$BoardProcess;II)I"⟩
abbrev nc_Pr_storeFrom : ByteArray := prog_8_method_11_code
def ny_Pr_storeFrom : MethodName := ⟨nR_Pr, "storeFrom", "(LGrantKernel$BoardProcess;II)I"⟩
abbrev nc_Pr_moveStack : ByteArray := prog_8_method_12_code
def ny_Pr_moveStack : MethodName := ⟨nR_Pr, "moveStack", "(LGrantKernel$BoardProcess;I)I"⟩
abbrev nc_Pr_push : ByteArray := prog_8_method_13_code
def ny_Pr_push : MethodName := ⟨nR_Pr, "push", "(LGrantKernel$BoardProcess;I)I"⟩
abbrev nc_Pr_pop : ByteArray := prog_8_method_14_code
def ny_Pr_pop : MethodName := ⟨nR_Pr, "pop", "(LGrantKernel$BoardProcess;I)I"⟩
abbrev nc_Pr_branchIf : ByteArray := prog_8_method_15_code
def ny_Pr_branchIf : MethodName := ⟨nR_Pr, "branchIf", "(LGrantKernel$BoardProcess;I)I"⟩
abbrev nc_Pr_holds : ByteArray := prog_8_method_16_code
def ny_Pr_holds : MethodName := ⟨nR_Pr, "holds", "(II)Z"⟩
abbrev nc_Pr_shift : ByteArray := prog_8_method_17_code
def ny_Pr_shift : MethodName := ⟨nR_Pr, "shift", "(LGrantKernel$BoardProcess;III)I"⟩
abbrev nc_Pr_rotate : ByteArray := prog_8_method_18_code
def ny_Pr_rotate : MethodName := ⟨nR_Pr, "rotate", "(LGrantKernel$BoardProcess;II)I"⟩
abbrev nc_Pr_add : ByteArray := prog_8_method_19_code
def ny_Pr_add : MethodName := ⟨nR_Pr, "add", "(LGrantKernel$BoardProcess;III)I"⟩
abbrev nc_Pr_setSigns : ByteArray := prog_8_method_20_code
def ny_Pr_setSigns : MethodName := ⟨nR_Pr, "setSigns", "(LGrantKernel$BoardProcess;I)V"⟩
abbrev nc_Pr_setCarry : ByteArray := prog_8_method_21_code
def ny_Pr_setCarry : MethodName := ⟨nR_Pr, "setCarry", "(LGrantKernel$BoardProcess;Z)V"⟩
abbrev nc_GM_init : ByteArray := prog_11_method_1_code
def ny_GM_init : MethodName := ⟨nR_GM, "<init>", "()V"⟩
abbrev nc_GM_there : ByteArray := prog_11_method_2_code
def ny_GM_there : MethodName := ⟨nR_GM, "there", "(I)Z"⟩
abbrev nc_GM_burn : ByteArray := prog_11_method_3_code
def ny_GM_burn : MethodName := ⟨nR_GM, "burn", "(II)I"⟩
abbrev nc_GM_boot : ByteArray := prog_11_method_4_code
def ny_GM_boot : MethodName := ⟨nR_GM, "boot", "()I"⟩
abbrev nc_GM_load : ByteArray := prog_11_method_5_code
def ny_GM_load : MethodName := ⟨nR_GM, "load", "(III)V"⟩
abbrev nc_GM_begin : ByteArray := prog_11_method_6_code
def ny_GM_begin : MethodName := ⟨nR_GM, "begin", "(I)V"⟩
abbrev nc_GM_forget : ByteArray := prog_11_method_7_code
def ny_GM_forget : MethodName := ⟨nR_GM, "forget", "(I)V"⟩
abbrev nc_GM_drop : ByteArray := prog_11_method_8_code
def ny_GM_drop : MethodName := ⟨nR_GM, "drop", "(II)V"⟩
abbrev nc_GM_move : ByteArray := prog_11_method_9_code
def ny_GM_move : MethodName := ⟨nR_GM, "move", "(II)V"⟩
abbrev nc_GM_halt : ByteArray := prog_11_method_10_code
def ny_GM_halt : MethodName := ⟨nR_GM, "halt", "(I)V"⟩
abbrev nc_GM_openWords : ByteArray := prog_11_method_11_code
def ny_GM_openWords : MethodName := ⟨nR_GM, "openWords", "(II)I"⟩
abbrev nc_GM_granted : ByteArray := prog_11_method_12_code
def ny_GM_granted : MethodName := ⟨nR_GM, "granted", "(I)I"⟩
abbrev nc_GM_within : ByteArray := prog_11_method_13_code
def ny_GM_within : MethodName := ⟨nR_GM, "within", "(III)Z"⟩
abbrev nc_GM_isOpen : ByteArray := prog_11_method_14_code
def ny_GM_isOpen : MethodName := ⟨nR_GM, "isOpen", "(II)Z"⟩
abbrev nc_GM_inCode : ByteArray := prog_11_method_15_code
def ny_GM_inCode : MethodName := ⟨nR_GM, "inCode", "(II)Z"⟩
abbrev nc_GM_may : ByteArray := prog_11_method_16_code
def ny_GM_may : MethodName := ⟨nR_GM, "may", "(IIZ)Z"⟩
abbrev nc_GM_get : ByteArray := prog_11_method_17_code
def ny_GM_get : MethodName := ⟨nR_GM, "get", "(I)I"⟩
abbrev nc_GM_set : ByteArray := prog_11_method_18_code
def ny_GM_set : MethodName := ⟨nR_GM, "set", "(II)V"⟩
abbrev nc_GM_eight : ByteArray := prog_11_method_19_code
def ny_GM_eight : MethodName := ⟨nR_GM, "eight", "(II)Z"⟩
abbrev nc_GM_stack : ByteArray := prog_11_method_20_code
def ny_GM_stack : MethodName := ⟨nR_GM, "stack", "(II)V"⟩
abbrev nc_GM_unstack : ByteArray := prog_11_method_21_code
def ny_GM_unstack : MethodName := ⟨nR_GM, "unstack", "(I)V"⟩
abbrev nc_GM_nz : ByteArray := prog_11_method_22_code
def ny_GM_nz : MethodName := ⟨nR_GM, "nz", "(II)V"⟩
abbrev nc_GM_sum : ByteArray := prog_11_method_23_code
def ny_GM_sum : MethodName := ⟨nR_GM, "sum", "(IIII)I"⟩
abbrev nc_GM_setCarry : ByteArray := prog_11_method_24_code
def ny_GM_setCarry : MethodName := ⟨nR_GM, "setCarry", "(II)V"⟩
abbrev nc_GM_shifted : ByteArray := prog_11_method_25_code
def ny_GM_shifted : MethodName := ⟨nR_GM, "shifted", "(IIII)I"⟩
abbrev nc_GM_calculate : ByteArray := prog_11_method_26_code
def ny_GM_calculate : MethodName := ⟨nR_GM, "calculate", "(II)V"⟩
abbrev nc_GM_immediate : ByteArray := prog_11_method_27_code
def ny_GM_immediate : MethodName := ⟨nR_GM, "immediate", "(II)V"⟩
abbrev nc_GM_addOrTake : ByteArray := prog_11_method_28_code
def ny_GM_addOrTake : MethodName := ⟨nR_GM, "addOrTake", "(II)V"⟩
abbrev nc_GM_access : ByteArray := prog_11_method_29_code
def ny_GM_access : MethodName := ⟨nR_GM, "access", "(IIIZ)V"⟩
abbrev nc_GM_leap : ByteArray := prog_11_method_30_code
def ny_GM_leap : MethodName := ⟨nR_GM, "leap", "(II)V"⟩
abbrev nc_GM_named : ByteArray := prog_11_method_31_code
def ny_GM_named : MethodName := ⟨nR_GM, "named", "(I)I"⟩
abbrev nc_GM_push : ByteArray := prog_11_method_32_code
def ny_GM_push : MethodName := ⟨nR_GM, "push", "(II)V"⟩
abbrev nc_GM_pop : ByteArray := prog_11_method_33_code
def ny_GM_pop : MethodName := ⟨nR_GM, "pop", "(II)V"⟩
abbrev nc_GM_holds : ByteArray := prog_11_method_34_code
def ny_GM_holds : MethodName := ⟨nR_GM, "holds", "(II)Z"⟩
abbrev nc_GM_branch : ByteArray := prog_11_method_35_code
def ny_GM_branch : MethodName := ⟨nR_GM, "branch", "(II)V"⟩
abbrev nc_GM_stackWord : ByteArray := prog_11_method_36_code
def ny_GM_stackWord : MethodName := ⟨nR_GM, "stackWord", "(II)V"⟩
abbrev nc_GM_instruction : ByteArray := prog_11_method_37_code
def ny_GM_instruction : MethodName := ⟨nR_GM, "instruction", "(I)V"⟩
abbrev nc_GM_grantAddress : ByteArray := prog_11_method_38_code
def ny_GM_grantAddress : MethodName := ⟨nR_GM, "grantAddress", "(II)I"⟩
abbrev nc_GM_note : ByteArray := prog_11_method_39_code
def ny_GM_note : MethodName := ⟨nR_GM, "note", "(III)I"⟩
abbrev nc_GM_write : ByteArray := prog_11_method_40_code
def ny_GM_write : MethodName := ⟨nR_GM, "write", "(IIII)V"⟩
abbrev nc_GM_ensure : ByteArray := prog_11_method_41_code
def ny_GM_ensure : MethodName := ⟨nR_GM, "ensure", "(II)Z"⟩
abbrev nc_GM_kernel : ByteArray := prog_11_method_42_code
def ny_GM_kernel : MethodName := ⟨nR_GM, "kernel", "(II)V"⟩
abbrev nc_GM_oldest : ByteArray := prog_11_method_43_code
def ny_GM_oldest : MethodName := ⟨nR_GM, "oldest", "(I)I"⟩
abbrev nc_GM_subscribe : ByteArray := prog_11_method_44_code
def ny_GM_subscribe : MethodName := ⟨nR_GM, "subscribe", "(IIII)I"⟩
abbrev nc_GM_allow : ByteArray := prog_11_method_45_code
def ny_GM_allow : MethodName := ⟨nR_GM, "allow", "(IIII)I"⟩
abbrev nc_GM_command : ByteArray := prog_11_method_46_code
def ny_GM_command : MethodName := ⟨nR_GM, "command", "(IIII)I"⟩
abbrev nc_GM_print : ByteArray := prog_11_method_47_code
def ny_GM_print : MethodName := ⟨nR_GM, "print", "(II)I"⟩
abbrev nc_GM_receive : ByteArray := prog_11_method_48_code
def ny_GM_receive : MethodName := ⟨nR_GM, "receive", "(II)V"⟩
abbrev nc_GM_waiting : ByteArray := prog_11_method_49_code
def ny_GM_waiting : MethodName := ⟨nR_GM, "waiting", "(I)I"⟩
abbrev nc_GM_upcall : ByteArray := prog_11_method_50_code
def ny_GM_upcall : MethodName := ⟨nR_GM, "upcall", "(IIII)V"⟩
abbrev nc_GM_deliver : ByteArray := prog_11_method_51_code
def ny_GM_deliver : MethodName := ⟨nR_GM, "deliver", "(IIII)V"⟩
abbrev nc_GM_faulted : ByteArray := prog_11_method_52_code
def ny_GM_faulted : MethodName := ⟨nR_GM, "faulted", "(I)V"⟩
abbrev nc_GM_alarms : ByteArray := prog_11_method_53_code
def ny_GM_alarms : MethodName := ⟨nR_GM, "alarms", "()V"⟩
abbrev nc_GM_choose : ByteArray := prog_11_method_54_code
def ny_GM_choose : MethodName := ⟨nR_GM, "choose", "()Z"⟩
abbrev nc_GM_step : ByteArray := prog_11_method_55_code
def ny_GM_step : MethodName := ⟨nR_GM, "step", "(I)V"⟩
abbrev nc_GM_run : ByteArray := prog_11_method_56_code
def ny_GM_run : MethodName := ⟨nR_GM, "run", "(I)I"⟩
abbrev nc_GM_type : ByteArray := prog_11_method_57_code
def ny_GM_type : MethodName := ⟨nR_GM, "type", "(I)Z"⟩
abbrev nc_GM_sample : ByteArray := prog_11_method_58_code
def ny_GM_sample : MethodName := ⟨nR_GM, "sample", "(I)I"⟩
abbrev nc_GM_outputs : ByteArray := prog_11_method_59_code
def ny_GM_outputs : MethodName := ⟨nR_GM, "outputs", "()I"⟩
abbrev nc_GM_output : ByteArray := prog_11_method_60_code
def ny_GM_output : MethodName := ⟨nR_GM, "output", "(I)I"⟩
abbrev nc_GM_now : ByteArray := prog_11_method_61_code
def ny_GM_now : MethodName := ⟨nR_GM, "now", "()I"⟩
abbrev nc_GM_turn : ByteArray := prog_11_method_62_code
def ny_GM_turn : MethodName := ⟨nR_GM, "turn", "()I"⟩
abbrev nc_GM_state : ByteArray := prog_11_method_63_code
def ny_GM_state : MethodName := ⟨nR_GM, "state", "(I)I"⟩
abbrev nc_GM_register : ByteArray := prog_11_method_64_code
def ny_GM_register : MethodName := ⟨nR_GM, "register", "(II)I"⟩
abbrev nc_GM_word : ByteArray := prog_11_method_65_code
def ny_GM_word : MethodName := ⟨nR_GM, "word", "(I)I"⟩
abbrev nc_GM_block : ByteArray := prog_11_method_66_code
def ny_GM_block : MethodName := ⟨nR_GM, "block", "(I)I"⟩
abbrev nc_GM_open : ByteArray := prog_11_method_67_code
def ny_GM_open : MethodName := ⟨nR_GM, "open", "(I)I"⟩
abbrev nc_GM_grant : ByteArray := prog_11_method_68_code
def ny_GM_grant : MethodName := ⟨nR_GM, "grant", "(II)I"⟩
abbrev nc_GM_queued : ByteArray := prog_11_method_69_code
def ny_GM_queued : MethodName := ⟨nR_GM, "queued", "(I)I"⟩
abbrev nc_GM_fault : ByteArray := prog_11_method_70_code
def ny_GM_fault : MethodName := ⟨nR_GM, "fault", "(I)I"⟩
abbrev nc_GM_faults : ByteArray := prog_11_method_71_code
def ny_GM_faults : MethodName := ⟨nR_GM, "faults", "(I)I"⟩
abbrev nc_GM_restart : ByteArray := prog_11_method_72_code
def ny_GM_restart : MethodName := ⟨nR_GM, "restart", "(I)Z"⟩
abbrev nc_GM_stop : ByteArray := prog_11_method_73_code
def ny_GM_stop : MethodName := ⟨nR_GM, "stop", "(I)Z"⟩
abbrev nc_JI_bitCount : ByteArray := prog_12_method_49_code
def ny_JI_bitCount : MethodName := ⟨nR_JI, "bitCount", "(I)I"⟩
end
section
/-! the pure state: cells by kind and index, slots; the values; a system's layout; the world that a state is -/
abbrev zS : Type := Nat → Nat → Nat → Int32
def zu (σ : zS) (k p i : Nat) (v : Int32) : zS := fun a b => if a = k ∧ b = p then upd (σ k p) i v else σ a b
abbrev zV : Type := Int32 ⊕ Int64 ⊕ Option (Nat × Nat)
abbrev zI (x : Int32) : zV := Sum.inl x
abbrev zJ (x : Int64) : zV := Sum.inr (Sum.inl x)
abbrev zR (k p : Nat) : zV := Sum.inr (Sum.inr (some (k, p)))
abbrev zN : zV := Sum.inr (Sum.inr none)
abbrev zAd : Type := Nat → Nat → Nat
def zv (ad : zAd) : zV → Value
  | .inl x => .int x
  | .inr (.inl x) => .long x
  | .inr (.inr none) => .null
  | .inr (.inr (some q)) => .ref (ad q.1 q.2)
/-- a kind of cell: an object (its number in vwCl; its fields: a number, or a reference to a cell of a kind, with the same index or index 0), or an array (length, type's number; numbers, or references to the cells of a kind) -/
abbrev zC : Type := (Nat × List (Option (Nat × Bool))) ⊕ (Nat × Nat × Option Nat)
abbrev zY : Type := List (Nat × zC)
def zf (ad : zAd) (f : Nat → Int32) (p : Nat) (fl : List (Option (Nat × Bool))) : List Value := fl.mapIdx (fun i t => match t with
  | none => .int (f i)
  | some q => .ref (ad q.1 (if q.2 then p else 0)))
def ze (ad : zAd) (cA : Nat → ClassId) (σ : zS) (k p : Nat) : zC → va_E
  | .inl o => .inr (o.1, zf ad (σ k p) p o.2)
  | .inr (n, t, none) => .inl (cA t, n, .inl (σ k p))
  | .inr (n, t, some k') => .inl (cA t, n, .inr (.inr (.inr (.inr (fun i => some (ad k' i))))))
def zks (Y : zY) : List (Nat × Nat × zC) := (List.range Y.length).flatMap (fun k => match Y[k]? with
  | some q => (List.range q.1).map (fun p => (k, p, q.2))
  | none => [])
def zw (ad : zAd) (cA : Nat → ClassId) (Y : zY) (σ : zS) : va_W := (zks Y).map (fun q => (ad q.1 q.2.1, ze ad cA σ q.1 q.2.1 q.2.2))
def zty (cA : Nat → ClassId) (TY : List FieldType) : List (ClassId × FieldType) := TY.mapIdx (fun i t => (cA i, t))
theorem zks_mem {Y : zY} {k p : Nat} {c : zC} : (k, p, c) ∈ zks Y ↔ ∃ n, Y[k]? = some (n, c) ∧ p < n := by
  unfold zks
  rw [List.mem_flatMap]
  constructor
  · rintro ⟨k1, h1, h2⟩
    cases hY : Y[k1]? with
    | none => rw [hY] at h2; simp at h2
    | some q =>
      rw [hY] at h2
      simp only [List.mem_map, List.mem_range] at h2
      obtain ⟨p1, h3, h4⟩ := h2
      simp only [Prod.mk.injEq] at h4
      obtain ⟨rfl, rfl, rfl⟩ := h4
      exact ⟨q.1, hY, h3⟩
  · rintro ⟨n, hY, hp⟩
    refine ⟨k, List.mem_range.mpr (List.getElem?_eq_some_iff.mp hY).1, ?_⟩
    rw [hY]
    simp only [List.mem_map, List.mem_range]
    exact ⟨p, hp, rfl⟩
theorem zf_at {ad : zAd} {f : Nat → Int32} {p i : Nat} {fl : List (Option (Nat × Bool))} (h : fl[i]? = some none) : (zf ad f p fl)[i]? = some (.int (f i)) := by
  simp [zf, List.getElem?_mapIdx, h]
theorem zf_atR {ad : zAd} {f : Nat → Int32} {p i : Nat} {q : Nat × Bool} {fl : List (Option (Nat × Bool))} (h : fl[i]? = some (some q)) : (zf ad f p fl)[i]? = some (.ref (ad q.1 (if q.2 then p else 0))) := by
  simp [zf, List.getElem?_mapIdx, h]
theorem zf_set {ad : zAd} {f : Nat → Int32} {p i : Nat} {v : Int32} {fl : List (Option (Nat × Bool))} (h : fl[i]? = some none) : (zf ad f p fl).set i (.int v) = zf ad (upd f i v) p fl := by
  refine List.ext_getElem? (fun j => ?_)
  rw [List.getElem?_set]
  by_cases hj : i = j
  · subst hj
    have hl : i < (zf ad f p fl).length := by
      have := (List.getElem?_eq_some_iff.mp h).1
      simpa [zf] using this
    rw [if_pos rfl, if_pos hl, zf_at h]
    simp [upd]
  · rw [if_neg hj]
    unfold zf
    rw [List.getElem?_mapIdx, List.getElem?_mapIdx]
    cases hq : fl[j]? with
    | none => rfl
    | some t =>
      cases t with
      | none => simp [upd, Ne.symm hj]
      | some q => rfl
theorem zw_at {ad : zAd} {cA : Nat → ClassId} {Y : zY} {σ : zS} {k p n : Nat} {c : zC} (hY : Y[k]? = some (n, c)) (hp : p < n) : ∃ i : Nat, (zks Y)[i]? = some (k, p, c) ∧ (zw ad cA Y σ)[i]? = some (ad k p, ze ad cA σ k p c) := by
  obtain ⟨i, hi⟩ := List.mem_iff_getElem?.mp (zks_mem.mpr ⟨n, hY, hp⟩)
  refine ⟨i, hi, ?_⟩
  unfold zw
  rw [List.getElem?_map, hi]
  rfl
def zkey (Y : zY) : List (Nat × Nat) := (zks Y).map (fun q => (q.1, q.2.1))
theorem zks_inj {Y : zY} (hN : (zkey Y).Nodup) {i j k p : Nat} {c c' : zC} (hi : (zks Y)[i]? = some (k, p, c)) (hj : (zks Y)[j]? = some (k, p, c')) : i = j := by
  have h1 : (zkey Y)[i]? = some (k, p) := by unfold zkey; rw [List.getElem?_map, hi]; rfl
  have h2 : (zkey Y)[j]? = some (k, p) := by unfold zkey; rw [List.getElem?_map, hj]; rfl
  have hl := (List.getElem?_eq_some_iff.mp h1).1
  exact (List.getElem?_inj hl hN).mp (h1.trans h2.symm)
theorem zu_o {σ : zS} {k p i a b : Nat} {v : Int32} (h : ¬ (a = k ∧ b = p)) : zu σ k p i v a b = σ a b := by
  unfold zu; rw [if_neg h]
theorem zu_s {σ : zS} {k p i : Nat} {v : Int32} : zu σ k p i v k p = upd (σ k p) i v := by
  unfold zu; rw [if_pos ⟨rfl, rfl⟩]
theorem ze_o {ad : zAd} {cA : Nat → ClassId} {σ τ : zS} {k p : Nat} {c : zC} (h : σ k p = τ k p) : ze ad cA σ k p c = ze ad cA τ k p c := by
  unfold ze; rw [h]
theorem zw_set {ad : zAd} {cA : Nat → ClassId} {Y : zY} {σ : zS} {k p i j : Nat} {c : zC} {v : Int32} (hN : (zkey Y).Nodup) (hi : (zks Y)[i]? = some (k, p, c)) : (zw ad cA Y σ).set i (ad k p, ze ad cA (zu σ k p j v) k p c) = zw ad cA Y (zu σ k p j v) := by
  refine List.ext_getElem? (fun a => ?_)
  rw [List.getElem?_set]
  by_cases ha : i = a
  · subst ha
    have hl : i < (zw ad cA Y σ).length := by
      have := (List.getElem?_eq_some_iff.mp hi).1
      simpa [zw] using this
    rw [if_pos rfl, if_pos hl]
    unfold zw
    rw [List.getElem?_map, hi]
    rfl
  · rw [if_neg ha]
    unfold zw
    rw [List.getElem?_map, List.getElem?_map]
    cases hq : (zks Y)[a]? with
    | none => rfl
    | some q =>
      obtain ⟨k1, p1, c1⟩ := q
      show some (ad k1 p1, ze ad cA σ k1 p1 c1) = some (ad k1 p1, ze ad cA (zu σ k p j v) k1 p1 c1)
      rw [ze_o (zu_o (σ := σ) (i := j) (v := v) (fun h => ha (by obtain ⟨rfl, rfl⟩ := h; exact zks_inj hN hi hq)))]
/-- addresses: D, the arrays' kinds, the cells -/
abbrev zG : Type := va_G × (Nat → ClassId) × zAd
/-- a system: launch, layout, array types, words, addresses -/
abbrev zQS : Type := Launch × zY × List FieldType × List Cond × zG
/-- a method: name, code, locals, answer, room -/
abbrev zMd : Type := MethodName × ByteArray × Nat × Option FieldType × Room
abbrev zX : Type := Program × Env × State × MethodId × Array Value × List Frame × Method × Code
abbrev zAns : Type := zS × Option zV
def zP (S : zQS) (σ : zS) (H : Heap) : Prop := va_P S.2.2.2.2.1 vwCl (zw S.2.2.2.2.2.2 S.2.2.2.2.2.1 S.2.1 σ) H
def zK (S : zQS) (U : State) : Prop := va_K S.2.2.2.2.1 vwCl (zty S.2.2.2.2.2.1 S.2.2.1) U
def zB (S : zQS) (σ : zS) (U : State) : Prop := zP S σ U.heap ∧ zK S U
def zA (S : zQS) : Nat → Prop := fun q => ∃ (k p n : Nat) (c : zC), S.2.1[k]? = some (n, c) ∧ p < n ∧ q = S.2.2.2.2.2.2 k p
/-- the addresses are apart; the layout names no cell twice; the words can go with a call -/
def zJ0 (S : zQS) : Prop := (∀ (k p n : Nat) (c : zC) (k' p' n' : Nat) (c' : zC), S.2.1[k]? = some (n, c) → p < n → S.2.1[k']? = some (n', c') → p' < n' → S.2.2.2.2.2.2 k p = S.2.2.2.2.2.2 k' p' → k = k' ∧ p = p') ∧ (zkey S.2.1).Nodup ∧ GoodIn S.2.2.2.1 S.2.2.2.1
theorem zD {S : zQS} (h : zJ0 S) (σ : zS) : va_D (zA S) (zw S.2.2.2.2.2.2 S.2.2.2.2.2.1 S.2.1 σ) := by
  have at' : ∀ (i : Nat) (q : Nat × va_E), (zw S.2.2.2.2.2.2 S.2.2.2.2.2.1 S.2.1 σ)[i]? = some q → ∃ (k p n : Nat) (c : zC), (zks S.2.1)[i]? = some (k, p, c) ∧ S.2.1[k]? = some (n, c) ∧ p < n ∧ q.1 = S.2.2.2.2.2.2 k p := by
    intro i q hq
    unfold zw at hq
    rw [List.getElem?_map] at hq
    cases hk : (zks S.2.1)[i]? with
    | none => rw [hk] at hq; cases hq
    | some x =>
      obtain ⟨k, p, c⟩ := x
      rw [hk] at hq
      obtain ⟨n, h1, h2⟩ := zks_mem.mp (List.mem_of_getElem? hk)
      refine ⟨k, p, n, c, rfl, h1, h2, ?_⟩
      cases hq
      rfl
  refine ⟨fun i j a b ha hb hab => ?_, fun i q hq => ?_⟩
  · obtain ⟨k, p, n, c, h1, h2, h3, h4⟩ := at' i a ha
    obtain ⟨k', p', n', c', g1, g2, g3, g4⟩ := at' j b hb
    obtain ⟨rfl, rfl⟩ := h.1 k p n c k' p' n' c' h2 h3 g2 g3 (h4.symm.trans (hab.trans g4))
    exact zks_inj h.2.1 h1 g1
  · obtain ⟨k, p, n, c, -, h2, h3, h4⟩ := at' i q hq
    exact ⟨k, p, n, c, h2, h3, h4⟩
def zQ (S : zQS) (r : zAns) : Array Value → State → Outcome → State → Prop := fun _ st oc t => (oc = .returned (r.2.map (zv S.2.2.2.2.2.2)) ∧ zB S r.1 t) ∧ va_F (zA S) st t
/-- the contract of a method: from the state σ, with these arguments, to that answer -/
def zM (S : zQS) (M : zMd) (vs : List zV) (σ : zS) (r : zAns) : Prop := Met S.1 M.1 (.code M.1 M.2.1 M.2.2.1 M.2.2.2.1 :: S.2.2.2.1) M.2.2.2.2 (va_Pc (vs.map (zv S.2.2.2.2.2.2)) (zB S σ)) (zQ S r) 0 0 (zA S)
/-- locals -/
def zL (ad : zAd) (ls : Array Slot) (nL : Nat) (L : List (Option zV)) : Prop := ls.size = nL ∧ lv_wf ls ∧ ∀ (i : Nat) (v : zV), L[i]? = some (some v) → ls[i]? = some (.val (zv ad v))
def zO (S : zQS) (M : zMd) (X : zX) : Prop := zJ0 S ∧ X.1.tables.exec = Jvm.exec ∧ X.2.2.2.2.2.2.2.code = M.2.1 ∧ X.2.2.2.2.2.2.2.maxLocals = M.2.2.1 ∧ X.2.2.1.vm.findClass M.1.cls = some X.2.2.2.1.cls ∧ (∀ w ∈ S.2.2.2.1, w.before X.2.2.2.2.1 X.2.2.1 = true) ∧ zK S X.2.2.1 ∧ X.2.2.2.2.2.2.1.sig.returnType = M.2.2.2.1 ∧ X.2.2.2.2.2.2.1.locks = false
/-- the judgement: from here the method comes to the answer r -/
def ZW (S : zQS) (M : zMd) (r : zAns) (X : zX) (pc : Nat) (L : List (Option zV)) (st : List zV) (σ : zS) : Prop :=
  ∀ (H : Heap) (locs : List Loc) (ls : Array Slot), zP S σ H → va_S (zA S) X.2.2.1.heap H locs → zL S.2.2.2.2.2.2 ls M.2.2.1 L →
    W X.1 S.1 X.2.1 M.2.2.2.2 X.2.2.1 X.2.2.2.1 X.2.2.2.2.1 X.2.2.2.2.2.1 X.2.2.2.2.2.2.1 X.2.2.2.2.2.2.2 H locs 0 0 (MQ X.2.2.2.2.2.1 (zQ S r) X.2.2.2.2.1 X.2.2.1 0 0 (zA S)) (F0 X.2.2.2.1 pc ls (st.map (zv S.2.2.2.2.2.2)))
def zc1 : zV → Bool
  | .inr (.inl _) => false
  | _ => true
theorem zc1_cat {ad : zAd} {v : zV} (h : zc1 v = true) : (zv ad v).category = 1 := by
  rcases v with x | x | x
  · rfl
  · cases h
  · cases x <;> rfl
theorem zargs_mem {ad : zAd} : ∀ (vs : List zV) (j i : Nat) (v : zV), vs.all zc1 = true → vs[i]? = some v → (j + i, zv ad v) ∈ lv_args j (vs.map (zv ad)) := by
  intro vs
  induction vs with
  | nil => intro j i v _ h; simp at h
  | cons a r ih =>
    intro j i v h1 h2
    simp only [List.all_cons, Bool.and_eq_true] at h1
    have hc : ¬ (zv ad a).category = 2 := by rw [zc1_cat h1.1]; decide
    show (j + i, zv ad v) ∈ (j, zv ad a) :: lv_args (if (zv ad a).category = 2 then j + 2 else j + 1) (r.map (zv ad))
    rw [if_neg hc]
    cases i with
    | zero =>
      simp at h2
      subst h2
      exact List.mem_cons_self
    | succ i =>
      have := ih (j + 1) i v h1.2 (by simpa using h2)
      rw [show j + (i + 1) = j + 1 + i by omega]
      exact List.mem_cons_of_mem _ this
theorem zsl_len {ad : zAd} : ∀ (vs : List zV), vs.all zc1 = true → (lg_sl (vs.map (zv ad))).length = vs.length := by
  intro vs
  induction vs with
  | nil => intro _; rfl
  | cons a r ih =>
    intro h1
    simp only [List.all_cons, Bool.and_eq_true] at h1
    have hc : ¬ (zv ad a).category = 2 := by rw [zc1_cat h1.1]; decide
    have := ih h1.2
    simp only [lg_sl, List.map_cons, List.flatMap_cons, if_neg hc, List.length_append, List.length_cons, List.length_nil] at this ⊢
    omega
/-- a method's contract out of a walk in the judgement -/
theorem zMet {S : zQS} {M : zMd} {vs : List zV} {σ : zS} {r : zAns} (L0 : List (Option zV)) (hJ : zJ0 S) (hn : plainName M.1.cls = true) (hc : vs.all zc1 = true) (hl : vs.length ≤ M.2.2.1) (hL : vs.map some ++ List.replicate (M.2.2.1 - vs.length) none = L0)
    (body : ∀ X : zX, zO S M X → ZW S M r X 0 L0 [] σ) : zM S M vs σ r := by
  refine Met.ofW (cc := M.2.1) (maxL := M.2.2.1) (ret := M.2.2.2.1) hn rfl ?_
  intro p e s m args below meth c s₁ B hml hv
  obtain ⟨rfl, hP, hK⟩ := hv
  have hts := atoms_spec (ws := (.code M.1 M.2.1 M.2.2.1 M.2.2.2.1 :: S.2.2.2.1)) B.pre
  have hO : zO S M (p, e, s, m, (vs.map (zv S.2.2.2.2.2.2)).toArray, below, meth, c) := ⟨hJ, B.exec, B.bytes, hml, findClass_of_methodNamed B.named, fun w h => hts w (List.mem_cons_of_mem _ h), hK, B.returns, B.notSynchronized⟩
  have h2 := lv_entry (vs.map (zv S.2.2.2.2.2.2)) (n := M.2.2.1) (by rw [zsl_len vs hc]; exact hl)
  rw [lg_entry_eq]
  refine body _ hO s.heap [] _ hP va_S.rf ⟨h2.1, h2.2.1, fun i v hi => ?_⟩
  have hv : vs[i]? = some v := by
    rw [← hL, List.getElem?_append] at hi
    split at hi
    · rw [List.getElem?_map] at hi
      cases hq : vs[i]? with
      | none => rw [hq] at hi; cases hi
      | some u => rw [hq] at hi; cases hi; rfl
    · rw [List.getElem?_replicate] at hi
      split at hi <;> cases hi
  have h3 := zargs_mem (ad := S.2.2.2.2.2.2) vs 0 i v hc hv
  rw [Nat.zero_add] at h3
  exact h2.2.2 _ h3
end
section
theorem nd_GK_init_0 : decode nc_GK_init 0 = .ok (.aload_n 0, 1) := by decide +kernel
theorem nd_GK_init_1 : decode nc_GK_init 1 = .ok (.invokespecial 1, 3) := by decide +kernel
theorem nd_GK_init_4 : decode nc_GK_init 4 = .ok (.aload_n 0, 1) := by decide +kernel
theorem nd_GK_init_5 : decode nc_GK_init 5 = .ok (.new 7, 3) := by decide +kernel
theorem nd_GK_init_8 : decode nc_GK_init 8 = .ok (.dup, 1) := by decide +kernel
theorem nd_GK_init_9 : decode nc_GK_init 9 = .ok (.invokespecial 9, 3) := by decide +kernel
theorem nd_GK_init_12 : decode nc_GK_init 12 = .ok (.putfield 10, 3) := by decide +kernel
theorem nd_GK_init_15 : decode nc_GK_init 15 = .ok (.aload_n 0, 1) := by decide +kernel
theorem nd_GK_init_16 : decode nc_GK_init 16 = .ok (.iconst 4, 1) := by decide +kernel
theorem nd_GK_init_17 : decode nc_GK_init 17 = .ok (.anewarray 16, 3) := by decide +kernel
theorem nd_GK_init_20 : decode nc_GK_init 20 = .ok (.putfield 18, 3) := by decide +kernel
theorem nd_GK_init_23 : decode nc_GK_init 23 = .ok (.iconst 0, 1) := by decide +kernel
theorem nd_GK_init_24 : decode nc_GK_init 24 = .ok (.istore_n 1, 1) := by decide +kernel
theorem nd_GK_init_25 : decode nc_GK_init 25 = .ok (.iload_n 1, 1) := by decide +kernel
theorem nd_GK_init_26 : decode nc_GK_init 26 = .ok (.iconst 4, 1) := by decide +kernel
theorem nd_GK_init_27 : decode nc_GK_init 27 = .ok (.if_icmp .ge 26, 3) := by decide +kernel
theorem nd_GK_init_30 : decode nc_GK_init 30 = .ok (.aload_n 0, 1) := by decide +kernel
theorem nd_GK_init_31 : decode nc_GK_init 31 = .ok (.getfield 18, 3) := by decide +kernel
theorem nd_GK_init_34 : decode nc_GK_init 34 = .ok (.iload_n 1, 1) := by decide +kernel
theorem nd_GK_init_35 : decode nc_GK_init 35 = .ok (.new 16, 3) := by decide +kernel
theorem nd_GK_init_38 : decode nc_GK_init 38 = .ok (.dup, 1) := by decide +kernel
theorem nd_GK_init_39 : decode nc_GK_init 39 = .ok (.aload_n 0, 1) := by decide +kernel
theorem nd_GK_init_40 : decode nc_GK_init 40 = .ok (.getfield 10, 3) := by decide +kernel
theorem nd_GK_init_43 : decode nc_GK_init 43 = .ok (.invokespecial 22, 3) := by decide +kernel
theorem nd_GK_init_46 : decode nc_GK_init 46 = .ok (.aastore, 1) := by decide +kernel
theorem nd_GK_init_47 : decode nc_GK_init 47 = .ok (.iinc 1 1, 3) := by decide +kernel
theorem nd_GK_init_50 : decode nc_GK_init 50 = .ok (.goto (-25), 3) := by decide +kernel
theorem nd_GK_init_53 : decode nc_GK_init 53 = .ok (.aload_n 0, 1) := by decide +kernel
theorem nd_GK_init_54 : decode nc_GK_init 54 = .ok (.new 25, 3) := by decide +kernel
theorem nd_GK_init_57 : decode nc_GK_init 57 = .ok (.dup, 1) := by decide +kernel
theorem nd_GK_init_58 : decode nc_GK_init 58 = .ok (.invokespecial 27, 3) := by decide +kernel
theorem nd_GK_init_61 : decode nc_GK_init 61 = .ok (.putfield 28, 3) := by decide +kernel
theorem nd_GK_init_64 : decode nc_GK_init 64 = .ok (.aload_n 0, 1) := by decide +kernel
theorem nd_GK_init_65 : decode nc_GK_init 65 = .ok (.new 32, 3) := by decide +kernel
theorem nd_GK_init_68 : decode nc_GK_init 68 = .ok (.dup, 1) := by decide +kernel
theorem nd_GK_init_69 : decode nc_GK_init 69 = .ok (.aload_n 0, 1) := by decide +kernel
theorem nd_GK_init_70 : decode nc_GK_init 70 = .ok (.getfield 10, 3) := by decide +kernel
theorem nd_GK_init_73 : decode nc_GK_init 73 = .ok (.aload_n 0, 1) := by decide +kernel
theorem nd_GK_init_74 : decode nc_GK_init 74 = .ok (.getfield 18, 3) := by decide +kernel
theorem nd_GK_init_77 : decode nc_GK_init 77 = .ok (.aload_n 0, 1) := by decide +kernel
theorem nd_GK_init_78 : decode nc_GK_init 78 = .ok (.getfield 28, 3) := by decide +kernel
theorem nd_GK_init_81 : decode nc_GK_init 81 = .ok (.invokespecial 34, 3) := by decide +kernel
theorem nd_GK_init_84 : decode nc_GK_init 84 = .ok (.putfield 37, 3) := by decide +kernel
theorem nd_GK_init_87 : decode nc_GK_init 87 = .ok (.aload_n 0, 1) := by decide +kernel
theorem nd_GK_init_88 : decode nc_GK_init 88 = .ok (.new 41, 3) := by decide +kernel
theorem nd_GK_init_91 : decode nc_GK_init 91 = .ok (.dup, 1) := by decide +kernel
theorem nd_GK_init_92 : decode nc_GK_init 92 = .ok (.aload_n 0, 1) := by decide +kernel
theorem nd_GK_init_93 : decode nc_GK_init 93 = .ok (.getfield 10, 3) := by decide +kernel
theorem nd_GK_init_96 : decode nc_GK_init 96 = .ok (.aload_n 0, 1) := by decide +kernel
theorem nd_GK_init_97 : decode nc_GK_init 97 = .ok (.getfield 18, 3) := by decide +kernel
theorem nd_GK_init_100 : decode nc_GK_init 100 = .ok (.invokespecial 43, 3) := by decide +kernel
theorem nd_GK_init_103 : decode nc_GK_init 103 = .ok (.putfield 46, 3) := by decide +kernel
theorem nd_GK_init_106 : decode nc_GK_init 106 = .ok (.aload_n 0, 1) := by decide +kernel
theorem nd_GK_init_107 : decode nc_GK_init 107 = .ok (.new 50, 3) := by decide +kernel
theorem nd_GK_init_110 : decode nc_GK_init 110 = .ok (.dup, 1) := by decide +kernel
theorem nd_GK_init_111 : decode nc_GK_init 111 = .ok (.aload_n 0, 1) := by decide +kernel
theorem nd_GK_init_112 : decode nc_GK_init 112 = .ok (.getfield 10, 3) := by decide +kernel
theorem nd_GK_init_115 : decode nc_GK_init 115 = .ok (.invokespecial 52, 3) := by decide +kernel
theorem nd_GK_init_118 : decode nc_GK_init 118 = .ok (.putfield 53, 3) := by decide +kernel
theorem nd_GK_init_121 : decode nc_GK_init 121 = .ok (.aload_n 0, 1) := by decide +kernel
theorem nd_GK_init_122 : decode nc_GK_init 122 = .ok (.iconst (-1), 1) := by decide +kernel
theorem nd_GK_init_123 : decode nc_GK_init 123 = .ok (.putfield 57, 3) := by decide +kernel
theorem nd_GK_init_126 : decode nc_GK_init 126 = .ok (.return_, 1) := by decide +kernel
theorem nd_GK_burn_0 : decode nc_GK_burn 0 = .ok (.iload_n 1, 1) := by decide +kernel
theorem nd_GK_burn_1 : decode nc_GK_burn 1 = .ok (.ifCond .lt 20, 3) := by decide +kernel
theorem nd_GK_burn_4 : decode nc_GK_burn 4 = .ok (.iload_n 1, 1) := by decide +kernel
theorem nd_GK_burn_5 : decode nc_GK_burn 5 = .ok (.sipush 256, 3) := by decide +kernel
theorem nd_GK_burn_8 : decode nc_GK_burn 8 = .ok (.if_icmp .ge 13, 3) := by decide +kernel
theorem nd_GK_burn_11 : decode nc_GK_burn 11 = .ok (.iload_n 2, 1) := by decide +kernel
theorem nd_GK_burn_12 : decode nc_GK_burn 12 = .ok (.ifCond .lt 9, 3) := by decide +kernel
theorem nd_GK_burn_15 : decode nc_GK_burn 15 = .ok (.iload_n 2, 1) := by decide +kernel
theorem nd_GK_burn_16 : decode nc_GK_burn 16 = .ok (.ldc 61, 2) := by decide +kernel
theorem nd_GK_burn_18 : decode nc_GK_burn 18 = .ok (.if_icmp .le 5, 3) := by decide +kernel
theorem nd_GK_burn_21 : decode nc_GK_burn 21 = .ok (.iconst (-1), 1) := by decide +kernel
theorem nd_GK_burn_22 : decode nc_GK_burn 22 = .ok (.ireturn, 1) := by decide +kernel
theorem nd_GK_burn_23 : decode nc_GK_burn 23 = .ok (.aload_n 0, 1) := by decide +kernel
theorem nd_GK_burn_24 : decode nc_GK_burn 24 = .ok (.getfield 10, 3) := by decide +kernel
theorem nd_GK_burn_27 : decode nc_GK_burn 27 = .ok (.getfield 62, 3) := by decide +kernel
theorem nd_GK_burn_30 : decode nc_GK_burn 30 = .ok (.iload_n 1, 1) := by decide +kernel
theorem nd_GK_burn_31 : decode nc_GK_burn 31 = .ok (.iaload, 1) := by decide +kernel
theorem nd_GK_burn_32 : decode nc_GK_burn 32 = .ok (.istore_n 3, 1) := by decide +kernel
theorem nd_GK_burn_33 : decode nc_GK_burn 33 = .ok (.aload_n 0, 1) := by decide +kernel
theorem nd_GK_burn_34 : decode nc_GK_burn 34 = .ok (.getfield 10, 3) := by decide +kernel
theorem nd_GK_burn_37 : decode nc_GK_burn 37 = .ok (.getfield 62, 3) := by decide +kernel
theorem nd_GK_burn_40 : decode nc_GK_burn 40 = .ok (.iload_n 1, 1) := by decide +kernel
theorem nd_GK_burn_41 : decode nc_GK_burn 41 = .ok (.iload_n 2, 1) := by decide +kernel
theorem nd_GK_burn_42 : decode nc_GK_burn 42 = .ok (.iastore, 1) := by decide +kernel
theorem nd_GK_burn_43 : decode nc_GK_burn 43 = .ok (.iload_n 3, 1) := by decide +kernel
theorem nd_GK_burn_44 : decode nc_GK_burn 44 = .ok (.ireturn, 1) := by decide +kernel
theorem nd_GK_boot_0 : decode nc_GK_boot 0 = .ok (.aload_n 0, 1) := by decide +kernel
theorem nd_GK_boot_1 : decode nc_GK_boot 1 = .ok (.getfield 10, 3) := by decide +kernel
theorem nd_GK_boot_4 : decode nc_GK_boot 4 = .ok (.sipush 4096, 3) := by decide +kernel
theorem nd_GK_boot_7 : decode nc_GK_boot 7 = .ok (.sipush 128, 3) := by decide +kernel
theorem nd_GK_boot_10 : decode nc_GK_boot 10 = .ok (.invokevirtual 66, 3) := by decide +kernel
theorem nd_GK_boot_13 : decode nc_GK_boot 13 = .ok (.aload_n 0, 1) := by decide +kernel
theorem nd_GK_boot_14 : decode nc_GK_boot 14 = .ok (.getfield 28, 3) := by decide +kernel
theorem nd_GK_boot_17 : decode nc_GK_boot 17 = .ok (.invokevirtual 70, 3) := by decide +kernel
theorem nd_GK_boot_20 : decode nc_GK_boot 20 = .ok (.aload_n 0, 1) := by decide +kernel
theorem nd_GK_boot_21 : decode nc_GK_boot 21 = .ok (.getfield 37, 3) := by decide +kernel
theorem nd_GK_boot_24 : decode nc_GK_boot 24 = .ok (.iconst 0, 1) := by decide +kernel
theorem nd_GK_boot_25 : decode nc_GK_boot 25 = .ok (.putfield 73, 3) := by decide +kernel
theorem nd_GK_boot_28 : decode nc_GK_boot 28 = .ok (.aload_n 0, 1) := by decide +kernel
theorem nd_GK_boot_29 : decode nc_GK_boot 29 = .ok (.iconst (-1), 1) := by decide +kernel
theorem nd_GK_boot_30 : decode nc_GK_boot 30 = .ok (.putfield 57, 3) := by decide +kernel
theorem nd_GK_boot_33 : decode nc_GK_boot 33 = .ok (.aload_n 0, 1) := by decide +kernel
theorem nd_GK_boot_34 : decode nc_GK_boot 34 = .ok (.iconst 0, 1) := by decide +kernel
theorem nd_GK_boot_35 : decode nc_GK_boot 35 = .ok (.putfield 76, 3) := by decide +kernel
theorem nd_GK_boot_38 : decode nc_GK_boot 38 = .ok (.aload_n 0, 1) := by decide +kernel
theorem nd_GK_boot_39 : decode nc_GK_boot 39 = .ok (.aload_n 0, 1) := by decide +kernel
theorem nd_GK_boot_40 : decode nc_GK_boot 40 = .ok (.getfield 46, 3) := by decide +kernel
theorem nd_GK_boot_43 : decode nc_GK_boot 43 = .ok (.invokevirtual 79, 3) := by decide +kernel
theorem nd_GK_boot_46 : decode nc_GK_boot 46 = .ok (.putfield 83, 3) := by decide +kernel
theorem nd_GK_boot_49 : decode nc_GK_boot 49 = .ok (.aload_n 0, 1) := by decide +kernel
theorem nd_GK_boot_50 : decode nc_GK_boot 50 = .ok (.getfield 83, 3) := by decide +kernel
theorem nd_GK_boot_53 : decode nc_GK_boot 53 = .ok (.ireturn, 1) := by decide +kernel
theorem nd_GK_run_0 : decode nc_GK_run 0 = .ok (.iload_n 1, 1) := by decide +kernel
theorem nd_GK_run_1 : decode nc_GK_run 1 = .ok (.ifCond .lt 10, 3) := by decide +kernel
theorem nd_GK_run_4 : decode nc_GK_run 4 = .ok (.iload_n 1, 1) := by decide +kernel
theorem nd_GK_run_5 : decode nc_GK_run 5 = .ok (.sipush 400, 3) := by decide +kernel
theorem nd_GK_run_8 : decode nc_GK_run 8 = .ok (.if_icmp .le 5, 3) := by decide +kernel
theorem nd_GK_run_11 : decode nc_GK_run 11 = .ok (.iconst (-1), 1) := by decide +kernel
theorem nd_GK_run_12 : decode nc_GK_run 12 = .ok (.ireturn, 1) := by decide +kernel
theorem nd_GK_run_13 : decode nc_GK_run 13 = .ok (.iconst 0, 1) := by decide +kernel
theorem nd_GK_run_14 : decode nc_GK_run 14 = .ok (.istore_n 2, 1) := by decide +kernel
theorem nd_GK_run_15 : decode nc_GK_run 15 = .ok (.iconst 0, 1) := by decide +kernel
theorem nd_GK_run_16 : decode nc_GK_run 16 = .ok (.istore_n 3, 1) := by decide +kernel
theorem nd_GK_run_17 : decode nc_GK_run 17 = .ok (.iload_n 3, 1) := by decide +kernel
theorem nd_GK_run_18 : decode nc_GK_run 18 = .ok (.iload_n 1, 1) := by decide +kernel
theorem nd_GK_run_19 : decode nc_GK_run 19 = .ok (.if_icmp .ge 75, 3) := by decide +kernel
theorem nd_GK_run_22 : decode nc_GK_run 22 = .ok (.aload_n 0, 1) := by decide +kernel
theorem nd_GK_run_23 : decode nc_GK_run 23 = .ok (.getfield 37, 3) := by decide +kernel
theorem nd_GK_run_26 : decode nc_GK_run 26 = .ok (.invokevirtual 86, 3) := by decide +kernel
theorem nd_GK_run_29 : decode nc_GK_run 29 = .ok (.aload_n 0, 1) := by decide +kernel
theorem nd_GK_run_30 : decode nc_GK_run 30 = .ok (.invokevirtual 89, 3) := by decide +kernel
theorem nd_GK_run_33 : decode nc_GK_run 33 = .ok (.ifCond .eq 55, 3) := by decide +kernel
theorem nd_GK_run_36 : decode nc_GK_run 36 = .ok (.aload_n 0, 1) := by decide +kernel
theorem nd_GK_run_37 : decode nc_GK_run 37 = .ok (.getfield 18, 3) := by decide +kernel
theorem nd_GK_run_40 : decode nc_GK_run 40 = .ok (.aload_n 0, 1) := by decide +kernel
theorem nd_GK_run_41 : decode nc_GK_run 41 = .ok (.getfield 57, 3) := by decide +kernel
theorem nd_GK_run_44 : decode nc_GK_run 44 = .ok (.aaload, 1) := by decide +kernel
theorem nd_GK_run_45 : decode nc_GK_run 45 = .ok (.astore 4, 2) := by decide +kernel
theorem nd_GK_run_47 : decode nc_GK_run 47 = .ok (.aload_n 0, 1) := by decide +kernel
theorem nd_GK_run_48 : decode nc_GK_run 48 = .ok (.aload 4, 2) := by decide +kernel
theorem nd_GK_run_50 : decode nc_GK_run 50 = .ok (.invokevirtual 93, 3) := by decide +kernel
theorem nd_GK_run_53 : decode nc_GK_run 53 = .ok (.istore 5, 2) := by decide +kernel
theorem nd_GK_run_55 : decode nc_GK_run 55 = .ok (.iload 5, 2) := by decide +kernel
theorem nd_GK_run_57 : decode nc_GK_run 57 = .ok (.sipush 256, 3) := by decide +kernel
theorem nd_GK_run_60 : decode nc_GK_run 60 = .ok (.if_icmp .lt 17, 3) := by decide +kernel
theorem nd_GK_run_63 : decode nc_GK_run 63 = .ok (.aload_n 0, 1) := by decide +kernel
theorem nd_GK_run_64 : decode nc_GK_run 64 = .ok (.aload 4, 2) := by decide +kernel
theorem nd_GK_run_66 : decode nc_GK_run 66 = .ok (.iload 5, 2) := by decide +kernel
theorem nd_GK_run_68 : decode nc_GK_run 68 = .ok (.sipush 256, 3) := by decide +kernel
theorem nd_GK_run_71 : decode nc_GK_run 71 = .ok (.isub, 1) := by decide +kernel
theorem nd_GK_run_72 : decode nc_GK_run 72 = .ok (.invokevirtual 97, 3) := by decide +kernel
theorem nd_GK_run_75 : decode nc_GK_run 75 = .ok (.istore 5, 2) := by decide +kernel
theorem nd_GK_run_77 : decode nc_GK_run 77 = .ok (.aload_n 0, 1) := by decide +kernel
theorem nd_GK_run_78 : decode nc_GK_run 78 = .ok (.aload 4, 2) := by decide +kernel
theorem nd_GK_run_80 : decode nc_GK_run 80 = .ok (.iload 5, 2) := by decide +kernel
theorem nd_GK_run_82 : decode nc_GK_run 82 = .ok (.invokevirtual 101, 3) := by decide +kernel
theorem nd_GK_run_85 : decode nc_GK_run 85 = .ok (.iinc 2 1, 3) := by decide +kernel
theorem nd_GK_run_88 : decode nc_GK_run 88 = .ok (.iinc 3 1, 3) := by decide +kernel
theorem nd_GK_run_91 : decode nc_GK_run 91 = .ok (.goto (-74), 3) := by decide +kernel
theorem nd_GK_run_94 : decode nc_GK_run 94 = .ok (.iload_n 2, 1) := by decide +kernel
theorem nd_GK_run_95 : decode nc_GK_run 95 = .ok (.ireturn, 1) := by decide +kernel
theorem nd_GK_type_0 : decode nc_GK_type 0 = .ok (.aload_n 0, 1) := by decide +kernel
theorem nd_GK_type_1 : decode nc_GK_type 1 = .ok (.getfield 37, 3) := by decide +kernel
theorem nd_GK_type_4 : decode nc_GK_type 4 = .ok (.iload_n 1, 1) := by decide +kernel
theorem nd_GK_type_5 : decode nc_GK_type 5 = .ok (.invokevirtual 105, 3) := by decide +kernel
theorem nd_GK_type_8 : decode nc_GK_type 8 = .ok (.ireturn, 1) := by decide +kernel
theorem nd_GK_sample_0 : decode nc_GK_sample 0 = .ok (.aload_n 0, 1) := by decide +kernel
theorem nd_GK_sample_1 : decode nc_GK_sample 1 = .ok (.getfield 37, 3) := by decide +kernel
theorem nd_GK_sample_4 : decode nc_GK_sample 4 = .ok (.iload_n 1, 1) := by decide +kernel
theorem nd_GK_sample_5 : decode nc_GK_sample 5 = .ok (.invokevirtual 109, 3) := by decide +kernel
theorem nd_GK_sample_8 : decode nc_GK_sample 8 = .ok (.ireturn, 1) := by decide +kernel
theorem nd_GK_outputs_0 : decode nc_GK_outputs 0 = .ok (.aload_n 0, 1) := by decide +kernel
theorem nd_GK_outputs_1 : decode nc_GK_outputs 1 = .ok (.getfield 28, 3) := by decide +kernel
theorem nd_GK_outputs_4 : decode nc_GK_outputs 4 = .ok (.getfield 113, 3) := by decide +kernel
theorem nd_GK_outputs_7 : decode nc_GK_outputs 7 = .ok (.ireturn, 1) := by decide +kernel
theorem nd_GK_output_0 : decode nc_GK_output 0 = .ok (.aload_n 0, 1) := by decide +kernel
theorem nd_GK_output_1 : decode nc_GK_output 1 = .ok (.getfield 28, 3) := by decide +kernel
theorem nd_GK_output_4 : decode nc_GK_output 4 = .ok (.iload_n 1, 1) := by decide +kernel
theorem nd_GK_output_5 : decode nc_GK_output 5 = .ok (.invokevirtual 116, 3) := by decide +kernel
theorem nd_GK_output_8 : decode nc_GK_output 8 = .ok (.ireturn, 1) := by decide +kernel
theorem nd_GK_now_0 : decode nc_GK_now 0 = .ok (.aload_n 0, 1) := by decide +kernel
theorem nd_GK_now_1 : decode nc_GK_now 1 = .ok (.getfield 37, 3) := by decide +kernel
theorem nd_GK_now_4 : decode nc_GK_now 4 = .ok (.getfield 73, 3) := by decide +kernel
theorem nd_GK_now_7 : decode nc_GK_now 7 = .ok (.ireturn, 1) := by decide +kernel
theorem nd_GK_turn_0 : decode nc_GK_turn 0 = .ok (.aload_n 0, 1) := by decide +kernel
theorem nd_GK_turn_1 : decode nc_GK_turn 1 = .ok (.getfield 57, 3) := by decide +kernel
theorem nd_GK_turn_4 : decode nc_GK_turn 4 = .ok (.ireturn, 1) := by decide +kernel
theorem nd_GK_state_0 : decode nc_GK_state 0 = .ok (.aload_n 0, 1) := by decide +kernel
theorem nd_GK_state_1 : decode nc_GK_state 1 = .ok (.iload_n 1, 1) := by decide +kernel
theorem nd_GK_state_2 : decode nc_GK_state 2 = .ok (.invokevirtual 119, 3) := by decide +kernel
theorem nd_GK_state_5 : decode nc_GK_state 5 = .ok (.astore_n 2, 1) := by decide +kernel
theorem nd_GK_state_6 : decode nc_GK_state 6 = .ok (.aload_n 2, 1) := by decide +kernel
theorem nd_GK_state_7 : decode nc_GK_state 7 = .ok (.ifnonnull 7, 3) := by decide +kernel
theorem nd_GK_state_10 : decode nc_GK_state 10 = .ok (.iconst (-1), 1) := by decide +kernel
theorem nd_GK_state_11 : decode nc_GK_state 11 = .ok (.goto 7, 3) := by decide +kernel
theorem nd_GK_state_14 : decode nc_GK_state 14 = .ok (.aload_n 2, 1) := by decide +kernel
theorem nd_GK_state_15 : decode nc_GK_state 15 = .ok (.getfield 123, 3) := by decide +kernel
theorem nd_GK_state_18 : decode nc_GK_state 18 = .ok (.ireturn, 1) := by decide +kernel
theorem nd_GK_register_0 : decode nc_GK_register 0 = .ok (.aload_n 0, 1) := by decide +kernel
theorem nd_GK_register_1 : decode nc_GK_register 1 = .ok (.iload_n 1, 1) := by decide +kernel
theorem nd_GK_register_2 : decode nc_GK_register 2 = .ok (.invokevirtual 119, 3) := by decide +kernel
theorem nd_GK_register_5 : decode nc_GK_register 5 = .ok (.astore_n 3, 1) := by decide +kernel
theorem nd_GK_register_6 : decode nc_GK_register 6 = .ok (.aload_n 3, 1) := by decide +kernel
theorem nd_GK_register_7 : decode nc_GK_register 7 = .ok (.ifnonnull 7, 3) := by decide +kernel
theorem nd_GK_register_10 : decode nc_GK_register 10 = .ok (.iconst 0, 1) := by decide +kernel
theorem nd_GK_register_11 : decode nc_GK_register 11 = .ok (.goto 8, 3) := by decide +kernel
theorem nd_GK_register_14 : decode nc_GK_register 14 = .ok (.aload_n 3, 1) := by decide +kernel
theorem nd_GK_register_15 : decode nc_GK_register 15 = .ok (.iload_n 2, 1) := by decide +kernel
theorem nd_GK_register_16 : decode nc_GK_register 16 = .ok (.invokevirtual 126, 3) := by decide +kernel
theorem nd_GK_register_19 : decode nc_GK_register 19 = .ok (.ireturn, 1) := by decide +kernel
theorem nd_GK_word_0 : decode nc_GK_word 0 = .ok (.iload_n 1, 1) := by decide +kernel
theorem nd_GK_word_1 : decode nc_GK_word 1 = .ok (.ifCond .lt 10, 3) := by decide +kernel
theorem nd_GK_word_4 : decode nc_GK_word 4 = .ok (.iload_n 1, 1) := by decide +kernel
theorem nd_GK_word_5 : decode nc_GK_word 5 = .ok (.sipush 128, 3) := by decide +kernel
theorem nd_GK_word_8 : decode nc_GK_word 8 = .ok (.if_icmp .lt 7, 3) := by decide +kernel
theorem nd_GK_word_11 : decode nc_GK_word 11 = .ok (.iconst 0, 1) := by decide +kernel
theorem nd_GK_word_12 : decode nc_GK_word 12 = .ok (.goto 12, 3) := by decide +kernel
theorem nd_GK_word_15 : decode nc_GK_word 15 = .ok (.aload_n 0, 1) := by decide +kernel
theorem nd_GK_word_16 : decode nc_GK_word 16 = .ok (.getfield 10, 3) := by decide +kernel
theorem nd_GK_word_19 : decode nc_GK_word 19 = .ok (.getfield 129, 3) := by decide +kernel
theorem nd_GK_word_22 : decode nc_GK_word 22 = .ok (.iload_n 1, 1) := by decide +kernel
theorem nd_GK_word_23 : decode nc_GK_word 23 = .ok (.iaload, 1) := by decide +kernel
theorem nd_GK_word_24 : decode nc_GK_word 24 = .ok (.ireturn, 1) := by decide +kernel
theorem nd_GK_block_0 : decode nc_GK_block 0 = .ok (.aload_n 0, 1) := by decide +kernel
theorem nd_GK_block_1 : decode nc_GK_block 1 = .ok (.iload_n 1, 1) := by decide +kernel
theorem nd_GK_block_2 : decode nc_GK_block 2 = .ok (.invokevirtual 119, 3) := by decide +kernel
theorem nd_GK_block_5 : decode nc_GK_block 5 = .ok (.astore_n 2, 1) := by decide +kernel
theorem nd_GK_block_6 : decode nc_GK_block 6 = .ok (.aload_n 2, 1) := by decide +kernel
theorem nd_GK_block_7 : decode nc_GK_block 7 = .ok (.ifnonnull 7, 3) := by decide +kernel
theorem nd_GK_block_10 : decode nc_GK_block 10 = .ok (.iconst (-1), 1) := by decide +kernel
theorem nd_GK_block_11 : decode nc_GK_block 11 = .ok (.goto 7, 3) := by decide +kernel
theorem nd_GK_block_14 : decode nc_GK_block 14 = .ok (.aload_n 2, 1) := by decide +kernel
theorem nd_GK_block_15 : decode nc_GK_block 15 = .ok (.getfield 132, 3) := by decide +kernel
theorem nd_GK_block_18 : decode nc_GK_block 18 = .ok (.ireturn, 1) := by decide +kernel
theorem nd_GK_open_0 : decode nc_GK_open 0 = .ok (.aload_n 0, 1) := by decide +kernel
theorem nd_GK_open_1 : decode nc_GK_open 1 = .ok (.iload_n 1, 1) := by decide +kernel
theorem nd_GK_open_2 : decode nc_GK_open 2 = .ok (.invokevirtual 119, 3) := by decide +kernel
theorem nd_GK_open_5 : decode nc_GK_open 5 = .ok (.astore_n 2, 1) := by decide +kernel
theorem nd_GK_open_6 : decode nc_GK_open 6 = .ok (.aload_n 2, 1) := by decide +kernel
theorem nd_GK_open_7 : decode nc_GK_open 7 = .ok (.ifnonnull 7, 3) := by decide +kernel
theorem nd_GK_open_10 : decode nc_GK_open 10 = .ok (.iconst (-1), 1) := by decide +kernel
theorem nd_GK_open_11 : decode nc_GK_open 11 = .ok (.goto 7, 3) := by decide +kernel
theorem nd_GK_open_14 : decode nc_GK_open 14 = .ok (.aload_n 2, 1) := by decide +kernel
theorem nd_GK_open_15 : decode nc_GK_open 15 = .ok (.getfield 135, 3) := by decide +kernel
theorem nd_GK_open_18 : decode nc_GK_open 18 = .ok (.ireturn, 1) := by decide +kernel
theorem nd_GK_grant_0 : decode nc_GK_grant 0 = .ok (.aload_n 0, 1) := by decide +kernel
theorem nd_GK_grant_1 : decode nc_GK_grant 1 = .ok (.iload_n 1, 1) := by decide +kernel
theorem nd_GK_grant_2 : decode nc_GK_grant 2 = .ok (.invokevirtual 119, 3) := by decide +kernel
theorem nd_GK_grant_5 : decode nc_GK_grant 5 = .ok (.astore_n 3, 1) := by decide +kernel
theorem nd_GK_grant_6 : decode nc_GK_grant 6 = .ok (.aload_n 3, 1) := by decide +kernel
theorem nd_GK_grant_7 : decode nc_GK_grant 7 = .ok (.ifnull 23, 3) := by decide +kernel
theorem nd_GK_grant_10 : decode nc_GK_grant 10 = .ok (.iload_n 2, 1) := by decide +kernel
theorem nd_GK_grant_11 : decode nc_GK_grant 11 = .ok (.ifCond .lt 19, 3) := by decide +kernel
theorem nd_GK_grant_14 : decode nc_GK_grant 14 = .ok (.iload_n 2, 1) := by decide +kernel
theorem nd_GK_grant_15 : decode nc_GK_grant 15 = .ok (.iconst 3, 1) := by decide +kernel
theorem nd_GK_grant_16 : decode nc_GK_grant 16 = .ok (.if_icmp .ge 14, 3) := by decide +kernel
theorem nd_GK_grant_19 : decode nc_GK_grant 19 = .ok (.aload_n 3, 1) := by decide +kernel
theorem nd_GK_grant_20 : decode nc_GK_grant 20 = .ok (.getfield 138, 3) := by decide +kernel
theorem nd_GK_grant_23 : decode nc_GK_grant 23 = .ok (.iload_n 2, 1) := by decide +kernel
theorem nd_GK_grant_24 : decode nc_GK_grant 24 = .ok (.invokevirtual 142, 3) := by decide +kernel
theorem nd_GK_grant_27 : decode nc_GK_grant 27 = .ok (.ifCond .ne 5, 3) := by decide +kernel
theorem nd_GK_grant_30 : decode nc_GK_grant 30 = .ok (.iconst (-1), 1) := by decide +kernel
theorem nd_GK_grant_31 : decode nc_GK_grant 31 = .ok (.ireturn, 1) := by decide +kernel
theorem nd_GK_grant_32 : decode nc_GK_grant 32 = .ok (.aload_n 3, 1) := by decide +kernel
theorem nd_GK_grant_33 : decode nc_GK_grant 33 = .ok (.getfield 138, 3) := by decide +kernel
theorem nd_GK_grant_36 : decode nc_GK_grant 36 = .ok (.getfield 147, 3) := by decide +kernel
theorem nd_GK_grant_39 : decode nc_GK_grant 39 = .ok (.iload_n 2, 1) := by decide +kernel
theorem nd_GK_grant_40 : decode nc_GK_grant 40 = .ok (.iaload, 1) := by decide +kernel
theorem nd_GK_grant_41 : decode nc_GK_grant 41 = .ok (.ireturn, 1) := by decide +kernel
theorem nd_GK_queued_0 : decode nc_GK_queued 0 = .ok (.aload_n 0, 1) := by decide +kernel
theorem nd_GK_queued_1 : decode nc_GK_queued 1 = .ok (.iload_n 1, 1) := by decide +kernel
theorem nd_GK_queued_2 : decode nc_GK_queued 2 = .ok (.invokevirtual 119, 3) := by decide +kernel
theorem nd_GK_queued_5 : decode nc_GK_queued 5 = .ok (.astore_n 2, 1) := by decide +kernel
theorem nd_GK_queued_6 : decode nc_GK_queued 6 = .ok (.aload_n 2, 1) := by decide +kernel
theorem nd_GK_queued_7 : decode nc_GK_queued 7 = .ok (.ifnonnull 7, 3) := by decide +kernel
theorem nd_GK_queued_10 : decode nc_GK_queued 10 = .ok (.iconst (-1), 1) := by decide +kernel
theorem nd_GK_queued_11 : decode nc_GK_queued 11 = .ok (.goto 13, 3) := by decide +kernel
theorem nd_GK_queued_14 : decode nc_GK_queued 14 = .ok (.aload_n 2, 1) := by decide +kernel
theorem nd_GK_queued_15 : decode nc_GK_queued 15 = .ok (.getfield 138, 3) := by decide +kernel
theorem nd_GK_queued_18 : decode nc_GK_queued 18 = .ok (.getfield 150, 3) := by decide +kernel
theorem nd_GK_queued_21 : decode nc_GK_queued 21 = .ok (.getfield 154, 3) := by decide +kernel
theorem nd_GK_queued_24 : decode nc_GK_queued 24 = .ok (.ireturn, 1) := by decide +kernel
theorem nd_GK_fault_0 : decode nc_GK_fault 0 = .ok (.aload_n 0, 1) := by decide +kernel
theorem nd_GK_fault_1 : decode nc_GK_fault 1 = .ok (.iload_n 1, 1) := by decide +kernel
theorem nd_GK_fault_2 : decode nc_GK_fault 2 = .ok (.invokevirtual 119, 3) := by decide +kernel
theorem nd_GK_fault_5 : decode nc_GK_fault 5 = .ok (.astore_n 2, 1) := by decide +kernel
theorem nd_GK_fault_6 : decode nc_GK_fault 6 = .ok (.aload_n 2, 1) := by decide +kernel
theorem nd_GK_fault_7 : decode nc_GK_fault 7 = .ok (.ifnonnull 7, 3) := by decide +kernel
theorem nd_GK_fault_10 : decode nc_GK_fault 10 = .ok (.iconst (-1), 1) := by decide +kernel
theorem nd_GK_fault_11 : decode nc_GK_fault 11 = .ok (.goto 7, 3) := by decide +kernel
theorem nd_GK_fault_14 : decode nc_GK_fault 14 = .ok (.aload_n 2, 1) := by decide +kernel
theorem nd_GK_fault_15 : decode nc_GK_fault 15 = .ok (.getfield 159, 3) := by decide +kernel
theorem nd_GK_fault_18 : decode nc_GK_fault 18 = .ok (.ireturn, 1) := by decide +kernel
theorem nd_GK_faults_0 : decode nc_GK_faults 0 = .ok (.aload_n 0, 1) := by decide +kernel
theorem nd_GK_faults_1 : decode nc_GK_faults 1 = .ok (.iload_n 1, 1) := by decide +kernel
theorem nd_GK_faults_2 : decode nc_GK_faults 2 = .ok (.invokevirtual 119, 3) := by decide +kernel
theorem nd_GK_faults_5 : decode nc_GK_faults 5 = .ok (.astore_n 2, 1) := by decide +kernel
theorem nd_GK_faults_6 : decode nc_GK_faults 6 = .ok (.aload_n 2, 1) := by decide +kernel
theorem nd_GK_faults_7 : decode nc_GK_faults 7 = .ok (.ifnonnull 7, 3) := by decide +kernel
theorem nd_GK_faults_10 : decode nc_GK_faults 10 = .ok (.iconst (-1), 1) := by decide +kernel
theorem nd_GK_faults_11 : decode nc_GK_faults 11 = .ok (.goto 7, 3) := by decide +kernel
theorem nd_GK_faults_14 : decode nc_GK_faults 14 = .ok (.aload_n 2, 1) := by decide +kernel
theorem nd_GK_faults_15 : decode nc_GK_faults 15 = .ok (.getfield 162, 3) := by decide +kernel
theorem nd_GK_faults_18 : decode nc_GK_faults 18 = .ok (.ireturn, 1) := by decide +kernel
theorem nd_GK_restart_0 : decode nc_GK_restart 0 = .ok (.aload_n 0, 1) := by decide +kernel
theorem nd_GK_restart_1 : decode nc_GK_restart 1 = .ok (.iload_n 1, 1) := by decide +kernel
theorem nd_GK_restart_2 : decode nc_GK_restart 2 = .ok (.invokevirtual 119, 3) := by decide +kernel
theorem nd_GK_restart_5 : decode nc_GK_restart 5 = .ok (.astore_n 2, 1) := by decide +kernel
theorem nd_GK_restart_6 : decode nc_GK_restart 6 = .ok (.aload_n 2, 1) := by decide +kernel
theorem nd_GK_restart_7 : decode nc_GK_restart 7 = .ok (.ifnonnull 5, 3) := by decide +kernel
theorem nd_GK_restart_10 : decode nc_GK_restart 10 = .ok (.iconst 0, 1) := by decide +kernel
theorem nd_GK_restart_11 : decode nc_GK_restart 11 = .ok (.ireturn, 1) := by decide +kernel
theorem nd_GK_restart_12 : decode nc_GK_restart 12 = .ok (.aload_n 2, 1) := by decide +kernel
theorem nd_GK_restart_13 : decode nc_GK_restart 13 = .ok (.invokevirtual 165, 3) := by decide +kernel
theorem nd_GK_restart_16 : decode nc_GK_restart 16 = .ok (.iconst 1, 1) := by decide +kernel
theorem nd_GK_restart_17 : decode nc_GK_restart 17 = .ok (.ireturn, 1) := by decide +kernel
theorem nd_GK_stop_0 : decode nc_GK_stop 0 = .ok (.aload_n 0, 1) := by decide +kernel
theorem nd_GK_stop_1 : decode nc_GK_stop 1 = .ok (.iload_n 1, 1) := by decide +kernel
theorem nd_GK_stop_2 : decode nc_GK_stop 2 = .ok (.invokevirtual 119, 3) := by decide +kernel
theorem nd_GK_stop_5 : decode nc_GK_stop 5 = .ok (.astore_n 2, 1) := by decide +kernel
theorem nd_GK_stop_6 : decode nc_GK_stop 6 = .ok (.aload_n 2, 1) := by decide +kernel
theorem nd_GK_stop_7 : decode nc_GK_stop 7 = .ok (.ifnull 11, 3) := by decide +kernel
theorem nd_GK_stop_10 : decode nc_GK_stop 10 = .ok (.aload_n 2, 1) := by decide +kernel
theorem nd_GK_stop_11 : decode nc_GK_stop 11 = .ok (.getfield 123, 3) := by decide +kernel
theorem nd_GK_stop_14 : decode nc_GK_stop 14 = .ok (.iconst 2, 1) := by decide +kernel
theorem nd_GK_stop_15 : decode nc_GK_stop 15 = .ok (.if_icmp .ne 5, 3) := by decide +kernel
theorem nd_GK_stop_18 : decode nc_GK_stop 18 = .ok (.iconst 0, 1) := by decide +kernel
theorem nd_GK_stop_19 : decode nc_GK_stop 19 = .ok (.ireturn, 1) := by decide +kernel
theorem nd_GK_stop_20 : decode nc_GK_stop 20 = .ok (.aload_n 2, 1) := by decide +kernel
theorem nd_GK_stop_21 : decode nc_GK_stop 21 = .ok (.invokevirtual 168, 3) := by decide +kernel
theorem nd_GK_stop_24 : decode nc_GK_stop 24 = .ok (.iconst 1, 1) := by decide +kernel
theorem nd_GK_stop_25 : decode nc_GK_stop 25 = .ok (.ireturn, 1) := by decide +kernel
theorem nd_GK_find_0 : decode nc_GK_find 0 = .ok (.iload_n 1, 1) := by decide +kernel
theorem nd_GK_find_1 : decode nc_GK_find 1 = .ok (.ifCond .lt 11, 3) := by decide +kernel
theorem nd_GK_find_4 : decode nc_GK_find 4 = .ok (.iload_n 1, 1) := by decide +kernel
theorem nd_GK_find_5 : decode nc_GK_find 5 = .ok (.aload_n 0, 1) := by decide +kernel
theorem nd_GK_find_6 : decode nc_GK_find 6 = .ok (.getfield 83, 3) := by decide +kernel
theorem nd_GK_find_9 : decode nc_GK_find 9 = .ok (.if_icmp .lt 7, 3) := by decide +kernel
theorem nd_GK_find_12 : decode nc_GK_find 12 = .ok (.aconst_null, 1) := by decide +kernel
theorem nd_GK_find_13 : decode nc_GK_find 13 = .ok (.goto 9, 3) := by decide +kernel
theorem nd_GK_find_16 : decode nc_GK_find 16 = .ok (.aload_n 0, 1) := by decide +kernel
theorem nd_GK_find_17 : decode nc_GK_find 17 = .ok (.getfield 18, 3) := by decide +kernel
theorem nd_GK_find_20 : decode nc_GK_find 20 = .ok (.iload_n 1, 1) := by decide +kernel
theorem nd_GK_find_21 : decode nc_GK_find 21 = .ok (.aaload, 1) := by decide +kernel
theorem nd_GK_find_22 : decode nc_GK_find 22 = .ok (.areturn, 1) := by decide +kernel
theorem nd_GK_giveTurn_0 : decode nc_GK_giveTurn 0 = .ok (.aload_n 0, 1) := by decide +kernel
theorem nd_GK_giveTurn_1 : decode nc_GK_giveTurn 1 = .ok (.getfield 57, 3) := by decide +kernel
theorem nd_GK_giveTurn_4 : decode nc_GK_giveTurn 4 = .ok (.iconst (-1), 1) := by decide +kernel
theorem nd_GK_giveTurn_5 : decode nc_GK_giveTurn 5 = .ok (.if_icmp .eq 27, 3) := by decide +kernel
theorem nd_GK_giveTurn_8 : decode nc_GK_giveTurn 8 = .ok (.aload_n 0, 1) := by decide +kernel
theorem nd_GK_giveTurn_9 : decode nc_GK_giveTurn 9 = .ok (.getfield 76, 3) := by decide +kernel
theorem nd_GK_giveTurn_12 : decode nc_GK_giveTurn 12 = .ok (.ifCond .le 20, 3) := by decide +kernel
theorem nd_GK_giveTurn_15 : decode nc_GK_giveTurn 15 = .ok (.aload_n 0, 1) := by decide +kernel
theorem nd_GK_giveTurn_16 : decode nc_GK_giveTurn 16 = .ok (.getfield 18, 3) := by decide +kernel
theorem nd_GK_giveTurn_19 : decode nc_GK_giveTurn 19 = .ok (.aload_n 0, 1) := by decide +kernel
theorem nd_GK_giveTurn_20 : decode nc_GK_giveTurn 20 = .ok (.getfield 57, 3) := by decide +kernel
theorem nd_GK_giveTurn_23 : decode nc_GK_giveTurn 23 = .ok (.aaload, 1) := by decide +kernel
theorem nd_GK_giveTurn_24 : decode nc_GK_giveTurn 24 = .ok (.getfield 123, 3) := by decide +kernel
theorem nd_GK_giveTurn_27 : decode nc_GK_giveTurn 27 = .ok (.ifCond .ne 5, 3) := by decide +kernel
theorem nd_GK_giveTurn_30 : decode nc_GK_giveTurn 30 = .ok (.iconst 1, 1) := by decide +kernel
theorem nd_GK_giveTurn_31 : decode nc_GK_giveTurn 31 = .ok (.ireturn, 1) := by decide +kernel
theorem nd_GK_giveTurn_32 : decode nc_GK_giveTurn 32 = .ok (.aload_n 0, 1) := by decide +kernel
theorem nd_GK_giveTurn_33 : decode nc_GK_giveTurn 33 = .ok (.getfield 57, 3) := by decide +kernel
theorem nd_GK_giveTurn_36 : decode nc_GK_giveTurn 36 = .ok (.istore_n 1, 1) := by decide +kernel
theorem nd_GK_giveTurn_37 : decode nc_GK_giveTurn 37 = .ok (.iconst 0, 1) := by decide +kernel
theorem nd_GK_giveTurn_38 : decode nc_GK_giveTurn 38 = .ok (.istore_n 2, 1) := by decide +kernel
theorem nd_GK_giveTurn_39 : decode nc_GK_giveTurn 39 = .ok (.iload_n 2, 1) := by decide +kernel
theorem nd_GK_giveTurn_40 : decode nc_GK_giveTurn 40 = .ok (.aload_n 0, 1) := by decide +kernel
theorem nd_GK_giveTurn_41 : decode nc_GK_giveTurn 41 = .ok (.getfield 83, 3) := by decide +kernel
theorem nd_GK_giveTurn_44 : decode nc_GK_giveTurn 44 = .ok (.if_icmp .ge 52, 3) := by decide +kernel
theorem nd_GK_giveTurn_47 : decode nc_GK_giveTurn 47 = .ok (.iload_n 1, 1) := by decide +kernel
theorem nd_GK_giveTurn_48 : decode nc_GK_giveTurn 48 = .ok (.iconst 1, 1) := by decide +kernel
theorem nd_GK_giveTurn_49 : decode nc_GK_giveTurn 49 = .ok (.iadd, 1) := by decide +kernel
theorem nd_GK_giveTurn_50 : decode nc_GK_giveTurn 50 = .ok (.aload_n 0, 1) := by decide +kernel
theorem nd_GK_giveTurn_51 : decode nc_GK_giveTurn 51 = .ok (.getfield 83, 3) := by decide +kernel
theorem nd_GK_giveTurn_54 : decode nc_GK_giveTurn 54 = .ok (.if_icmp .ge 9, 3) := by decide +kernel
theorem nd_GK_giveTurn_57 : decode nc_GK_giveTurn 57 = .ok (.iload_n 1, 1) := by decide +kernel
theorem nd_GK_giveTurn_58 : decode nc_GK_giveTurn 58 = .ok (.iconst 1, 1) := by decide +kernel
theorem nd_GK_giveTurn_59 : decode nc_GK_giveTurn 59 = .ok (.iadd, 1) := by decide +kernel
theorem nd_GK_giveTurn_60 : decode nc_GK_giveTurn 60 = .ok (.goto 4, 3) := by decide +kernel
theorem nd_GK_giveTurn_63 : decode nc_GK_giveTurn 63 = .ok (.iconst 0, 1) := by decide +kernel
theorem nd_GK_giveTurn_64 : decode nc_GK_giveTurn 64 = .ok (.istore_n 1, 1) := by decide +kernel
theorem nd_GK_giveTurn_65 : decode nc_GK_giveTurn 65 = .ok (.aload_n 0, 1) := by decide +kernel
theorem nd_GK_giveTurn_66 : decode nc_GK_giveTurn 66 = .ok (.getfield 18, 3) := by decide +kernel
theorem nd_GK_giveTurn_69 : decode nc_GK_giveTurn 69 = .ok (.iload_n 1, 1) := by decide +kernel
theorem nd_GK_giveTurn_70 : decode nc_GK_giveTurn 70 = .ok (.aaload, 1) := by decide +kernel
theorem nd_GK_giveTurn_71 : decode nc_GK_giveTurn 71 = .ok (.getfield 123, 3) := by decide +kernel
theorem nd_GK_giveTurn_74 : decode nc_GK_giveTurn 74 = .ok (.ifCond .ne 16, 3) := by decide +kernel
theorem nd_GK_giveTurn_77 : decode nc_GK_giveTurn 77 = .ok (.aload_n 0, 1) := by decide +kernel
theorem nd_GK_giveTurn_78 : decode nc_GK_giveTurn 78 = .ok (.iload_n 1, 1) := by decide +kernel
theorem nd_GK_giveTurn_79 : decode nc_GK_giveTurn 79 = .ok (.putfield 57, 3) := by decide +kernel
theorem nd_GK_giveTurn_82 : decode nc_GK_giveTurn 82 = .ok (.aload_n 0, 1) := by decide +kernel
theorem nd_GK_giveTurn_83 : decode nc_GK_giveTurn 83 = .ok (.bipush 10, 2) := by decide +kernel
theorem nd_GK_giveTurn_85 : decode nc_GK_giveTurn 85 = .ok (.putfield 76, 3) := by decide +kernel
theorem nd_GK_giveTurn_88 : decode nc_GK_giveTurn 88 = .ok (.iconst 1, 1) := by decide +kernel
theorem nd_GK_giveTurn_89 : decode nc_GK_giveTurn 89 = .ok (.ireturn, 1) := by decide +kernel
theorem nd_GK_giveTurn_90 : decode nc_GK_giveTurn 90 = .ok (.iinc 2 1, 3) := by decide +kernel
theorem nd_GK_giveTurn_93 : decode nc_GK_giveTurn 93 = .ok (.goto (-54), 3) := by decide +kernel
theorem nd_GK_giveTurn_96 : decode nc_GK_giveTurn 96 = .ok (.iconst 0, 1) := by decide +kernel
theorem nd_GK_giveTurn_97 : decode nc_GK_giveTurn 97 = .ok (.ireturn, 1) := by decide +kernel
theorem nd_GK_doInstruction_0 : decode nc_GK_doInstruction 0 = .ok (.aload_n 1, 1) := by decide +kernel
theorem nd_GK_doInstruction_1 : decode nc_GK_doInstruction 1 = .ok (.getfield 171, 3) := by decide +kernel
theorem nd_GK_doInstruction_4 : decode nc_GK_doInstruction 4 = .ok (.ifCond .eq 13, 3) := by decide +kernel
theorem nd_GK_doInstruction_7 : decode nc_GK_doInstruction 7 = .ok (.aload_n 1, 1) := by decide +kernel
theorem nd_GK_doInstruction_8 : decode nc_GK_doInstruction 8 = .ok (.invokevirtual 175, 3) := by decide +kernel
theorem nd_GK_doInstruction_11 : decode nc_GK_doInstruction 11 = .ok (.ifCond .ne 6, 3) := by decide +kernel
theorem nd_GK_doInstruction_14 : decode nc_GK_doInstruction 14 = .ok (.bipush 6, 2) := by decide +kernel
theorem nd_GK_doInstruction_16 : decode nc_GK_doInstruction 16 = .ok (.ireturn, 1) := by decide +kernel
theorem nd_GK_doInstruction_17 : decode nc_GK_doInstruction 17 = .ok (.aload_n 0, 1) := by decide +kernel
theorem nd_GK_doInstruction_18 : decode nc_GK_doInstruction 18 = .ok (.getfield 53, 3) := by decide +kernel
theorem nd_GK_doInstruction_21 : decode nc_GK_doInstruction 21 = .ok (.aload_n 1, 1) := by decide +kernel
theorem nd_GK_doInstruction_22 : decode nc_GK_doInstruction 22 = .ok (.invokevirtual 178, 3) := by decide +kernel
theorem nd_GK_doInstruction_25 : decode nc_GK_doInstruction 25 = .ok (.ireturn, 1) := by decide +kernel
theorem nd_GK_serve_0 : decode nc_GK_serve 0 = .ok (.aload_n 1, 1) := by decide +kernel
theorem nd_GK_serve_1 : decode nc_GK_serve 1 = .ok (.aload_n 1, 1) := by decide +kernel
theorem nd_GK_serve_2 : decode nc_GK_serve 2 = .ok (.getfield 181, 3) := by decide +kernel
theorem nd_GK_serve_5 : decode nc_GK_serve 5 = .ok (.iconst 2, 1) := by decide +kernel
theorem nd_GK_serve_6 : decode nc_GK_serve 6 = .ok (.iadd, 1) := by decide +kernel
theorem nd_GK_serve_7 : decode nc_GK_serve 7 = .ok (.invokevirtual 184, 3) := by decide +kernel
theorem nd_GK_serve_10 : decode nc_GK_serve 10 = .ok (.ifCond .ne 6, 3) := by decide +kernel
theorem nd_GK_serve_13 : decode nc_GK_serve 13 = .ok (.bipush 6, 2) := by decide +kernel
theorem nd_GK_serve_15 : decode nc_GK_serve 15 = .ok (.ireturn, 1) := by decide +kernel
theorem nd_GK_serve_16 : decode nc_GK_serve 16 = .ok (.iload_n 2, 1) := by decide +kernel
theorem nd_GK_serve_17 : decode nc_GK_serve 17 = .ok (.ifCond .ne 14, 3) := by decide +kernel
theorem nd_GK_serve_20 : decode nc_GK_serve 20 = .ok (.aload_n 0, 1) := by decide +kernel
theorem nd_GK_serve_21 : decode nc_GK_serve 21 = .ok (.getfield 37, 3) := by decide +kernel
theorem nd_GK_serve_24 : decode nc_GK_serve 24 = .ok (.aload_n 1, 1) := by decide +kernel
theorem nd_GK_serve_25 : decode nc_GK_serve 25 = .ok (.invokevirtual 187, 3) := by decide +kernel
theorem nd_GK_serve_28 : decode nc_GK_serve 28 = .ok (.goto 17, 3) := by decide +kernel
theorem nd_GK_serve_31 : decode nc_GK_serve 31 = .ok (.aload_n 1, 1) := by decide +kernel
theorem nd_GK_serve_32 : decode nc_GK_serve 32 = .ok (.iconst 0, 1) := by decide +kernel
theorem nd_GK_serve_33 : decode nc_GK_serve 33 = .ok (.aload_n 0, 1) := by decide +kernel
theorem nd_GK_serve_34 : decode nc_GK_serve 34 = .ok (.getfield 37, 3) := by decide +kernel
theorem nd_GK_serve_37 : decode nc_GK_serve 37 = .ok (.aload_n 1, 1) := by decide +kernel
theorem nd_GK_serve_38 : decode nc_GK_serve 38 = .ok (.iload_n 2, 1) := by decide +kernel
theorem nd_GK_serve_39 : decode nc_GK_serve 39 = .ok (.invokevirtual 191, 3) := by decide +kernel
theorem nd_GK_serve_42 : decode nc_GK_serve 42 = .ok (.invokevirtual 194, 3) := by decide +kernel
theorem nd_GK_serve_45 : decode nc_GK_serve 45 = .ok (.iconst 0, 1) := by decide +kernel
theorem nd_GK_serve_46 : decode nc_GK_serve 46 = .ok (.ireturn, 1) := by decide +kernel
theorem nd_GK_endStep_0 : decode nc_GK_endStep 0 = .ok (.iload_n 2, 1) := by decide +kernel
theorem nd_GK_endStep_1 : decode nc_GK_endStep 1 = .ok (.istore_n 3, 1) := by decide +kernel
theorem nd_GK_endStep_2 : decode nc_GK_endStep 2 = .ok (.iload_n 3, 1) := by decide +kernel
theorem nd_GK_endStep_3 : decode nc_GK_endStep 3 = .ok (.ifCond .ne 41, 3) := by decide +kernel
theorem nd_GK_endStep_6 : decode nc_GK_endStep 6 = .ok (.aload_n 0, 1) := by decide +kernel
theorem nd_GK_endStep_7 : decode nc_GK_endStep 7 = .ok (.dup, 1) := by decide +kernel
theorem nd_GK_endStep_8 : decode nc_GK_endStep 8 = .ok (.getfield 76, 3) := by decide +kernel
theorem nd_GK_endStep_11 : decode nc_GK_endStep 11 = .ok (.iconst 1, 1) := by decide +kernel
theorem nd_GK_endStep_12 : decode nc_GK_endStep 12 = .ok (.isub, 1) := by decide +kernel
theorem nd_GK_endStep_13 : decode nc_GK_endStep 13 = .ok (.putfield 76, 3) := by decide +kernel
theorem nd_GK_endStep_16 : decode nc_GK_endStep 16 = .ok (.aload_n 0, 1) := by decide +kernel
theorem nd_GK_endStep_17 : decode nc_GK_endStep 17 = .ok (.getfield 76, 3) := by decide +kernel
theorem nd_GK_endStep_20 : decode nc_GK_endStep 20 = .ok (.ifCond .ne 24, 3) := by decide +kernel
theorem nd_GK_endStep_23 : decode nc_GK_endStep 23 = .ok (.aload_n 1, 1) := by decide +kernel
theorem nd_GK_endStep_24 : decode nc_GK_endStep 24 = .ok (.getfield 171, 3) := by decide +kernel
theorem nd_GK_endStep_27 : decode nc_GK_endStep 27 = .ok (.ifCond .ne 17, 3) := by decide +kernel
theorem nd_GK_endStep_30 : decode nc_GK_endStep 30 = .ok (.aload_n 1, 1) := by decide +kernel
theorem nd_GK_endStep_31 : decode nc_GK_endStep 31 = .ok (.aload_n 1, 1) := by decide +kernel
theorem nd_GK_endStep_32 : decode nc_GK_endStep 32 = .ok (.getfield 181, 3) := by decide +kernel
theorem nd_GK_endStep_35 : decode nc_GK_endStep 35 = .ok (.invokevirtual 184, 3) := by decide +kernel
theorem nd_GK_endStep_38 : decode nc_GK_endStep 38 = .ok (.ifCond .ne 6, 3) := by decide +kernel
theorem nd_GK_endStep_41 : decode nc_GK_endStep 41 = .ok (.bipush 6, 2) := by decide +kernel
theorem nd_GK_endStep_43 : decode nc_GK_endStep 43 = .ok (.istore_n 3, 1) := by decide +kernel
theorem nd_GK_endStep_44 : decode nc_GK_endStep 44 = .ok (.iload_n 3, 1) := by decide +kernel
theorem nd_GK_endStep_45 : decode nc_GK_endStep 45 = .ok (.ifCond .eq 13, 3) := by decide +kernel
theorem nd_GK_endStep_48 : decode nc_GK_endStep 48 = .ok (.aload_n 0, 1) := by decide +kernel
theorem nd_GK_endStep_49 : decode nc_GK_endStep 49 = .ok (.iconst 0, 1) := by decide +kernel
theorem nd_GK_endStep_50 : decode nc_GK_endStep 50 = .ok (.putfield 76, 3) := by decide +kernel
theorem nd_GK_endStep_53 : decode nc_GK_endStep 53 = .ok (.aload_n 1, 1) := by decide +kernel
theorem nd_GK_endStep_54 : decode nc_GK_endStep 54 = .ok (.iload_n 3, 1) := by decide +kernel
theorem nd_GK_endStep_55 : decode nc_GK_endStep 55 = .ok (.invokevirtual 197, 3) := by decide +kernel
theorem nd_GK_endStep_58 : decode nc_GK_endStep 58 = .ok (.return_, 1) := by decide +kernel
theorem nd_Me_init_0 : decode nc_Me_init 0 = .ok (.aload_n 0, 1) := by decide +kernel
theorem nd_Me_init_1 : decode nc_Me_init 1 = .ok (.invokespecial 3, 3) := by decide +kernel
theorem nd_Me_init_4 : decode nc_Me_init 4 = .ok (.aload_n 0, 1) := by decide +kernel
theorem nd_Me_init_5 : decode nc_Me_init 5 = .ok (.sipush 256, 3) := by decide +kernel
theorem nd_Me_init_8 : decode nc_Me_init 8 = .ok (.newarray .int, 2) := by decide +kernel
theorem nd_Me_init_10 : decode nc_Me_init 10 = .ok (.putfield 9, 3) := by decide +kernel
theorem nd_Me_init_13 : decode nc_Me_init 13 = .ok (.aload_n 0, 1) := by decide +kernel
theorem nd_Me_init_14 : decode nc_Me_init 14 = .ok (.sipush 128, 3) := by decide +kernel
theorem nd_Me_init_17 : decode nc_Me_init 17 = .ok (.newarray .int, 2) := by decide +kernel
theorem nd_Me_init_19 : decode nc_Me_init 19 = .ok (.putfield 15, 3) := by decide +kernel
theorem nd_Me_init_22 : decode nc_Me_init 22 = .ok (.return_, 1) := by decide +kernel
theorem nd_Me_halfword_0 : decode nc_Me_halfword 0 = .ok (.iload_n 1, 1) := by decide +kernel
theorem nd_Me_halfword_1 : decode nc_Me_halfword 1 = .ok (.iconst 1, 1) := by decide +kernel
theorem nd_Me_halfword_2 : decode nc_Me_halfword 2 = .ok (.ishr, 1) := by decide +kernel
theorem nd_Me_halfword_3 : decode nc_Me_halfword 3 = .ok (.istore_n 2, 1) := by decide +kernel
theorem nd_Me_halfword_4 : decode nc_Me_halfword 4 = .ok (.iload_n 2, 1) := by decide +kernel
theorem nd_Me_halfword_5 : decode nc_Me_halfword 5 = .ok (.ifCond .lt 10, 3) := by decide +kernel
theorem nd_Me_halfword_8 : decode nc_Me_halfword 8 = .ok (.iload_n 2, 1) := by decide +kernel
theorem nd_Me_halfword_9 : decode nc_Me_halfword 9 = .ok (.sipush 256, 3) := by decide +kernel
theorem nd_Me_halfword_12 : decode nc_Me_halfword 12 = .ok (.if_icmp .lt 7, 3) := by decide +kernel
theorem nd_Me_halfword_15 : decode nc_Me_halfword 15 = .ok (.iconst 0, 1) := by decide +kernel
theorem nd_Me_halfword_16 : decode nc_Me_halfword 16 = .ok (.goto 9, 3) := by decide +kernel
theorem nd_Me_halfword_19 : decode nc_Me_halfword 19 = .ok (.aload_n 0, 1) := by decide +kernel
theorem nd_Me_halfword_20 : decode nc_Me_halfword 20 = .ok (.getfield 9, 3) := by decide +kernel
theorem nd_Me_halfword_23 : decode nc_Me_halfword 23 = .ok (.iload_n 2, 1) := by decide +kernel
theorem nd_Me_halfword_24 : decode nc_Me_halfword 24 = .ok (.iaload, 1) := by decide +kernel
theorem nd_Me_halfword_25 : decode nc_Me_halfword 25 = .ok (.ireturn, 1) := by decide +kernel
theorem nd_Me_flashWord_0 : decode nc_Me_flashWord 0 = .ok (.iload_n 1, 1) := by decide +kernel
theorem nd_Me_flashWord_1 : decode nc_Me_flashWord 1 = .ok (.iconst 1, 1) := by decide +kernel
theorem nd_Me_flashWord_2 : decode nc_Me_flashWord 2 = .ok (.ishr, 1) := by decide +kernel
theorem nd_Me_flashWord_3 : decode nc_Me_flashWord 3 = .ok (.istore_n 2, 1) := by decide +kernel
theorem nd_Me_flashWord_4 : decode nc_Me_flashWord 4 = .ok (.iload_n 2, 1) := by decide +kernel
theorem nd_Me_flashWord_5 : decode nc_Me_flashWord 5 = .ok (.ifCond .lt 12, 3) := by decide +kernel
theorem nd_Me_flashWord_8 : decode nc_Me_flashWord 8 = .ok (.iload_n 2, 1) := by decide +kernel
theorem nd_Me_flashWord_9 : decode nc_Me_flashWord 9 = .ok (.iconst 1, 1) := by decide +kernel
theorem nd_Me_flashWord_10 : decode nc_Me_flashWord 10 = .ok (.iadd, 1) := by decide +kernel
theorem nd_Me_flashWord_11 : decode nc_Me_flashWord 11 = .ok (.sipush 256, 3) := by decide +kernel
theorem nd_Me_flashWord_14 : decode nc_Me_flashWord 14 = .ok (.if_icmp .lt 7, 3) := by decide +kernel
theorem nd_Me_flashWord_17 : decode nc_Me_flashWord 17 = .ok (.iconst 0, 1) := by decide +kernel
theorem nd_Me_flashWord_18 : decode nc_Me_flashWord 18 = .ok (.goto 21, 3) := by decide +kernel
theorem nd_Me_flashWord_21 : decode nc_Me_flashWord 21 = .ok (.aload_n 0, 1) := by decide +kernel
theorem nd_Me_flashWord_22 : decode nc_Me_flashWord 22 = .ok (.getfield 9, 3) := by decide +kernel
theorem nd_Me_flashWord_25 : decode nc_Me_flashWord 25 = .ok (.iload_n 2, 1) := by decide +kernel
theorem nd_Me_flashWord_26 : decode nc_Me_flashWord 26 = .ok (.iaload, 1) := by decide +kernel
theorem nd_Me_flashWord_27 : decode nc_Me_flashWord 27 = .ok (.aload_n 0, 1) := by decide +kernel
theorem nd_Me_flashWord_28 : decode nc_Me_flashWord 28 = .ok (.getfield 9, 3) := by decide +kernel
theorem nd_Me_flashWord_31 : decode nc_Me_flashWord 31 = .ok (.iload_n 2, 1) := by decide +kernel
theorem nd_Me_flashWord_32 : decode nc_Me_flashWord 32 = .ok (.iconst 1, 1) := by decide +kernel
theorem nd_Me_flashWord_33 : decode nc_Me_flashWord 33 = .ok (.iadd, 1) := by decide +kernel
theorem nd_Me_flashWord_34 : decode nc_Me_flashWord 34 = .ok (.iaload, 1) := by decide +kernel
theorem nd_Me_flashWord_35 : decode nc_Me_flashWord 35 = .ok (.bipush 16, 2) := by decide +kernel
theorem nd_Me_flashWord_37 : decode nc_Me_flashWord 37 = .ok (.ishl, 1) := by decide +kernel
theorem nd_Me_flashWord_38 : decode nc_Me_flashWord 38 = .ok (.ior, 1) := by decide +kernel
theorem nd_Me_flashWord_39 : decode nc_Me_flashWord 39 = .ok (.ireturn, 1) := by decide +kernel
theorem nd_Me_ramWord_0 : decode nc_Me_ramWord 0 = .ok (.iload_n 1, 1) := by decide +kernel
theorem nd_Me_ramWord_1 : decode nc_Me_ramWord 1 = .ok (.sipush 4096, 3) := by decide +kernel
theorem nd_Me_ramWord_4 : decode nc_Me_ramWord 4 = .ok (.isub, 1) := by decide +kernel
theorem nd_Me_ramWord_5 : decode nc_Me_ramWord 5 = .ok (.iconst 2, 1) := by decide +kernel
theorem nd_Me_ramWord_6 : decode nc_Me_ramWord 6 = .ok (.ishr, 1) := by decide +kernel
theorem nd_Me_ramWord_7 : decode nc_Me_ramWord 7 = .ok (.istore_n 2, 1) := by decide +kernel
theorem nd_Me_ramWord_8 : decode nc_Me_ramWord 8 = .ok (.iload_n 2, 1) := by decide +kernel
theorem nd_Me_ramWord_9 : decode nc_Me_ramWord 9 = .ok (.ifCond .lt 10, 3) := by decide +kernel
theorem nd_Me_ramWord_12 : decode nc_Me_ramWord 12 = .ok (.iload_n 2, 1) := by decide +kernel
theorem nd_Me_ramWord_13 : decode nc_Me_ramWord 13 = .ok (.sipush 128, 3) := by decide +kernel
theorem nd_Me_ramWord_16 : decode nc_Me_ramWord 16 = .ok (.if_icmp .lt 7, 3) := by decide +kernel
theorem nd_Me_ramWord_19 : decode nc_Me_ramWord 19 = .ok (.iconst 0, 1) := by decide +kernel
theorem nd_Me_ramWord_20 : decode nc_Me_ramWord 20 = .ok (.goto 9, 3) := by decide +kernel
theorem nd_Me_ramWord_23 : decode nc_Me_ramWord 23 = .ok (.aload_n 0, 1) := by decide +kernel
theorem nd_Me_ramWord_24 : decode nc_Me_ramWord 24 = .ok (.getfield 15, 3) := by decide +kernel
theorem nd_Me_ramWord_27 : decode nc_Me_ramWord 27 = .ok (.iload_n 2, 1) := by decide +kernel
theorem nd_Me_ramWord_28 : decode nc_Me_ramWord 28 = .ok (.iaload, 1) := by decide +kernel
theorem nd_Me_ramWord_29 : decode nc_Me_ramWord 29 = .ok (.ireturn, 1) := by decide +kernel
theorem nd_Me_setRamWord_0 : decode nc_Me_setRamWord 0 = .ok (.iload_n 1, 1) := by decide +kernel
theorem nd_Me_setRamWord_1 : decode nc_Me_setRamWord 1 = .ok (.sipush 4096, 3) := by decide +kernel
theorem nd_Me_setRamWord_4 : decode nc_Me_setRamWord 4 = .ok (.isub, 1) := by decide +kernel
theorem nd_Me_setRamWord_5 : decode nc_Me_setRamWord 5 = .ok (.iconst 2, 1) := by decide +kernel
theorem nd_Me_setRamWord_6 : decode nc_Me_setRamWord 6 = .ok (.ishr, 1) := by decide +kernel
theorem nd_Me_setRamWord_7 : decode nc_Me_setRamWord 7 = .ok (.istore_n 3, 1) := by decide +kernel
theorem nd_Me_setRamWord_8 : decode nc_Me_setRamWord 8 = .ok (.iload_n 3, 1) := by decide +kernel
theorem nd_Me_setRamWord_9 : decode nc_Me_setRamWord 9 = .ok (.ifCond .lt 17, 3) := by decide +kernel
theorem nd_Me_setRamWord_12 : decode nc_Me_setRamWord 12 = .ok (.iload_n 3, 1) := by decide +kernel
theorem nd_Me_setRamWord_13 : decode nc_Me_setRamWord 13 = .ok (.sipush 128, 3) := by decide +kernel
theorem nd_Me_setRamWord_16 : decode nc_Me_setRamWord 16 = .ok (.if_icmp .ge 10, 3) := by decide +kernel
theorem nd_Me_setRamWord_19 : decode nc_Me_setRamWord 19 = .ok (.aload_n 0, 1) := by decide +kernel
theorem nd_Me_setRamWord_20 : decode nc_Me_setRamWord 20 = .ok (.getfield 15, 3) := by decide +kernel
theorem nd_Me_setRamWord_23 : decode nc_Me_setRamWord 23 = .ok (.iload_n 3, 1) := by decide +kernel
theorem nd_Me_setRamWord_24 : decode nc_Me_setRamWord 24 = .ok (.iload_n 2, 1) := by decide +kernel
theorem nd_Me_setRamWord_25 : decode nc_Me_setRamWord 25 = .ok (.iastore, 1) := by decide +kernel
theorem nd_Me_setRamWord_26 : decode nc_Me_setRamWord 26 = .ok (.return_, 1) := by decide +kernel
theorem nd_Me_clearRam_0 : decode nc_Me_clearRam 0 = .ok (.iconst 0, 1) := by decide +kernel
theorem nd_Me_clearRam_1 : decode nc_Me_clearRam 1 = .ok (.istore_n 3, 1) := by decide +kernel
theorem nd_Me_clearRam_2 : decode nc_Me_clearRam 2 = .ok (.iload_n 3, 1) := by decide +kernel
theorem nd_Me_clearRam_3 : decode nc_Me_clearRam 3 = .ok (.iload_n 2, 1) := by decide +kernel
theorem nd_Me_clearRam_4 : decode nc_Me_clearRam 4 = .ok (.if_icmp .ge 19, 3) := by decide +kernel
theorem nd_Me_clearRam_7 : decode nc_Me_clearRam 7 = .ok (.aload_n 0, 1) := by decide +kernel
theorem nd_Me_clearRam_8 : decode nc_Me_clearRam 8 = .ok (.iload_n 1, 1) := by decide +kernel
theorem nd_Me_clearRam_9 : decode nc_Me_clearRam 9 = .ok (.iconst 4, 1) := by decide +kernel
theorem nd_Me_clearRam_10 : decode nc_Me_clearRam 10 = .ok (.iload_n 3, 1) := by decide +kernel
theorem nd_Me_clearRam_11 : decode nc_Me_clearRam 11 = .ok (.imul, 1) := by decide +kernel
theorem nd_Me_clearRam_12 : decode nc_Me_clearRam 12 = .ok (.iadd, 1) := by decide +kernel
theorem nd_Me_clearRam_13 : decode nc_Me_clearRam 13 = .ok (.iconst 0, 1) := by decide +kernel
theorem nd_Me_clearRam_14 : decode nc_Me_clearRam 14 = .ok (.invokevirtual 18, 3) := by decide +kernel
theorem nd_Me_clearRam_17 : decode nc_Me_clearRam 17 = .ok (.iinc 3 1, 3) := by decide +kernel
theorem nd_Me_clearRam_20 : decode nc_Me_clearRam 20 = .ok (.goto (-18), 3) := by decide +kernel
theorem nd_Me_clearRam_23 : decode nc_Me_clearRam 23 = .ok (.return_, 1) := by decide +kernel
theorem nd_UQ_init_0 : decode nc_UQ_init 0 = .ok (.aload_n 0, 1) := by decide +kernel
theorem nd_UQ_init_1 : decode nc_UQ_init 1 = .ok (.invokespecial 1, 3) := by decide +kernel
theorem nd_UQ_init_4 : decode nc_UQ_init 4 = .ok (.aload_n 0, 1) := by decide +kernel
theorem nd_UQ_init_5 : decode nc_UQ_init 5 = .ok (.iconst 4, 1) := by decide +kernel
theorem nd_UQ_init_6 : decode nc_UQ_init 6 = .ok (.newarray .int, 2) := by decide +kernel
theorem nd_UQ_init_8 : decode nc_UQ_init 8 = .ok (.putfield 9, 3) := by decide +kernel
theorem nd_UQ_init_11 : decode nc_UQ_init 11 = .ok (.aload_n 0, 1) := by decide +kernel
theorem nd_UQ_init_12 : decode nc_UQ_init 12 = .ok (.iconst 4, 1) := by decide +kernel
theorem nd_UQ_init_13 : decode nc_UQ_init 13 = .ok (.newarray .int, 2) := by decide +kernel
theorem nd_UQ_init_15 : decode nc_UQ_init 15 = .ok (.putfield 13, 3) := by decide +kernel
theorem nd_UQ_init_18 : decode nc_UQ_init 18 = .ok (.aload_n 0, 1) := by decide +kernel
theorem nd_UQ_init_19 : decode nc_UQ_init 19 = .ok (.iconst 4, 1) := by decide +kernel
theorem nd_UQ_init_20 : decode nc_UQ_init 20 = .ok (.newarray .int, 2) := by decide +kernel
theorem nd_UQ_init_22 : decode nc_UQ_init 22 = .ok (.putfield 16, 3) := by decide +kernel
theorem nd_UQ_init_25 : decode nc_UQ_init 25 = .ok (.return_, 1) := by decide +kernel
theorem nd_UQ_enqueue_0 : decode nc_UQ_enqueue 0 = .ok (.aload_n 0, 1) := by decide +kernel
theorem nd_UQ_enqueue_1 : decode nc_UQ_enqueue 1 = .ok (.getfield 19, 3) := by decide +kernel
theorem nd_UQ_enqueue_4 : decode nc_UQ_enqueue 4 = .ok (.iconst 4, 1) := by decide +kernel
theorem nd_UQ_enqueue_5 : decode nc_UQ_enqueue 5 = .ok (.if_icmp .ge 43, 3) := by decide +kernel
theorem nd_UQ_enqueue_8 : decode nc_UQ_enqueue 8 = .ok (.aload_n 0, 1) := by decide +kernel
theorem nd_UQ_enqueue_9 : decode nc_UQ_enqueue 9 = .ok (.getfield 9, 3) := by decide +kernel
theorem nd_UQ_enqueue_12 : decode nc_UQ_enqueue 12 = .ok (.aload_n 0, 1) := by decide +kernel
theorem nd_UQ_enqueue_13 : decode nc_UQ_enqueue 13 = .ok (.getfield 19, 3) := by decide +kernel
theorem nd_UQ_enqueue_16 : decode nc_UQ_enqueue 16 = .ok (.iload_n 1, 1) := by decide +kernel
theorem nd_UQ_enqueue_17 : decode nc_UQ_enqueue 17 = .ok (.iastore, 1) := by decide +kernel
theorem nd_UQ_enqueue_18 : decode nc_UQ_enqueue 18 = .ok (.aload_n 0, 1) := by decide +kernel
theorem nd_UQ_enqueue_19 : decode nc_UQ_enqueue 19 = .ok (.getfield 13, 3) := by decide +kernel
theorem nd_UQ_enqueue_22 : decode nc_UQ_enqueue 22 = .ok (.aload_n 0, 1) := by decide +kernel
theorem nd_UQ_enqueue_23 : decode nc_UQ_enqueue 23 = .ok (.getfield 19, 3) := by decide +kernel
theorem nd_UQ_enqueue_26 : decode nc_UQ_enqueue 26 = .ok (.iload_n 2, 1) := by decide +kernel
theorem nd_UQ_enqueue_27 : decode nc_UQ_enqueue 27 = .ok (.iastore, 1) := by decide +kernel
theorem nd_UQ_enqueue_28 : decode nc_UQ_enqueue 28 = .ok (.aload_n 0, 1) := by decide +kernel
theorem nd_UQ_enqueue_29 : decode nc_UQ_enqueue 29 = .ok (.getfield 16, 3) := by decide +kernel
theorem nd_UQ_enqueue_32 : decode nc_UQ_enqueue 32 = .ok (.aload_n 0, 1) := by decide +kernel
theorem nd_UQ_enqueue_33 : decode nc_UQ_enqueue 33 = .ok (.getfield 19, 3) := by decide +kernel
theorem nd_UQ_enqueue_36 : decode nc_UQ_enqueue 36 = .ok (.iload_n 3, 1) := by decide +kernel
theorem nd_UQ_enqueue_37 : decode nc_UQ_enqueue 37 = .ok (.iastore, 1) := by decide +kernel
theorem nd_UQ_enqueue_38 : decode nc_UQ_enqueue 38 = .ok (.aload_n 0, 1) := by decide +kernel
theorem nd_UQ_enqueue_39 : decode nc_UQ_enqueue 39 = .ok (.dup, 1) := by decide +kernel
theorem nd_UQ_enqueue_40 : decode nc_UQ_enqueue 40 = .ok (.getfield 19, 3) := by decide +kernel
theorem nd_UQ_enqueue_43 : decode nc_UQ_enqueue 43 = .ok (.iconst 1, 1) := by decide +kernel
theorem nd_UQ_enqueue_44 : decode nc_UQ_enqueue 44 = .ok (.iadd, 1) := by decide +kernel
theorem nd_UQ_enqueue_45 : decode nc_UQ_enqueue 45 = .ok (.putfield 19, 3) := by decide +kernel
theorem nd_UQ_enqueue_48 : decode nc_UQ_enqueue 48 = .ok (.return_, 1) := by decide +kernel
theorem nd_UQ_removeOldest_0 : decode nc_UQ_removeOldest 0 = .ok (.iconst 1, 1) := by decide +kernel
theorem nd_UQ_removeOldest_1 : decode nc_UQ_removeOldest 1 = .ok (.istore_n 1, 1) := by decide +kernel
theorem nd_UQ_removeOldest_2 : decode nc_UQ_removeOldest 2 = .ok (.iload_n 1, 1) := by decide +kernel
theorem nd_UQ_removeOldest_3 : decode nc_UQ_removeOldest 3 = .ok (.aload_n 0, 1) := by decide +kernel
theorem nd_UQ_removeOldest_4 : decode nc_UQ_removeOldest 4 = .ok (.getfield 19, 3) := by decide +kernel
theorem nd_UQ_removeOldest_7 : decode nc_UQ_removeOldest 7 = .ok (.if_icmp .ge 17, 3) := by decide +kernel
theorem nd_UQ_removeOldest_10 : decode nc_UQ_removeOldest 10 = .ok (.aload_n 0, 1) := by decide +kernel
theorem nd_UQ_removeOldest_11 : decode nc_UQ_removeOldest 11 = .ok (.iload_n 1, 1) := by decide +kernel
theorem nd_UQ_removeOldest_12 : decode nc_UQ_removeOldest 12 = .ok (.iload_n 1, 1) := by decide +kernel
theorem nd_UQ_removeOldest_13 : decode nc_UQ_removeOldest 13 = .ok (.iconst 1, 1) := by decide +kernel
theorem nd_UQ_removeOldest_14 : decode nc_UQ_removeOldest 14 = .ok (.isub, 1) := by decide +kernel
theorem nd_UQ_removeOldest_15 : decode nc_UQ_removeOldest 15 = .ok (.invokevirtual 23, 3) := by decide +kernel
theorem nd_UQ_removeOldest_18 : decode nc_UQ_removeOldest 18 = .ok (.iinc 1 1, 3) := by decide +kernel
theorem nd_UQ_removeOldest_21 : decode nc_UQ_removeOldest 21 = .ok (.goto (-19), 3) := by decide +kernel
theorem nd_UQ_removeOldest_24 : decode nc_UQ_removeOldest 24 = .ok (.aload_n 0, 1) := by decide +kernel
theorem nd_UQ_removeOldest_25 : decode nc_UQ_removeOldest 25 = .ok (.aload_n 0, 1) := by decide +kernel
theorem nd_UQ_removeOldest_26 : decode nc_UQ_removeOldest 26 = .ok (.getfield 19, 3) := by decide +kernel
theorem nd_UQ_removeOldest_29 : decode nc_UQ_removeOldest 29 = .ok (.iconst 1, 1) := by decide +kernel
theorem nd_UQ_removeOldest_30 : decode nc_UQ_removeOldest 30 = .ok (.isub, 1) := by decide +kernel
theorem nd_UQ_removeOldest_31 : decode nc_UQ_removeOldest 31 = .ok (.iconst 0, 1) := by decide +kernel
theorem nd_UQ_removeOldest_32 : decode nc_UQ_removeOldest 32 = .ok (.invokestatic 27, 3) := by decide +kernel
theorem nd_UQ_removeOldest_35 : decode nc_UQ_removeOldest 35 = .ok (.putfield 19, 3) := by decide +kernel
theorem nd_UQ_removeOldest_38 : decode nc_UQ_removeOldest 38 = .ok (.return_, 1) := by decide +kernel
theorem nd_UQ_removeDriver_0 : decode nc_UQ_removeDriver 0 = .ok (.iconst 0, 1) := by decide +kernel
theorem nd_UQ_removeDriver_1 : decode nc_UQ_removeDriver 1 = .ok (.istore_n 2, 1) := by decide +kernel
theorem nd_UQ_removeDriver_2 : decode nc_UQ_removeDriver 2 = .ok (.iconst 0, 1) := by decide +kernel
theorem nd_UQ_removeDriver_3 : decode nc_UQ_removeDriver 3 = .ok (.istore_n 3, 1) := by decide +kernel
theorem nd_UQ_removeDriver_4 : decode nc_UQ_removeDriver 4 = .ok (.iload_n 3, 1) := by decide +kernel
theorem nd_UQ_removeDriver_5 : decode nc_UQ_removeDriver 5 = .ok (.aload_n 0, 1) := by decide +kernel
theorem nd_UQ_removeDriver_6 : decode nc_UQ_removeDriver 6 = .ok (.getfield 19, 3) := by decide +kernel
theorem nd_UQ_removeDriver_9 : decode nc_UQ_removeDriver 9 = .ok (.if_icmp .ge 28, 3) := by decide +kernel
theorem nd_UQ_removeDriver_12 : decode nc_UQ_removeDriver 12 = .ok (.aload_n 0, 1) := by decide +kernel
theorem nd_UQ_removeDriver_13 : decode nc_UQ_removeDriver 13 = .ok (.getfield 9, 3) := by decide +kernel
theorem nd_UQ_removeDriver_16 : decode nc_UQ_removeDriver 16 = .ok (.iload_n 3, 1) := by decide +kernel
theorem nd_UQ_removeDriver_17 : decode nc_UQ_removeDriver 17 = .ok (.iaload, 1) := by decide +kernel
theorem nd_UQ_removeDriver_18 : decode nc_UQ_removeDriver 18 = .ok (.iload_n 1, 1) := by decide +kernel
theorem nd_UQ_removeDriver_19 : decode nc_UQ_removeDriver 19 = .ok (.if_icmp .eq 12, 3) := by decide +kernel
theorem nd_UQ_removeDriver_22 : decode nc_UQ_removeDriver 22 = .ok (.aload_n 0, 1) := by decide +kernel
theorem nd_UQ_removeDriver_23 : decode nc_UQ_removeDriver 23 = .ok (.iload_n 3, 1) := by decide +kernel
theorem nd_UQ_removeDriver_24 : decode nc_UQ_removeDriver 24 = .ok (.iload_n 2, 1) := by decide +kernel
theorem nd_UQ_removeDriver_25 : decode nc_UQ_removeDriver 25 = .ok (.invokevirtual 23, 3) := by decide +kernel
theorem nd_UQ_removeDriver_28 : decode nc_UQ_removeDriver 28 = .ok (.iinc 2 1, 3) := by decide +kernel
theorem nd_UQ_removeDriver_31 : decode nc_UQ_removeDriver 31 = .ok (.iinc 3 1, 3) := by decide +kernel
theorem nd_UQ_removeDriver_34 : decode nc_UQ_removeDriver 34 = .ok (.goto (-30), 3) := by decide +kernel
theorem nd_UQ_removeDriver_37 : decode nc_UQ_removeDriver 37 = .ok (.aload_n 0, 1) := by decide +kernel
theorem nd_UQ_removeDriver_38 : decode nc_UQ_removeDriver 38 = .ok (.iload_n 2, 1) := by decide +kernel
theorem nd_UQ_removeDriver_39 : decode nc_UQ_removeDriver 39 = .ok (.putfield 19, 3) := by decide +kernel
theorem nd_UQ_removeDriver_42 : decode nc_UQ_removeDriver 42 = .ok (.return_, 1) := by decide +kernel
theorem nd_UQ_move_0 : decode nc_UQ_move 0 = .ok (.aload_n 0, 1) := by decide +kernel
theorem nd_UQ_move_1 : decode nc_UQ_move 1 = .ok (.getfield 9, 3) := by decide +kernel
theorem nd_UQ_move_4 : decode nc_UQ_move 4 = .ok (.iload_n 2, 1) := by decide +kernel
theorem nd_UQ_move_5 : decode nc_UQ_move 5 = .ok (.aload_n 0, 1) := by decide +kernel
theorem nd_UQ_move_6 : decode nc_UQ_move 6 = .ok (.getfield 9, 3) := by decide +kernel
theorem nd_UQ_move_9 : decode nc_UQ_move 9 = .ok (.iload_n 1, 1) := by decide +kernel
theorem nd_UQ_move_10 : decode nc_UQ_move 10 = .ok (.iaload, 1) := by decide +kernel
theorem nd_UQ_move_11 : decode nc_UQ_move 11 = .ok (.iastore, 1) := by decide +kernel
theorem nd_UQ_move_12 : decode nc_UQ_move 12 = .ok (.aload_n 0, 1) := by decide +kernel
theorem nd_UQ_move_13 : decode nc_UQ_move 13 = .ok (.getfield 13, 3) := by decide +kernel
theorem nd_UQ_move_16 : decode nc_UQ_move 16 = .ok (.iload_n 2, 1) := by decide +kernel
theorem nd_UQ_move_17 : decode nc_UQ_move 17 = .ok (.aload_n 0, 1) := by decide +kernel
theorem nd_UQ_move_18 : decode nc_UQ_move 18 = .ok (.getfield 13, 3) := by decide +kernel
theorem nd_UQ_move_21 : decode nc_UQ_move 21 = .ok (.iload_n 1, 1) := by decide +kernel
theorem nd_UQ_move_22 : decode nc_UQ_move 22 = .ok (.iaload, 1) := by decide +kernel
theorem nd_UQ_move_23 : decode nc_UQ_move 23 = .ok (.iastore, 1) := by decide +kernel
theorem nd_UQ_move_24 : decode nc_UQ_move 24 = .ok (.aload_n 0, 1) := by decide +kernel
theorem nd_UQ_move_25 : decode nc_UQ_move 25 = .ok (.getfield 16, 3) := by decide +kernel
theorem nd_UQ_move_28 : decode nc_UQ_move 28 = .ok (.iload_n 2, 1) := by decide +kernel
theorem nd_UQ_move_29 : decode nc_UQ_move 29 = .ok (.aload_n 0, 1) := by decide +kernel
theorem nd_UQ_move_30 : decode nc_UQ_move 30 = .ok (.getfield 16, 3) := by decide +kernel
theorem nd_UQ_move_33 : decode nc_UQ_move 33 = .ok (.iload_n 1, 1) := by decide +kernel
theorem nd_UQ_move_34 : decode nc_UQ_move 34 = .ok (.iaload, 1) := by decide +kernel
theorem nd_UQ_move_35 : decode nc_UQ_move 35 = .ok (.iastore, 1) := by decide +kernel
theorem nd_UQ_move_36 : decode nc_UQ_move 36 = .ok (.return_, 1) := by decide +kernel
theorem nd_No_init_0 : decode nc_No_init 0 = .ok (.aload_n 0, 1) := by decide +kernel
theorem nd_No_init_1 : decode nc_No_init 1 = .ok (.invokespecial 3, 3) := by decide +kernel
theorem nd_No_init_4 : decode nc_No_init 4 = .ok (.aload_n 0, 1) := by decide +kernel
theorem nd_No_init_5 : decode nc_No_init 5 = .ok (.iconst 3, 1) := by decide +kernel
theorem nd_No_init_6 : decode nc_No_init 6 = .ok (.newarray .int, 2) := by decide +kernel
theorem nd_No_init_8 : decode nc_No_init 8 = .ok (.putfield 9, 3) := by decide +kernel
theorem nd_No_init_11 : decode nc_No_init 11 = .ok (.aload_n 0, 1) := by decide +kernel
theorem nd_No_init_12 : decode nc_No_init 12 = .ok (.iconst 3, 1) := by decide +kernel
theorem nd_No_init_13 : decode nc_No_init 13 = .ok (.newarray .int, 2) := by decide +kernel
theorem nd_No_init_15 : decode nc_No_init 15 = .ok (.putfield 15, 3) := by decide +kernel
theorem nd_No_init_18 : decode nc_No_init 18 = .ok (.aload_n 0, 1) := by decide +kernel
theorem nd_No_init_19 : decode nc_No_init 19 = .ok (.iconst 3, 1) := by decide +kernel
theorem nd_No_init_20 : decode nc_No_init 20 = .ok (.newarray .int, 2) := by decide +kernel
theorem nd_No_init_22 : decode nc_No_init 22 = .ok (.putfield 18, 3) := by decide +kernel
theorem nd_No_init_25 : decode nc_No_init 25 = .ok (.aload_n 0, 1) := by decide +kernel
theorem nd_No_init_26 : decode nc_No_init 26 = .ok (.iconst 3, 1) := by decide +kernel
theorem nd_No_init_27 : decode nc_No_init 27 = .ok (.newarray .int, 2) := by decide +kernel
theorem nd_No_init_29 : decode nc_No_init 29 = .ok (.putfield 21, 3) := by decide +kernel
theorem nd_No_init_32 : decode nc_No_init 32 = .ok (.aload_n 0, 1) := by decide +kernel
theorem nd_No_init_33 : decode nc_No_init 33 = .ok (.iconst 3, 1) := by decide +kernel
theorem nd_No_init_34 : decode nc_No_init 34 = .ok (.newarray .int, 2) := by decide +kernel
theorem nd_No_init_36 : decode nc_No_init 36 = .ok (.putfield 24, 3) := by decide +kernel
theorem nd_No_init_39 : decode nc_No_init 39 = .ok (.aload_n 0, 1) := by decide +kernel
theorem nd_No_init_40 : decode nc_No_init 40 = .ok (.new 27, 3) := by decide +kernel
theorem nd_No_init_43 : decode nc_No_init 43 = .ok (.dup, 1) := by decide +kernel
theorem nd_No_init_44 : decode nc_No_init 44 = .ok (.invokespecial 29, 3) := by decide +kernel
theorem nd_No_init_47 : decode nc_No_init 47 = .ok (.putfield 30, 3) := by decide +kernel
theorem nd_No_init_50 : decode nc_No_init 50 = .ok (.return_, 1) := by decide +kernel
theorem nd_No_hasGrant_0 : decode nc_No_hasGrant 0 = .ok (.aload_n 0, 1) := by decide +kernel
theorem nd_No_hasGrant_1 : decode nc_No_hasGrant 1 = .ok (.getfield 9, 3) := by decide +kernel
theorem nd_No_hasGrant_4 : decode nc_No_hasGrant 4 = .ok (.iload_n 1, 1) := by decide +kernel
theorem nd_No_hasGrant_5 : decode nc_No_hasGrant 5 = .ok (.iaload, 1) := by decide +kernel
theorem nd_No_hasGrant_6 : decode nc_No_hasGrant 6 = .ok (.ifCond .eq 7, 3) := by decide +kernel
theorem nd_No_hasGrant_9 : decode nc_No_hasGrant 9 = .ok (.iconst 1, 1) := by decide +kernel
theorem nd_No_hasGrant_10 : decode nc_No_hasGrant 10 = .ok (.goto 4, 3) := by decide +kernel
theorem nd_No_hasGrant_13 : decode nc_No_hasGrant 13 = .ok (.iconst 0, 1) := by decide +kernel
theorem nd_No_hasGrant_14 : decode nc_No_hasGrant 14 = .ok (.ireturn, 1) := by decide +kernel
theorem nd_No_clear_0 : decode nc_No_clear 0 = .ok (.iconst 0, 1) := by decide +kernel
theorem nd_No_clear_1 : decode nc_No_clear 1 = .ok (.istore_n 1, 1) := by decide +kernel
theorem nd_No_clear_2 : decode nc_No_clear 2 = .ok (.iload_n 1, 1) := by decide +kernel
theorem nd_No_clear_3 : decode nc_No_clear 3 = .ok (.iconst 3, 1) := by decide +kernel
theorem nd_No_clear_4 : decode nc_No_clear 4 = .ok (.if_icmp .ge 44, 3) := by decide +kernel
theorem nd_No_clear_7 : decode nc_No_clear 7 = .ok (.aload_n 0, 1) := by decide +kernel
theorem nd_No_clear_8 : decode nc_No_clear 8 = .ok (.getfield 9, 3) := by decide +kernel
theorem nd_No_clear_11 : decode nc_No_clear 11 = .ok (.iload_n 1, 1) := by decide +kernel
theorem nd_No_clear_12 : decode nc_No_clear 12 = .ok (.iconst 0, 1) := by decide +kernel
theorem nd_No_clear_13 : decode nc_No_clear 13 = .ok (.iastore, 1) := by decide +kernel
theorem nd_No_clear_14 : decode nc_No_clear 14 = .ok (.aload_n 0, 1) := by decide +kernel
theorem nd_No_clear_15 : decode nc_No_clear 15 = .ok (.getfield 15, 3) := by decide +kernel
theorem nd_No_clear_18 : decode nc_No_clear 18 = .ok (.iload_n 1, 1) := by decide +kernel
theorem nd_No_clear_19 : decode nc_No_clear 19 = .ok (.iconst 0, 1) := by decide +kernel
theorem nd_No_clear_20 : decode nc_No_clear 20 = .ok (.iastore, 1) := by decide +kernel
theorem nd_No_clear_21 : decode nc_No_clear 21 = .ok (.aload_n 0, 1) := by decide +kernel
theorem nd_No_clear_22 : decode nc_No_clear 22 = .ok (.getfield 18, 3) := by decide +kernel
theorem nd_No_clear_25 : decode nc_No_clear 25 = .ok (.iload_n 1, 1) := by decide +kernel
theorem nd_No_clear_26 : decode nc_No_clear 26 = .ok (.iconst 0, 1) := by decide +kernel
theorem nd_No_clear_27 : decode nc_No_clear 27 = .ok (.iastore, 1) := by decide +kernel
theorem nd_No_clear_28 : decode nc_No_clear 28 = .ok (.aload_n 0, 1) := by decide +kernel
theorem nd_No_clear_29 : decode nc_No_clear 29 = .ok (.getfield 21, 3) := by decide +kernel
theorem nd_No_clear_32 : decode nc_No_clear 32 = .ok (.iload_n 1, 1) := by decide +kernel
theorem nd_No_clear_33 : decode nc_No_clear 33 = .ok (.iconst 0, 1) := by decide +kernel
theorem nd_No_clear_34 : decode nc_No_clear 34 = .ok (.iastore, 1) := by decide +kernel
theorem nd_No_clear_35 : decode nc_No_clear 35 = .ok (.aload_n 0, 1) := by decide +kernel
theorem nd_No_clear_36 : decode nc_No_clear 36 = .ok (.getfield 24, 3) := by decide +kernel
theorem nd_No_clear_39 : decode nc_No_clear 39 = .ok (.iload_n 1, 1) := by decide +kernel
theorem nd_No_clear_40 : decode nc_No_clear 40 = .ok (.iconst 0, 1) := by decide +kernel
theorem nd_No_clear_41 : decode nc_No_clear 41 = .ok (.iastore, 1) := by decide +kernel
theorem nd_No_clear_42 : decode nc_No_clear 42 = .ok (.iinc 1 1, 3) := by decide +kernel
theorem nd_No_clear_45 : decode nc_No_clear 45 = .ok (.goto (-43), 3) := by decide +kernel
theorem nd_No_clear_48 : decode nc_No_clear 48 = .ok (.aload_n 0, 1) := by decide +kernel
theorem nd_No_clear_49 : decode nc_No_clear 49 = .ok (.iconst 0, 1) := by decide +kernel
theorem nd_No_clear_50 : decode nc_No_clear 50 = .ok (.putfield 34, 3) := by decide +kernel
theorem nd_No_clear_53 : decode nc_No_clear 53 = .ok (.aload_n 0, 1) := by decide +kernel
theorem nd_No_clear_54 : decode nc_No_clear 54 = .ok (.getfield 30, 3) := by decide +kernel
theorem nd_No_clear_57 : decode nc_No_clear 57 = .ok (.iconst 0, 1) := by decide +kernel
theorem nd_No_clear_58 : decode nc_No_clear 58 = .ok (.putfield 38, 3) := by decide +kernel
theorem nd_No_clear_61 : decode nc_No_clear 61 = .ok (.return_, 1) := by decide +kernel
theorem nd_No_buffersEndBy_0 : decode nc_No_buffersEndBy 0 = .ok (.iconst 0, 1) := by decide +kernel
theorem nd_No_buffersEndBy_1 : decode nc_No_buffersEndBy 1 = .ok (.istore_n 2, 1) := by decide +kernel
theorem nd_No_buffersEndBy_2 : decode nc_No_buffersEndBy 2 = .ok (.iload_n 2, 1) := by decide +kernel
theorem nd_No_buffersEndBy_3 : decode nc_No_buffersEndBy 3 = .ok (.iconst 3, 1) := by decide +kernel
theorem nd_No_buffersEndBy_4 : decode nc_No_buffersEndBy 4 = .ok (.if_icmp .ge 36, 3) := by decide +kernel
theorem nd_No_buffersEndBy_7 : decode nc_No_buffersEndBy 7 = .ok (.aload_n 0, 1) := by decide +kernel
theorem nd_No_buffersEndBy_8 : decode nc_No_buffersEndBy 8 = .ok (.getfield 24, 3) := by decide +kernel
theorem nd_No_buffersEndBy_11 : decode nc_No_buffersEndBy 11 = .ok (.iload_n 2, 1) := by decide +kernel
theorem nd_No_buffersEndBy_12 : decode nc_No_buffersEndBy 12 = .ok (.iaload, 1) := by decide +kernel
theorem nd_No_buffersEndBy_13 : decode nc_No_buffersEndBy 13 = .ok (.istore_n 3, 1) := by decide +kernel
theorem nd_No_buffersEndBy_14 : decode nc_No_buffersEndBy 14 = .ok (.iload_n 3, 1) := by decide +kernel
theorem nd_No_buffersEndBy_15 : decode nc_No_buffersEndBy 15 = .ok (.ifCond .le 19, 3) := by decide +kernel
theorem nd_No_buffersEndBy_18 : decode nc_No_buffersEndBy 18 = .ok (.aload_n 0, 1) := by decide +kernel
theorem nd_No_buffersEndBy_19 : decode nc_No_buffersEndBy 19 = .ok (.getfield 21, 3) := by decide +kernel
theorem nd_No_buffersEndBy_22 : decode nc_No_buffersEndBy 22 = .ok (.iload_n 2, 1) := by decide +kernel
theorem nd_No_buffersEndBy_23 : decode nc_No_buffersEndBy 23 = .ok (.iaload, 1) := by decide +kernel
theorem nd_No_buffersEndBy_24 : decode nc_No_buffersEndBy 24 = .ok (.iconst 4, 1) := by decide +kernel
theorem nd_No_buffersEndBy_25 : decode nc_No_buffersEndBy 25 = .ok (.iload_n 3, 1) := by decide +kernel
theorem nd_No_buffersEndBy_26 : decode nc_No_buffersEndBy 26 = .ok (.imul, 1) := by decide +kernel
theorem nd_No_buffersEndBy_27 : decode nc_No_buffersEndBy 27 = .ok (.iadd, 1) := by decide +kernel
theorem nd_No_buffersEndBy_28 : decode nc_No_buffersEndBy 28 = .ok (.iload_n 1, 1) := by decide +kernel
theorem nd_No_buffersEndBy_29 : decode nc_No_buffersEndBy 29 = .ok (.if_icmp .le 5, 3) := by decide +kernel
theorem nd_No_buffersEndBy_32 : decode nc_No_buffersEndBy 32 = .ok (.iconst 0, 1) := by decide +kernel
theorem nd_No_buffersEndBy_33 : decode nc_No_buffersEndBy 33 = .ok (.ireturn, 1) := by decide +kernel
theorem nd_No_buffersEndBy_34 : decode nc_No_buffersEndBy 34 = .ok (.iinc 2 1, 3) := by decide +kernel
theorem nd_No_buffersEndBy_37 : decode nc_No_buffersEndBy 37 = .ok (.goto (-35), 3) := by decide +kernel
theorem nd_No_buffersEndBy_40 : decode nc_No_buffersEndBy 40 = .ok (.iconst 1, 1) := by decide +kernel
theorem nd_No_buffersEndBy_41 : decode nc_No_buffersEndBy 41 = .ok (.ireturn, 1) := by decide +kernel
theorem nd_BP_init_0 : decode nc_BP_init 0 = .ok (.aload_n 0, 1) := by decide +kernel
theorem nd_BP_init_1 : decode nc_BP_init 1 = .ok (.invokespecial 3, 3) := by decide +kernel
theorem nd_BP_init_4 : decode nc_BP_init 4 = .ok (.aload_n 0, 1) := by decide +kernel
theorem nd_BP_init_5 : decode nc_BP_init 5 = .ok (.aload_n 1, 1) := by decide +kernel
theorem nd_BP_init_6 : decode nc_BP_init 6 = .ok (.putfield 9, 3) := by decide +kernel
theorem nd_BP_init_9 : decode nc_BP_init 9 = .ok (.aload_n 0, 1) := by decide +kernel
theorem nd_BP_init_10 : decode nc_BP_init 10 = .ok (.new 15, 3) := by decide +kernel
theorem nd_BP_init_13 : decode nc_BP_init 13 = .ok (.dup, 1) := by decide +kernel
theorem nd_BP_init_14 : decode nc_BP_init 14 = .ok (.invokespecial 17, 3) := by decide +kernel
theorem nd_BP_init_17 : decode nc_BP_init 17 = .ok (.putfield 18, 3) := by decide +kernel
theorem nd_BP_init_20 : decode nc_BP_init 20 = .ok (.aload_n 0, 1) := by decide +kernel
theorem nd_BP_init_21 : decode nc_BP_init 21 = .ok (.bipush 8, 2) := by decide +kernel
theorem nd_BP_init_23 : decode nc_BP_init 23 = .ok (.newarray .int, 2) := by decide +kernel
theorem nd_BP_init_25 : decode nc_BP_init 25 = .ok (.putfield 22, 3) := by decide +kernel
theorem nd_BP_init_28 : decode nc_BP_init 28 = .ok (.aload_n 0, 1) := by decide +kernel
theorem nd_BP_init_29 : decode nc_BP_init 29 = .ok (.iconst 2, 1) := by decide +kernel
theorem nd_BP_init_30 : decode nc_BP_init 30 = .ok (.putfield 26, 3) := by decide +kernel
theorem nd_BP_init_33 : decode nc_BP_init 33 = .ok (.return_, 1) := by decide +kernel
theorem nd_BP_begin_0 : decode nc_BP_begin 0 = .ok (.aload_n 0, 1) := by decide +kernel
theorem nd_BP_begin_1 : decode nc_BP_begin 1 = .ok (.getfield 9, 3) := by decide +kernel
theorem nd_BP_begin_4 : decode nc_BP_begin 4 = .ok (.aload_n 0, 1) := by decide +kernel
theorem nd_BP_begin_5 : decode nc_BP_begin 5 = .ok (.getfield 30, 3) := by decide +kernel
theorem nd_BP_begin_8 : decode nc_BP_begin 8 = .ok (.aload_n 0, 1) := by decide +kernel
theorem nd_BP_begin_9 : decode nc_BP_begin 9 = .ok (.getfield 33, 3) := by decide +kernel
theorem nd_BP_begin_12 : decode nc_BP_begin 12 = .ok (.invokevirtual 36, 3) := by decide +kernel
theorem nd_BP_begin_15 : decode nc_BP_begin 15 = .ok (.iconst 0, 1) := by decide +kernel
theorem nd_BP_begin_16 : decode nc_BP_begin 16 = .ok (.istore_n 1, 1) := by decide +kernel
theorem nd_BP_begin_17 : decode nc_BP_begin 17 = .ok (.iload_n 1, 1) := by decide +kernel
theorem nd_BP_begin_18 : decode nc_BP_begin 18 = .ok (.aload_n 0, 1) := by decide +kernel
theorem nd_BP_begin_19 : decode nc_BP_begin 19 = .ok (.getfield 22, 3) := by decide +kernel
theorem nd_BP_begin_22 : decode nc_BP_begin 22 = .ok (.arraylength, 1) := by decide +kernel
theorem nd_BP_begin_23 : decode nc_BP_begin 23 = .ok (.if_icmp .ge 16, 3) := by decide +kernel
theorem nd_BP_begin_26 : decode nc_BP_begin 26 = .ok (.aload_n 0, 1) := by decide +kernel
theorem nd_BP_begin_27 : decode nc_BP_begin 27 = .ok (.getfield 22, 3) := by decide +kernel
theorem nd_BP_begin_30 : decode nc_BP_begin 30 = .ok (.iload_n 1, 1) := by decide +kernel
theorem nd_BP_begin_31 : decode nc_BP_begin 31 = .ok (.iconst 0, 1) := by decide +kernel
theorem nd_BP_begin_32 : decode nc_BP_begin 32 = .ok (.iastore, 1) := by decide +kernel
theorem nd_BP_begin_33 : decode nc_BP_begin 33 = .ok (.iinc 1 1, 3) := by decide +kernel
theorem nd_BP_begin_36 : decode nc_BP_begin 36 = .ok (.goto (-19), 3) := by decide +kernel
theorem nd_BP_begin_39 : decode nc_BP_begin 39 = .ok (.aload_n 0, 1) := by decide +kernel
theorem nd_BP_begin_40 : decode nc_BP_begin 40 = .ok (.aload_n 0, 1) := by decide +kernel
theorem nd_BP_begin_41 : decode nc_BP_begin 41 = .ok (.getfield 30, 3) := by decide +kernel
theorem nd_BP_begin_44 : decode nc_BP_begin 44 = .ok (.iconst 4, 1) := by decide +kernel
theorem nd_BP_begin_45 : decode nc_BP_begin 45 = .ok (.aload_n 0, 1) := by decide +kernel
theorem nd_BP_begin_46 : decode nc_BP_begin 46 = .ok (.getfield 42, 3) := by decide +kernel
theorem nd_BP_begin_49 : decode nc_BP_begin 49 = .ok (.imul, 1) := by decide +kernel
theorem nd_BP_begin_50 : decode nc_BP_begin 50 = .ok (.iadd, 1) := by decide +kernel
theorem nd_BP_begin_51 : decode nc_BP_begin 51 = .ok (.putfield 45, 3) := by decide +kernel
theorem nd_BP_begin_54 : decode nc_BP_begin 54 = .ok (.aload_n 0, 1) := by decide +kernel
theorem nd_BP_begin_55 : decode nc_BP_begin 55 = .ok (.iconst 0, 1) := by decide +kernel
theorem nd_BP_begin_56 : decode nc_BP_begin 56 = .ok (.putfield 48, 3) := by decide +kernel
theorem nd_BP_begin_59 : decode nc_BP_begin 59 = .ok (.aload_n 0, 1) := by decide +kernel
theorem nd_BP_begin_60 : decode nc_BP_begin 60 = .ok (.aload_n 0, 1) := by decide +kernel
theorem nd_BP_begin_61 : decode nc_BP_begin 61 = .ok (.getfield 51, 3) := by decide +kernel
theorem nd_BP_begin_64 : decode nc_BP_begin 64 = .ok (.putfield 54, 3) := by decide +kernel
theorem nd_BP_begin_67 : decode nc_BP_begin 67 = .ok (.aload_n 0, 1) := by decide +kernel
theorem nd_BP_begin_68 : decode nc_BP_begin 68 = .ok (.iconst 0, 1) := by decide +kernel
theorem nd_BP_begin_69 : decode nc_BP_begin 69 = .ok (.putfield 57, 3) := by decide +kernel
theorem nd_BP_begin_72 : decode nc_BP_begin 72 = .ok (.aload_n 0, 1) := by decide +kernel
theorem nd_BP_begin_73 : decode nc_BP_begin 73 = .ok (.iconst 0, 1) := by decide +kernel
theorem nd_BP_begin_74 : decode nc_BP_begin 74 = .ok (.putfield 60, 3) := by decide +kernel
theorem nd_BP_begin_77 : decode nc_BP_begin 77 = .ok (.aload_n 0, 1) := by decide +kernel
theorem nd_BP_begin_78 : decode nc_BP_begin 78 = .ok (.invokevirtual 64, 3) := by decide +kernel
theorem nd_BP_begin_81 : decode nc_BP_begin 81 = .ok (.aload_n 0, 1) := by decide +kernel
theorem nd_BP_begin_82 : decode nc_BP_begin 82 = .ok (.iconst 0, 1) := by decide +kernel
theorem nd_BP_begin_83 : decode nc_BP_begin 83 = .ok (.putfield 26, 3) := by decide +kernel
theorem nd_BP_begin_86 : decode nc_BP_begin 86 = .ok (.return_, 1) := by decide +kernel
theorem nd_BP_halt_0 : decode nc_BP_halt 0 = .ok (.aload_n 0, 1) := by decide +kernel
theorem nd_BP_halt_1 : decode nc_BP_halt 1 = .ok (.invokevirtual 64, 3) := by decide +kernel
theorem nd_BP_halt_4 : decode nc_BP_halt 4 = .ok (.aload_n 0, 1) := by decide +kernel
theorem nd_BP_halt_5 : decode nc_BP_halt 5 = .ok (.iconst 2, 1) := by decide +kernel
theorem nd_BP_halt_6 : decode nc_BP_halt 6 = .ok (.putfield 26, 3) := by decide +kernel
theorem nd_BP_halt_9 : decode nc_BP_halt 9 = .ok (.return_, 1) := by decide +kernel
theorem nd_BP_loseNotes_0 : decode nc_BP_loseNotes 0 = .ok (.aload_n 0, 1) := by decide +kernel
theorem nd_BP_loseNotes_1 : decode nc_BP_loseNotes 1 = .ok (.getfield 18, 3) := by decide +kernel
theorem nd_BP_loseNotes_4 : decode nc_BP_loseNotes 4 = .ok (.invokevirtual 67, 3) := by decide +kernel
theorem nd_BP_loseNotes_7 : decode nc_BP_loseNotes 7 = .ok (.aload_n 0, 1) := by decide +kernel
theorem nd_BP_loseNotes_8 : decode nc_BP_loseNotes 8 = .ok (.aload_n 0, 1) := by decide +kernel
theorem nd_BP_loseNotes_9 : decode nc_BP_loseNotes 9 = .ok (.getfield 33, 3) := by decide +kernel
theorem nd_BP_loseNotes_12 : decode nc_BP_loseNotes 12 = .ok (.putfield 70, 3) := by decide +kernel
theorem nd_BP_loseNotes_15 : decode nc_BP_loseNotes 15 = .ok (.return_, 1) := by decide +kernel
theorem nd_BP_forgetFaults_0 : decode nc_BP_forgetFaults 0 = .ok (.aload_n 0, 1) := by decide +kernel
theorem nd_BP_forgetFaults_1 : decode nc_BP_forgetFaults 1 = .ok (.iconst 0, 1) := by decide +kernel
theorem nd_BP_forgetFaults_2 : decode nc_BP_forgetFaults 2 = .ok (.putfield 73, 3) := by decide +kernel
theorem nd_BP_forgetFaults_5 : decode nc_BP_forgetFaults 5 = .ok (.aload_n 0, 1) := by decide +kernel
theorem nd_BP_forgetFaults_6 : decode nc_BP_forgetFaults 6 = .ok (.iconst 0, 1) := by decide +kernel
theorem nd_BP_forgetFaults_7 : decode nc_BP_forgetFaults 7 = .ok (.putfield 76, 3) := by decide +kernel
theorem nd_BP_forgetFaults_10 : decode nc_BP_forgetFaults 10 = .ok (.aload_n 0, 1) := by decide +kernel
theorem nd_BP_forgetFaults_11 : decode nc_BP_forgetFaults 11 = .ok (.iconst 0, 1) := by decide +kernel
theorem nd_BP_forgetFaults_12 : decode nc_BP_forgetFaults 12 = .ok (.putfield 79, 3) := by decide +kernel
theorem nd_BP_forgetFaults_15 : decode nc_BP_forgetFaults 15 = .ok (.return_, 1) := by decide +kernel
theorem nd_BP_fail_0 : decode nc_BP_fail 0 = .ok (.aload_n 0, 1) := by decide +kernel
theorem nd_BP_fail_1 : decode nc_BP_fail 1 = .ok (.iload_n 1, 1) := by decide +kernel
theorem nd_BP_fail_2 : decode nc_BP_fail 2 = .ok (.putfield 73, 3) := by decide +kernel
theorem nd_BP_fail_5 : decode nc_BP_fail 5 = .ok (.aload_n 0, 1) := by decide +kernel
theorem nd_BP_fail_6 : decode nc_BP_fail 6 = .ok (.dup, 1) := by decide +kernel
theorem nd_BP_fail_7 : decode nc_BP_fail 7 = .ok (.getfield 76, 3) := by decide +kernel
theorem nd_BP_fail_10 : decode nc_BP_fail 10 = .ok (.iconst 1, 1) := by decide +kernel
theorem nd_BP_fail_11 : decode nc_BP_fail 11 = .ok (.iadd, 1) := by decide +kernel
theorem nd_BP_fail_12 : decode nc_BP_fail 12 = .ok (.putfield 76, 3) := by decide +kernel
theorem nd_BP_fail_15 : decode nc_BP_fail 15 = .ok (.aload_n 0, 1) := by decide +kernel
theorem nd_BP_fail_16 : decode nc_BP_fail 16 = .ok (.getfield 79, 3) := by decide +kernel
theorem nd_BP_fail_19 : decode nc_BP_fail 19 = .ok (.aload_n 0, 1) := by decide +kernel
theorem nd_BP_fail_20 : decode nc_BP_fail 20 = .ok (.getfield 82, 3) := by decide +kernel
theorem nd_BP_fail_23 : decode nc_BP_fail 23 = .ok (.if_icmp .ge 20, 3) := by decide +kernel
theorem nd_BP_fail_26 : decode nc_BP_fail 26 = .ok (.aload_n 0, 1) := by decide +kernel
theorem nd_BP_fail_27 : decode nc_BP_fail 27 = .ok (.dup, 1) := by decide +kernel
theorem nd_BP_fail_28 : decode nc_BP_fail 28 = .ok (.getfield 79, 3) := by decide +kernel
theorem nd_BP_fail_31 : decode nc_BP_fail 31 = .ok (.iconst 1, 1) := by decide +kernel
theorem nd_BP_fail_32 : decode nc_BP_fail 32 = .ok (.iadd, 1) := by decide +kernel
theorem nd_BP_fail_33 : decode nc_BP_fail 33 = .ok (.putfield 79, 3) := by decide +kernel
theorem nd_BP_fail_36 : decode nc_BP_fail 36 = .ok (.aload_n 0, 1) := by decide +kernel
theorem nd_BP_fail_37 : decode nc_BP_fail 37 = .ok (.invokevirtual 85, 3) := by decide +kernel
theorem nd_BP_fail_40 : decode nc_BP_fail 40 = .ok (.goto 7, 3) := by decide +kernel
theorem nd_BP_fail_43 : decode nc_BP_fail 43 = .ok (.aload_n 0, 1) := by decide +kernel
theorem nd_BP_fail_44 : decode nc_BP_fail 44 = .ok (.invokevirtual 88, 3) := by decide +kernel
theorem nd_BP_fail_47 : decode nc_BP_fail 47 = .ok (.return_, 1) := by decide +kernel
theorem nd_BP_openWordsBefore_0 : decode nc_BP_openWordsBefore 0 = .ok (.aload_n 0, 1) := by decide +kernel
theorem nd_BP_openWordsBefore_1 : decode nc_BP_openWordsBefore 1 = .ok (.getfield 33, 3) := by decide +kernel
theorem nd_BP_openWordsBefore_4 : decode nc_BP_openWordsBefore 4 = .ok (.iload_n 1, 1) := by decide +kernel
theorem nd_BP_openWordsBefore_5 : decode nc_BP_openWordsBefore 5 = .ok (.isub, 1) := by decide +kernel
theorem nd_BP_openWordsBefore_6 : decode nc_BP_openWordsBefore 6 = .ok (.aload_n 0, 1) := by decide +kernel
theorem nd_BP_openWordsBefore_7 : decode nc_BP_openWordsBefore 7 = .ok (.getfield 33, 3) := by decide +kernel
theorem nd_BP_openWordsBefore_10 : decode nc_BP_openWordsBefore 10 = .ok (.iconst 3, 1) := by decide +kernel
theorem nd_BP_openWordsBefore_11 : decode nc_BP_openWordsBefore 11 = .ok (.ishr, 1) := by decide +kernel
theorem nd_BP_openWordsBefore_12 : decode nc_BP_openWordsBefore 12 = .ok (.ineg, 1) := by decide +kernel
theorem nd_BP_openWordsBefore_13 : decode nc_BP_openWordsBefore 13 = .ok (.iand, 1) := by decide +kernel
theorem nd_BP_openWordsBefore_14 : decode nc_BP_openWordsBefore 14 = .ok (.ireturn, 1) := by decide +kernel
theorem nd_BP_areOpen_0 : decode nc_BP_areOpen 0 = .ok (.iload_n 1, 1) := by decide +kernel
theorem nd_BP_areOpen_1 : decode nc_BP_areOpen 1 = .ok (.aload_n 0, 1) := by decide +kernel
theorem nd_BP_areOpen_2 : decode nc_BP_areOpen 2 = .ok (.getfield 30, 3) := by decide +kernel
theorem nd_BP_areOpen_5 : decode nc_BP_areOpen 5 = .ok (.isub, 1) := by decide +kernel
theorem nd_BP_areOpen_6 : decode nc_BP_areOpen 6 = .ok (.istore_n 3, 1) := by decide +kernel
theorem nd_BP_areOpen_7 : decode nc_BP_areOpen 7 = .ok (.iconst 4, 1) := by decide +kernel
theorem nd_BP_areOpen_8 : decode nc_BP_areOpen 8 = .ok (.aload_n 0, 1) := by decide +kernel
theorem nd_BP_areOpen_9 : decode nc_BP_areOpen 9 = .ok (.getfield 70, 3) := by decide +kernel
theorem nd_BP_areOpen_12 : decode nc_BP_areOpen 12 = .ok (.imul, 1) := by decide +kernel
theorem nd_BP_areOpen_13 : decode nc_BP_areOpen 13 = .ok (.istore 4, 2) := by decide +kernel
theorem nd_BP_areOpen_15 : decode nc_BP_areOpen 15 = .ok (.iload_n 3, 1) := by decide +kernel
theorem nd_BP_areOpen_16 : decode nc_BP_areOpen 16 = .ok (.ifCond .lt 23, 3) := by decide +kernel
theorem nd_BP_areOpen_19 : decode nc_BP_areOpen 19 = .ok (.iload_n 3, 1) := by decide +kernel
theorem nd_BP_areOpen_20 : decode nc_BP_areOpen 20 = .ok (.iload 4, 2) := by decide +kernel
theorem nd_BP_areOpen_22 : decode nc_BP_areOpen 22 = .ok (.if_icmp .ge 17, 3) := by decide +kernel
theorem nd_BP_areOpen_25 : decode nc_BP_areOpen 25 = .ok (.iload_n 2, 1) := by decide +kernel
theorem nd_BP_areOpen_26 : decode nc_BP_areOpen 26 = .ok (.iload 4, 2) := by decide +kernel
theorem nd_BP_areOpen_28 : decode nc_BP_areOpen 28 = .ok (.iload_n 3, 1) := by decide +kernel
theorem nd_BP_areOpen_29 : decode nc_BP_areOpen 29 = .ok (.isub, 1) := by decide +kernel
theorem nd_BP_areOpen_30 : decode nc_BP_areOpen 30 = .ok (.iconst 2, 1) := by decide +kernel
theorem nd_BP_areOpen_31 : decode nc_BP_areOpen 31 = .ok (.ishr, 1) := by decide +kernel
theorem nd_BP_areOpen_32 : decode nc_BP_areOpen 32 = .ok (.if_icmp .gt 7, 3) := by decide +kernel
theorem nd_BP_areOpen_35 : decode nc_BP_areOpen 35 = .ok (.iconst 1, 1) := by decide +kernel
theorem nd_BP_areOpen_36 : decode nc_BP_areOpen 36 = .ok (.goto 4, 3) := by decide +kernel
theorem nd_BP_areOpen_39 : decode nc_BP_areOpen 39 = .ok (.iconst 0, 1) := by decide +kernel
theorem nd_BP_areOpen_40 : decode nc_BP_areOpen 40 = .ok (.ireturn, 1) := by decide +kernel
theorem nd_BP_isInCode_0 : decode nc_BP_isInCode 0 = .ok (.iload_n 1, 1) := by decide +kernel
theorem nd_BP_isInCode_1 : decode nc_BP_isInCode 1 = .ok (.aload_n 0, 1) := by decide +kernel
theorem nd_BP_isInCode_2 : decode nc_BP_isInCode 2 = .ok (.getfield 91, 3) := by decide +kernel
theorem nd_BP_isInCode_5 : decode nc_BP_isInCode 5 = .ok (.if_icmp .lt 15, 3) := by decide +kernel
theorem nd_BP_isInCode_8 : decode nc_BP_isInCode 8 = .ok (.iload_n 1, 1) := by decide +kernel
theorem nd_BP_isInCode_9 : decode nc_BP_isInCode 9 = .ok (.aload_n 0, 1) := by decide +kernel
theorem nd_BP_isInCode_10 : decode nc_BP_isInCode 10 = .ok (.getfield 94, 3) := by decide +kernel
theorem nd_BP_isInCode_13 : decode nc_BP_isInCode 13 = .ok (.if_icmp .ge 7, 3) := by decide +kernel
theorem nd_BP_isInCode_16 : decode nc_BP_isInCode 16 = .ok (.iconst 1, 1) := by decide +kernel
theorem nd_BP_isInCode_17 : decode nc_BP_isInCode 17 = .ok (.goto 4, 3) := by decide +kernel
theorem nd_BP_isInCode_20 : decode nc_BP_isInCode 20 = .ok (.iconst 0, 1) := by decide +kernel
theorem nd_BP_isInCode_21 : decode nc_BP_isInCode 21 = .ok (.ireturn, 1) := by decide +kernel
theorem nd_BP_mayLoad_0 : decode nc_BP_mayLoad 0 = .ok (.aload_n 0, 1) := by decide +kernel
theorem nd_BP_mayLoad_1 : decode nc_BP_mayLoad 1 = .ok (.iload_n 1, 1) := by decide +kernel
theorem nd_BP_mayLoad_2 : decode nc_BP_mayLoad 2 = .ok (.invokevirtual 97, 3) := by decide +kernel
theorem nd_BP_mayLoad_5 : decode nc_BP_mayLoad 5 = .ok (.ifCond .ne 12, 3) := by decide +kernel
theorem nd_BP_mayLoad_8 : decode nc_BP_mayLoad 8 = .ok (.aload_n 0, 1) := by decide +kernel
theorem nd_BP_mayLoad_9 : decode nc_BP_mayLoad 9 = .ok (.iload_n 1, 1) := by decide +kernel
theorem nd_BP_mayLoad_10 : decode nc_BP_mayLoad 10 = .ok (.iconst 1, 1) := by decide +kernel
theorem nd_BP_mayLoad_11 : decode nc_BP_mayLoad 11 = .ok (.invokevirtual 101, 3) := by decide +kernel
theorem nd_BP_mayLoad_14 : decode nc_BP_mayLoad 14 = .ok (.ifCond .eq 7, 3) := by decide +kernel
theorem nd_BP_mayLoad_17 : decode nc_BP_mayLoad 17 = .ok (.iconst 1, 1) := by decide +kernel
theorem nd_BP_mayLoad_18 : decode nc_BP_mayLoad 18 = .ok (.goto 4, 3) := by decide +kernel
theorem nd_BP_mayLoad_21 : decode nc_BP_mayLoad 21 = .ok (.iconst 0, 1) := by decide +kernel
theorem nd_BP_mayLoad_22 : decode nc_BP_mayLoad 22 = .ok (.ireturn, 1) := by decide +kernel
theorem nd_BP_readWord_0 : decode nc_BP_readWord 0 = .ok (.aload_n 0, 1) := by decide +kernel
theorem nd_BP_readWord_1 : decode nc_BP_readWord 1 = .ok (.iload_n 1, 1) := by decide +kernel
theorem nd_BP_readWord_2 : decode nc_BP_readWord 2 = .ok (.invokevirtual 97, 3) := by decide +kernel
theorem nd_BP_readWord_5 : decode nc_BP_readWord 5 = .ok (.ifCond .eq 14, 3) := by decide +kernel
theorem nd_BP_readWord_8 : decode nc_BP_readWord 8 = .ok (.aload_n 0, 1) := by decide +kernel
theorem nd_BP_readWord_9 : decode nc_BP_readWord 9 = .ok (.getfield 9, 3) := by decide +kernel
theorem nd_BP_readWord_12 : decode nc_BP_readWord 12 = .ok (.iload_n 1, 1) := by decide +kernel
theorem nd_BP_readWord_13 : decode nc_BP_readWord 13 = .ok (.invokevirtual 105, 3) := by decide +kernel
theorem nd_BP_readWord_16 : decode nc_BP_readWord 16 = .ok (.goto 11, 3) := by decide +kernel
theorem nd_BP_readWord_19 : decode nc_BP_readWord 19 = .ok (.aload_n 0, 1) := by decide +kernel
theorem nd_BP_readWord_20 : decode nc_BP_readWord 20 = .ok (.getfield 9, 3) := by decide +kernel
theorem nd_BP_readWord_23 : decode nc_BP_readWord 23 = .ok (.iload_n 1, 1) := by decide +kernel
theorem nd_BP_readWord_24 : decode nc_BP_readWord 24 = .ok (.invokevirtual 109, 3) := by decide +kernel
theorem nd_BP_readWord_27 : decode nc_BP_readWord 27 = .ok (.ireturn, 1) := by decide +kernel
theorem nd_BP_frameWord_0 : decode nc_BP_frameWord 0 = .ok (.aload_n 0, 1) := by decide +kernel
theorem nd_BP_frameWord_1 : decode nc_BP_frameWord 1 = .ok (.getfield 9, 3) := by decide +kernel
theorem nd_BP_frameWord_4 : decode nc_BP_frameWord 4 = .ok (.aload_n 0, 1) := by decide +kernel
theorem nd_BP_frameWord_5 : decode nc_BP_frameWord 5 = .ok (.getfield 45, 3) := by decide +kernel
theorem nd_BP_frameWord_8 : decode nc_BP_frameWord 8 = .ok (.iconst 4, 1) := by decide +kernel
theorem nd_BP_frameWord_9 : decode nc_BP_frameWord 9 = .ok (.iload_n 1, 1) := by decide +kernel
end
section
/-! rows of the judgement: an instruction a row -/
def zi (i : Int32) (n : Nat) : Bool := decide (¬ (i < 0 ∨ n ≤ i.toNatClampNeg))
def zn (y : Int32) : Bool := decide (¬ y = 0)
def zb (v : Int32) : Bool := decide (v = 0 ∨ v = 1)
theorem zi_in {i : Int32} {n : Nat} (h : zi i n = true) : vp_in i n := of_decide_eq_true (p := ¬ (i < 0 ∨ n ≤ i.toNatClampNeg)) h
theorem zn_ne {y : Int32} (h : zn y = true) : ¬ y = 0 := of_decide_eq_true h
theorem zb_or {v : Int32} (h : zb v = true) : v = 0 ∨ v = 1 := of_decide_eq_true h
/-- names, checks, calls in the pure functions -/
def lt {α β : Type} (e : α) (k : α → Option β) : Option β := k e
def ck {β : Type} (b : Bool) (x : Option β) : Option β := if b = true then x else none
def bn {α β : Type} (x : Option α) (k : α → Option β) : Option β := match x with
  | none => none
  | some a => k a
theorem lt_use {α β : Type} {e : α} {k : α → Option β} {r : β} (h : lt e k = some r) : ∃ x, x = e ∧ k x = some r := ⟨e, rfl, h⟩
theorem ck_use {β : Type} {b : Bool} {x : Option β} {r : β} (h : ck b x = some r) : b = true ∧ x = some r := by
  unfold ck at h
  by_cases hb : b = true
  · rw [if_pos hb] at h; exact ⟨hb, h⟩
  · rw [if_neg hb] at h; cases h
theorem bn_use {α β : Type} {x : Option α} {k : α → Option β} {r : β} (h : bn x k = some r) : ∃ a, x = some a ∧ k a = some r := by
  cases x with
  | none => cases h
  | some a => exact ⟨a, rfl, h⟩
theorem ite_t {c : Prop} [Decidable c] {β : Type} {a b : Option β} {r : β} (hc : c) (h : (if c then a else b) = some r) : a = some r := by rw [if_pos hc] at h; exact h
theorem ite_f {c : Prop} [Decidable c] {β : Type} {a b : Option β} {r : β} (hc : ¬ c) (h : (if c then a else b) = some r) : b = some r := by rw [if_neg hc] at h; exact h
/-- locals as the kit has them -/
def zps (ad : zAd) (L : List (Option zV)) : List (Nat × Value) := (List.range L.length).filterMap (fun i => match L[i]? with
  | some (some v) => some (i, zv ad v)
  | _ => none)
theorem zps_mem {ad : zAd} {L : List (Option zV)} {i : Nat} {v : zV} (h : L[i]? = some (some v)) : (i, zv ad v) ∈ zps ad L := by
  unfold zps
  rw [List.mem_filterMap]
  exact ⟨i, List.mem_range.mpr (List.getElem?_eq_some_iff.mp h).1, by rw [h]⟩
theorem zps_of {ad : zAd} {L : List (Option zV)} {q : Nat × Value} (h : q ∈ zps ad L) : ∃ v, L[q.1]? = some (some v) ∧ q.2 = zv ad v := by
  unfold zps at h
  rw [List.mem_filterMap] at h
  obtain ⟨i, -, h⟩ := h
  split at h
  · rename_i v hv
    cases h
    exact ⟨v, hv, rfl⟩
  · cases h
theorem zL_has {ad : zAd} {ls : Array Slot} {nL : Nat} {L : List (Option zV)} (h : zL ad ls nL L) : lv_has ls nL (zps ad L) := by
  refine ⟨h.1, h.2.1, fun q hq => ?_⟩
  obtain ⟨v, h1, h2⟩ := zps_of hq
  rw [h2]
  exact h.2.2 _ _ h1
def zset (L : List (Option zV)) (i : Nat) (v : zV) : List (Option zV) := match i with
  | 0 => L.set 0 (some v)
  | j + 1 => match L[j]? with
    | some (some (.inr (.inl _))) => (L.set j none).set (j + 1) (some v)
    | _ => L.set (j + 1) (some v)
theorem set_at {L : List (Option zV)} {i j : Nat} {a : Option zV} {u : zV} (h : (L.set i a)[j]? = some (some u)) : (j = i ∧ a = some u) ∨ (j ≠ i ∧ L[j]? = some (some u)) := by
  rw [List.getElem?_set] at h
  by_cases hj : i = j
  · rw [if_pos hj] at h
    split at h
    · exact Or.inl ⟨hj.symm, Option.some.inj h⟩
    · cases h
  · rw [if_neg hj] at h
    exact Or.inr ⟨fun e => hj e.symm, h⟩
theorem zset_at {L : List (Option zV)} {i j : Nat} {v u : zV} (h : (zset L i v)[j]? = some (some u)) : (j = i ∧ u = v) ∨ (j ≠ i ∧ L[j]? = some (some u) ∧ ¬ (j + 1 = i ∧ zc1 u = false)) := by
  unfold zset at h
  cases i with
  | zero =>
    rcases set_at h with ⟨h1, h2⟩ | ⟨h1, h2⟩
    · exact Or.inl ⟨h1, (Option.some.inj h2).symm⟩
    · exact Or.inr ⟨h1, h2, fun h3 => by omega⟩
  | succ i =>
    dsimp only at h
    split at h
    · rename_i w hw
      rcases set_at h with ⟨h1, h2⟩ | ⟨h1, h2⟩
      · exact Or.inl ⟨h1, (Option.some.inj h2).symm⟩
      · rcases set_at h2 with ⟨h3, h4⟩ | ⟨h3, h4⟩
        · cases h4
        · exact Or.inr ⟨h1, h4, fun h5 => h3 (by omega)⟩
    · rename_i hw
      rcases set_at h with ⟨h1, h2⟩ | ⟨h1, h2⟩
      · exact Or.inl ⟨h1, (Option.some.inj h2).symm⟩
      · refine Or.inr ⟨h1, h2, fun h5 => ?_⟩
        obtain ⟨h6, h7⟩ := h5
        have h8 : j = i := by omega
        subst h8
        rcases u with x | x | x
        · cases h7
        · exact hw x h2
        · cases h7
theorem zc1_ct {ad : zAd} {v : zV} (h : (zv ad v).category = 2) : zc1 v = false := by
  cases hc : zc1 v with
  | false => rfl
  | true => rw [zc1_cat hc] at h; cases h
theorem zL_st1 {ad : zAd} {ls : Array Slot} {nL i : Nat} {L : List (Option zV)} {v : zV} (h : lv_has ls nL ((i, zv ad v) :: (zps ad L).filter (fun q => !(q.1 == i) && !(q.1 + 1 == i && q.2.category == 2)))) : zL ad ls nL (zset L i v) := by
  refine ⟨h.1, h.2.1, fun j u hj => ?_⟩
  rcases zset_at hj with ⟨rfl, rfl⟩ | ⟨h1, h2, h3⟩
  · exact h.2.2 (j, zv ad u) List.mem_cons_self
  · refine h.2.2 (j, zv ad u) (List.mem_cons_of_mem _ (List.mem_filter.mpr ⟨zps_mem h2, ?_⟩))
    simp only [Bool.and_eq_true, Bool.not_eq_true', beq_eq_false_iff_ne, Bool.and_eq_false_iff]
    refine ⟨h1, ?_⟩
    by_cases h4 : j + 1 = i
    · right
      intro h5
      exact h3 ⟨h4, zc1_ct h5⟩
    · left
      exact h4
theorem zL_st2 {ad : zAd} {ls : Array Slot} {nL i : Nat} {L : List (Option zV)} {v : zV} (h : lv_has ls nL ((i, zv ad v) :: (zps ad L).filter (fun q => !(q.1 == i) && (!(q.1 == i + 1) && !(q.1 + 1 == i && q.2.category == 2))))) : zL ad ls nL ((zset L i v).set (i + 1) none) := by
  refine ⟨h.1, h.2.1, fun j u hj => ?_⟩
  rcases set_at hj with ⟨_, h0⟩ | ⟨h0, hj⟩
  · cases h0
  rcases zset_at hj with ⟨rfl, rfl⟩ | ⟨h1, h2, h3⟩
  · exact h.2.2 (j, zv ad u) List.mem_cons_self
  · refine h.2.2 (j, zv ad u) (List.mem_cons_of_mem _ (List.mem_filter.mpr ⟨zps_mem h2, ?_⟩))
    simp only [Bool.and_eq_true, Bool.not_eq_true', beq_eq_false_iff_ne, Bool.and_eq_false_iff]
    refine ⟨h1, h0, ?_⟩
    by_cases h4 : j + 1 = i
    · right
      intro h5
      exact h3 ⟨h4, zc1_ct h5⟩
    · left
      exact h4
/-- fewer locals known -/
def zle : List (Option zV) → List (Option zV) → Prop
  | [], _ => True
  | none :: a, _ :: b => zle a b
  | some v :: a, o :: b => o = some v ∧ zle a b
  | _ :: _, [] => False
theorem zle_at : ∀ (a b : List (Option zV)), zle a b → ∀ (i : Nat) (v : zV), a[i]? = some (some v) → b[i]? = some (some v) := by
  intro a
  induction a with
  | nil => intro b _ i v h; simp at h
  | cons x r ih =>
    intro b hb i v h
    cases b with
    | nil => cases x <;> exact hb.elim
    | cons y q =>
      cases x with
      | none =>
        cases i with
        | zero => simp at h
        | succ i => simpa using ih q hb i v (by simpa using h)
      | some w =>
        cases i with
        | zero =>
          have h1 : w = v := by simpa using h
          simp [hb.1, h1]
        | succ i => simpa using ih q hb.2 i v (by simpa using h)
section ZROWS
variable {S : zQS} {M : zMd} {r : zAns} {X : zX} {pc : Nat} {L : List (Option zV)} {st : List zV} {σ : zS}
theorem zl_weak {L' : List (Option zV)} (h : zle L' L) (k : ZW S M r X pc L' st σ) : ZW S M r X pc L st σ := fun H locs ls hP hS hL => k H locs ls hP hS ⟨hL.1, hL.2.1, fun i v hi => hL.2.2 i v (zle_at _ _ h i v hi)⟩
theorem zl_top {x y : Int32} (e : y = x) (k : ZW S M r X pc L (zI y :: st) σ) : ZW S M r X pc L (zI x :: st) σ := e ▸ k
theorem zl_topJ {x y : Int64} (e : y = x) (k : ZW S M r X pc L (zJ y :: st) σ) : ZW S M r X pc L (zJ x :: st) σ := e ▸ k
theorem zl_sg {τ : zS} (e : τ = σ) (k : ZW S M r X pc L st τ) : ZW S M r X pc L st σ := e ▸ k
theorem zl_iconst (hO : zO S M X) {n : Int} {v : Int32} (hd : decode M.2.1 pc = .ok (.iconst n, 1)) (hv : Int32.ofInt n = v) (k : ZW S M r X (pc + 1) L (zI v :: st) σ) : ZW S M r X pc L (st) σ := fun H locs ls hP hS hL => lv_iconst hO.2.1 hO.2.2.1 hd hv (k H locs ls hP hS hL)
theorem zl_bipush (hO : zO S M X) {n : Int} {v : Int32} (hd : decode M.2.1 pc = .ok (.bipush n, 2)) (hv : (Int8.ofInt n).toInt32 = v) (k : ZW S M r X (pc + 2) L (zI v :: st) σ) : ZW S M r X pc L (st) σ := fun H locs ls hP hS hL => lv_bipush hO.2.1 hO.2.2.1 hd hv (k H locs ls hP hS hL)
theorem zl_sipush (hO : zO S M X) {n : Int} {v : Int32} (hd : decode M.2.1 pc = .ok (.sipush n, 3)) (hv : (Int16.ofInt n).toInt32 = v) (k : ZW S M r X (pc + 3) L (zI v :: st) σ) : ZW S M r X pc L (st) σ := fun H locs ls hP hS hL => lv_sipush hO.2.1 hO.2.2.1 hd hv (k H locs ls hP hS hL)
theorem zl_lconst (hO : zO S M X) {n : Fin 2} {v : Int64} (hd : decode M.2.1 pc = .ok (.lconst n, 1)) (hv : Int64.ofNat (n : Nat) = v) (k : ZW S M r X (pc + 1) L (zJ v :: st) σ) : ZW S M r X pc L (st) σ := fun H locs ls hP hS hL => lv_lconst hO.2.1 hO.2.2.1 hd hv (k H locs ls hP hS hL)
theorem zl_null (hO : zO S M X)  (hd : decode M.2.1 pc = .ok (.aconst_null, 1)) (k : ZW S M r X (pc + 1) L (zN :: st) σ) : ZW S M r X pc L (st) σ := fun H locs ls hP hS hL => lv_null hO.2.1 hO.2.2.1 hd (k H locs ls hP hS hL)
theorem zl_ldc (hO : zO S M X) {idx : Nat} {v : Int32} (hd : decode M.2.1 pc = .ok (.ldc idx, 2)) (hw : Cond.constant M.1.cls idx v ∈ S.2.2.2.1) (k : ZW S M r X (pc + 2) L (zI v :: st) σ) : ZW S M r X pc L (st) σ := fun H locs ls hP hS hL => lv_ldc hO.2.1 hO.2.2.1 hO.2.2.2.2.1 (hO.2.2.2.2.2.1 _ hw) hd (k H locs ls hP hS hL)
theorem zl_ldcw (hO : zO S M X) {idx : Nat} {v : Int32} (hd : decode M.2.1 pc = .ok (.ldc_w idx, 3)) (hw : Cond.constant M.1.cls idx v ∈ S.2.2.2.1) (k : ZW S M r X (pc + 3) L (zI v :: st) σ) : ZW S M r X pc L (st) σ := fun H locs ls hP hS hL => lv_ldcw hO.2.1 hO.2.2.1 hO.2.2.2.2.1 (hO.2.2.2.2.2.1 _ hw) hd (k H locs ls hP hS hL)
theorem zl_ldc2 (hO : zO S M X) {idx : Nat} {v : Int64} (hd : decode M.2.1 pc = .ok (.ldc2_w idx, 3)) (hw : Cond.constantLong M.1.cls idx v ∈ S.2.2.2.1) (k : ZW S M r X (pc + 3) L (zJ v :: st) σ) : ZW S M r X pc L (st) σ := fun H locs ls hP hS hL => lv_ldc2 hO.2.1 hO.2.2.1 hO.2.2.2.2.1 (hO.2.2.2.2.2.1 _ hw) hd (k H locs ls hP hS hL)
theorem zl_iload_n (hO : zO S M X) {k0 : Fin 4} (i : Nat) {x : Int32} (hd : decode M.2.1 pc = .ok (.iload_n k0, 1)) (hi : (k0 : Nat) = i) (hl : L[i]? = some (some (zI x))) (k : ZW S M r X (pc + 1) L (zI x :: st) σ) : ZW S M r X pc L (st) σ := fun H locs ls hP hS hL => lv_iload_n hO.2.1 hO.2.2.1 hd hi (hL.2.2 i _ hl) (k H locs ls hP hS hL)
theorem zl_iload (hO : zO S M X) {i : Nat} {x : Int32} (hd : decode M.2.1 pc = .ok (.iload i, 2)) (hl : L[i]? = some (some (zI x))) (k : ZW S M r X (pc + 2) L (zI x :: st) σ) : ZW S M r X pc L (st) σ := fun H locs ls hP hS hL => lv_iload hO.2.1 hO.2.2.1 hd (hL.2.2 i _ hl) (k H locs ls hP hS hL)
theorem zl_lload_n (hO : zO S M X) {k0 : Fin 4} (i : Nat) {x : Int64} (hd : decode M.2.1 pc = .ok (.lload_n k0, 1)) (hi : (k0 : Nat) = i) (hl : L[i]? = some (some (zJ x))) (k : ZW S M r X (pc + 1) L (zJ x :: st) σ) : ZW S M r X pc L (st) σ := fun H locs ls hP hS hL => lv_lload_n hO.2.1 hO.2.2.1 hd hi (hL.2.2 i _ hl) (k H locs ls hP hS hL)
theorem zl_lload (hO : zO S M X) {i : Nat} {x : Int64} (hd : decode M.2.1 pc = .ok (.lload i, 2)) (hl : L[i]? = some (some (zJ x))) (k : ZW S M r X (pc + 2) L (zJ x :: st) σ) : ZW S M r X pc L (st) σ := fun H locs ls hP hS hL => lv_lload hO.2.1 hO.2.2.1 hd (hL.2.2 i _ hl) (k H locs ls hP hS hL)
theorem zl_aload_n (hO : zO S M X) {k0 : Fin 4} (i : Nat) {o : Option (Nat × Nat)} (hd : decode M.2.1 pc = .ok (.aload_n k0, 1)) (hi : (k0 : Nat) = i) (hl : L[i]? = some (some (Sum.inr (Sum.inr o)))) (k : ZW S M r X (pc + 1) L (Sum.inr (Sum.inr o) :: st) σ) : ZW S M r X pc L st σ := by
  intro H locs ls hP hS hL
  cases o with
  | none => exact lv_aload_nN hO.2.1 hO.2.2.1 hd hi (hL.2.2 i _ hl) (k H locs ls hP hS hL)
  | some x => exact lv_aload_n hO.2.1 hO.2.2.1 hd hi (hL.2.2 i _ hl) (k H locs ls hP hS hL)
theorem zl_aload (hO : zO S M X) {i : Nat} {o : Option (Nat × Nat)} (hd : decode M.2.1 pc = .ok (.aload i, 2)) (hl : L[i]? = some (some (Sum.inr (Sum.inr o)))) (k : ZW S M r X (pc + 2) L (Sum.inr (Sum.inr o) :: st) σ) : ZW S M r X pc L st σ := by
  intro H locs ls hP hS hL
  cases o with
  | none => exact lv_aloadN hO.2.1 hO.2.2.1 hd (hL.2.2 i _ hl) (k H locs ls hP hS hL)
  | some x => exact lv_aload hO.2.1 hO.2.2.1 hd (hL.2.2 i _ hl) (k H locs ls hP hS hL)
theorem zl_istore_n (hO : zO S M X) {k0 : Fin 4} (i : Nat) {x : Int32} {L' : List (Option zV)} (hd : decode M.2.1 pc = .ok (.istore_n k0, 1)) (hi : (k0 : Nat) = i) (hn : i < M.2.2.1) (hl : (zset L i (zI x)) = L') (k : ZW S M r X (pc + 1) L' st σ) : ZW S M r X pc L (zI x :: st) σ := fun H locs ls hP hS hL => lv_istore_n hO.2.1 hO.2.2.1 hd hi (zL_has hL) hn rfl (fun ls' h' => k H locs ls' hP hS (hl ▸ zL_st1 (v := zI x) h'))
theorem zl_istore (hO : zO S M X) {i : Nat} {x : Int32} {L' : List (Option zV)} (hd : decode M.2.1 pc = .ok (.istore i, 2)) (hn : i < M.2.2.1) (hl : (zset L i (zI x)) = L') (k : ZW S M r X (pc + 2) L' st σ) : ZW S M r X pc L (zI x :: st) σ := fun H locs ls hP hS hL => lv_istore hO.2.1 hO.2.2.1 hd (zL_has hL) hn rfl (fun ls' h' => k H locs ls' hP hS (hl ▸ zL_st1 (v := zI x) h'))
theorem zl_astore_n (hO : zO S M X) {k0 : Fin 4} (i : Nat) {o : Option (Nat × Nat)} {L' : List (Option zV)} (hd : decode M.2.1 pc = .ok (.astore_n k0, 1)) (hi : (k0 : Nat) = i) (hn : i < M.2.2.1) (hl : zset L i (Sum.inr (Sum.inr o)) = L') (k : ZW S M r X (pc + 1) L' st σ) : ZW S M r X pc L (Sum.inr (Sum.inr o) :: st) σ := by
  intro H locs ls hP hS hL
  cases o with
  | none => exact lv_astore_nN hO.2.1 hO.2.2.1 hd hi (zL_has hL) hn rfl (fun ls' h' => k H locs ls' hP hS (hl ▸ zL_st1 (v := zN) h'))
  | some x => exact lv_astore_n hO.2.1 hO.2.2.1 hd hi (zL_has hL) hn rfl (fun ls' h' => k H locs ls' hP hS (hl ▸ zL_st1 (v := Sum.inr (Sum.inr (some x))) h'))
theorem zl_astore (hO : zO S M X) {i : Nat} {o : Option (Nat × Nat)} {L' : List (Option zV)} (hd : decode M.2.1 pc = .ok (.astore i, 2)) (hn : i < M.2.2.1) (hl : zset L i (Sum.inr (Sum.inr o)) = L') (k : ZW S M r X (pc + 2) L' st σ) : ZW S M r X pc L (Sum.inr (Sum.inr o) :: st) σ := by
  intro H locs ls hP hS hL
  cases o with
  | none => exact lv_astoreN hO.2.1 hO.2.2.1 hd (zL_has hL) hn rfl (fun ls' h' => k H locs ls' hP hS (hl ▸ zL_st1 (v := zN) h'))
  | some x => exact lv_astore hO.2.1 hO.2.2.1 hd (zL_has hL) hn rfl (fun ls' h' => k H locs ls' hP hS (hl ▸ zL_st1 (v := Sum.inr (Sum.inr (some x))) h'))
theorem zl_lstore_n (hO : zO S M X) {k0 : Fin 4} (i : Nat) {x : Int64} {L' : List (Option zV)} (hd : decode M.2.1 pc = .ok (.lstore_n k0, 1)) (hi : (k0 : Nat) = i) (hn : i + 1 < M.2.2.1) (hl : ((zset L i (zJ x)).set (i + 1) none) = L') (k : ZW S M r X (pc + 1) L' st σ) : ZW S M r X pc L (zJ x :: st) σ := fun H locs ls hP hS hL => lv_lstore_n hO.2.1 hO.2.2.1 hd hi (zL_has hL) hn rfl (fun ls' h' => k H locs ls' hP hS (hl ▸ zL_st2 (v := zJ x) h'))
theorem zl_lstore (hO : zO S M X) {i : Nat} {x : Int64} {L' : List (Option zV)} (hd : decode M.2.1 pc = .ok (.lstore i, 2)) (hn : i + 1 < M.2.2.1) (hl : ((zset L i (zJ x)).set (i + 1) none) = L') (k : ZW S M r X (pc + 2) L' st σ) : ZW S M r X pc L (zJ x :: st) σ := fun H locs ls hP hS hL => lv_lstore hO.2.1 hO.2.2.1 hd (zL_has hL) hn rfl (fun ls' h' => k H locs ls' hP hS (hl ▸ zL_st2 (v := zJ x) h'))
theorem zl_iinc (hO : zO S M X) {i : Nat} {n : Int} {x v : Int32} {L' : List (Option zV)} (hd : decode M.2.1 pc = .ok (.iinc i n, 3)) (hx : L[i]? = some (some (zI x))) (hv : x + Int32.ofInt n = v) (hn : i < M.2.2.1) (hl : zset L i (zI v) = L') (k : ZW S M r X (pc + 3) L' st σ) : ZW S M r X pc L st σ := by
  intro H locs ls hP hS hL
  obtain ⟨j, hj⟩ := List.mem_iff_getElem?.mp (zps_mem (ad := S.2.2.2.2.2.2) hx)
  exact lv_iinc hO.2.1 hO.2.2.1 hd (zL_has hL) hj hv hn rfl (fun ls' h' => k H locs ls' hP hS (hl ▸ zL_st1 (v := zI v) h'))
theorem zl_iadd (hO : zO S M X) {x y : Int32} (hd : decode M.2.1 pc = .ok (.iadd, 1)) (k : ZW S M r X (pc + 1) L (zI (x + y) :: st) σ) : ZW S M r X pc L (zI y :: zI x :: st) σ := fun H locs ls hP hS hL => lv_iadd hO.2.1 hO.2.2.1 hd (k H locs ls hP hS hL)
theorem zl_isub (hO : zO S M X) {x y : Int32} (hd : decode M.2.1 pc = .ok (.isub, 1)) (k : ZW S M r X (pc + 1) L (zI (x - y) :: st) σ) : ZW S M r X pc L (zI y :: zI x :: st) σ := fun H locs ls hP hS hL => lv_isub hO.2.1 hO.2.2.1 hd (k H locs ls hP hS hL)
theorem zl_imul (hO : zO S M X) {x y : Int32} (hd : decode M.2.1 pc = .ok (.imul, 1)) (k : ZW S M r X (pc + 1) L (zI (x * y) :: st) σ) : ZW S M r X pc L (zI y :: zI x :: st) σ := fun H locs ls hP hS hL => lv_imul hO.2.1 hO.2.2.1 hd (k H locs ls hP hS hL)
theorem zl_iand (hO : zO S M X) {x y : Int32} (hd : decode M.2.1 pc = .ok (.iand, 1)) (k : ZW S M r X (pc + 1) L (zI (x &&& y) :: st) σ) : ZW S M r X pc L (zI y :: zI x :: st) σ := fun H locs ls hP hS hL => lv_iand hO.2.1 hO.2.2.1 hd (k H locs ls hP hS hL)
theorem zl_ior (hO : zO S M X) {x y : Int32} (hd : decode M.2.1 pc = .ok (.ior, 1)) (k : ZW S M r X (pc + 1) L (zI (x ||| y) :: st) σ) : ZW S M r X pc L (zI y :: zI x :: st) σ := fun H locs ls hP hS hL => lv_ior hO.2.1 hO.2.2.1 hd (k H locs ls hP hS hL)
theorem zl_ixor (hO : zO S M X) {x y : Int32} (hd : decode M.2.1 pc = .ok (.ixor, 1)) (k : ZW S M r X (pc + 1) L (zI (x ^^^ y) :: st) σ) : ZW S M r X pc L (zI y :: zI x :: st) σ := fun H locs ls hP hS hL => lv_ixor hO.2.1 hO.2.2.1 hd (k H locs ls hP hS hL)
theorem zl_ishl (hO : zO S M X) {x y : Int32} (hd : decode M.2.1 pc = .ok (.ishl, 1)) (k : ZW S M r X (pc + 1) L (zI (x <<< (y &&& 31)) :: st) σ) : ZW S M r X pc L (zI y :: zI x :: st) σ := fun H locs ls hP hS hL => lv_ishl hO.2.1 hO.2.2.1 hd (k H locs ls hP hS hL)
theorem zl_ishr (hO : zO S M X) {x y : Int32} (hd : decode M.2.1 pc = .ok (.ishr, 1)) (k : ZW S M r X (pc + 1) L (zI (x >>> (y &&& 31)) :: st) σ) : ZW S M r X pc L (zI y :: zI x :: st) σ := fun H locs ls hP hS hL => lv_ishr hO.2.1 hO.2.2.1 hd (k H locs ls hP hS hL)
theorem zl_iushr (hO : zO S M X) {x y : Int32} (hd : decode M.2.1 pc = .ok (.iushr, 1)) (k : ZW S M r X (pc + 1) L (zI ((x.toUInt32 >>> (y.toUInt32 &&& Int32.toUInt32 31)).toInt32) :: st) σ) : ZW S M r X pc L (zI y :: zI x :: st) σ := fun H locs ls hP hS hL => lv_iushr hO.2.1 hO.2.2.1 hd rfl (k H locs ls hP hS hL)
theorem zl_idiv (hO : zO S M X) {x y : Int32} (hd : decode M.2.1 pc = .ok (.idiv, 1)) (h0 : zn y = true) (k : ZW S M r X (pc + 1) L (zI (x / y) :: st) σ) : ZW S M r X pc L (zI y :: zI x :: st) σ := fun H locs ls hP hS hL => lv_idiv hO.2.1 hO.2.2.1 hd (zn_ne h0) (k H locs ls hP hS hL)
theorem zl_irem (hO : zO S M X) {x y : Int32} (hd : decode M.2.1 pc = .ok (.irem, 1)) (h0 : zn y = true) (k : ZW S M r X (pc + 1) L (zI (x - x / y * y) :: st) σ) : ZW S M r X pc L (zI y :: zI x :: st) σ := fun H locs ls hP hS hL => lv_irem hO.2.1 hO.2.2.1 hd (zn_ne h0) (k H locs ls hP hS hL)
theorem zl_ineg (hO : zO S M X) {x : Int32} (hd : decode M.2.1 pc = .ok (.ineg, 1)) (k : ZW S M r X (pc + 1) L (zI (-x) :: st) σ) : ZW S M r X pc L (zI x :: st) σ := fun H locs ls hP hS hL => lv_ineg hO.2.1 hO.2.2.1 hd (k H locs ls hP hS hL)
theorem zl_ladd (hO : zO S M X) {x y : Int64} (hd : decode M.2.1 pc = .ok (.ladd, 1)) (k : ZW S M r X (pc + 1) L (zJ (x + y) :: st) σ) : ZW S M r X pc L (zJ y :: zJ x :: st) σ := fun H locs ls hP hS hL => lv_ladd hO.2.1 hO.2.2.1 hd (k H locs ls hP hS hL)
theorem zl_lsub (hO : zO S M X) {x y : Int64} (hd : decode M.2.1 pc = .ok (.lsub, 1)) (k : ZW S M r X (pc + 1) L (zJ (x - y) :: st) σ) : ZW S M r X pc L (zJ y :: zJ x :: st) σ := fun H locs ls hP hS hL => lv_lsub hO.2.1 hO.2.2.1 hd (k H locs ls hP hS hL)
theorem zl_land (hO : zO S M X) {x y : Int64} (hd : decode M.2.1 pc = .ok (.land, 1)) (k : ZW S M r X (pc + 1) L (zJ (x &&& y) :: st) σ) : ZW S M r X pc L (zJ y :: zJ x :: st) σ := fun H locs ls hP hS hL => lv_land hO.2.1 hO.2.2.1 hd (k H locs ls hP hS hL)
theorem zl_lor (hO : zO S M X) {x y : Int64} (hd : decode M.2.1 pc = .ok (.lor, 1)) (k : ZW S M r X (pc + 1) L (zJ (x ||| y) :: st) σ) : ZW S M r X pc L (zJ y :: zJ x :: st) σ := fun H locs ls hP hS hL => lv_lor hO.2.1 hO.2.2.1 hd (k H locs ls hP hS hL)
theorem zl_lshl (hO : zO S M X) {x : Int64} {y : Int32} (hd : decode M.2.1 pc = .ok (.lshl, 1)) (k : ZW S M r X (pc + 1) L (zJ (x <<< (y.toInt64 &&& 63)) :: st) σ) : ZW S M r X pc L (zI y :: zJ x :: st) σ := fun H locs ls hP hS hL => lv_lshl hO.2.1 hO.2.2.1 hd rfl (k H locs ls hP hS hL)
theorem zl_lshr (hO : zO S M X) {x : Int64} {y : Int32} (hd : decode M.2.1 pc = .ok (.lshr, 1)) (k : ZW S M r X (pc + 1) L (zJ (x >>> (y.toInt64 &&& 63)) :: st) σ) : ZW S M r X pc L (zI y :: zJ x :: st) σ := fun H locs ls hP hS hL => lv_lshr hO.2.1 hO.2.2.1 hd rfl (k H locs ls hP hS hL)
theorem zl_lcmp (hO : zO S M X) {x y : Int64} (hd : decode M.2.1 pc = .ok (.lcmp, 1)) (k : ZW S M r X (pc + 1) L (zI (lg_cmp x y) :: st) σ) : ZW S M r X pc L (zJ y :: zJ x :: st) σ := fun H locs ls hP hS hL => W.lcmp hO.2.1 hO.2.2.1 hd (k H locs ls hP hS hL)
theorem zl_i2l (hO : zO S M X) {x : Int32} (hd : decode M.2.1 pc = .ok (.i2l, 1)) (k : ZW S M r X (pc + 1) L (zJ x.toInt64 :: st) σ) : ZW S M r X pc L (zI x :: st) σ := fun H locs ls hP hS hL => lv_i2l hO.2.1 hO.2.2.1 hd rfl (k H locs ls hP hS hL)
theorem zl_l2i (hO : zO S M X) {x : Int64} (hd : decode M.2.1 pc = .ok (.l2i, 1)) (k : ZW S M r X (pc + 1) L (zI x.toInt32 :: st) σ) : ZW S M r X pc L (zJ x :: st) σ := fun H locs ls hP hS hL => lv_l2i hO.2.1 hO.2.2.1 hd rfl (k H locs ls hP hS hL)
theorem zl_dup (hO : zO S M X) {v : zV} (hd : decode M.2.1 pc = .ok (.dup, 1)) (hc : zc1 v = true) (k : ZW S M r X (pc + 1) L (v :: v :: st) σ) : ZW S M r X pc L (v :: st) σ := fun H locs ls hP hS hL => lv_dup hO.2.1 hO.2.2.1 hd (zc1_cat hc) (k H locs ls hP hS hL)
theorem zl_pop (hO : zO S M X) {v : zV} (hd : decode M.2.1 pc = .ok (.pop, 1)) (hc : zc1 v = true) (k : ZW S M r X (pc + 1) L (st) σ) : ZW S M r X pc L (v :: st) σ := fun H locs ls hP hS hL => lv_pop hO.2.1 hO.2.2.1 hd (zc1_cat hc) (k H locs ls hP hS hL)
theorem zl_dup_x1 (hO : zO S M X) {v w : zV} (hd : decode M.2.1 pc = .ok (.dup_x1, 1)) (hc : zc1 v = true) (hc2 : zc1 w = true) (k : ZW S M r X (pc + 1) L (v :: w :: v :: st) σ) : ZW S M r X pc L (v :: w :: st) σ := fun H locs ls hP hS hL => lv_dup_x1 hO.2.1 hO.2.2.1 hd (zc1_cat hc) (zc1_cat hc2) (k H locs ls hP hS hL)
theorem zl_dup2 (hO : zO S M X) {v w : zV} (hd : decode M.2.1 pc = .ok (.dup2, 1)) (hc : zc1 v = true) (hc2 : zc1 w = true) (k : ZW S M r X (pc + 1) L (v :: w :: v :: w :: st) σ) : ZW S M r X pc L (v :: w :: st) σ := fun H locs ls hP hS hL => lv_dup2_11 hO.2.1 hO.2.2.1 hd (zc1_cat hc) (zc1_cat hc2) (k H locs ls hP hS hL)
theorem zl_if_eq (hO : zO S M X) {x : Int32} {off : Int} (tgt : Nat) (hd : decode M.2.1 pc = .ok (.ifCond .eq off, 3)) (ht : (pc : Int) + off = (tgt : Int)) (kt : x = 0 → ZW S M r X tgt L st σ) (kf : ¬ x = 0 → ZW S M r X (pc + 3) L st σ) : ZW S M r X pc L (zI x :: st) σ := fun H locs ls hP hS hL => lv_if_eq hO.2.1 hO.2.2.1 hd ht (fun h => kt h H locs ls hP hS hL) (fun h => kf h H locs ls hP hS hL)
theorem zl_icmp_eq (hO : zO S M X) {x y : Int32} {off : Int} (tgt : Nat) (hd : decode M.2.1 pc = .ok (.if_icmp .eq off, 3)) (ht : (pc : Int) + off = (tgt : Int)) (kt : x = y → ZW S M r X tgt L st σ) (kf : ¬ x = y → ZW S M r X (pc + 3) L st σ) : ZW S M r X pc L (zI y :: zI x :: st) σ := fun H locs ls hP hS hL => lv_icmp_eq hO.2.1 hO.2.2.1 hd ht (fun h => kt h H locs ls hP hS hL) (fun h => kf h H locs ls hP hS hL)
theorem zl_if_ne (hO : zO S M X) {x : Int32} {off : Int} (tgt : Nat) (hd : decode M.2.1 pc = .ok (.ifCond .ne off, 3)) (ht : (pc : Int) + off = (tgt : Int)) (kt : ¬ x = 0 → ZW S M r X tgt L st σ) (kf : x = 0 → ZW S M r X (pc + 3) L st σ) : ZW S M r X pc L (zI x :: st) σ := fun H locs ls hP hS hL => lv_if_ne hO.2.1 hO.2.2.1 hd ht (fun h => kt h H locs ls hP hS hL) (fun h => kf h H locs ls hP hS hL)
theorem zl_icmp_ne (hO : zO S M X) {x y : Int32} {off : Int} (tgt : Nat) (hd : decode M.2.1 pc = .ok (.if_icmp .ne off, 3)) (ht : (pc : Int) + off = (tgt : Int)) (kt : ¬ x = y → ZW S M r X tgt L st σ) (kf : x = y → ZW S M r X (pc + 3) L st σ) : ZW S M r X pc L (zI y :: zI x :: st) σ := fun H locs ls hP hS hL => lv_icmp_ne hO.2.1 hO.2.2.1 hd ht (fun h => kt h H locs ls hP hS hL) (fun h => kf h H locs ls hP hS hL)
theorem zl_if_lt (hO : zO S M X) {x : Int32} {off : Int} (tgt : Nat) (hd : decode M.2.1 pc = .ok (.ifCond .lt off, 3)) (ht : (pc : Int) + off = (tgt : Int)) (kt : x < 0 → ZW S M r X tgt L st σ) (kf : ¬ x < 0 → ZW S M r X (pc + 3) L st σ) : ZW S M r X pc L (zI x :: st) σ := fun H locs ls hP hS hL => lv_if_lt hO.2.1 hO.2.2.1 hd ht (fun h => kt h H locs ls hP hS hL) (fun h => kf h H locs ls hP hS hL)
theorem zl_icmp_lt (hO : zO S M X) {x y : Int32} {off : Int} (tgt : Nat) (hd : decode M.2.1 pc = .ok (.if_icmp .lt off, 3)) (ht : (pc : Int) + off = (tgt : Int)) (kt : x < y → ZW S M r X tgt L st σ) (kf : ¬ x < y → ZW S M r X (pc + 3) L st σ) : ZW S M r X pc L (zI y :: zI x :: st) σ := fun H locs ls hP hS hL => lv_icmp_lt hO.2.1 hO.2.2.1 hd ht (fun h => kt h H locs ls hP hS hL) (fun h => kf h H locs ls hP hS hL)
theorem zl_if_ge (hO : zO S M X) {x : Int32} {off : Int} (tgt : Nat) (hd : decode M.2.1 pc = .ok (.ifCond .ge off, 3)) (ht : (pc : Int) + off = (tgt : Int)) (kt : 0 ≤ x → ZW S M r X tgt L st σ) (kf : ¬ 0 ≤ x → ZW S M r X (pc + 3) L st σ) : ZW S M r X pc L (zI x :: st) σ := fun H locs ls hP hS hL => lv_if_ge hO.2.1 hO.2.2.1 hd ht (fun h => kt h H locs ls hP hS hL) (fun h => kf h H locs ls hP hS hL)
theorem zl_icmp_ge (hO : zO S M X) {x y : Int32} {off : Int} (tgt : Nat) (hd : decode M.2.1 pc = .ok (.if_icmp .ge off, 3)) (ht : (pc : Int) + off = (tgt : Int)) (kt : y ≤ x → ZW S M r X tgt L st σ) (kf : ¬ y ≤ x → ZW S M r X (pc + 3) L st σ) : ZW S M r X pc L (zI y :: zI x :: st) σ := fun H locs ls hP hS hL => lv_icmp_ge hO.2.1 hO.2.2.1 hd ht (fun h => kt h H locs ls hP hS hL) (fun h => kf h H locs ls hP hS hL)
theorem zl_if_gt (hO : zO S M X) {x : Int32} {off : Int} (tgt : Nat) (hd : decode M.2.1 pc = .ok (.ifCond .gt off, 3)) (ht : (pc : Int) + off = (tgt : Int)) (kt : 0 < x → ZW S M r X tgt L st σ) (kf : ¬ 0 < x → ZW S M r X (pc + 3) L st σ) : ZW S M r X pc L (zI x :: st) σ := fun H locs ls hP hS hL => lv_if_gt hO.2.1 hO.2.2.1 hd ht (fun h => kt h H locs ls hP hS hL) (fun h => kf h H locs ls hP hS hL)
theorem zl_icmp_gt (hO : zO S M X) {x y : Int32} {off : Int} (tgt : Nat) (hd : decode M.2.1 pc = .ok (.if_icmp .gt off, 3)) (ht : (pc : Int) + off = (tgt : Int)) (kt : y < x → ZW S M r X tgt L st σ) (kf : ¬ y < x → ZW S M r X (pc + 3) L st σ) : ZW S M r X pc L (zI y :: zI x :: st) σ := fun H locs ls hP hS hL => lv_icmp_gt hO.2.1 hO.2.2.1 hd ht (fun h => kt h H locs ls hP hS hL) (fun h => kf h H locs ls hP hS hL)
theorem zl_if_le (hO : zO S M X) {x : Int32} {off : Int} (tgt : Nat) (hd : decode M.2.1 pc = .ok (.ifCond .le off, 3)) (ht : (pc : Int) + off = (tgt : Int)) (kt : x ≤ 0 → ZW S M r X tgt L st σ) (kf : ¬ x ≤ 0 → ZW S M r X (pc + 3) L st σ) : ZW S M r X pc L (zI x :: st) σ := fun H locs ls hP hS hL => lv_if_le hO.2.1 hO.2.2.1 hd ht (fun h => kt h H locs ls hP hS hL) (fun h => kf h H locs ls hP hS hL)
theorem zl_icmp_le (hO : zO S M X) {x y : Int32} {off : Int} (tgt : Nat) (hd : decode M.2.1 pc = .ok (.if_icmp .le off, 3)) (ht : (pc : Int) + off = (tgt : Int)) (kt : x ≤ y → ZW S M r X tgt L st σ) (kf : ¬ x ≤ y → ZW S M r X (pc + 3) L st σ) : ZW S M r X pc L (zI y :: zI x :: st) σ := fun H locs ls hP hS hL => lv_icmp_le hO.2.1 hO.2.2.1 hd ht (fun h => kt h H locs ls hP hS hL) (fun h => kf h H locs ls hP hS hL)
theorem zl_goto (hO : zO S M X) {off : Int} (tgt : Nat) (hd : decode M.2.1 pc = .ok (.goto off, 3)) (ht : (pc : Int) + off = (tgt : Int)) (k : ZW S M r X tgt L st σ) : ZW S M r X pc L st σ := fun H locs ls hP hS hL => lv_goto hO.2.1 hO.2.2.1 hd ht (k H locs ls hP hS hL)
theorem zl_ifnullN (hO : zO S M X) {off : Int} (tgt : Nat) (hd : decode M.2.1 pc = .ok (.ifnull off, 3)) (ht : (pc : Int) + off = (tgt : Int)) (k : ZW S M r X tgt L st σ) : ZW S M r X pc L (zN :: st) σ := fun H locs ls hP hS hL => lv_ifnullN hO.2.1 hO.2.2.1 hd ht (k H locs ls hP hS hL)
theorem zl_ifnull (hO : zO S M X) {off : Int} {x : Nat × Nat} (hd : decode M.2.1 pc = .ok (.ifnull off, 3)) (k : ZW S M r X (pc + 3) L st σ) : ZW S M r X pc L (Sum.inr (Sum.inr (some x)) :: st) σ := fun H locs ls hP hS hL => lv_ifnull hO.2.1 hO.2.2.1 hd (k H locs ls hP hS hL)
theorem zl_ifnonnull (hO : zO S M X) {off : Int} {x : Nat × Nat} (tgt : Nat) (hd : decode M.2.1 pc = .ok (.ifnonnull off, 3)) (ht : (pc : Int) + off = (tgt : Int)) (k : ZW S M r X tgt L st σ) : ZW S M r X pc L (Sum.inr (Sum.inr (some x)) :: st) σ := fun H locs ls hP hS hL => lv_ifnonnull hO.2.1 hO.2.2.1 hd ht (k H locs ls hP hS hL)
theorem zl_ifnonnullN (hO : zO S M X) {off : Int} (hd : decode M.2.1 pc = .ok (.ifnonnull off, 3)) (k : ZW S M r X (pc + 3) L st σ) : ZW S M r X pc L (zN :: st) σ := fun H locs ls hP hS hL => lv_ifnonnullN hO.2.1 hO.2.2.1 hd (k H locs ls hP hS hL)
theorem zl_tabOut (hO : zO S M X) {dflt lo hi : Int} {offs : Array Int} {len : Nat} {x : Int32} (tgt : Nat) (hd : decode M.2.1 pc = .ok (.tableswitch dflt lo hi offs, len)) (h : x.toInt < lo ∨ hi < x.toInt) (ht : (pc : Int) + dflt = (tgt : Int)) (k : ZW S M r X tgt L st σ) : ZW S M r X pc L (zI x :: st) σ := fun H locs ls hP hS hL => lv_tableOut hO.2.1 hO.2.2.1 hd h ht (k H locs ls hP hS hL)
theorem zl_tabIn (hO : zO S M X) {dflt lo hi : Int} {offs : Array Int} {len : Nat} {x : Int32} (y : Int32) {off : Int} (tgt : Nat) (hx : x = y) (hd : decode M.2.1 pc = .ok (.tableswitch dflt lo hi offs, len)) (h1 : ¬ y.toInt < lo) (h2 : ¬ hi < y.toInt) (ho : offs[(y.toInt - lo).toNat]? = some off) (ht : (pc : Int) + off = (tgt : Int)) (k : ZW S M r X tgt L st σ) : ZW S M r X pc L (zI x :: st) σ := by
  subst hx
  exact fun H locs ls hP hS hL => lv_tableIn hO.2.1 hO.2.2.1 hd h1 h2 ho ht (k H locs ls hP hS hL)
theorem zl_look (hO : zO S M X) {dflt : Int} {ps : Array (Int × Int)} {len : Nat} {x : Int32} {off : Int} (tgt : Nat) (hd : decode M.2.1 pc = .ok (.lookupswitch dflt ps, len)) (hp : (ps.toList.zip (ps.toList.drop 1)).all (fun (a, next) => a.1 < next.1) = true) (ho : Op.lookupswitch.offset ps.toList dflt x.toInt = off) (ht : (pc : Int) + off = (tgt : Int)) (k : ZW S M r X tgt L st σ) : ZW S M r X pc L (zI x :: st) σ := fun H locs ls hP hS hL => lv_lookup hO.2.1 hO.2.2.1 hd hp ho ht (k H locs ls hP hS hL)
/-- what the words say of a field: read, and written -/
def zFl (G : List Cond) (own : String) (idx ci i : Nat) : Prop := ∃ (C : String) (T : u_T) (N : Nat), vwCl[ci]? = some (C, T, N) ∧ (∀ w ∈ u_ws C T N, w ∈ G) ∧ i < N ∧ Cond.fieldLink own idx (T i).1 (T i).2.1 (T i).2.2.1 ∈ G
def zFp (G : List Cond) (own : String) (idx ci i : Nat) (ty : FieldType) : Prop := ∃ (C : String) (T : u_T) (N : Nat) (tf : Nat → FieldType), vwCl[ci]? = some (C, T, N) ∧ (∀ w ∈ u_ws C T N, w ∈ G) ∧ i < N ∧ Cond.fieldLink own idx (T i).1 (T i).2.1 (T i).2.2.1 ∈ G ∧ (∀ k, k < N → parseFieldDescriptor (T k).2.2.1 = some (tf k)) ∧ (∀ a, a < N → ∀ b, b < N → a ≠ b → (T a).2.1 ≠ (T b).2.1) ∧ (T i).2.2.2 = false ∧ parseFieldDescriptor (T i).2.2.1 = some ty
theorem zl_geti (hO : zO S M X) {k p i ci idx n : Nat} {fl : List (Option (Nat × Bool))} (hd : decode M.2.1 pc = .ok (.getfield idx, 3)) (hF : zFl S.2.2.2.1 M.1.cls idx ci i) (hY : S.2.1[k]? = some (n, .inl (ci, fl))) (hp : p < n) (hf : fl[i]? = some none) (kk : ZW S M r X (pc + 3) L (zI (σ k p i) :: st) σ) : ZW S M r X pc L (zR k p :: st) σ := by
  intro H locs ls hP hS hL
  obtain ⟨C, T, N, hc, hin, hi, hlink⟩ := hF
  obtain ⟨q, -, hq⟩ := zw_at (ad := S.2.2.2.2.2.2) (cA := S.2.2.2.2.2.1) (σ := σ) hY hp
  exact va_get (fs := zf S.2.2.2.2.2.2 (σ k p) p fl) (v := .int (σ k p i)) hO.2.1 hO.2.2.1 hO.2.2.2.2.2.1 hin hO.2.2.2.2.1 hO.2.2.2.2.2.2.1 hP q hq hc i hi (hO.2.2.2.2.2.1 _ hlink) (fun _ h => h) (zf_at hf) hd (kk H locs ls hP hS hL)
theorem zl_getr (hO : zO S M X) {k p i ci idx n : Nat} {q : Nat × Bool} {fl : List (Option (Nat × Bool))} (hd : decode M.2.1 pc = .ok (.getfield idx, 3)) (hF : zFl S.2.2.2.1 M.1.cls idx ci i) (hY : S.2.1[k]? = some (n, .inl (ci, fl))) (hp : p < n) (hf : fl[i]? = some (some q)) (kk : ZW S M r X (pc + 3) L (zR q.1 (if q.2 then p else 0) :: st) σ) : ZW S M r X pc L (zR k p :: st) σ := by
  intro H locs ls hP hS hL
  obtain ⟨C, T, N, hc, hin, hi, hlink⟩ := hF
  obtain ⟨q0, -, hq⟩ := zw_at (ad := S.2.2.2.2.2.2) (cA := S.2.2.2.2.2.1) (σ := σ) hY hp
  exact va_get (fs := zf S.2.2.2.2.2.2 (σ k p) p fl) hO.2.1 hO.2.2.1 hO.2.2.2.2.2.1 hin hO.2.2.2.2.1 hO.2.2.2.2.2.2.1 hP q0 hq hc i hi (hO.2.2.2.2.2.1 _ hlink) (fun _ h => h) (zf_atR hf) hd (kk H locs ls hP hS hL)
theorem zl_getS (hO : zO S M X) {k p i ci idx n k' : Nat} {fl : List (Option (Nat × Bool))} (hd : decode M.2.1 pc = .ok (.getfield idx, 3)) (hF : zFl S.2.2.2.1 M.1.cls idx ci i) (hY : S.2.1[k]? = some (n, .inl (ci, fl))) (hp : p < n) (hf : fl[i]? = some (some (k', true))) (kk : ZW S M r X (pc + 3) L (zR k' p :: st) σ) : ZW S M r X pc L (zR k p :: st) σ := zl_getr hO hd hF hY hp hf kk
theorem zl_get0 (hO : zO S M X) {k p i ci idx n k' : Nat} {fl : List (Option (Nat × Bool))} (hd : decode M.2.1 pc = .ok (.getfield idx, 3)) (hF : zFl S.2.2.2.1 M.1.cls idx ci i) (hY : S.2.1[k]? = some (n, .inl (ci, fl))) (hp : p < n) (hf : fl[i]? = some (some (k', false))) (kk : ZW S M r X (pc + 3) L (zR k' 0 :: st) σ) : ZW S M r X pc L (zR k p :: st) σ := zl_getr hO hd hF hY hp hf kk
theorem zl_put {ty : FieldType} (hO : zO S M X) {k p i ci idx n : Nat} {v : Int32} {fl : List (Option (Nat × Bool))} (hd : decode M.2.1 pc = .ok (.putfield idx, 3)) (hF : zFp S.2.2.2.1 M.1.cls idx ci i ty) (hn : narrow ty (.int v) = .int v) (hfit : fits ty (.int v) = true) (hY : S.2.1[k]? = some (n, .inl (ci, fl))) (hp : p < n) (hf : fl[i]? = some none) (kk : ZW S M r X (pc + 3) L st (zu σ k p i v)) : ZW S M r X pc L (zI v :: zR k p :: st) σ := by
  intro H locs ls hP hS hL
  obtain ⟨C, T, N, tf, hc, hin, hi, hlink, hty, hnm, hfin, hd2⟩ := hF
  obtain ⟨q, hq0, hq⟩ := zw_at (ad := S.2.2.2.2.2.2) (cA := S.2.2.2.2.2.1) (σ := σ) hY hp
  have hlen : i < (zf S.2.2.2.2.2.2 (σ k p) p fl).length := by
    have := (List.getElem?_eq_some_iff.mp hf).1
    simpa [zf] using this
  refine va_put (ty := ty) (v := .int v) (fs := zf S.2.2.2.2.2.2 (σ k p) p fl) hO.2.1 hO.2.2.1 hO.2.2.2.2.2.1 hin tf hty hnm hO.2.2.2.2.1 hO.2.2.2.2.2.2.1 hP (zD hO.1 σ) hS q hq hc i hi (hO.2.2.2.2.2.1 _ hlink) (fun _ h => h) hfin hd2 hn hfit hlen hd (fun H1 locs1 hP1 _ hS1 => kk H1 locs1 ls ?_ hS1 hL)
  have e1 := zw_set (ad := S.2.2.2.2.2.2) (cA := S.2.2.2.2.2.1) (σ := σ) (j := i) (v := v) hO.1.2.1 hq0
  show va_P _ _ (zw _ _ _ (zu σ k p i v)) H1
  rw [← e1]
  have e2 : ze S.2.2.2.2.2.2 S.2.2.2.2.2.1 (zu σ k p i v) k p (.inl (ci, fl)) = .inr (ci, (zf S.2.2.2.2.2.2 (σ k p) p fl).set i (.int v)) := by
    rw [zf_set hf]
    show Sum.inr (ci, zf _ (zu σ k p i v k p) p fl) = _
    rw [zu_s]
  rw [e2]
  exact hP1
theorem zl_puti (hO : zO S M X) {k p i ci idx n : Nat} {v : Int32} {fl : List (Option (Nat × Bool))} (hd : decode M.2.1 pc = .ok (.putfield idx, 3)) (hF : zFp S.2.2.2.1 M.1.cls idx ci i .int) (hY : S.2.1[k]? = some (n, .inl (ci, fl))) (hp : p < n) (hf : fl[i]? = some none) (kk : ZW S M r X (pc + 3) L st (zu σ k p i v)) : ZW S M r X pc L (zI v :: zR k p :: st) σ := zl_put hO hd hF rfl rfl hY hp hf kk
theorem zl_putz (hO : zO S M X) {k p i ci idx n : Nat} {v : Int32} {fl : List (Option (Nat × Bool))} (hd : decode M.2.1 pc = .ok (.putfield idx, 3)) (hb : zb v = true) (hF : zFp S.2.2.2.1 M.1.cls idx ci i .boolean) (hY : S.2.1[k]? = some (n, .inl (ci, fl))) (hp : p < n) (hf : fl[i]? = some none) (kk : ZW S M r X (pc + 3) L st (zu σ k p i v)) : ZW S M r X pc L (zI v :: zR k p :: st) σ := by
  rcases zb_or hb with rfl | rfl
  · exact zl_put hO hd hF rfl rfl hY hp hf kk
  · exact zl_put hO hd hF rfl rfl hY hp hf kk
theorem zty_at {cA : Nat → ClassId} {TY : List FieldType} {t : Nat} {ty : FieldType} (h : TY[t]? = some ty) : (zty cA TY)[t]? = some (cA t, ty) := by
  simp [zty, List.getElem?_mapIdx, h]
theorem zl_iald (hO : zO S M X) {k p n t len : Nat} {i : Int32} (hd : decode M.2.1 pc = .ok (.iaload, 1)) (hY : S.2.1[k]? = some (n, .inr (len, t, none))) (hT : S.2.2.1[t]? = some .int) (hp : p < n) (hi : zi i len = true) (kk : ZW S M r X (pc + 1) L (zI (σ k p i.toNatClampNeg) :: st) σ) : ZW S M r X pc L (zI i :: zR k p :: st) σ := by
  intro H locs ls hP hS hL
  obtain ⟨q, -, hq⟩ := zw_at (ad := S.2.2.2.2.2.2) (cA := S.2.2.2.2.2.1) (σ := σ) hY hp
  exact va_iald hO.2.1 hO.2.2.1 hO.2.2.2.2.2.2.1 hP q t hq (zty_at hT) (zi_in hi) hd (kk H locs ls hP hS hL)
theorem zl_zald (hO : zO S M X) {k p n t len : Nat} {i : Int32} (hd : decode M.2.1 pc = .ok (.baload, 1)) (hY : S.2.1[k]? = some (n, .inr (len, t, none))) (hT : S.2.2.1[t]? = some .boolean) (hp : p < n) (hi : zi i len = true) (kk : ZW S M r X (pc + 1) L (zI (σ k p i.toNatClampNeg) :: st) σ) : ZW S M r X pc L (zI i :: zR k p :: st) σ := by
  intro H locs ls hP hS hL
  obtain ⟨q, -, hq⟩ := zw_at (ad := S.2.2.2.2.2.2) (cA := S.2.2.2.2.2.1) (σ := σ) hY hp
  exact va_zald hO.2.1 hO.2.2.1 hO.2.2.2.2.2.2.1 hP q t hq (zty_at hT) (zi_in hi) hd (kk H locs ls hP hS hL)
theorem zl_aald (hO : zO S M X) {k p n t len k' : Nat} {C : String} {i : Int32} (hd : decode M.2.1 pc = .ok (.aaload, 1)) (hY : S.2.1[k]? = some (n, .inr (len, t, some k'))) (hT : S.2.2.1[t]? = some (.object C)) (hp : p < n) (hi : zi i len = true) (kk : ZW S M r X (pc + 1) L (zR k' i.toNatClampNeg :: st) σ) : ZW S M r X pc L (zI i :: zR k p :: st) σ := by
  intro H locs ls hP hS hL
  obtain ⟨q, -, hq⟩ := zw_at (ad := S.2.2.2.2.2.2) (cA := S.2.2.2.2.2.1) (σ := σ) hY hp
  exact va_aldq hO.2.1 hO.2.2.1 hO.2.2.2.2.2.2.1 hP q t hq (zty_at hT) (zi_in hi) hd (kk H locs ls hP hS hL)
theorem zl_alen (hO : zO S M X) {k p n t len : Nat} {o : Option Nat} {ty : FieldType} {v : Int32} (hd : decode M.2.1 pc = .ok (.arraylength, 1)) (hY : S.2.1[k]? = some (n, .inr (len, t, o))) (hT : S.2.2.1[t]? = some ty) (hp : p < n) (hv : Int32.ofNat len = v) (kk : ZW S M r X (pc + 1) L (zI v :: st) σ) : ZW S M r X pc L (zR k p :: st) σ := by
  intro H locs ls hP hS hL
  obtain ⟨q, -, hq⟩ := zw_at (ad := S.2.2.2.2.2.2) (cA := S.2.2.2.2.2.1) (σ := σ) hY hp
  cases o with
  | none => exact va_alen hO.2.1 hO.2.2.1 hO.2.2.2.2.2.2.1 hP q t hq (zty_at hT) hv hd (kk H locs ls hP hS hL)
  | some k' => exact va_alen hO.2.1 hO.2.2.1 hO.2.2.2.2.2.2.1 hP q t hq (zty_at hT) hv hd (kk H locs ls hP hS hL)
theorem zl_iast (hO : zO S M X) {k p n t len : Nat} {i v : Int32} (hd : decode M.2.1 pc = .ok (.iastore, 1)) (hY : S.2.1[k]? = some (n, .inr (len, t, none))) (hT : S.2.2.1[t]? = some .int) (hp : p < n) (hi : zi i len = true) (kk : ZW S M r X (pc + 1) L st (zu σ k p i.toNatClampNeg v)) : ZW S M r X pc L (zI v :: zI i :: zR k p :: st) σ := by
  intro H locs ls hP hS hL
  obtain ⟨q, hq0, hq⟩ := zw_at (ad := S.2.2.2.2.2.2) (cA := S.2.2.2.2.2.1) (σ := σ) hY hp
  refine va_iast hO.2.1 hO.2.2.1 hO.2.2.2.2.2.2.1 hP (zD hO.1 σ) hS q t hq (zty_at hT) (zi_in hi) hd (fun H1 locs1 hP1 _ hS1 => kk H1 locs1 ls ?_ hS1 hL)
  have e1 := zw_set (ad := S.2.2.2.2.2.2) (cA := S.2.2.2.2.2.1) (σ := σ) (j := i.toNatClampNeg) (v := v) hO.1.2.1 hq0
  show va_P _ _ (zw _ _ _ (zu σ k p i.toNatClampNeg v)) H1
  rw [← e1]
  have e2 : ze S.2.2.2.2.2.2 S.2.2.2.2.2.1 (zu σ k p i.toNatClampNeg v) k p (.inr (len, t, none)) = .inl (S.2.2.2.2.2.1 t, len, .inl (upd (σ k p) i.toNatClampNeg v)) := by
    show Sum.inl (S.2.2.2.2.2.1 t, len, Sum.inl (zu σ k p i.toNatClampNeg v k p)) = _
    rw [zu_s]
  rw [e2]
  exact hP1
theorem zb_nar {v : Int32} (h : zb v = true) : vp_nar .boolean v = v := by
  rcases zb_or h with rfl | rfl <;> rfl
theorem zl_zast (hO : zO S M X) {k p n t len : Nat} {i v : Int32} (hd : decode M.2.1 pc = .ok (.bastore, 1)) (hb : zb v = true) (hY : S.2.1[k]? = some (n, .inr (len, t, none))) (hT : S.2.2.1[t]? = some .boolean) (hp : p < n) (hi : zi i len = true) (kk : ZW S M r X (pc + 1) L st (zu σ k p i.toNatClampNeg v)) : ZW S M r X pc L (zI v :: zI i :: zR k p :: st) σ := by
  intro H locs ls hP hS hL
  obtain ⟨q, hq0, hq⟩ := zw_at (ad := S.2.2.2.2.2.2) (cA := S.2.2.2.2.2.1) (σ := σ) hY hp
  refine va_zast hO.2.1 hO.2.2.1 hO.2.2.2.2.2.2.1 hP (zD hO.1 σ) hS q t hq (zty_at hT) (zi_in hi) hd (fun H1 locs1 hP1 _ hS1 => kk H1 locs1 ls ?_ hS1 hL)
  rw [zb_nar hb] at hP1
  have e1 := zw_set (ad := S.2.2.2.2.2.2) (cA := S.2.2.2.2.2.1) (σ := σ) (j := i.toNatClampNeg) (v := v) hO.1.2.1 hq0
  show va_P _ _ (zw _ _ _ (zu σ k p i.toNatClampNeg v)) H1
  rw [← e1]
  have e2 : ze S.2.2.2.2.2.2 S.2.2.2.2.2.1 (zu σ k p i.toNatClampNeg v) k p (.inr (len, t, none)) = .inl (S.2.2.2.2.2.1 t, len, .inl (upd (σ k p) i.toNatClampNeg v)) := by
    show Sum.inl (S.2.2.2.2.2.1 t, len, Sum.inl (zu σ k p i.toNatClampNeg v k p)) = _
    rw [zu_s]
  rw [e2]
  exact hP1
theorem zK_warm {U t : State} (h : zK S U) (hW : U.WarmedH t.vm) : zK S t := va_K.moved hW.alike h
theorem zl_iret (hO : zO S M X) {v : Int32} (hd : decode M.2.1 pc = .ok (.ireturn, 1)) (hr : M.2.2.2.1 = some .int) (h : (σ, some (zI v)) = r) : ZW S M r X pc L [zI v] σ := by
  subst h
  intro H locs ls hP hS hL
  exact W.iret (v := v) hO.2.1 hO.2.2.1 (hO.2.2.2.2.2.2.2.1.trans hr) (fun t ht hW => ⟨⟨rfl, by rw [ht]; exact hP, zK_warm hO.2.2.2.2.2.2.1 hW⟩, hS.F ht⟩) hS.2.2 hd (hlocks := hO.2.2.2.2.2.2.2.2)
theorem zl_zret (hO : zO S M X) {v : Int32} (hd : decode M.2.1 pc = .ok (.ireturn, 1)) (hr : M.2.2.2.1 = some .boolean) (hb : zb v = true) (h : (σ, some (zI v)) = r) : ZW S M r X pc L [zI v] σ := by
  subst h
  intro H locs ls hP hS hL
  exact W.zret (v := v) (ty := .boolean) hO.2.1 hO.2.2.1 (hO.2.2.2.2.2.2.2.1.trans hr) (by rcases zb_or hb with rfl | rfl <;> rfl) (fun t ht hW => ⟨⟨rfl, by rw [ht]; exact hP, zK_warm hO.2.2.2.2.2.2.1 hW⟩, hS.F ht⟩) hS.2.2 hd (hlocks := hO.2.2.2.2.2.2.2.2)
theorem zl_vret (hO : zO S M X) (hd : decode M.2.1 pc = .ok (.return_, 1)) (hr : M.2.2.2.1 = none) (h : (σ, none) = r) : ZW S M r X pc L [] σ := by
  subst h
  intro H locs ls hP hS hL
  exact W.vret hO.2.1 hO.2.2.1 (hO.2.2.2.2.2.2.2.1.trans hr) (fun t ht hW => ⟨⟨rfl, by rw [ht]; exact hP, zK_warm hO.2.2.2.2.2.2.1 hW⟩, hS.F ht⟩) hS.2.2 hd (hlocks := hO.2.2.2.2.2.2.2.2)
theorem zl_aret (hO : zO S M X) {C : String} {o : Option (Nat × Nat)} (hd : decode M.2.1 pc = .ok (.areturn, 1)) (hr : M.2.2.2.1 = some (.object C)) (h : (σ, some (Sum.inr (Sum.inr o))) = r) : ZW S M r X pc L [Sum.inr (Sum.inr o)] σ := by
  subst h
  intro H locs ls hP hS hL
  exact W.aret (v := zv S.2.2.2.2.2.2 (Sum.inr (Sum.inr o))) hO.2.1 hO.2.2.1 (hO.2.2.2.2.2.2.2.1.trans hr) (Or.inl ⟨C, rfl⟩) (by cases o with
    | none => exact Or.inl rfl
    | some q => exact Or.inr ⟨_, rfl⟩) (fun t ht hW => ⟨⟨rfl, by rw [ht]; exact hP, zK_warm hO.2.2.2.2.2.2.1 hW⟩, hS.F ht⟩) hS.2.2 hd (hlocks := hO.2.2.2.2.2.2.2.2)
/-- behind a call -/
theorem zl_run {σ' : zS} {rv : Option zV} {H : Heap} {locs : List Loc} {ls : Array Slot} {st0 rest : List Value} {a : Array Value} (hr : va_Run X.1 S.1 X.2.1 M.2.2.2.2 X.2.2.1 X.2.2.2.1 X.2.2.2.2.1 X.2.2.2.2.2.1 X.2.2.2.2.2.2.1 X.2.2.2.2.2.2.2 H locs 0 0 0 0 (F0 X.2.2.2.1 pc ls st0) rest (zQ S (σ', rv) a) (zA S)) (hS : va_S (zA S) X.2.2.1.heap H locs) {Q : State → Prop}
    (kk : ∀ (H1 : Heap) (locs1 : List Loc), zP S σ' H1 → va_S (zA S) X.2.2.1.heap H1 locs1 → W X.1 S.1 X.2.1 M.2.2.2.2 X.2.2.1 X.2.2.2.1 X.2.2.2.2.1 X.2.2.2.2.2.1 X.2.2.2.2.2.2.1 X.2.2.2.2.2.2.2 H1 locs1 0 0 Q (F0 X.2.2.2.1 (pc + 3) ls ((rv.map (zv S.2.2.2.2.2.2)).toList ++ rest))) : W X.1 S.1 X.2.1 M.2.2.2.2 X.2.2.1 X.2.2.2.1 X.2.2.2.2.1 X.2.2.2.2.2.1 X.2.2.2.2.2.2.1 X.2.2.2.2.2.2.2 H locs 0 0 Q (F0 X.2.2.2.1 pc ls st0) := by
  intro T hT Z
  obtain ⟨v, st₀, t, T', L, h0, X', hL, e1, e2, ⟨⟨hv, hb⟩, hz, hk⟩, gs⟩ := hr T hT Z
  cases hv
  rw [h0] at hz hk
  obtain ⟨t2, a1, b1⟩ := kk T'.heap (locs ++ L) (by rw [e1]; exact hb.1)
    ⟨Nat.le_trans hS.1 (by rw [e1]; exact hz), fun q h1 h2 => by rw [e1, hk q (Nat.lt_of_lt_of_le h1 hS.1) h2]; exact hS.2.1 q h1 h2, fun q hq => by
      rcases List.mem_append.mp hq with h | h
      · exact hS.2.2 q h
      · exact hL q h⟩ T' rfl X'
  exact ⟨t2, gs t2 a1, b1⟩
theorem zB_blind (vs : List Value) (τ : zS) : FrameBlind (va_Pc vs (zB S τ)) := fun a U g mk q => by
  obtain ⟨q0, qP, qK⟩ := q
  exact ⟨q0, qP, va_K.moved (u := U) (U := U.calling g mk a) (Vm.Alike.refl U.vm) qK⟩
/-- what the words say of a call by a receiver, and of one without -/
def zCv (G : List Cond) (own : String) (idx : Nat) (M' : zMd) (n : Nat) : Prop := Cond.methodLink own idx M'.1 ∈ G ∧ Cond.instanceMethod M'.1 ∈ G ∧ Cond.selects M'.1.cls M'.1 M'.1 ∈ G ∧ Cond.initialized M'.1.cls ∈ G ∧ Cond.code M'.1 M'.2.1 M'.2.2.1 M'.2.2.2.1 ∈ G ∧ M'.1.cls ≠ "java/lang/invoke/MethodHandle" ∧ M'.1.cls ≠ "java/lang/invoke/VarHandle" ∧ (parseMethodDescriptor M'.1.desc).map (fun d => d.parameters.length) = some n
def zCs (G : List Cond) (own : String) (idx : Nat) (M' : zMd) (n : Nat) : Prop := Cond.methodLink own idx M'.1 ∈ G ∧ Cond.static M'.1 ∈ G ∧ Cond.initialized M'.1.cls ∈ G ∧ Cond.code M'.1 M'.2.1 M'.2.2.1 M'.2.2.2.1 ∈ G ∧ M'.1.cls ≠ "java/lang/invoke/MethodHandle" ∧ M'.1.cls ≠ "java/lang/invoke/VarHandle" ∧ (parseMethodDescriptor M'.1.desc).map (fun d => d.parameters.length) = some n
/-- the callee's room in the caller's -/
def zRm (M' M : zMd) : Bool := decide (M'.2.2.2.2.cells = 0 ∧ M'.2.2.2.2.slots = 0 ∧ M'.2.2.2.2.frames + 1 ≤ M.2.2.2.2.frames ∧ 8 + (M'.2.2.1 + 11) + M'.2.2.2.2.locals ≤ M.2.2.2.2.locals)
theorem zGood {M' : zMd} (hJ : zJ0 S) (hc : Cond.code M'.1 M'.2.1 M'.2.2.1 M'.2.2.2.1 ∈ S.2.2.2.1) : GoodIn S.2.2.2.1 (.code M'.1 M'.2.1 M'.2.2.1 M'.2.2.2.1 :: S.2.2.2.1) := by
  intro w hw
  rcases List.mem_cons.mp hw with rfl | h
  · exact hJ.2.2 _ hc
  · exact hJ.2.2 _ h
theorem zl_callV (hO : zO S M X) {M' : zMd} (vs : List zV) (st' : List zV) {stk : List zV} {k p n ci idx N : Nat} {T : u_T} {fl : List (Option (Nat × Bool))} {σ' : zS} {rv : Option zV} (hM : zM S M' (zR k p :: vs) σ (σ', rv)) (hd : decode M.2.1 pc = .ok (.invokevirtual idx, 3)) (hC : zCv S.2.2.2.1 M.1.cls idx M' vs.length) (hY : S.2.1[k]? = some (n, .inl (ci, fl))) (hp : p < n) (hcl : vwCl[ci]? = some (M'.1.cls, T, N)) (hR : zRm M' M = true) (hs : stk = vs.reverse ++ zR k p :: st') (hw : ((st'.map (zv S.2.2.2.2.2.2)).map fun v => v.category).sum ≤ 8)
    (kk : ZW S M r X (pc + 3) L (rv.toList ++ st') σ') : ZW S M r X pc L stk σ := by
  subst hs
  intro H locs ls hP hS hL
  obtain ⟨h1, h2, h3, h4, h5, h6, h7, h8⟩ := hC
  obtain ⟨g1, g2, g3, g4⟩ := of_decide_eq_true hR
  obtain ⟨q, -, hq⟩ := zw_at (ad := S.2.2.2.2.2.2) (cA := S.2.2.2.2.2.1) (σ := σ) hY hp
  have hts := hO.2.2.2.2.2.1
  have hG := zGood (M' := M') hO.1 h5
  refine zl_run (σ' := σ') (rv := rv) (rest := st'.map (zv S.2.2.2.2.2.2)) (a := (Value.ref (S.2.2.2.2.2.2 k p) :: vs.map (zv S.2.2.2.2.2.2)).toArray) (va_runV (cc := M.2.1) (nL := M.2.2.1) (Ts := S.2.2.2.1) (own := M.1.cls) (C := M'.1.cls) (b := S.2.2.2.2.2.2 k p) (As := vs.map (zv S.2.2.2.2.2.2)) (n := vs.length) (mc := 0) (ms := 0) (index := idx) ⟨hO.2.1, hO.2.2.1, hO.2.2.2.1, hO.2.2.2.2.1, hts⟩ hM ⟨callB_of vs.length hts hG rfl g1 g2 (hts _ h4) (hts _ h1) ⟨h6, h7, h8⟩ ⟨g3, g4⟩, hts _ h2, hts _ h3⟩ ⟨zB_blind _ _, va_recv hO.2.2.2.2.2.2.1 hP hcl hq, fun U hU hW => ⟨rfl, by rw [hU]; exact hP, zK_warm hO.2.2.2.2.2.2.1 hW⟩⟩ rfl (by simp) hL.1 (by simp [zv]) (lv_room hw) hd ⟨Nat.zero_le _, Nat.zero_le _⟩) hS (fun H1 locs1 hP1 hS1 => ?_)
  have := kk H1 locs1 ls hP1 hS1 hL
  cases rv with
  | none => exact this
  | some v => exact this
theorem zl_callS (hO : zO S M X) {M' : zMd} (vs : List zV) (st' : List zV) {stk : List zV} {idx : Nat} {σ' : zS} {rv : Option zV} (hM : zM S M' vs σ (σ', rv)) (hd : decode M.2.1 pc = .ok (.invokestatic idx, 3)) (hC : zCs S.2.2.2.1 M.1.cls idx M' vs.length) (hR : zRm M' M = true) (hs : stk = vs.reverse ++ st') (hw : ((st'.map (zv S.2.2.2.2.2.2)).map fun v => v.category).sum ≤ 8)
    (kk : ZW S M r X (pc + 3) L (rv.toList ++ st') σ') : ZW S M r X pc L stk σ := by
  subst hs
  intro H locs ls hP hS hL
  obtain ⟨h1, h2, h4, h5, h6, h7, h8⟩ := hC
  obtain ⟨g1, g2, g3, g4⟩ := of_decide_eq_true hR
  have hts := hO.2.2.2.2.2.1
  have hG := zGood (M' := M') hO.1 h5
  refine zl_run (σ' := σ') (rv := rv) (rest := st'.map (zv S.2.2.2.2.2.2)) (a := (vs.map (zv S.2.2.2.2.2.2)).toArray) (va_runS (cc := M.2.1) (nL := M.2.2.1) (Ts := S.2.2.2.1) (own := M.1.cls) (As := vs.map (zv S.2.2.2.2.2.2)) (n := vs.length) (mc := 0) (ms := 0) (index := idx) ⟨hO.2.1, hO.2.2.1, hO.2.2.2.1, hO.2.2.2.2.1, hts⟩ hM ⟨callB_of vs.length hts hG rfl g1 g2 (hts _ h4) (hts _ h1) ⟨h6, h7, h8⟩ ⟨g3, g4⟩, hts _ h2⟩ ⟨zB_blind _ _, fun U hU hW => ⟨rfl, by rw [hU]; exact hP, zK_warm hO.2.2.2.2.2.2.1 hW⟩⟩ rfl (by simp) hL.1 (by simp) (lv_room hw) hd ⟨Nat.zero_le _, Nat.zero_le _⟩) hS (fun H1 locs1 hP1 hS1 => ?_)
  have := kk H1 locs1 ls hP1 hS1 hL
  cases rv with
  | none => exact this
  | some v => exact this
theorem zl_callVi (hO : zO S M X) {M' : zMd} (vs : List zV) (st' : List zV) {stk : List zV} {k p n ci idx N : Nat} {T : u_T} {fl : List (Option (Nat × Bool))} {σ' : zS} {v : zV} (hM : zM S M' (zR k p :: vs) σ (σ', some v)) (hd : decode M.2.1 pc = .ok (.invokevirtual idx, 3)) (hC : zCv S.2.2.2.1 M.1.cls idx M' vs.length) (hY : S.2.1[k]? = some (n, .inl (ci, fl))) (hp : p < n) (hcl : vwCl[ci]? = some (M'.1.cls, T, N)) (hR : zRm M' M = true) (hs : stk = vs.reverse ++ zR k p :: st') (hw : ((st'.map (zv S.2.2.2.2.2.2)).map fun v => v.category).sum ≤ 8)
    (kk : ZW S M r X (pc + 3) L (v :: st') σ') : ZW S M r X pc L stk σ := zl_callV hO vs st' hM hd hC hY hp hcl hR hs hw kk
theorem zl_callVv (hO : zO S M X) {M' : zMd} (vs : List zV) (st' : List zV) {stk : List zV} {k p n ci idx N : Nat} {T : u_T} {fl : List (Option (Nat × Bool))} {σ' : zS} (hM : zM S M' (zR k p :: vs) σ (σ', none)) (hd : decode M.2.1 pc = .ok (.invokevirtual idx, 3)) (hC : zCv S.2.2.2.1 M.1.cls idx M' vs.length) (hY : S.2.1[k]? = some (n, .inl (ci, fl))) (hp : p < n) (hcl : vwCl[ci]? = some (M'.1.cls, T, N)) (hR : zRm M' M = true) (hs : stk = vs.reverse ++ zR k p :: st') (hw : ((st'.map (zv S.2.2.2.2.2.2)).map fun v => v.category).sum ≤ 8)
    (kk : ZW S M r X (pc + 3) L st' σ') : ZW S M r X pc L stk σ := zl_callV hO vs st' hM hd hC hY hp hcl hR hs hw kk
theorem zl_callSi (hO : zO S M X) {M' : zMd} (vs : List zV) (st' : List zV) {stk : List zV} {idx : Nat} {σ' : zS} {v : zV} (hM : zM S M' vs σ (σ', some v)) (hd : decode M.2.1 pc = .ok (.invokestatic idx, 3)) (hC : zCs S.2.2.2.1 M.1.cls idx M' vs.length) (hR : zRm M' M = true) (hs : stk = vs.reverse ++ st') (hw : ((st'.map (zv S.2.2.2.2.2.2)).map fun v => v.category).sum ≤ 8)
    (kk : ZW S M r X (pc + 3) L (v :: st') σ') : ZW S M r X pc L stk σ := zl_callS hO vs st' hM hd hC hR hs hw kk
theorem zr_i {s0 s1 : zS} {e v : Int32} (h : some (s0, e) = some (s1, v)) : (s0, some (zI e)) = (s1, some (zI v)) := by cases h; rfl
theorem zr_v {s0 s1 : zS} (h : some s0 = some s1) : (s0, (none : Option zV)) = (s1, none) := by cases h; rfl
theorem zi_lt {i : Int32} {n : Nat} (h : zi i n = true) : i.toNatClampNeg < n := Nat.not_le.mp fun q => zi_in h (Or.inr q)
def zmax (x y : Int32) : Int32 := if x < y then y else x
def zmin (x y : Int32) : Int32 := if y < x then y else x
theorem zl_mmax (hO : zO S M X) {idx : Nat} {x y : Int32} (hd : decode M.2.1 pc = .ok (.invokestatic idx, 3)) (h1 : Cond.methodLink M.1.cls idx Lib.Math.max.name ∈ S.2.2.2.1) (h2 : Cond.static Lib.Math.max.name ∈ S.2.2.2.1) (h3 : Cond.initialized "java/lang/Math" ∈ S.2.2.2.1) (h4 : Cond.code Lib.Math.max.name Lib.Math.max.code 2 (some .int) ∈ S.2.2.2.1) (hR : 1 ≤ M.2.2.2.2.frames) (hw : ((st.map (zv S.2.2.2.2.2.2)).map fun v => v.category).sum + 13 ≤ M.2.2.2.2.locals)
    (kk : ZW S M r X (pc + 3) L (zI (zmax x y) :: st) σ) : ZW S M r X pc L (zI y :: zI x :: st) σ := fun H locs ls hP hS hL => va_mmax hO.2.1 hO.2.2.1 (hO.2.2.2.1.trans hL.1.symm) hO.2.2.2.2.1 (hO.2.2.2.2.2.1 _ h1) (hO.2.2.2.2.2.1 _ h2) (hO.2.2.2.2.2.1 _ h3) (hO.2.2.2.2.2.1 _ h4) hR hw (Nat.zero_le _) (Nat.zero_le _) hd (kk H locs ls hP hS hL)
theorem zl_mmin (hO : zO S M X) {idx : Nat} {x y : Int32} (hd : decode M.2.1 pc = .ok (.invokestatic idx, 3)) (h1 : Cond.methodLink M.1.cls idx Lib.Math.min.name ∈ S.2.2.2.1) (h2 : Cond.static Lib.Math.min.name ∈ S.2.2.2.1) (h3 : Cond.initialized "java/lang/Math" ∈ S.2.2.2.1) (h4 : Cond.code Lib.Math.min.name Lib.Math.min.code 2 (some .int) ∈ S.2.2.2.1) (hR : 1 ≤ M.2.2.2.2.frames) (hw : ((st.map (zv S.2.2.2.2.2.2)).map fun v => v.category).sum + 13 ≤ M.2.2.2.2.locals)
    (kk : ZW S M r X (pc + 3) L (zI (zmin x y) :: st) σ) : ZW S M r X pc L (zI y :: zI x :: st) σ := fun H locs ls hP hS hL => va_mmin hO.2.1 hO.2.2.1 (hO.2.2.2.1.trans hL.1.symm) hO.2.2.2.2.1 (hO.2.2.2.2.2.1 _ h1) (hO.2.2.2.2.2.1 _ h2) (hO.2.2.2.2.2.1 _ h3) (hO.2.2.2.2.2.1 _ h4) hR hw (Nat.zero_le _) (Nat.zero_le _) hd (kk H locs ls hP hS hL)
end ZROWS
end
section
/-! layouts, methods (printed) -/
def gw : List Cond := lw_tbl.filter goodWord
theorem gw_good : GoodIn gw gw := fun w h => ⟨h, good_of_word (List.mem_filter.mp h).2⟩
theorem gw_in {w : Cond} (h : w ∈ lw_tbl) (hg : goodWord w = true) : w ∈ gw := List.mem_filter.mpr ⟨h, hg⟩
def Y1 : zY := [(1, .inl (0, [some (1, false), some (4, false), some (5, false), some (8, false), some (9, false), some (10, false), none, none, none])),
  (1, .inl (1, [some (2, false), some (3, false)])),
  (1, .inr (256, 0, none)),
  (1, .inr (128, 0, none)),
  (1, .inr (4, 1, some 11)),
  (1, .inl (6, [some (6, false), some (7, false), none, none])),
  (1, .inr (8, 0, none)),
  (1, .inr (16, 0, none)),
  (1, .inl (7, [some (1, false), some (4, false), some (5, false), none])),
  (1, .inl (5, [some (1, false), some (4, false), none, none])),
  (1, .inl (8, [some (1, false), none])),
  (4, .inl (4, [some (1, false), some (13, true), none, none, none, none, none, none, none, none, some (12, true), none, none, none, none, none, none, none, none, none])),
  (4, .inr (8, 0, none)),
  (4, .inl (3, [some (14, true), some (15, true), some (16, true), some (17, true), some (18, true), some (19, true), none])),
  (4, .inr (3, 0, none)),
  (4, .inr (3, 0, none)),
  (4, .inr (3, 0, none)),
  (4, .inr (3, 0, none)),
  (4, .inr (3, 0, none)),
  (4, .inl (2, [some (20, true), some (21, true), some (22, true), none])),
  (4, .inr (4, 0, none)),
  (4, .inr (4, 0, none)),
  (4, .inr (4, 0, none))]
def Y2 : zY := [(1, .inl (9, [some (1, false), some (2, false), none, none, none, none, some (3, false), some (4, false), some (5, false), some (6, false), some (7, false), some (8, false), some (9, false), some (10, false), some (11, false), some (12, false), some (13, false), some (14, false), some (15, false), some (16, false), some (17, false), some (18, false), some (19, false), some (20, false), some (21, false), some (22, false), some (23, false), some (24, false), none, some (25, false), some (26, false), some (27, false), some (28, false), none, some (29, false), none, some (30, false), none, none, none])),
  (1, .inr (256, 0, none)),
  (1, .inr (128, 0, none)),
  (1, .inr (4, 0, none)),
  (1, .inr (4, 0, none)),
  (1, .inr (4, 0, none)),
  (1, .inr (4, 0, none)),
  (1, .inr (4, 0, none)),
  (1, .inr (4, 0, none)),
  (1, .inr (4, 0, none)),
  (1, .inr (4, 0, none)),
  (1, .inr (32, 0, none)),
  (1, .inr (4, 0, none)),
  (1, .inr (4, 0, none)),
  (1, .inr (4, 0, none)),
  (1, .inr (4, 0, none)),
  (1, .inr (4, 1, none)),
  (1, .inr (4, 0, none)),
  (1, .inr (4, 0, none)),
  (1, .inr (4, 0, none)),
  (1, .inr (12, 0, none)),
  (1, .inr (12, 0, none)),
  (1, .inr (12, 0, none)),
  (1, .inr (12, 0, none)),
  (1, .inr (12, 0, none)),
  (1, .inr (16, 0, none)),
  (1, .inr (16, 0, none)),
  (1, .inr (16, 0, none)),
  (1, .inr (16, 0, none)),
  (1, .inr (8, 0, none)),
  (1, .inr (16, 0, none))]
def TY1 : List FieldType := [.int, .object "GrantKernel$BoardProcess"]
def TY2 : List FieldType := [.int, .boolean]
abbrev sC (l : Launch) (V : zG) : zQS := (l, Y1, TY1, gw, V)
abbrev sM (l : Launch) (V : zG) : zQS := (l, Y2, TY2, gw, V)
abbrev zQv (o : Option Nat) : zV := Sum.inr (Sum.inr (o.map (fun p => (11, p))))
theorem zr_q {s0 s1 : zS} {e : Nat} {v : Option Nat} (h : some (s0, some e) = some (s1, v)) : (s0, some (zR 11 e)) = (s1, some (zQv v)) := by cases h; rfl
theorem zr_qn {s0 s1 : zS} {v : Option Nat} (h : some (s0, (none : Option Nat)) = some (s1, v)) : (s0, some zN) = (s1, some (zQv v)) := by cases h; rfl
theorem y1_nd : (zkey Y1).Nodup := by decide +kernel
theorem y2_nd : (zkey Y2).Nodup := by decide +kernel
abbrev md_GK_burn : zMd := (ny_GK_burn, nc_GK_burn, 4, (some .int), { frames := 0, cells := 0, slots := 0, locals := 0 })
abbrev md_Me_setRamWord : zMd := (ny_Me_setRamWord, nc_Me_setRamWord, 4, none, { frames := 0, cells := 0, slots := 0, locals := 0 })
abbrev md_Me_clearRam : zMd := (ny_Me_clearRam, nc_Me_clearRam, 4, none, { frames := 1, cells := 0, slots := 0, locals := 23 })
abbrev md_Co_clear : zMd := (ny_Co_clear, nc_Co_clear, 1, none, { frames := 0, cells := 0, slots := 0, locals := 0 })
abbrev md_No_clear : zMd := (ny_No_clear, nc_No_clear, 2, none, { frames := 0, cells := 0, slots := 0, locals := 0 })
abbrev md_BP_loseNotes : zMd := (ny_BP_loseNotes, nc_BP_loseNotes, 1, none, { frames := 1, cells := 0, slots := 0, locals := 21 })
abbrev md_BP_halt : zMd := (ny_BP_halt, nc_BP_halt, 1, none, { frames := 2, cells := 0, slots := 0, locals := 41 })
abbrev md_BP_forgetFaults : zMd := (ny_BP_forgetFaults, nc_BP_forgetFaults, 1, none, { frames := 0, cells := 0, slots := 0, locals := 0 })
abbrev md_Lo_isHeader : zMd := (ny_Lo_isHeader, nc_Lo_isHeader, 3, (some .boolean), { frames := 0, cells := 0, slots := 0, locals := 0 })
abbrev md_BP_begin : zMd := (ny_BP_begin, nc_BP_begin, 2, none, { frames := 2, cells := 0, slots := 0, locals := 46 })
abbrev md_Lo_loadAt : zMd := (ny_Lo_loadAt, nc_Lo_loadAt, 11, none, { frames := 3, cells := 0, slots := 0, locals := 67 })
abbrev md_Lo_loadAll : zMd := (ny_Lo_loadAll, nc_Lo_loadAll, 3, (some .int), { frames := 4, cells := 0, slots := 0, locals := 97 })
abbrev md_GK_boot : zMd := (ny_GK_boot, nc_GK_boot, 1, (some .int), { frames := 5, cells := 0, slots := 0, locals := 119 })
abbrev md_No_hasGrant : zMd := (ny_No_hasGrant, nc_No_hasGrant, 2, (some .boolean), { frames := 0, cells := 0, slots := 0, locals := 0 })
abbrev md_Me_ramWord : zMd := (ny_Me_ramWord, nc_Me_ramWord, 3, (some .int), { frames := 0, cells := 0, slots := 0, locals := 0 })
abbrev md_Ke_isPending : zMd := (ny_Ke_isPending, nc_Ke_isPending, 3, (some .boolean), { frames := 1, cells := 0, slots := 0, locals := 22 })
abbrev md_UQ_enqueue : zMd := (ny_UQ_enqueue, nc_UQ_enqueue, 4, none, { frames := 0, cells := 0, slots := 0, locals := 0 })
abbrev md_Ke_upcall : zMd := (ny_Ke_upcall, nc_Ke_upcall, 9, none, { frames := 1, cells := 0, slots := 0, locals := 23 })
abbrev md_Ke_ringIfDue : zMd := (ny_Ke_ringIfDue, nc_Ke_ringIfDue, 4, none, { frames := 2, cells := 0, slots := 0, locals := 51 })
abbrev md_Ke_beginTick : zMd := (ny_Ke_beginTick, nc_Ke_beginTick, 2, none, { frames := 3, cells := 0, slots := 0, locals := 74 })
abbrev md_GK_giveTurn : zMd := (ny_GK_giveTurn, nc_GK_giveTurn, 3, (some .boolean), { frames := 0, cells := 0, slots := 0, locals := 0 })
abbrev md_BP_areOpen : zMd := (ny_BP_areOpen, nc_BP_areOpen, 5, (some .boolean), { frames := 0, cells := 0, slots := 0, locals := 0 })
abbrev md_BP_frameWord : zMd := (ny_BP_frameWord, nc_BP_frameWord, 2, (some .int), { frames := 1, cells := 0, slots := 0, locals := 22 })
abbrev md_BP_takeFrame : zMd := (ny_BP_takeFrame, nc_BP_takeFrame, 2, (some .boolean), { frames := 2, cells := 0, slots := 0, locals := 43 })
abbrev md_BP_isInCode : zMd := (ny_BP_isInCode, nc_BP_isInCode, 2, (some .boolean), { frames := 0, cells := 0, slots := 0, locals := 0 })
abbrev md_Me_halfword : zMd := (ny_Me_halfword, nc_Me_halfword, 3, (some .int), { frames := 0, cells := 0, slots := 0, locals := 0 })
abbrev md_Pr_setCarry : zMd := (ny_Pr_setCarry, nc_Pr_setCarry, 3, none, { frames := 0, cells := 0, slots := 0, locals := 0 })
abbrev md_Pr_setSigns : zMd := (ny_Pr_setSigns, nc_Pr_setSigns, 4, none, { frames := 0, cells := 0, slots := 0, locals := 0 })
abbrev md_Pr_shift : zMd := (ny_Pr_shift, nc_Pr_shift, 11, (some .int), { frames := 1, cells := 0, slots := 0, locals := 23 })
abbrev md_Pr_shiftByNumber : zMd := (ny_Pr_shiftByNumber, nc_Pr_shiftByNumber, 5, (some .int), { frames := 2, cells := 0, slots := 0, locals := 53 })
abbrev md_Pr_add : zMd := (ny_Pr_add, nc_Pr_add, 10, (some .int), { frames := 1, cells := 0, slots := 0, locals := 23 })
abbrev md_Pr_addThree : zMd := (ny_Pr_addThree, nc_Pr_addThree, 7, (some .int), { frames := 2, cells := 0, slots := 0, locals := 52 })
abbrev md_Pr_withByte : zMd := (ny_Pr_withByte, nc_Pr_withByte, 6, (some .int), { frames := 2, cells := 0, slots := 0, locals := 52 })
abbrev md_Pr_rotate : zMd := (ny_Pr_rotate, nc_Pr_rotate, 6, (some .int), { frames := 1, cells := 0, slots := 0, locals := 23 })
abbrev md_Pr_bitwise : zMd := (ny_Pr_bitwise, nc_Pr_bitwise, 4, (some .int), { frames := 0, cells := 0, slots := 0, locals := 0 })
abbrev md_Pr_combine : zMd := (ny_Pr_combine, nc_Pr_combine, 9, (some .int), { frames := 2, cells := 0, slots := 0, locals := 53 })
abbrev md_Pr_jump : zMd := (ny_Pr_jump, nc_Pr_jump, 6, (some .int), { frames := 0, cells := 0, slots := 0, locals := 0 })
abbrev md_BP_mayLoad : zMd := (ny_BP_mayLoad, nc_BP_mayLoad, 2, (some .boolean), { frames := 1, cells := 0, slots := 0, locals := 24 })
abbrev md_Me_flashWord : zMd := (ny_Me_flashWord, nc_Me_flashWord, 3, (some .int), { frames := 0, cells := 0, slots := 0, locals := 0 })
abbrev md_BP_readWord : zMd := (ny_BP_readWord, nc_BP_readWord, 2, (some .int), { frames := 1, cells := 0, slots := 0, locals := 22 })
abbrev md_Pr_loadInto : zMd := (ny_Pr_loadInto, nc_Pr_loadInto, 4, (some .int), { frames := 2, cells := 0, slots := 0, locals := 45 })
abbrev md_Pr_storeFrom : zMd := (ny_Pr_storeFrom, nc_Pr_storeFrom, 4, (some .int), { frames := 1, cells := 0, slots := 0, locals := 24 })
abbrev md_Pr_moveStack : zMd := (ny_Pr_moveStack, nc_Pr_moveStack, 4, (some .int), { frames := 0, cells := 0, slots := 0, locals := 0 })
abbrev md_JI_bitCount : zMd := (ny_JI_bitCount, nc_JI_bitCount, 1, (some .int), { frames := 0, cells := 0, slots := 0, locals := 0 })
abbrev md_Pr_push : zMd := (ny_Pr_push, nc_Pr_push, 7, (some .int), { frames := 1, cells := 0, slots := 0, locals := 24 })
abbrev md_Pr_pop : zMd := (ny_Pr_pop, nc_Pr_pop, 7, (some .int), { frames := 2, cells := 0, slots := 0, locals := 45 })
abbrev md_Pr_holds : zMd := (ny_Pr_holds, nc_Pr_holds, 7, (some .boolean), { frames := 0, cells := 0, slots := 0, locals := 0 })
abbrev md_Pr_branchIf : zMd := (ny_Pr_branchIf, nc_Pr_branchIf, 5, (some .int), { frames := 1, cells := 0, slots := 0, locals := 26 })
abbrev md_Pr_dispatch : zMd := (ny_Pr_dispatch, nc_Pr_dispatch, 5, (some .int), { frames := 3, cells := 0, slots := 0, locals := 81 })
abbrev md_Pr_execute : zMd := (ny_Pr_execute, nc_Pr_execute, 3, (some .int), { frames := 4, cells := 0, slots := 0, locals := 105 })
abbrev md_GK_doInstruction : zMd := (ny_GK_doInstruction, nc_GK_doInstruction, 2, (some .int), { frames := 5, cells := 0, slots := 0, locals := 127 })
abbrev md_BP_setFrameWord : zMd := (ny_BP_setFrameWord, nc_BP_setFrameWord, 3, none, { frames := 1, cells := 0, slots := 0, locals := 23 })
abbrev md_BP_stackFrame : zMd := (ny_BP_stackFrame, nc_BP_stackFrame, 5, (some .boolean), { frames := 2, cells := 0, slots := 0, locals := 45 })
abbrev md_UQ_move : zMd := (ny_UQ_move, nc_UQ_move, 3, none, { frames := 0, cells := 0, slots := 0, locals := 0 })
abbrev md_UQ_removeOldest : zMd := (ny_UQ_removeOldest, nc_UQ_removeOldest, 2, none, { frames := 1, cells := 0, slots := 0, locals := 22 })
abbrev md_Ke_waitForUpcall : zMd := (ny_Ke_waitForUpcall, nc_Ke_waitForUpcall, 6, none, { frames := 2, cells := 0, slots := 0, locals := 51 })
abbrev md_BP_openWordsBefore : zMd := (ny_BP_openWordsBefore, nc_BP_openWordsBefore, 2, (some .int), { frames := 0, cells := 0, slots := 0, locals := 0 })
abbrev md_No_buffersEndBy : zMd := (ny_No_buffersEndBy, nc_No_buffersEndBy, 4, (some .boolean), { frames := 0, cells := 0, slots := 0, locals := 0 })
abbrev md_Ke_makeGrant : zMd := (ny_Ke_makeGrant, nc_Ke_makeGrant, 7, (some .boolean), { frames := 2, cells := 0, slots := 0, locals := 46 })
abbrev md_UQ_removeDriver : zMd := (ny_UQ_removeDriver, nc_UQ_removeDriver, 4, none, { frames := 1, cells := 0, slots := 0, locals := 22 })
abbrev md_Ke_subscribe : zMd := (ny_Ke_subscribe, nc_Ke_subscribe, 5, (some .int), { frames := 2, cells := 0, slots := 0, locals := 45 })
abbrev md_Ke_allow : zMd := (ny_Ke_allow, nc_Ke_allow, 6, (some .int), { frames := 1, cells := 0, slots := 0, locals := 24 })
abbrev md_Ke_setAlarm : zMd := (ny_Ke_setAlarm, nc_Ke_setAlarm, 3, (some .int), { frames := 1, cells := 0, slots := 0, locals := 23 })
abbrev md_Ke_cancelAlarm : zMd := (ny_Ke_cancelAlarm, nc_Ke_cancelAlarm, 3, (some .int), { frames := 1, cells := 0, slots := 0, locals := 23 })
abbrev md_Ke_commandAlarm : zMd := (ny_Ke_commandAlarm, nc_Ke_commandAlarm, 5, (some .int), { frames := 2, cells := 0, slots := 0, locals := 45 })
abbrev md_Co_addOutput : zMd := (ny_Co_addOutput, nc_Co_addOutput, 2, none, { frames := 0, cells := 0, slots := 0, locals := 0 })
abbrev md_Ke_putOut : zMd := (ny_Ke_putOut, nc_Ke_putOut, 6, (some .int), { frames := 2, cells := 0, slots := 0, locals := 51 })
abbrev md_Co_removeInput : zMd := (ny_Co_removeInput, nc_Co_removeInput, 3, (some .int), { frames := 1, cells := 0, slots := 0, locals := 21 })
abbrev md_Ke_receive : zMd := (ny_Ke_receive, nc_Ke_receive, 3, none, { frames := 2, cells := 0, slots := 0, locals := 51 })
abbrev md_Ke_commandConsole : zMd := (ny_Ke_commandConsole, nc_Ke_commandConsole, 4, (some .int), { frames := 3, cells := 0, slots := 0, locals := 76 })
abbrev md_Ke_commandSensor : zMd := (ny_Ke_commandSensor, nc_Ke_commandSensor, 3, (some .int), { frames := 2, cells := 0, slots := 0, locals := 44 })
abbrev md_Ke_answer : zMd := (ny_Ke_answer, nc_Ke_answer, 6, (some .int), { frames := 4, cells := 0, slots := 0, locals := 99 })
abbrev md_GK_serve : zMd := (ny_GK_serve, nc_GK_serve, 3, (some .int), { frames := 5, cells := 0, slots := 0, locals := 124 })
abbrev md_BP_fail : zMd := (ny_BP_fail, nc_BP_fail, 2, none, { frames := 3, cells := 0, slots := 0, locals := 67 })
abbrev md_GK_endStep : zMd := (ny_GK_endStep, nc_GK_endStep, 4, none, { frames := 4, cells := 0, slots := 0, locals := 88 })
abbrev md_GK_run : zMd := (ny_GK_run, nc_GK_run, 6, (some .int), { frames := 6, cells := 0, slots := 0, locals := 148 })
abbrev md_Co_addInput : zMd := (ny_Co_addInput, nc_Co_addInput, 2, (some .boolean), { frames := 0, cells := 0, slots := 0, locals := 0 })
abbrev md_Ke_takeInput : zMd := (ny_Ke_takeInput, nc_Ke_takeInput, 3, (some .boolean), { frames := 3, cells := 0, slots := 0, locals := 73 })
abbrev md_GK_type : zMd := (ny_GK_type, nc_GK_type, 2, (some .boolean), { frames := 4, cells := 0, slots := 0, locals := 95 })
abbrev md_Ke_takeSample : zMd := (ny_Ke_takeSample, nc_Ke_takeSample, 7, (some .int), { frames := 2, cells := 0, slots := 0, locals := 51 })
abbrev md_GK_sample : zMd := (ny_GK_sample, nc_GK_sample, 2, (some .int), { frames := 3, cells := 0, slots := 0, locals := 77 })
abbrev md_GK_outputs : zMd := (ny_GK_outputs, nc_GK_outputs, 1, (some .int), { frames := 0, cells := 0, slots := 0, locals := 0 })
abbrev md_Co_latestOutput : zMd := (ny_Co_latestOutput, nc_Co_latestOutput, 2, (some .int), { frames := 0, cells := 0, slots := 0, locals := 0 })
abbrev md_GK_output : zMd := (ny_GK_output, nc_GK_output, 2, (some .int), { frames := 1, cells := 0, slots := 0, locals := 21 })
abbrev md_GK_now : zMd := (ny_GK_now, nc_GK_now, 1, (some .int), { frames := 0, cells := 0, slots := 0, locals := 0 })
abbrev md_GK_turn : zMd := (ny_GK_turn, nc_GK_turn, 1, (some .int), { frames := 0, cells := 0, slots := 0, locals := 0 })
abbrev md_GK_find : zMd := (ny_GK_find, nc_GK_find, 2, (some (.object "GrantKernel$BoardProcess")), { frames := 0, cells := 0, slots := 0, locals := 0 })
abbrev md_GK_state : zMd := (ny_GK_state, nc_GK_state, 3, (some .int), { frames := 1, cells := 0, slots := 0, locals := 21 })
abbrev md_BP_registerValue : zMd := (ny_BP_registerValue, nc_BP_registerValue, 2, (some .int), { frames := 2, cells := 0, slots := 0, locals := 43 })
abbrev md_GK_register : zMd := (ny_GK_register, nc_GK_register, 4, (some .int), { frames := 3, cells := 0, slots := 0, locals := 64 })
abbrev md_GK_word : zMd := (ny_GK_word, nc_GK_word, 2, (some .int), { frames := 0, cells := 0, slots := 0, locals := 0 })
abbrev md_GK_block : zMd := (ny_GK_block, nc_GK_block, 3, (some .int), { frames := 1, cells := 0, slots := 0, locals := 21 })
abbrev md_GK_open : zMd := (ny_GK_open, nc_GK_open, 3, (some .int), { frames := 1, cells := 0, slots := 0, locals := 21 })
abbrev md_GK_grant : zMd := (ny_GK_grant, nc_GK_grant, 4, (some .int), { frames := 1, cells := 0, slots := 0, locals := 21 })
abbrev md_GK_queued : zMd := (ny_GK_queued, nc_GK_queued, 3, (some .int), { frames := 1, cells := 0, slots := 0, locals := 21 })
abbrev md_GK_fault : zMd := (ny_GK_fault, nc_GK_fault, 3, (some .int), { frames := 1, cells := 0, slots := 0, locals := 21 })
abbrev md_GK_faults : zMd := (ny_GK_faults, nc_GK_faults, 3, (some .int), { frames := 1, cells := 0, slots := 0, locals := 21 })
abbrev md_GK_restart : zMd := (ny_GK_restart, nc_GK_restart, 3, (some .boolean), { frames := 3, cells := 0, slots := 0, locals := 67 })
abbrev md_GK_stop : zMd := (ny_GK_stop, nc_GK_stop, 3, (some .boolean), { frames := 3, cells := 0, slots := 0, locals := 61 })
abbrev md_GM_there : zMd := (ny_GM_there, nc_GM_there, 2, (some .boolean), { frames := 0, cells := 0, slots := 0, locals := 0 })
abbrev md_GM_burn : zMd := (ny_GM_burn, nc_GM_burn, 4, (some .int), { frames := 0, cells := 0, slots := 0, locals := 0 })
abbrev md_GM_move : zMd := (ny_GM_move, nc_GM_move, 3, none, { frames := 0, cells := 0, slots := 0, locals := 0 })
abbrev md_GM_drop : zMd := (ny_GM_drop, nc_GM_drop, 5, none, { frames := 1, cells := 0, slots := 0, locals := 22 })
abbrev md_GM_forget : zMd := (ny_GM_forget, nc_GM_forget, 3, none, { frames := 2, cells := 0, slots := 0, locals := 46 })
abbrev md_GM_begin : zMd := (ny_GM_begin, nc_GM_begin, 3, none, { frames := 3, cells := 0, slots := 0, locals := 68 })
abbrev md_GM_load : zMd := (ny_GM_load, nc_GM_load, 5, none, { frames := 4, cells := 0, slots := 0, locals := 90 })
abbrev md_GM_boot : zMd := (ny_GM_boot, nc_GM_boot, 7, (some .int), { frames := 5, cells := 0, slots := 0, locals := 114 })
abbrev md_GM_halt : zMd := (ny_GM_halt, nc_GM_halt, 2, none, { frames := 3, cells := 0, slots := 0, locals := 68 })
abbrev md_GM_openWords : zMd := (ny_GM_openWords, nc_GM_openWords, 4, (some .int), { frames := 0, cells := 0, slots := 0, locals := 0 })
abbrev md_GM_granted : zMd := (ny_GM_granted, nc_GM_granted, 4, (some .int), { frames := 0, cells := 0, slots := 0, locals := 0 })
abbrev md_GM_within : zMd := (ny_GM_within, nc_GM_within, 5, (some .boolean), { frames := 0, cells := 0, slots := 0, locals := 0 })
abbrev md_GM_isOpen : zMd := (ny_GM_isOpen, nc_GM_isOpen, 4, (some .boolean), { frames := 1, cells := 0, slots := 0, locals := 24 })
abbrev md_GM_inCode : zMd := (ny_GM_inCode, nc_GM_inCode, 3, (some .boolean), { frames := 0, cells := 0, slots := 0, locals := 0 })
abbrev md_GM_may : zMd := (ny_GM_may, nc_GM_may, 5, (some .boolean), { frames := 2, cells := 0, slots := 0, locals := 47 })
abbrev md_GM_get : zMd := (ny_GM_get, nc_GM_get, 2, (some .int), { frames := 0, cells := 0, slots := 0, locals := 0 })
abbrev md_GM_set : zMd := (ny_GM_set, nc_GM_set, 3, none, { frames := 0, cells := 0, slots := 0, locals := 0 })
abbrev md_GM_eight : zMd := (ny_GM_eight, nc_GM_eight, 5, (some .boolean), { frames := 2, cells := 0, slots := 0, locals := 47 })
abbrev md_GM_stack : zMd := (ny_GM_stack, nc_GM_stack, 6, none, { frames := 3, cells := 0, slots := 0, locals := 71 })
abbrev md_GM_unstack : zMd := (ny_GM_unstack, nc_GM_unstack, 4, none, { frames := 3, cells := 0, slots := 0, locals := 71 })
abbrev md_GM_nz : zMd := (ny_GM_nz, nc_GM_nz, 3, none, { frames := 0, cells := 0, slots := 0, locals := 0 })
abbrev md_GM_sum : zMd := (ny_GM_sum, nc_GM_sum, 10, (some .int), { frames := 0, cells := 0, slots := 0, locals := 0 })
abbrev md_GM_setCarry : zMd := (ny_GM_setCarry, nc_GM_setCarry, 3, none, { frames := 0, cells := 0, slots := 0, locals := 0 })
abbrev md_GM_shifted : zMd := (ny_GM_shifted, nc_GM_shifted, 7, (some .int), { frames := 1, cells := 0, slots := 0, locals := 22 })
abbrev md_GM_calculate : zMd := (ny_GM_calculate, nc_GM_calculate, 9, none, { frames := 2, cells := 0, slots := 0, locals := 48 })
abbrev md_GM_immediate : zMd := (ny_GM_immediate, nc_GM_immediate, 7, none, { frames := 1, cells := 0, slots := 0, locals := 29 })
abbrev md_GM_addOrTake : zMd := (ny_GM_addOrTake, nc_GM_addOrTake, 7, none, { frames := 1, cells := 0, slots := 0, locals := 29 })
abbrev md_GM_access : zMd := (ny_GM_access, nc_GM_access, 5, none, { frames := 3, cells := 0, slots := 0, locals := 71 })
abbrev md_GM_leap : zMd := (ny_GM_leap, nc_GM_leap, 6, none, { frames := 0, cells := 0, slots := 0, locals := 0 })
abbrev md_GM_named : zMd := (ny_GM_named, nc_GM_named, 3, (some .int), { frames := 0, cells := 0, slots := 0, locals := 0 })
abbrev md_GM_push : zMd := (ny_GM_push, nc_GM_push, 6, none, { frames := 3, cells := 0, slots := 0, locals := 71 })
abbrev md_GM_pop : zMd := (ny_GM_pop, nc_GM_pop, 7, none, { frames := 3, cells := 0, slots := 0, locals := 71 })
abbrev md_GM_holds : zMd := (ny_GM_holds, nc_GM_holds, 9, (some .boolean), { frames := 0, cells := 0, slots := 0, locals := 0 })
abbrev md_GM_oldest : zMd := (ny_GM_oldest, nc_GM_oldest, 3, (some .int), { frames := 0, cells := 0, slots := 0, locals := 0 })
abbrev md_GM_deliver : zMd := (ny_GM_deliver, nc_GM_deliver, 7, none, { frames := 1, cells := 0, slots := 0, locals := 22 })
abbrev md_GM_grantAddress : zMd := (ny_GM_grantAddress, nc_GM_grantAddress, 3, (some .int), { frames := 0, cells := 0, slots := 0, locals := 0 })
abbrev md_GM_write : zMd := (ny_GM_write, nc_GM_write, 5, none, { frames := 1, cells := 0, slots := 0, locals := 22 })
abbrev md_GM_ensure : zMd := (ny_GM_ensure, nc_GM_ensure, 8, (some .boolean), { frames := 2, cells := 0, slots := 0, locals := 46 })
abbrev md_GM_subscribe : zMd := (ny_GM_subscribe, nc_GM_subscribe, 5, (some .int), { frames := 2, cells := 0, slots := 0, locals := 46 })
abbrev md_GM_note : zMd := (ny_GM_note, nc_GM_note, 4, (some .int), { frames := 1, cells := 0, slots := 0, locals := 22 })
abbrev md_GM_waiting : zMd := (ny_GM_waiting, nc_GM_waiting, 4, (some .int), { frames := 0, cells := 0, slots := 0, locals := 0 })
abbrev md_GM_upcall : zMd := (ny_GM_upcall, nc_GM_upcall, 5, none, { frames := 2, cells := 0, slots := 0, locals := 48 })
abbrev md_GM_print : zMd := (ny_GM_print, nc_GM_print, 5, (some .int), { frames := 3, cells := 0, slots := 0, locals := 72 })
abbrev md_GM_receive : zMd := (ny_GM_receive, nc_GM_receive, 3, none, { frames := 3, cells := 0, slots := 0, locals := 72 })
abbrev md_GM_command : zMd := (ny_GM_command, nc_GM_command, 7, (some .int), { frames := 4, cells := 0, slots := 0, locals := 96 })
abbrev md_GM_allow : zMd := (ny_GM_allow, nc_GM_allow, 6, (some .int), { frames := 2, cells := 0, slots := 0, locals := 47 })
abbrev md_GM_kernel : zMd := (ny_GM_kernel, nc_GM_kernel, 12, none, { frames := 5, cells := 0, slots := 0, locals := 122 })
abbrev md_GM_branch : zMd := (ny_GM_branch, nc_GM_branch, 5, none, { frames := 6, cells := 0, slots := 0, locals := 153 })
abbrev md_GM_stackWord : zMd := (ny_GM_stackWord, nc_GM_stackWord, 6, none, { frames := 4, cells := 0, slots := 0, locals := 97 })
abbrev md_GM_instruction : zMd := (ny_GM_instruction, nc_GM_instruction, 7, none, { frames := 7, cells := 0, slots := 0, locals := 177 })
abbrev md_GM_faulted : zMd := (ny_GM_faulted, nc_GM_faulted, 2, none, { frames := 4, cells := 0, slots := 0, locals := 90 })
abbrev md_GM_alarms : zMd := (ny_GM_alarms, nc_GM_alarms, 3, none, { frames := 3, cells := 0, slots := 0, locals := 72 })
abbrev md_GM_choose : zMd := (ny_GM_choose, nc_GM_choose, 3, (some .boolean), { frames := 0, cells := 0, slots := 0, locals := 0 })
abbrev md_GM_step : zMd := (ny_GM_step, nc_GM_step, 2, none, { frames := 8, cells := 0, slots := 0, locals := 203 })
abbrev md_GM_run : zMd := (ny_GM_run, nc_GM_run, 4, (some .int), { frames := 9, cells := 0, slots := 0, locals := 224 })
abbrev md_GM_type : zMd := (ny_GM_type, nc_GM_type, 3, (some .boolean), { frames := 4, cells := 0, slots := 0, locals := 94 })
abbrev md_GM_sample : zMd := (ny_GM_sample, nc_GM_sample, 5, (some .int), { frames := 3, cells := 0, slots := 0, locals := 72 })
abbrev md_GM_outputs : zMd := (ny_GM_outputs, nc_GM_outputs, 1, (some .int), { frames := 0, cells := 0, slots := 0, locals := 0 })
abbrev md_GM_output : zMd := (ny_GM_output, nc_GM_output, 2, (some .int), { frames := 0, cells := 0, slots := 0, locals := 0 })
abbrev md_GM_now : zMd := (ny_GM_now, nc_GM_now, 1, (some .int), { frames := 0, cells := 0, slots := 0, locals := 0 })
abbrev md_GM_turn : zMd := (ny_GM_turn, nc_GM_turn, 1, (some .int), { frames := 0, cells := 0, slots := 0, locals := 0 })
abbrev md_GM_state : zMd := (ny_GM_state, nc_GM_state, 2, (some .int), { frames := 1, cells := 0, slots := 0, locals := 21 })
abbrev md_GM_register : zMd := (ny_GM_register, nc_GM_register, 5, (some .int), { frames := 1, cells := 0, slots := 0, locals := 21 })
abbrev md_GM_word : zMd := (ny_GM_word, nc_GM_word, 2, (some .int), { frames := 0, cells := 0, slots := 0, locals := 0 })
abbrev md_GM_block : zMd := (ny_GM_block, nc_GM_block, 2, (some .int), { frames := 1, cells := 0, slots := 0, locals := 21 })
abbrev md_GM_open : zMd := (ny_GM_open, nc_GM_open, 2, (some .int), { frames := 1, cells := 0, slots := 0, locals := 23 })
abbrev md_GM_grant : zMd := (ny_GM_grant, nc_GM_grant, 3, (some .int), { frames := 1, cells := 0, slots := 0, locals := 22 })
abbrev md_GM_queued : zMd := (ny_GM_queued, nc_GM_queued, 2, (some .int), { frames := 1, cells := 0, slots := 0, locals := 23 })
abbrev md_GM_fault : zMd := (ny_GM_fault, nc_GM_fault, 2, (some .int), { frames := 1, cells := 0, slots := 0, locals := 21 })
abbrev md_GM_faults : zMd := (ny_GM_faults, nc_GM_faults, 2, (some .int), { frames := 1, cells := 0, slots := 0, locals := 21 })
abbrev md_GM_restart : zMd := (ny_GM_restart, nc_GM_restart, 2, (some .boolean), { frames := 4, cells := 0, slots := 0, locals := 90 })
abbrev md_GM_stop : zMd := (ny_GM_stop, nc_GM_stop, 2, (some .boolean), { frames := 4, cells := 0, slots := 0, locals := 89 })
end
section
/-! what the words say of fields, calls, constants (printed) -/
theorem gw_at {ws : List Cond} (ps : List Nat) (h : ws = ps.filterMap (fun i => lw_tbl[i]?)) (hg : ws.all goodWord = true) : ∀ w ∈ ws, w ∈ gw := by
  intro w hw
  refine gw_in ?_ (List.all_eq_true.mp hg w hw)
  rw [h] at hw
  obtain ⟨i, -, hi⟩ := List.mem_filterMap.mp hw
  exact List.mem_of_getElem? hi
theorem tb_1 {w : Cond} (h : w ∈ tables_1_1) : w ∈ lw_tbl := List.mem_append_right _ (show w ∈ tables_1 from List.mem_append_left _ h)
theorem tb_2 {w : Cond} (h : w ∈ tables_1_2) : w ∈ lw_tbl := List.mem_append_right _ (show w ∈ tables_1 from List.mem_append_right _ (List.mem_append_left _ h))
theorem tb_3 {w : Cond} (h : w ∈ tables_1_3) : w ∈ lw_tbl := List.mem_append_right _ (show w ∈ tables_1 from List.mem_append_right _ (List.mem_append_right _ (List.mem_append_left _ h)))
theorem tb_4 {w : Cond} (h : w ∈ tables_1_4) : w ∈ lw_tbl := List.mem_append_right _ (show w ∈ tables_1 from List.mem_append_right _ (List.mem_append_right _ (List.mem_append_right _ (List.mem_append_left _ h))))
theorem tb_5 {w : Cond} (h : w ∈ tables_1_5) : w ∈ lw_tbl := List.mem_append_right _ (show w ∈ tables_1 from List.mem_append_right _ (List.mem_append_right _ (List.mem_append_right _ (List.mem_append_right _ (h)))))
def nw_0 : List Cond := [(Jvm.Cond.fieldLink "GrantKernel$BoardProcess" (9 : Nat) "GrantKernel$BoardProcess" "memory" "LGrantKernel$Memory;"), (Jvm.Cond.fieldLink "GrantKernel$BoardProcess" (18 : Nat) "GrantKernel$BoardProcess" "notes" "LGrantKernel$Notes;"), (Jvm.Cond.fieldLink "GrantKernel$BoardProcess" (22 : Nat) "GrantKernel$BoardProcess" "low" "[I"), (Jvm.Cond.fieldLink "GrantKernel$BoardProcess" (30 : Nat) "GrantKernel$BoardProcess" "blockAddress" "I"), (Jvm.Cond.fieldLink "GrantKernel$BoardProcess" (33 : Nat) "GrantKernel$BoardProcess" "blockWords" "I"), (Jvm.Cond.fieldLink "GrantKernel$BoardProcess" (42 : Nat) "GrantKernel$BoardProcess" "keepWords" "I"), (Jvm.Cond.fieldLink "GrantKernel$BoardProcess" (45 : Nat) "GrantKernel$BoardProcess" "sp" "I"), (Jvm.Cond.fieldLink "GrantKernel$BoardProcess" (48 : Nat) "GrantKernel$BoardProcess" "lr" "I"), (Jvm.Cond.fieldLink "GrantKernel$BoardProcess" (51 : Nat) "GrantKernel$BoardProcess" "entry" "I"), (Jvm.Cond.fieldLink "GrantKernel$BoardProcess" (54 : Nat) "GrantKernel$BoardProcess" "pc" "I"), (Jvm.Cond.fieldLink "GrantKernel$BoardProcess" (57 : Nat) "GrantKernel$BoardProcess" "flags" "I"), (Jvm.Cond.fieldLink "GrantKernel$BoardProcess" (60 : Nat) "GrantKernel$BoardProcess" "inFrame" "Z"), (Jvm.Cond.fieldLink "GrantKernel$BoardProcess" (70 : Nat) "GrantKernel$BoardProcess" "openWords" "I"), (Jvm.Cond.fieldLink "GrantKernel$BoardProcess" (76 : Nat) "GrantKernel$BoardProcess" "faultCount" "I"), (Jvm.Cond.fieldLink "GrantKernel$BoardProcess" (79 : Nat) "GrantKernel$BoardProcess" "faultRestarts" "I"), (Jvm.Cond.fieldLink "GrantKernel$BoardProcess" (82 : Nat) "GrantKernel$BoardProcess" "policy" "I"), (Jvm.Cond.fieldLink "GrantKernel$BoardProcess" (91 : Nat) "GrantKernel$BoardProcess" "codeStart" "I"), (Jvm.Cond.fieldLink "GrantKernel$BoardProcess" (94 : Nat) "GrantKernel$BoardProcess" "codeEnd" "I"), (Jvm.Cond.fieldLink "GrantKernel$Console" (9 : Nat) "GrantKernel$Console" "inputs" "[I"), (Jvm.Cond.fieldLink "GrantKernel$Console" (13 : Nat) "GrantKernel$Console" "outputRing" "[I"), (Jvm.Cond.fieldLink "GrantKernel$Console" (16 : Nat) "GrantKernel$Console" "inputCount" "I"), (Jvm.Cond.fieldLink "GrantKernel$Console" (20 : Nat) "GrantKernel$Console" "outputCount" "I"), (Jvm.Cond.fieldLink "GrantKernel" (10 : Nat) "GrantKernel" "memory" "LGrantKernel$Memory;"), (Jvm.Cond.fieldLink "GrantKernel" (18 : Nat) "GrantKernel" "processes" "[LGrantKernel$BoardProcess;"), (Jvm.Cond.fieldLink "GrantKernel" (28 : Nat) "GrantKernel" "console" "LGrantKernel$Console;"), (Jvm.Cond.fieldLink "GrantKernel" (37 : Nat) "GrantKernel" "kernel" "LGrantKernel$Kernel;"), (Jvm.Cond.fieldLink "GrantKernel" (46 : Nat) "GrantKernel" "loader" "LGrantKernel$Loader;"), (Jvm.Cond.fieldLink "GrantKernel" (53 : Nat) "GrantKernel" "processor" "LGrantKernel$Processor;"), (Jvm.Cond.fieldLink "GrantKernel" (57 : Nat) "GrantKernel" "turn" "I"), (Jvm.Cond.fieldLink "GrantKernel" (62 : Nat) "GrantKernel$Memory" "flash" "[I"), (Jvm.Cond.fieldLink "GrantKernel" (73 : Nat) "GrantKernel$Kernel" "now" "I"), (Jvm.Cond.fieldLink "GrantKernel" (76 : Nat) "GrantKernel" "left" "I"), (Jvm.Cond.fieldLink "GrantKernel" (83 : Nat) "GrantKernel" "processCount" "I"), (Jvm.Cond.fieldLink "GrantKernel" (113 : Nat) "GrantKernel$Console" "outputCount" "I"), (Jvm.Cond.fieldLink "GrantKernel" (123 : Nat) "GrantKernel$BoardProcess" "state" "I"), (Jvm.Cond.fieldLink "GrantKernel" (129 : Nat) "GrantKernel$Memory" "ram" "[I"), (Jvm.Cond.fieldLink "GrantKernel" (132 : Nat) "GrantKernel$BoardProcess" "blockAddress" "I"), (Jvm.Cond.fieldLink "GrantKernel" (135 : Nat) "GrantKernel$BoardProcess" "openWords" "I"), (Jvm.Cond.fieldLink "GrantKernel" (138 : Nat) "GrantKernel$BoardProcess" "notes" "LGrantKernel$Notes;"), (Jvm.Cond.fieldLink "GrantKernel" (147 : Nat) "GrantKernel$Notes" "grants" "[I"), (Jvm.Cond.fieldLink "GrantKernel" (150 : Nat) "GrantKernel$Notes" "upcalls" "LGrantKernel$UpcallQueue;"), (Jvm.Cond.fieldLink "GrantKernel" (154 : Nat) "GrantKernel$UpcallQueue" "count" "I"), (Jvm.Cond.fieldLink "GrantKernel" (159 : Nat) "GrantKernel$BoardProcess" "latestFault" "I"), (Jvm.Cond.fieldLink "GrantKernel" (162 : Nat) "GrantKernel$BoardProcess" "faultCount" "I"), (Jvm.Cond.fieldLink "GrantKernel" (171 : Nat) "GrantKernel$BoardProcess" "inFrame" "Z"), (Jvm.Cond.fieldLink "GrantKernel" (181 : Nat) "GrantKernel$BoardProcess" "pc" "I"), (Jvm.Cond.fieldLink "GrantKernelModel" (7 : Nat) "GrantKernelModel" "flash" "[I"), (Jvm.Cond.fieldLink "GrantKernelModel" (13 : Nat) "GrantKernelModel" "ram" "[I"), (Jvm.Cond.fieldLink "GrantKernelModel" (16 : Nat) "GrantKernelModel" "turn" "I"), (Jvm.Cond.fieldLink "GrantKernelModel" (20 : Nat) "GrantKernelModel" "from" "[I"), (Jvm.Cond.fieldLink "GrantKernelModel" (23 : Nat) "GrantKernelModel" "total" "[I"), (Jvm.Cond.fieldLink "GrantKernelModel" (26 : Nat) "GrantKernelModel" "base" "[I"), (Jvm.Cond.fieldLink "GrantKernelModel" (29 : Nat) "GrantKernelModel" "size" "[I"), (Jvm.Cond.fieldLink "GrantKernelModel" (32 : Nat) "GrantKernelModel" "keep" "[I"), (Jvm.Cond.fieldLink "GrantKernelModel" (35 : Nat) "GrantKernelModel" "entry" "[I"), (Jvm.Cond.fieldLink "GrantKernelModel" (38 : Nat) "GrantKernelModel" "policy" "[I"), (Jvm.Cond.fieldLink "GrantKernelModel" (41 : Nat) "GrantKernelModel" "states" "[I"), (Jvm.Cond.fieldLink "GrantKernelModel" (44 : Nat) "GrantKernelModel" "general" "[I"), (Jvm.Cond.fieldLink "GrantKernelModel" (47 : Nat) "GrantKernelModel" "sp" "[I"), (Jvm.Cond.fieldLink "GrantKernelModel" (50 : Nat) "GrantKernelModel" "lr" "[I")]
theorem nw_0_in : ∀ w ∈ nw_0, w ∈ gw := gw_at [199, 200, 224, 209, 213, 216, 227, 230, 207, 233, 235, 237, 219, 244, 246, 223, 204, 206, 294, 295, 296, 298, 361, 362, 363, 364, 365, 366, 368, 120, 319, 369, 367, 299, 241, 123, 212, 221, 202, 170, 181, 158, 243, 245, 238, 234, 819, 820, 822, 825, 826, 827, 828, 829, 830, 831, 832, 833, 834, 835] (by decide +kernel) (by decide +kernel)
def nw_1 : List Cond := [(Jvm.Cond.fieldLink "GrantKernelModel" (53 : Nat) "GrantKernelModel" "pc" "[I"), (Jvm.Cond.fieldLink "GrantKernelModel" (56 : Nat) "GrantKernelModel" "flags" "[I"), (Jvm.Cond.fieldLink "GrantKernelModel" (59 : Nat) "GrantKernelModel" "framed" "[Z"), (Jvm.Cond.fieldLink "GrantKernelModel" (63 : Nat) "GrantKernelModel" "latest" "[I"), (Jvm.Cond.fieldLink "GrantKernelModel" (66 : Nat) "GrantKernelModel" "many" "[I"), (Jvm.Cond.fieldLink "GrantKernelModel" (69 : Nat) "GrantKernelModel" "again" "[I"), (Jvm.Cond.fieldLink "GrantKernelModel" (72 : Nat) "GrantKernelModel" "rank" "[I"), (Jvm.Cond.fieldLink "GrantKernelModel" (75 : Nat) "GrantKernelModel" "function" "[I"), (Jvm.Cond.fieldLink "GrantKernelModel" (78 : Nat) "GrantKernelModel" "data" "[I"), (Jvm.Cond.fieldLink "GrantKernelModel" (81 : Nat) "GrantKernelModel" "buffer" "[I"), (Jvm.Cond.fieldLink "GrantKernelModel" (84 : Nat) "GrantKernelModel" "words" "[I"), (Jvm.Cond.fieldLink "GrantKernelModel" (87 : Nat) "GrantKernelModel" "owner" "[I"), (Jvm.Cond.fieldLink "GrantKernelModel" (90 : Nat) "GrantKernelModel" "driver" "[I"), (Jvm.Cond.fieldLink "GrantKernelModel" (93 : Nat) "GrantKernelModel" "first" "[I"), (Jvm.Cond.fieldLink "GrantKernelModel" (96 : Nat) "GrantKernelModel" "second" "[I"), (Jvm.Cond.fieldLink "GrantKernelModel" (99 : Nat) "GrantKernelModel" "input" "[I"), (Jvm.Cond.fieldLink "GrantKernelModel" (102 : Nat) "GrantKernelModel" "out" "[I"), (Jvm.Cond.fieldLink "GrantKernelModel" (105 : Nat) "GrantKernelModel" "processes" "I"), (Jvm.Cond.fieldLink "GrantKernelModel" (109 : Nat) "GrantKernelModel" "inputs" "I"), (Jvm.Cond.fieldLink "GrantKernelModel" (112 : Nat) "GrantKernelModel" "outs" "I"), (Jvm.Cond.fieldLink "GrantKernelModel" (115 : Nat) "GrantKernelModel" "now" "I"), (Jvm.Cond.fieldLink "GrantKernelModel" (118 : Nat) "GrantKernelModel" "left" "I"), (Jvm.Cond.fieldLink "GrantKernelModel" (121 : Nat) "GrantKernelModel" "upcalls" "I"), (Jvm.Cond.fieldLink "GrantKernelModel" (161 : Nat) "GrantKernelModel" "bad" "I"), (Jvm.Cond.fieldLink "GrantKernelModel" (179 : Nat) "GrantKernelModel" "carry" "I"), (Jvm.Cond.fieldLink "GrantKernelModel" (199 : Nat) "GrantKernelModel" "next" "I"), (Jvm.Cond.fieldLink "GrantKernel$Kernel" (9 : Nat) "GrantKernel$Kernel" "memory" "LGrantKernel$Memory;"), (Jvm.Cond.fieldLink "GrantKernel$Kernel" (15 : Nat) "GrantKernel$Kernel" "processes" "[LGrantKernel$BoardProcess;"), (Jvm.Cond.fieldLink "GrantKernel$Kernel" (19 : Nat) "GrantKernel$Kernel" "console" "LGrantKernel$Console;"), (Jvm.Cond.fieldLink "GrantKernel$Kernel" (23 : Nat) "GrantKernel$Kernel" "now" "I"), (Jvm.Cond.fieldLink "GrantKernel$Kernel" (45 : Nat) "GrantKernel$BoardProcess" "notes" "LGrantKernel$Notes;"), (Jvm.Cond.fieldLink "GrantKernel$Kernel" (51 : Nat) "GrantKernel$Notes" "grants" "[I"), (Jvm.Cond.fieldLink "GrantKernel$Kernel" (71 : Nat) "GrantKernel$Notes" "upcalls" "LGrantKernel$UpcallQueue;"), (Jvm.Cond.fieldLink "GrantKernel$Kernel" (75 : Nat) "GrantKernel$BoardProcess" "state" "I"), (Jvm.Cond.fieldLink "GrantKernel$Kernel" (78 : Nat) "GrantKernel$UpcallQueue" "count" "I"), (Jvm.Cond.fieldLink "GrantKernel$Kernel" (83 : Nat) "GrantKernel$UpcallQueue" "drivers" "[I"), (Jvm.Cond.fieldLink "GrantKernel$Kernel" (86 : Nat) "GrantKernel$UpcallQueue" "firsts" "[I"), (Jvm.Cond.fieldLink "GrantKernel$Kernel" (89 : Nat) "GrantKernel$UpcallQueue" "seconds" "[I"), (Jvm.Cond.fieldLink "GrantKernel$Kernel" (95 : Nat) "GrantKernel$BoardProcess" "low" "[I"), (Jvm.Cond.fieldLink "GrantKernel$Kernel" (123 : Nat) "GrantKernel$Notes" "grantWords" "I"), (Jvm.Cond.fieldLink "GrantKernel$Kernel" (129 : Nat) "GrantKernel$BoardProcess" "keepWords" "I"), (Jvm.Cond.fieldLink "GrantKernel$Kernel" (132 : Nat) "GrantKernel$BoardProcess" "blockAddress" "I"), (Jvm.Cond.fieldLink "GrantKernel$Kernel" (138 : Nat) "GrantKernel$BoardProcess" "blockWords" "I"), (Jvm.Cond.fieldLink "GrantKernel$Kernel" (147 : Nat) "GrantKernel$Notes" "functions" "[I"), (Jvm.Cond.fieldLink "GrantKernel$Kernel" (150 : Nat) "GrantKernel$Notes" "data" "[I"), (Jvm.Cond.fieldLink "GrantKernel$Kernel" (161 : Nat) "GrantKernel$Notes" "bufferAddresses" "[I"), (Jvm.Cond.fieldLink "GrantKernel$Kernel" (164 : Nat) "GrantKernel$Notes" "bufferWords" "[I"), (Jvm.Cond.fieldLink "GrantKernel$Kernel" (177 : Nat) "GrantKernel$Console" "inputCount" "I"), (Jvm.Cond.fieldLink "GrantKernel$Kernel" (196 : Nat) "GrantKernel$BoardProcess" "sp" "I"), (Jvm.Cond.fieldLink "GrantKernel$Loader" (11 : Nat) "GrantKernel$Loader" "memory" "LGrantKernel$Memory;"), (Jvm.Cond.fieldLink "GrantKernel$Loader" (15 : Nat) "GrantKernel$Loader" "processes" "[LGrantKernel$BoardProcess;"), (Jvm.Cond.fieldLink "GrantKernel$Loader" (27 : Nat) "GrantKernel$Loader" "loaded" "I"), (Jvm.Cond.fieldLink "GrantKernel$Loader" (31 : Nat) "GrantKernel$Loader" "usedWords" "I"), (Jvm.Cond.fieldLink "GrantKernel$Loader" (42 : Nat) "GrantKernel$Memory" "flash" "[I"), (Jvm.Cond.fieldLink "GrantKernel$Memory" (9 : Nat) "GrantKernel$Memory" "flash" "[I"), (Jvm.Cond.fieldLink "GrantKernel$Memory" (15 : Nat) "GrantKernel$Memory" "ram" "[I"), (Jvm.Cond.fieldLink "GrantKernel$Notes" (9 : Nat) "GrantKernel$Notes" "grants" "[I"), (Jvm.Cond.fieldLink "GrantKernel$Notes" (15 : Nat) "GrantKernel$Notes" "functions" "[I"), (Jvm.Cond.fieldLink "GrantKernel$Notes" (18 : Nat) "GrantKernel$Notes" "data" "[I"), (Jvm.Cond.fieldLink "GrantKernel$Notes" (21 : Nat) "GrantKernel$Notes" "bufferAddresses" "[I")]
theorem nw_1_in : ∀ w ∈ nw_1, w ∈ gw := gw_at [836, 837, 838, 839, 840, 841, 842, 843, 844, 845, 846, 848, 849, 850, 851, 853, 855, 824, 852, 854, 821, 823, 847, 856, 857, 858, 315, 316, 317, 318, 201, 169, 180, 240, 157, 150, 152, 154, 226, 183, 218, 211, 215, 172, 174, 176, 178, 297, 229, 335, 336, 337, 338, 121, 119, 122, 168, 171, 173, 175] (by decide +kernel) (by decide +kernel)
def nw_2 : List Cond := [(Jvm.Cond.fieldLink "GrantKernel$Notes" (24 : Nat) "GrantKernel$Notes" "bufferWords" "[I"), (Jvm.Cond.fieldLink "GrantKernel$Notes" (30 : Nat) "GrantKernel$Notes" "upcalls" "LGrantKernel$UpcallQueue;"), (Jvm.Cond.fieldLink "GrantKernel$Processor" (9 : Nat) "GrantKernel$Processor" "memory" "LGrantKernel$Memory;"), (Jvm.Cond.fieldLink "GrantKernel$Processor" (15 : Nat) "GrantKernel$BoardProcess" "pc" "I"), (Jvm.Cond.fieldLink "GrantKernel$Processor" (25 : Nat) "GrantKernel$Processor" "next" "I"), (Jvm.Cond.fieldLink "GrantKernel$Processor" (57 : Nat) "GrantKernel$BoardProcess" "low" "[I"), (Jvm.Cond.fieldLink "GrantKernel$Processor" (64 : Nat) "GrantKernel$BoardProcess" "sp" "I"), (Jvm.Cond.fieldLink "GrantKernel$Processor" (90 : Nat) "GrantKernel$BoardProcess" "flags" "I"), (Jvm.Cond.fieldLink "GrantKernel$Processor" (100 : Nat) "GrantKernel$BoardProcess" "lr" "I"), (Jvm.Cond.fieldLink "GrantKernel$UpcallQueue" (9 : Nat) "GrantKernel$UpcallQueue" "drivers" "[I"), (Jvm.Cond.fieldLink "GrantKernel$UpcallQueue" (13 : Nat) "GrantKernel$UpcallQueue" "firsts" "[I"), (Jvm.Cond.fieldLink "GrantKernel$UpcallQueue" (16 : Nat) "GrantKernel$UpcallQueue" "seconds" "[I"), (Jvm.Cond.fieldLink "GrantKernel$UpcallQueue" (19 : Nat) "GrantKernel$UpcallQueue" "count" "I"), (Jvm.Cond.fieldLink "GrantKernel$BoardProcess" (26 : Nat) "GrantKernel$BoardProcess" "state" "I"), (Jvm.Cond.fieldLink "GrantKernel$BoardProcess" (73 : Nat) "GrantKernel$BoardProcess" "latestFault" "I"), (Jvm.Cond.fieldLink "GrantKernel$Kernel" (141 : Nat) "GrantKernel$BoardProcess" "openWords" "I"), (Jvm.Cond.fieldLink "GrantKernel$Loader" (48 : Nat) "GrantKernel$BoardProcess" "codeStart" "I"), (Jvm.Cond.fieldLink "GrantKernel$Loader" (51 : Nat) "GrantKernel$BoardProcess" "codeEnd" "I"), (Jvm.Cond.fieldLink "GrantKernel$Loader" (54 : Nat) "GrantKernel$BoardProcess" "entry" "I"), (Jvm.Cond.fieldLink "GrantKernel$Loader" (57 : Nat) "GrantKernel$BoardProcess" "blockAddress" "I"), (Jvm.Cond.fieldLink "GrantKernel$Loader" (60 : Nat) "GrantKernel$BoardProcess" "blockWords" "I"), (Jvm.Cond.fieldLink "GrantKernel$Loader" (63 : Nat) "GrantKernel$BoardProcess" "keepWords" "I"), (Jvm.Cond.fieldLink "GrantKernel$Loader" (66 : Nat) "GrantKernel$BoardProcess" "policy" "I"), (Jvm.Cond.fieldLink "GrantKernel$Notes" (34 : Nat) "GrantKernel$Notes" "grantWords" "I"), (Jvm.Cond.fieldLink "GrantKernel$Notes" (38 : Nat) "GrantKernel$UpcallQueue" "count" "I"), (Jvm.Cond.constant "GrantKernel$BoardProcess" (118 : Nat) (16777216 : Int32)), (Jvm.Cond.constant "GrantKernel" (61 : Nat) (65535 : Int32)), (Jvm.Cond.constant "GrantKernelModel" (108 : Nat) (65535 : Int32)), (Jvm.Cond.constant "GrantKernelModel" (170 : Nat) (268435456 : Int32)), (Jvm.Cond.constant "GrantKernelModel" (171 : Nat) (16777216 : Int32)), (Jvm.Cond.constantLong "GrantKernelModel" (175 : Nat) (4294967295 : Int64)), (Jvm.Cond.constantLong "GrantKernelModel" (177 : Nat) (4294967296 : Int64)), (Jvm.Cond.constant "java/lang/Integer" (265 : Nat) (1431655765 : Int32)), (Jvm.Cond.constant "java/lang/Integer" (266 : Nat) (858993459 : Int32)), (Jvm.Cond.constant "java/lang/Integer" (267 : Nat) (252645135 : Int32)), (Jvm.Cond.constantLong "GrantKernel$Processor" (131 : Nat) (4294967295 : Int64)), (Jvm.Cond.methodLink "GrantKernel$BoardProcess" (36 : Nat) ({ cls := "GrantKernel$Memory", name := "clearRam", desc := "(II)V" } : Jvm.MethodName)), (Jvm.Cond.instanceMethod ({ cls := "GrantKernel$Memory", name := "clearRam", desc := "(II)V" } : Jvm.MethodName)), (Jvm.Cond.selects "GrantKernel$Memory" ({ cls := "GrantKernel$Memory", name := "clearRam", desc := "(II)V" } : Jvm.MethodName) ({ cls := "GrantKernel$Memory", name := "clearRam", desc := "(II)V" } : Jvm.MethodName)), (Jvm.Cond.initialized "GrantKernel$Memory"), (Jvm.Cond.methodLink "GrantKernel$BoardProcess" (64 : Nat) ({ cls := "GrantKernel$BoardProcess", name := "loseNotes", desc := "()V" } : Jvm.MethodName)), (Jvm.Cond.instanceMethod ({ cls := "GrantKernel$BoardProcess", name := "loseNotes", desc := "()V" } : Jvm.MethodName)), Cond.selects "GrantKernel$BoardProcess" ⟨"GrantKernel$BoardProcess", "loseNotes", "()V"⟩ ⟨"GrantKernel$BoardProcess", "loseNotes", "()V"⟩, (Jvm.Cond.initialized "GrantKernel$BoardProcess"), (Jvm.Cond.methodLink "GrantKernel$BoardProcess" (67 : Nat) ({ cls := "GrantKernel$Notes", name := "clear", desc := "()V" } : Jvm.MethodName)), (Jvm.Cond.instanceMethod ({ cls := "GrantKernel$Notes", name := "clear", desc := "()V" } : Jvm.MethodName)), (Jvm.Cond.selects "GrantKernel$Notes" ({ cls := "GrantKernel$Notes", name := "clear", desc := "()V" } : Jvm.MethodName) ({ cls := "GrantKernel$Notes", name := "clear", desc := "()V" } : Jvm.MethodName)), (Jvm.Cond.initialized "GrantKernel$Notes"), (Jvm.Cond.methodLink "GrantKernel$BoardProcess" (85 : Nat) ({ cls := "GrantKernel$BoardProcess", name := "begin", desc := "()V" } : Jvm.MethodName)), (Jvm.Cond.instanceMethod ({ cls := "GrantKernel$BoardProcess", name := "begin", desc := "()V" } : Jvm.MethodName)), (Jvm.Cond.selects "GrantKernel$BoardProcess" ({ cls := "GrantKernel$BoardProcess", name := "begin", desc := "()V" } : Jvm.MethodName) ({ cls := "GrantKernel$BoardProcess", name := "begin", desc := "()V" } : Jvm.MethodName)), (Jvm.Cond.methodLink "GrantKernel$BoardProcess" (88 : Nat) ({ cls := "GrantKernel$BoardProcess", name := "halt", desc := "()V" } : Jvm.MethodName)), (Jvm.Cond.instanceMethod ({ cls := "GrantKernel$BoardProcess", name := "halt", desc := "()V" } : Jvm.MethodName)), (Jvm.Cond.selects "GrantKernel$BoardProcess" ({ cls := "GrantKernel$BoardProcess", name := "halt", desc := "()V" } : Jvm.MethodName) ({ cls := "GrantKernel$BoardProcess", name := "halt", desc := "()V" } : Jvm.MethodName)), (Jvm.Cond.methodLink "GrantKernel$BoardProcess" (97 : Nat) ({ cls := "GrantKernel$BoardProcess", name := "isInCode", desc := "(I)Z" } : Jvm.MethodName)), (Jvm.Cond.instanceMethod ({ cls := "GrantKernel$BoardProcess", name := "isInCode", desc := "(I)Z" } : Jvm.MethodName)), (Jvm.Cond.selects "GrantKernel$BoardProcess" ({ cls := "GrantKernel$BoardProcess", name := "isInCode", desc := "(I)Z" } : Jvm.MethodName) ({ cls := "GrantKernel$BoardProcess", name := "isInCode", desc := "(I)Z" } : Jvm.MethodName)), (Jvm.Cond.methodLink "GrantKernel$BoardProcess" (101 : Nat) ({ cls := "GrantKernel$BoardProcess", name := "areOpen", desc := "(II)Z" } : Jvm.MethodName)), (Jvm.Cond.instanceMethod ({ cls := "GrantKernel$BoardProcess", name := "areOpen", desc := "(II)Z" } : Jvm.MethodName)), (Jvm.Cond.selects "GrantKernel$BoardProcess" ({ cls := "GrantKernel$BoardProcess", name := "areOpen", desc := "(II)Z" } : Jvm.MethodName) ({ cls := "GrantKernel$BoardProcess", name := "areOpen", desc := "(II)Z" } : Jvm.MethodName))]
theorem nw_2_in : ∀ w ∈ nw_2, w ∈ gw := gw_at [177, 179, 354, 232, 355, 225, 228, 236, 231, 149, 151, 153, 155, 239, 242, 220, 203, 205, 208, 210, 214, 217, 222, 182, 156, 623, 393, 945, 1100, 1101, 1070, 1071, 595, 596, 597, 524, 442, 399, 400, 94, 418, 420, 0, 95, 422, 423, 424, 96, 716, 439, 440, 717, 415, 416, 569, 502, 503, 488, 489, 490] (by decide +kernel) (by decide +kernel)
def nw_3 : List Cond := [(Jvm.Cond.methodLink "GrantKernel$BoardProcess" (105 : Nat) ({ cls := "GrantKernel$Memory", name := "flashWord", desc := "(I)I" } : Jvm.MethodName)), (Jvm.Cond.instanceMethod ({ cls := "GrantKernel$Memory", name := "flashWord", desc := "(I)I" } : Jvm.MethodName)), (Jvm.Cond.selects "GrantKernel$Memory" ({ cls := "GrantKernel$Memory", name := "flashWord", desc := "(I)I" } : Jvm.MethodName) ({ cls := "GrantKernel$Memory", name := "flashWord", desc := "(I)I" } : Jvm.MethodName)), (Jvm.Cond.methodLink "GrantKernel$BoardProcess" (109 : Nat) ({ cls := "GrantKernel$Memory", name := "ramWord", desc := "(I)I" } : Jvm.MethodName)), (Jvm.Cond.instanceMethod ({ cls := "GrantKernel$Memory", name := "ramWord", desc := "(I)I" } : Jvm.MethodName)), (Jvm.Cond.selects "GrantKernel$Memory" ({ cls := "GrantKernel$Memory", name := "ramWord", desc := "(I)I" } : Jvm.MethodName) ({ cls := "GrantKernel$Memory", name := "ramWord", desc := "(I)I" } : Jvm.MethodName)), (Jvm.Cond.methodLink "GrantKernel$BoardProcess" (112 : Nat) ({ cls := "GrantKernel$Memory", name := "setRamWord", desc := "(II)V" } : Jvm.MethodName)), (Jvm.Cond.instanceMethod ({ cls := "GrantKernel$Memory", name := "setRamWord", desc := "(II)V" } : Jvm.MethodName)), (Jvm.Cond.selects "GrantKernel$Memory" ({ cls := "GrantKernel$Memory", name := "setRamWord", desc := "(II)V" } : Jvm.MethodName) ({ cls := "GrantKernel$Memory", name := "setRamWord", desc := "(II)V" } : Jvm.MethodName)), (Jvm.Cond.methodLink "GrantKernel$BoardProcess" (115 : Nat) ({ cls := "GrantKernel$BoardProcess", name := "setFrameWord", desc := "(II)V" } : Jvm.MethodName)), (Jvm.Cond.instanceMethod ({ cls := "GrantKernel$BoardProcess", name := "setFrameWord", desc := "(II)V" } : Jvm.MethodName)), (Jvm.Cond.selects "GrantKernel$BoardProcess" ({ cls := "GrantKernel$BoardProcess", name := "setFrameWord", desc := "(II)V" } : Jvm.MethodName) ({ cls := "GrantKernel$BoardProcess", name := "setFrameWord", desc := "(II)V" } : Jvm.MethodName)), (Jvm.Cond.methodLink "GrantKernel$BoardProcess" (119 : Nat) ({ cls := "GrantKernel$BoardProcess", name := "frameWord", desc := "(I)I" } : Jvm.MethodName)), (Jvm.Cond.instanceMethod ({ cls := "GrantKernel$BoardProcess", name := "frameWord", desc := "(I)I" } : Jvm.MethodName)), (Jvm.Cond.selects "GrantKernel$BoardProcess" ({ cls := "GrantKernel$BoardProcess", name := "frameWord", desc := "(I)I" } : Jvm.MethodName) ({ cls := "GrantKernel$BoardProcess", name := "frameWord", desc := "(I)I" } : Jvm.MethodName)), (Jvm.Cond.methodLink "GrantKernel" (66 : Nat) ({ cls := "GrantKernel$Memory", name := "clearRam", desc := "(II)V" } : Jvm.MethodName)), (Jvm.Cond.methodLink "GrantKernel" (70 : Nat) ({ cls := "GrantKernel$Console", name := "clear", desc := "()V" } : Jvm.MethodName)), (Jvm.Cond.instanceMethod ({ cls := "GrantKernel$Console", name := "clear", desc := "()V" } : Jvm.MethodName)), (Jvm.Cond.selects "GrantKernel$Console" ({ cls := "GrantKernel$Console", name := "clear", desc := "()V" } : Jvm.MethodName) ({ cls := "GrantKernel$Console", name := "clear", desc := "()V" } : Jvm.MethodName)), (Jvm.Cond.initialized "GrantKernel$Console"), (Jvm.Cond.methodLink "GrantKernel" (79 : Nat) ({ cls := "GrantKernel$Loader", name := "loadAll", desc := "()I" } : Jvm.MethodName)), (Jvm.Cond.instanceMethod ({ cls := "GrantKernel$Loader", name := "loadAll", desc := "()I" } : Jvm.MethodName)), (Jvm.Cond.selects "GrantKernel$Loader" ({ cls := "GrantKernel$Loader", name := "loadAll", desc := "()I" } : Jvm.MethodName) ({ cls := "GrantKernel$Loader", name := "loadAll", desc := "()I" } : Jvm.MethodName)), (Jvm.Cond.initialized "GrantKernel$Loader"), (Jvm.Cond.methodLink "GrantKernel" (86 : Nat) ({ cls := "GrantKernel$Kernel", name := "beginTick", desc := "()V" } : Jvm.MethodName)), (Jvm.Cond.instanceMethod ({ cls := "GrantKernel$Kernel", name := "beginTick", desc := "()V" } : Jvm.MethodName)), (Jvm.Cond.selects "GrantKernel$Kernel" ({ cls := "GrantKernel$Kernel", name := "beginTick", desc := "()V" } : Jvm.MethodName) ({ cls := "GrantKernel$Kernel", name := "beginTick", desc := "()V" } : Jvm.MethodName)), (Jvm.Cond.initialized "GrantKernel$Kernel"), (Jvm.Cond.methodLink "GrantKernel" (89 : Nat) ({ cls := "GrantKernel", name := "giveTurn", desc := "()Z" } : Jvm.MethodName)), (Jvm.Cond.instanceMethod ({ cls := "GrantKernel", name := "giveTurn", desc := "()Z" } : Jvm.MethodName)), Cond.selects "GrantKernel" ⟨"GrantKernel", "giveTurn", "()Z"⟩ ⟨"GrantKernel", "giveTurn", "()Z"⟩, (Jvm.Cond.initialized "GrantKernel"), (Jvm.Cond.methodLink "GrantKernel" (93 : Nat) ({ cls := "GrantKernel", name := "doInstruction", desc := "(LGrantKernel$BoardProcess;)I" } : Jvm.MethodName)), (Jvm.Cond.instanceMethod ({ cls := "GrantKernel", name := "doInstruction", desc := "(LGrantKernel$BoardProcess;)I" } : Jvm.MethodName)), Cond.selects "GrantKernel" ⟨"GrantKernel", "doInstruction", "(LGrantKernel$BoardProcess;)I"⟩ ⟨"GrantKernel", "doInstruction", "(LGrantKernel$BoardProcess;)I"⟩, (Jvm.Cond.methodLink "GrantKernel" (97 : Nat) ({ cls := "GrantKernel", name := "serve", desc := "(LGrantKernel$BoardProcess;I)I" } : Jvm.MethodName)), (Jvm.Cond.instanceMethod ({ cls := "GrantKernel", name := "serve", desc := "(LGrantKernel$BoardProcess;I)I" } : Jvm.MethodName)), Cond.selects "GrantKernel" ⟨"GrantKernel", "serve", "(LGrantKernel$BoardProcess;I)I"⟩ ⟨"GrantKernel", "serve", "(LGrantKernel$BoardProcess;I)I"⟩, (Jvm.Cond.methodLink "GrantKernel" (101 : Nat) ({ cls := "GrantKernel", name := "endStep", desc := "(LGrantKernel$BoardProcess;I)V" } : Jvm.MethodName)), (Jvm.Cond.instanceMethod ({ cls := "GrantKernel", name := "endStep", desc := "(LGrantKernel$BoardProcess;I)V" } : Jvm.MethodName)), Cond.selects "GrantKernel" ⟨"GrantKernel", "endStep", "(LGrantKernel$BoardProcess;I)V"⟩ ⟨"GrantKernel", "endStep", "(LGrantKernel$BoardProcess;I)V"⟩, (Jvm.Cond.methodLink "GrantKernel" (105 : Nat) ({ cls := "GrantKernel$Kernel", name := "takeInput", desc := "(I)Z" } : Jvm.MethodName)), (Jvm.Cond.instanceMethod ({ cls := "GrantKernel$Kernel", name := "takeInput", desc := "(I)Z" } : Jvm.MethodName)), (Jvm.Cond.selects "GrantKernel$Kernel" ({ cls := "GrantKernel$Kernel", name := "takeInput", desc := "(I)Z" } : Jvm.MethodName) ({ cls := "GrantKernel$Kernel", name := "takeInput", desc := "(I)Z" } : Jvm.MethodName)), (Jvm.Cond.methodLink "GrantKernel" (109 : Nat) ({ cls := "GrantKernel$Kernel", name := "takeSample", desc := "(I)I" } : Jvm.MethodName)), (Jvm.Cond.instanceMethod ({ cls := "GrantKernel$Kernel", name := "takeSample", desc := "(I)I" } : Jvm.MethodName)), (Jvm.Cond.selects "GrantKernel$Kernel" ({ cls := "GrantKernel$Kernel", name := "takeSample", desc := "(I)I" } : Jvm.MethodName) ({ cls := "GrantKernel$Kernel", name := "takeSample", desc := "(I)I" } : Jvm.MethodName)), (Jvm.Cond.methodLink "GrantKernel" (116 : Nat) ({ cls := "GrantKernel$Console", name := "latestOutput", desc := "(I)I" } : Jvm.MethodName)), (Jvm.Cond.instanceMethod ({ cls := "GrantKernel$Console", name := "latestOutput", desc := "(I)I" } : Jvm.MethodName)), (Jvm.Cond.selects "GrantKernel$Console" ({ cls := "GrantKernel$Console", name := "latestOutput", desc := "(I)I" } : Jvm.MethodName) ({ cls := "GrantKernel$Console", name := "latestOutput", desc := "(I)I" } : Jvm.MethodName)), (Jvm.Cond.methodLink "GrantKernel" (119 : Nat) ({ cls := "GrantKernel", name := "find", desc := "(I)LGrantKernel$BoardProcess;" } : Jvm.MethodName)), (Jvm.Cond.instanceMethod ({ cls := "GrantKernel", name := "find", desc := "(I)LGrantKernel$BoardProcess;" } : Jvm.MethodName)), Cond.selects "GrantKernel" ⟨"GrantKernel", "find", "(I)LGrantKernel$BoardProcess;"⟩ ⟨"GrantKernel", "find", "(I)LGrantKernel$BoardProcess;"⟩, (Jvm.Cond.methodLink "GrantKernel" (126 : Nat) ({ cls := "GrantKernel$BoardProcess", name := "registerValue", desc := "(I)I" } : Jvm.MethodName)), (Jvm.Cond.instanceMethod ({ cls := "GrantKernel$BoardProcess", name := "registerValue", desc := "(I)I" } : Jvm.MethodName)), (Jvm.Cond.selects "GrantKernel$BoardProcess" ({ cls := "GrantKernel$BoardProcess", name := "registerValue", desc := "(I)I" } : Jvm.MethodName) ({ cls := "GrantKernel$BoardProcess", name := "registerValue", desc := "(I)I" } : Jvm.MethodName)), (Jvm.Cond.methodLink "GrantKernel" (142 : Nat) ({ cls := "GrantKernel$Notes", name := "hasGrant", desc := "(I)Z" } : Jvm.MethodName)), (Jvm.Cond.instanceMethod ({ cls := "GrantKernel$Notes", name := "hasGrant", desc := "(I)Z" } : Jvm.MethodName)), (Jvm.Cond.selects "GrantKernel$Notes" ({ cls := "GrantKernel$Notes", name := "hasGrant", desc := "(I)Z" } : Jvm.MethodName) ({ cls := "GrantKernel$Notes", name := "hasGrant", desc := "(I)Z" } : Jvm.MethodName)), (Jvm.Cond.methodLink "GrantKernel" (165 : Nat) ({ cls := "GrantKernel$BoardProcess", name := "begin", desc := "()V" } : Jvm.MethodName))]
theorem nw_3_in : ∀ w ∈ nw_3, w ∈ gw := gw_at [574, 575, 576, 496, 460, 461, 622, 403, 404, 618, 619, 620, 492, 493, 494, 398, 406, 407, 408, 98, 410, 411, 412, 100, 447, 448, 449, 99, 476, 478, 6, 93, 480, 482, 7, 610, 612, 27, 708, 710, 39, 722, 723, 724, 734, 735, 736, 746, 747, 748, 762, 764, 40, 770, 771, 772, 790, 456, 457, 807] (by decide +kernel) (by decide +kernel)
def nw_4 : List Cond := [(Jvm.Cond.methodLink "GrantKernel" (168 : Nat) ({ cls := "GrantKernel$BoardProcess", name := "halt", desc := "()V" } : Jvm.MethodName)), (Jvm.Cond.methodLink "GrantKernel" (175 : Nat) ({ cls := "GrantKernel$BoardProcess", name := "takeFrame", desc := "()Z" } : Jvm.MethodName)), (Jvm.Cond.instanceMethod ({ cls := "GrantKernel$BoardProcess", name := "takeFrame", desc := "()Z" } : Jvm.MethodName)), (Jvm.Cond.selects "GrantKernel$BoardProcess" ({ cls := "GrantKernel$BoardProcess", name := "takeFrame", desc := "()Z" } : Jvm.MethodName) ({ cls := "GrantKernel$BoardProcess", name := "takeFrame", desc := "()Z" } : Jvm.MethodName)), (Jvm.Cond.methodLink "GrantKernel" (178 : Nat) ({ cls := "GrantKernel$Processor", name := "execute", desc := "(LGrantKernel$BoardProcess;)I" } : Jvm.MethodName)), (Jvm.Cond.instanceMethod ({ cls := "GrantKernel$Processor", name := "execute", desc := "(LGrantKernel$BoardProcess;)I" } : Jvm.MethodName)), (Jvm.Cond.selects "GrantKernel$Processor" ({ cls := "GrantKernel$Processor", name := "execute", desc := "(LGrantKernel$BoardProcess;)I" } : Jvm.MethodName) ({ cls := "GrantKernel$Processor", name := "execute", desc := "(LGrantKernel$BoardProcess;)I" } : Jvm.MethodName)), (Jvm.Cond.initialized "GrantKernel$Processor"), (Jvm.Cond.methodLink "GrantKernel" (184 : Nat) ({ cls := "GrantKernel$BoardProcess", name := "stackFrame", desc := "(I)Z" } : Jvm.MethodName)), (Jvm.Cond.instanceMethod ({ cls := "GrantKernel$BoardProcess", name := "stackFrame", desc := "(I)Z" } : Jvm.MethodName)), (Jvm.Cond.selects "GrantKernel$BoardProcess" ({ cls := "GrantKernel$BoardProcess", name := "stackFrame", desc := "(I)Z" } : Jvm.MethodName) ({ cls := "GrantKernel$BoardProcess", name := "stackFrame", desc := "(I)Z" } : Jvm.MethodName)), (Jvm.Cond.methodLink "GrantKernel" (187 : Nat) ({ cls := "GrantKernel$Kernel", name := "waitForUpcall", desc := "(LGrantKernel$BoardProcess;)V" } : Jvm.MethodName)), (Jvm.Cond.instanceMethod ({ cls := "GrantKernel$Kernel", name := "waitForUpcall", desc := "(LGrantKernel$BoardProcess;)V" } : Jvm.MethodName)), (Jvm.Cond.selects "GrantKernel$Kernel" ({ cls := "GrantKernel$Kernel", name := "waitForUpcall", desc := "(LGrantKernel$BoardProcess;)V" } : Jvm.MethodName) ({ cls := "GrantKernel$Kernel", name := "waitForUpcall", desc := "(LGrantKernel$BoardProcess;)V" } : Jvm.MethodName)), (Jvm.Cond.methodLink "GrantKernel" (191 : Nat) ({ cls := "GrantKernel$Kernel", name := "answer", desc := "(LGrantKernel$BoardProcess;I)I" } : Jvm.MethodName)), (Jvm.Cond.instanceMethod ({ cls := "GrantKernel$Kernel", name := "answer", desc := "(LGrantKernel$BoardProcess;I)I" } : Jvm.MethodName)), (Jvm.Cond.selects "GrantKernel$Kernel" ({ cls := "GrantKernel$Kernel", name := "answer", desc := "(LGrantKernel$BoardProcess;I)I" } : Jvm.MethodName) ({ cls := "GrantKernel$Kernel", name := "answer", desc := "(LGrantKernel$BoardProcess;I)I" } : Jvm.MethodName)), (Jvm.Cond.methodLink "GrantKernel" (194 : Nat) ({ cls := "GrantKernel$BoardProcess", name := "setFrameWord", desc := "(II)V" } : Jvm.MethodName)), (Jvm.Cond.methodLink "GrantKernel" (197 : Nat) ({ cls := "GrantKernel$BoardProcess", name := "fail", desc := "(I)V" } : Jvm.MethodName)), (Jvm.Cond.instanceMethod ({ cls := "GrantKernel$BoardProcess", name := "fail", desc := "(I)V" } : Jvm.MethodName)), (Jvm.Cond.selects "GrantKernel$BoardProcess" ({ cls := "GrantKernel$BoardProcess", name := "fail", desc := "(I)V" } : Jvm.MethodName) ({ cls := "GrantKernel$BoardProcess", name := "fail", desc := "(I)V" } : Jvm.MethodName)), (Jvm.Cond.methodLink "GrantKernelModel" (124 : Nat) ({ cls := "GrantKernelModel", name := "load", desc := "(III)V" } : Jvm.MethodName)), (Jvm.Cond.instanceMethod ({ cls := "GrantKernelModel", name := "load", desc := "(III)V" } : Jvm.MethodName)), Cond.selects "GrantKernelModel" ⟨"GrantKernelModel", "load", "(III)V"⟩ ⟨"GrantKernelModel", "load", "(III)V"⟩, (Jvm.Cond.initialized "GrantKernelModel"), (Jvm.Cond.methodLink "GrantKernelModel" (128 : Nat) ({ cls := "GrantKernelModel", name := "begin", desc := "(I)V" } : Jvm.MethodName)), (Jvm.Cond.instanceMethod ({ cls := "GrantKernelModel", name := "begin", desc := "(I)V" } : Jvm.MethodName)), Cond.selects "GrantKernelModel" ⟨"GrantKernelModel", "begin", "(I)V"⟩ ⟨"GrantKernelModel", "begin", "(I)V"⟩, (Jvm.Cond.methodLink "GrantKernelModel" (132 : Nat) ({ cls := "GrantKernelModel", name := "forget", desc := "(I)V" } : Jvm.MethodName)), (Jvm.Cond.instanceMethod ({ cls := "GrantKernelModel", name := "forget", desc := "(I)V" } : Jvm.MethodName)), Cond.selects "GrantKernelModel" ⟨"GrantKernelModel", "forget", "(I)V"⟩ ⟨"GrantKernelModel", "forget", "(I)V"⟩, (Jvm.Cond.methodLink "GrantKernelModel" (135 : Nat) ({ cls := "GrantKernelModel", name := "drop", desc := "(II)V" } : Jvm.MethodName)), (Jvm.Cond.instanceMethod ({ cls := "GrantKernelModel", name := "drop", desc := "(II)V" } : Jvm.MethodName)), Cond.selects "GrantKernelModel" ⟨"GrantKernelModel", "drop", "(II)V"⟩ ⟨"GrantKernelModel", "drop", "(II)V"⟩, (Jvm.Cond.methodLink "GrantKernelModel" (139 : Nat) ({ cls := "GrantKernelModel", name := "move", desc := "(II)V" } : Jvm.MethodName)), (Jvm.Cond.instanceMethod ({ cls := "GrantKernelModel", name := "move", desc := "(II)V" } : Jvm.MethodName)), Cond.selects "GrantKernelModel" ⟨"GrantKernelModel", "move", "(II)V"⟩ ⟨"GrantKernelModel", "move", "(II)V"⟩, (Jvm.Cond.methodLink "GrantKernelModel" (142 : Nat) ({ cls := "GrantKernelModel", name := "granted", desc := "(I)I" } : Jvm.MethodName)), (Jvm.Cond.instanceMethod ({ cls := "GrantKernelModel", name := "granted", desc := "(I)I" } : Jvm.MethodName)), Cond.selects "GrantKernelModel" ⟨"GrantKernelModel", "granted", "(I)I"⟩ ⟨"GrantKernelModel", "granted", "(I)I"⟩, (Jvm.Cond.methodLink "GrantKernelModel" (146 : Nat) ({ cls := "GrantKernelModel", name := "openWords", desc := "(II)I" } : Jvm.MethodName)), (Jvm.Cond.instanceMethod ({ cls := "GrantKernelModel", name := "openWords", desc := "(II)I" } : Jvm.MethodName)), Cond.selects "GrantKernelModel" ⟨"GrantKernelModel", "openWords", "(II)I"⟩ ⟨"GrantKernelModel", "openWords", "(II)I"⟩, (Jvm.Cond.methodLink "GrantKernelModel" (150 : Nat) ({ cls := "GrantKernelModel", name := "within", desc := "(III)Z" } : Jvm.MethodName)), (Jvm.Cond.instanceMethod ({ cls := "GrantKernelModel", name := "within", desc := "(III)Z" } : Jvm.MethodName)), Cond.selects "GrantKernelModel" ⟨"GrantKernelModel", "within", "(III)Z"⟩ ⟨"GrantKernelModel", "within", "(III)Z"⟩, (Jvm.Cond.methodLink "GrantKernelModel" (154 : Nat) ({ cls := "GrantKernelModel", name := "isOpen", desc := "(II)Z" } : Jvm.MethodName)), (Jvm.Cond.instanceMethod ({ cls := "GrantKernelModel", name := "isOpen", desc := "(II)Z" } : Jvm.MethodName)), Cond.selects "GrantKernelModel" ⟨"GrantKernelModel", "isOpen", "(II)Z"⟩ ⟨"GrantKernelModel", "isOpen", "(II)Z"⟩, (Jvm.Cond.methodLink "GrantKernelModel" (158 : Nat) ({ cls := "GrantKernelModel", name := "inCode", desc := "(II)Z" } : Jvm.MethodName)), (Jvm.Cond.instanceMethod ({ cls := "GrantKernelModel", name := "inCode", desc := "(II)Z" } : Jvm.MethodName)), Cond.selects "GrantKernelModel" ⟨"GrantKernelModel", "inCode", "(II)Z"⟩ ⟨"GrantKernelModel", "inCode", "(II)Z"⟩, (Jvm.Cond.methodLink "GrantKernelModel" (164 : Nat) ({ cls := "GrantKernelModel", name := "eight", desc := "(II)Z" } : Jvm.MethodName)), (Jvm.Cond.instanceMethod ({ cls := "GrantKernelModel", name := "eight", desc := "(II)Z" } : Jvm.MethodName)), Cond.selects "GrantKernelModel" ⟨"GrantKernelModel", "eight", "(II)Z"⟩ ⟨"GrantKernelModel", "eight", "(II)Z"⟩, (Jvm.Cond.methodLink "GrantKernelModel" (167 : Nat) ({ cls := "GrantKernelModel", name := "set", desc := "(II)V" } : Jvm.MethodName)), (Jvm.Cond.instanceMethod ({ cls := "GrantKernelModel", name := "set", desc := "(II)V" } : Jvm.MethodName)), Cond.selects "GrantKernelModel" ⟨"GrantKernelModel", "set", "(II)V"⟩ ⟨"GrantKernelModel", "set", "(II)V"⟩, (Jvm.Cond.methodLink "GrantKernelModel" (172 : Nat) ({ cls := "GrantKernelModel", name := "get", desc := "(I)I" } : Jvm.MethodName)), (Jvm.Cond.instanceMethod ({ cls := "GrantKernelModel", name := "get", desc := "(I)I" } : Jvm.MethodName))]
theorem nw_4_in : ∀ w ∈ nw_4, w ∈ gw := gw_at [812, 484, 485, 486, 497, 498, 499, 101, 614, 615, 616, 624, 625, 626, 639, 640, 641, 707, 712, 713, 714, 950, 952, 41, 102, 954, 956, 42, 958, 960, 43, 962, 964, 44, 966, 968, 45, 1030, 1032, 60, 1034, 1036, 61, 1038, 1040, 62, 1026, 1028, 59, 1046, 1048, 64, 1022, 1024, 58, 994, 996, 51, 986, 988] (by decide +kernel) (by decide +kernel)
def nw_5 : List Cond := [Cond.selects "GrantKernelModel" ⟨"GrantKernelModel", "get", "(I)I"⟩ ⟨"GrantKernelModel", "get", "(I)I"⟩, (Jvm.Cond.methodLink "GrantKernelModel" (182 : Nat) ({ cls := "GrantKernelModel", name := "nz", desc := "(II)V" } : Jvm.MethodName)), (Jvm.Cond.instanceMethod ({ cls := "GrantKernelModel", name := "nz", desc := "(II)V" } : Jvm.MethodName)), Cond.selects "GrantKernelModel" ⟨"GrantKernelModel", "nz", "(II)V"⟩ ⟨"GrantKernelModel", "nz", "(II)V"⟩, (Jvm.Cond.methodLink "GrantKernelModel" (185 : Nat) ({ cls := "GrantKernelModel", name := "setCarry", desc := "(II)V" } : Jvm.MethodName)), (Jvm.Cond.instanceMethod ({ cls := "GrantKernelModel", name := "setCarry", desc := "(II)V" } : Jvm.MethodName)), Cond.selects "GrantKernelModel" ⟨"GrantKernelModel", "setCarry", "(II)V"⟩ ⟨"GrantKernelModel", "setCarry", "(II)V"⟩, (Jvm.Cond.methodLink "GrantKernelModel" (188 : Nat) ({ cls := "GrantKernelModel", name := "shifted", desc := "(IIII)I" } : Jvm.MethodName)), (Jvm.Cond.instanceMethod ({ cls := "GrantKernelModel", name := "shifted", desc := "(IIII)I" } : Jvm.MethodName)), Cond.selects "GrantKernelModel" ⟨"GrantKernelModel", "shifted", "(IIII)I"⟩ ⟨"GrantKernelModel", "shifted", "(IIII)I"⟩, (Jvm.Cond.methodLink "GrantKernelModel" (192 : Nat) ({ cls := "GrantKernelModel", name := "sum", desc := "(IIII)I" } : Jvm.MethodName)), (Jvm.Cond.instanceMethod ({ cls := "GrantKernelModel", name := "sum", desc := "(IIII)I" } : Jvm.MethodName)), Cond.selects "GrantKernelModel" ⟨"GrantKernelModel", "sum", "(IIII)I"⟩ ⟨"GrantKernelModel", "sum", "(IIII)I"⟩, (Jvm.Cond.methodLink "GrantKernelModel" (195 : Nat) ({ cls := "GrantKernelModel", name := "may", desc := "(IIZ)Z" } : Jvm.MethodName)), (Jvm.Cond.instanceMethod ({ cls := "GrantKernelModel", name := "may", desc := "(IIZ)Z" } : Jvm.MethodName)), Cond.selects "GrantKernelModel" ⟨"GrantKernelModel", "may", "(IIZ)Z"⟩ ⟨"GrantKernelModel", "may", "(IIZ)Z"⟩, (Jvm.Cond.methodLink "GrantKernelModel" (205 : Nat) ({ cls := "GrantKernelModel", name := "stack", desc := "(II)V" } : Jvm.MethodName)), (Jvm.Cond.instanceMethod ({ cls := "GrantKernelModel", name := "stack", desc := "(II)V" } : Jvm.MethodName)), Cond.selects "GrantKernelModel" ⟨"GrantKernelModel", "stack", "(II)V"⟩ ⟨"GrantKernelModel", "stack", "(II)V"⟩, (Jvm.Cond.methodLink "GrantKernelModel" (208 : Nat) ({ cls := "GrantKernelModel", name := "kernel", desc := "(II)V" } : Jvm.MethodName)), (Jvm.Cond.instanceMethod ({ cls := "GrantKernelModel", name := "kernel", desc := "(II)V" } : Jvm.MethodName)), Cond.selects "GrantKernelModel" ⟨"GrantKernelModel", "kernel", "(II)V"⟩ ⟨"GrantKernelModel", "kernel", "(II)V"⟩, (Jvm.Cond.methodLink "GrantKernelModel" (211 : Nat) ({ cls := "GrantKernelModel", name := "holds", desc := "(II)Z" } : Jvm.MethodName)), (Jvm.Cond.instanceMethod ({ cls := "GrantKernelModel", name := "holds", desc := "(II)Z" } : Jvm.MethodName)), Cond.selects "GrantKernelModel" ⟨"GrantKernelModel", "holds", "(II)Z"⟩ ⟨"GrantKernelModel", "holds", "(II)Z"⟩, (Jvm.Cond.methodLink "GrantKernelModel" (214 : Nat) ({ cls := "GrantKernelModel", name := "access", desc := "(IIIZ)V" } : Jvm.MethodName)), (Jvm.Cond.instanceMethod ({ cls := "GrantKernelModel", name := "access", desc := "(IIIZ)V" } : Jvm.MethodName)), Cond.selects "GrantKernelModel" ⟨"GrantKernelModel", "access", "(IIIZ)V"⟩ ⟨"GrantKernelModel", "access", "(IIIZ)V"⟩, (Jvm.Cond.methodLink "GrantKernelModel" (218 : Nat) ({ cls := "GrantKernelModel", name := "push", desc := "(II)V" } : Jvm.MethodName)), (Jvm.Cond.instanceMethod ({ cls := "GrantKernelModel", name := "push", desc := "(II)V" } : Jvm.MethodName)), Cond.selects "GrantKernelModel" ⟨"GrantKernelModel", "push", "(II)V"⟩ ⟨"GrantKernelModel", "push", "(II)V"⟩, (Jvm.Cond.methodLink "GrantKernelModel" (221 : Nat) ({ cls := "GrantKernelModel", name := "pop", desc := "(II)V" } : Jvm.MethodName)), (Jvm.Cond.instanceMethod ({ cls := "GrantKernelModel", name := "pop", desc := "(II)V" } : Jvm.MethodName)), Cond.selects "GrantKernelModel" ⟨"GrantKernelModel", "pop", "(II)V"⟩ ⟨"GrantKernelModel", "pop", "(II)V"⟩, (Jvm.Cond.methodLink "GrantKernelModel" (224 : Nat) ({ cls := "GrantKernelModel", name := "addOrTake", desc := "(II)V" } : Jvm.MethodName)), (Jvm.Cond.instanceMethod ({ cls := "GrantKernelModel", name := "addOrTake", desc := "(II)V" } : Jvm.MethodName)), Cond.selects "GrantKernelModel" ⟨"GrantKernelModel", "addOrTake", "(II)V"⟩ ⟨"GrantKernelModel", "addOrTake", "(II)V"⟩, (Jvm.Cond.methodLink "GrantKernelModel" (227 : Nat) ({ cls := "GrantKernelModel", name := "immediate", desc := "(II)V" } : Jvm.MethodName)), (Jvm.Cond.instanceMethod ({ cls := "GrantKernelModel", name := "immediate", desc := "(II)V" } : Jvm.MethodName)), Cond.selects "GrantKernelModel" ⟨"GrantKernelModel", "immediate", "(II)V"⟩ ⟨"GrantKernelModel", "immediate", "(II)V"⟩, (Jvm.Cond.methodLink "GrantKernelModel" (230 : Nat) ({ cls := "GrantKernelModel", name := "calculate", desc := "(II)V" } : Jvm.MethodName)), (Jvm.Cond.instanceMethod ({ cls := "GrantKernelModel", name := "calculate", desc := "(II)V" } : Jvm.MethodName)), Cond.selects "GrantKernelModel" ⟨"GrantKernelModel", "calculate", "(II)V"⟩ ⟨"GrantKernelModel", "calculate", "(II)V"⟩, (Jvm.Cond.methodLink "GrantKernelModel" (233 : Nat) ({ cls := "GrantKernelModel", name := "leap", desc := "(II)V" } : Jvm.MethodName)), (Jvm.Cond.instanceMethod ({ cls := "GrantKernelModel", name := "leap", desc := "(II)V" } : Jvm.MethodName)), Cond.selects "GrantKernelModel" ⟨"GrantKernelModel", "leap", "(II)V"⟩ ⟨"GrantKernelModel", "leap", "(II)V"⟩, (Jvm.Cond.methodLink "GrantKernelModel" (236 : Nat) ({ cls := "GrantKernelModel", name := "branch", desc := "(II)V" } : Jvm.MethodName)), (Jvm.Cond.instanceMethod ({ cls := "GrantKernelModel", name := "branch", desc := "(II)V" } : Jvm.MethodName)), Cond.selects "GrantKernelModel" ⟨"GrantKernelModel", "branch", "(II)V"⟩ ⟨"GrantKernelModel", "branch", "(II)V"⟩, (Jvm.Cond.methodLink "GrantKernelModel" (239 : Nat) ({ cls := "GrantKernelModel", name := "stackWord", desc := "(II)V" } : Jvm.MethodName)), (Jvm.Cond.instanceMethod ({ cls := "GrantKernelModel", name := "stackWord", desc := "(II)V" } : Jvm.MethodName)), Cond.selects "GrantKernelModel" ⟨"GrantKernelModel", "stackWord", "(II)V"⟩ ⟨"GrantKernelModel", "stackWord", "(II)V"⟩, (Jvm.Cond.methodLink "GrantKernelModel" (242 : Nat) ({ cls := "GrantKernelModel", name := "grantAddress", desc := "(II)I" } : Jvm.MethodName)), (Jvm.Cond.instanceMethod ({ cls := "GrantKernelModel", name := "grantAddress", desc := "(II)I" } : Jvm.MethodName)), Cond.selects "GrantKernelModel" ⟨"GrantKernelModel", "grantAddress", "(II)I"⟩ ⟨"GrantKernelModel", "grantAddress", "(II)I"⟩, (Jvm.Cond.methodLink "GrantKernelModel" (245 : Nat) ({ cls := "GrantKernelModel", name := "write", desc := "(IIII)V" } : Jvm.MethodName)), (Jvm.Cond.instanceMethod ({ cls := "GrantKernelModel", name := "write", desc := "(IIII)V" } : Jvm.MethodName)), Cond.selects "GrantKernelModel" ⟨"GrantKernelModel", "write", "(IIII)V"⟩ ⟨"GrantKernelModel", "write", "(IIII)V"⟩, (Jvm.Cond.methodLink "GrantKernelModel" (249 : Nat) ({ cls := "GrantKernelModel", name := "oldest", desc := "(I)I" } : Jvm.MethodName)), (Jvm.Cond.instanceMethod ({ cls := "GrantKernelModel", name := "oldest", desc := "(I)I" } : Jvm.MethodName))]
theorem nw_5_in : ∀ w ∈ nw_5, w ∈ gw := gw_at [49, 1054, 1056, 66, 1058, 1060, 67, 1050, 1052, 65, 1066, 1068, 69, 1088, 1090, 74, 1096, 1098, 76, 1102, 1104, 77, 1134, 1136, 85, 1084, 1086, 73, 1142, 1144, 87, 1149, 1151, 88, 1062, 1064, 68, 1072, 1074, 70, 1076, 1078, 71, 1080, 1082, 72, 1092, 1094, 75, 1138, 1140, 86, 982, 984, 48, 990, 992, 50, 1106, 1108] (by decide +kernel) (by decide +kernel)
def nw_6 : List Cond := [Cond.selects "GrantKernelModel" ⟨"GrantKernelModel", "oldest", "(I)I"⟩ ⟨"GrantKernelModel", "oldest", "(I)I"⟩, (Jvm.Cond.methodLink "GrantKernelModel" (252 : Nat) ({ cls := "GrantKernelModel", name := "deliver", desc := "(IIII)V" } : Jvm.MethodName)), (Jvm.Cond.instanceMethod ({ cls := "GrantKernelModel", name := "deliver", desc := "(IIII)V" } : Jvm.MethodName)), Cond.selects "GrantKernelModel" ⟨"GrantKernelModel", "deliver", "(IIII)V"⟩ ⟨"GrantKernelModel", "deliver", "(IIII)V"⟩, (Jvm.Cond.methodLink "GrantKernelModel" (255 : Nat) ({ cls := "GrantKernelModel", name := "ensure", desc := "(II)Z" } : Jvm.MethodName)), (Jvm.Cond.instanceMethod ({ cls := "GrantKernelModel", name := "ensure", desc := "(II)Z" } : Jvm.MethodName)), Cond.selects "GrantKernelModel" ⟨"GrantKernelModel", "ensure", "(II)Z"⟩ ⟨"GrantKernelModel", "ensure", "(II)Z"⟩, (Jvm.Cond.methodLink "GrantKernelModel" (258 : Nat) ({ cls := "GrantKernelModel", name := "subscribe", desc := "(IIII)I" } : Jvm.MethodName)), (Jvm.Cond.instanceMethod ({ cls := "GrantKernelModel", name := "subscribe", desc := "(IIII)I" } : Jvm.MethodName)), Cond.selects "GrantKernelModel" ⟨"GrantKernelModel", "subscribe", "(IIII)I"⟩ ⟨"GrantKernelModel", "subscribe", "(IIII)I"⟩, (Jvm.Cond.methodLink "GrantKernelModel" (261 : Nat) ({ cls := "GrantKernelModel", name := "command", desc := "(IIII)I" } : Jvm.MethodName)), (Jvm.Cond.instanceMethod ({ cls := "GrantKernelModel", name := "command", desc := "(IIII)I" } : Jvm.MethodName)), Cond.selects "GrantKernelModel" ⟨"GrantKernelModel", "command", "(IIII)I"⟩ ⟨"GrantKernelModel", "command", "(IIII)I"⟩, (Jvm.Cond.methodLink "GrantKernelModel" (264 : Nat) ({ cls := "GrantKernelModel", name := "allow", desc := "(IIII)I" } : Jvm.MethodName)), (Jvm.Cond.instanceMethod ({ cls := "GrantKernelModel", name := "allow", desc := "(IIII)I" } : Jvm.MethodName)), Cond.selects "GrantKernelModel" ⟨"GrantKernelModel", "allow", "(IIII)I"⟩ ⟨"GrantKernelModel", "allow", "(IIII)I"⟩, (Jvm.Cond.methodLink "GrantKernelModel" (267 : Nat) ({ cls := "GrantKernelModel", name := "note", desc := "(III)I" } : Jvm.MethodName)), (Jvm.Cond.instanceMethod ({ cls := "GrantKernelModel", name := "note", desc := "(III)I" } : Jvm.MethodName)), Cond.selects "GrantKernelModel" ⟨"GrantKernelModel", "note", "(III)I"⟩ ⟨"GrantKernelModel", "note", "(III)I"⟩, (Jvm.Cond.methodLink "GrantKernelModel" (271 : Nat) ({ cls := "GrantKernelModel", name := "print", desc := "(II)I" } : Jvm.MethodName)), (Jvm.Cond.instanceMethod ({ cls := "GrantKernelModel", name := "print", desc := "(II)I" } : Jvm.MethodName)), Cond.selects "GrantKernelModel" ⟨"GrantKernelModel", "print", "(II)I"⟩ ⟨"GrantKernelModel", "print", "(II)I"⟩, (Jvm.Cond.methodLink "GrantKernelModel" (274 : Nat) ({ cls := "GrantKernelModel", name := "receive", desc := "(II)V" } : Jvm.MethodName)), (Jvm.Cond.instanceMethod ({ cls := "GrantKernelModel", name := "receive", desc := "(II)V" } : Jvm.MethodName)), Cond.selects "GrantKernelModel" ⟨"GrantKernelModel", "receive", "(II)V"⟩ ⟨"GrantKernelModel", "receive", "(II)V"⟩, (Jvm.Cond.methodLink "GrantKernelModel" (277 : Nat) ({ cls := "GrantKernelModel", name := "upcall", desc := "(IIII)V" } : Jvm.MethodName)), (Jvm.Cond.instanceMethod ({ cls := "GrantKernelModel", name := "upcall", desc := "(IIII)V" } : Jvm.MethodName)), Cond.selects "GrantKernelModel" ⟨"GrantKernelModel", "upcall", "(IIII)V"⟩ ⟨"GrantKernelModel", "upcall", "(IIII)V"⟩, (Jvm.Cond.methodLink "GrantKernelModel" (280 : Nat) ({ cls := "GrantKernelModel", name := "waiting", desc := "(I)I" } : Jvm.MethodName)), (Jvm.Cond.instanceMethod ({ cls := "GrantKernelModel", name := "waiting", desc := "(I)I" } : Jvm.MethodName)), Cond.selects "GrantKernelModel" ⟨"GrantKernelModel", "waiting", "(I)I"⟩ ⟨"GrantKernelModel", "waiting", "(I)I"⟩, (Jvm.Cond.methodLink "GrantKernelModel" (283 : Nat) ({ cls := "GrantKernelModel", name := "halt", desc := "(I)V" } : Jvm.MethodName)), (Jvm.Cond.instanceMethod ({ cls := "GrantKernelModel", name := "halt", desc := "(I)V" } : Jvm.MethodName)), Cond.selects "GrantKernelModel" ⟨"GrantKernelModel", "halt", "(I)V"⟩ ⟨"GrantKernelModel", "halt", "(I)V"⟩, (Jvm.Cond.methodLink "GrantKernelModel" (286 : Nat) ({ cls := "GrantKernelModel", name := "unstack", desc := "(I)V" } : Jvm.MethodName)), (Jvm.Cond.instanceMethod ({ cls := "GrantKernelModel", name := "unstack", desc := "(I)V" } : Jvm.MethodName)), Cond.selects "GrantKernelModel" ⟨"GrantKernelModel", "unstack", "(I)V"⟩ ⟨"GrantKernelModel", "unstack", "(I)V"⟩, (Jvm.Cond.methodLink "GrantKernelModel" (289 : Nat) ({ cls := "GrantKernelModel", name := "instruction", desc := "(I)V" } : Jvm.MethodName)), (Jvm.Cond.instanceMethod ({ cls := "GrantKernelModel", name := "instruction", desc := "(I)V" } : Jvm.MethodName)), Cond.selects "GrantKernelModel" ⟨"GrantKernelModel", "instruction", "(I)V"⟩ ⟨"GrantKernelModel", "instruction", "(I)V"⟩, (Jvm.Cond.methodLink "GrantKernelModel" (292 : Nat) ({ cls := "GrantKernelModel", name := "faulted", desc := "(I)V" } : Jvm.MethodName)), (Jvm.Cond.instanceMethod ({ cls := "GrantKernelModel", name := "faulted", desc := "(I)V" } : Jvm.MethodName)), Cond.selects "GrantKernelModel" ⟨"GrantKernelModel", "faulted", "(I)V"⟩ ⟨"GrantKernelModel", "faulted", "(I)V"⟩, (Jvm.Cond.methodLink "GrantKernelModel" (295 : Nat) ({ cls := "GrantKernelModel", name := "alarms", desc := "()V" } : Jvm.MethodName)), (Jvm.Cond.instanceMethod ({ cls := "GrantKernelModel", name := "alarms", desc := "()V" } : Jvm.MethodName)), Cond.selects "GrantKernelModel" ⟨"GrantKernelModel", "alarms", "()V"⟩ ⟨"GrantKernelModel", "alarms", "()V"⟩, (Jvm.Cond.methodLink "GrantKernelModel" (298 : Nat) ({ cls := "GrantKernelModel", name := "choose", desc := "()Z" } : Jvm.MethodName)), (Jvm.Cond.instanceMethod ({ cls := "GrantKernelModel", name := "choose", desc := "()Z" } : Jvm.MethodName)), Cond.selects "GrantKernelModel" ⟨"GrantKernelModel", "choose", "()Z"⟩ ⟨"GrantKernelModel", "choose", "()Z"⟩, (Jvm.Cond.methodLink "GrantKernelModel" (302 : Nat) ({ cls := "GrantKernelModel", name := "step", desc := "(I)V" } : Jvm.MethodName)), (Jvm.Cond.instanceMethod ({ cls := "GrantKernelModel", name := "step", desc := "(I)V" } : Jvm.MethodName)), Cond.selects "GrantKernelModel" ⟨"GrantKernelModel", "step", "(I)V"⟩ ⟨"GrantKernelModel", "step", "(I)V"⟩, (Jvm.Cond.methodLink "GrantKernelModel" (305 : Nat) ({ cls := "GrantKernelModel", name := "there", desc := "(I)Z" } : Jvm.MethodName)), (Jvm.Cond.instanceMethod ({ cls := "GrantKernelModel", name := "there", desc := "(I)Z" } : Jvm.MethodName)), Cond.selects "GrantKernelModel" ⟨"GrantKernelModel", "there", "(I)Z"⟩ ⟨"GrantKernelModel", "there", "(I)Z"⟩, (Jvm.Cond.methodLink "GrantKernel$Kernel" (27 : Nat) ({ cls := "GrantKernel$Kernel", name := "isPending", desc := "(LGrantKernel$BoardProcess;I)Z" } : Jvm.MethodName)), (Jvm.Cond.instanceMethod ({ cls := "GrantKernel$Kernel", name := "isPending", desc := "(LGrantKernel$BoardProcess;I)Z" } : Jvm.MethodName)), Cond.selects "GrantKernel$Kernel" ⟨"GrantKernel$Kernel", "isPending", "(LGrantKernel$BoardProcess;I)Z"⟩ ⟨"GrantKernel$Kernel", "isPending", "(LGrantKernel$BoardProcess;I)Z"⟩, (Jvm.Cond.methodLink "GrantKernel$Kernel" (31 : Nat) ({ cls := "GrantKernel$Kernel", name := "ringIfDue", desc := "(LGrantKernel$BoardProcess;)V" } : Jvm.MethodName)), (Jvm.Cond.instanceMethod ({ cls := "GrantKernel$Kernel", name := "ringIfDue", desc := "(LGrantKernel$BoardProcess;)V" } : Jvm.MethodName))]
theorem nw_6_in : ∀ w ∈ nw_6, w ∈ gw := gw_at [78, 1002, 1004, 53, 1110, 1112, 79, 1114, 1116, 80, 1118, 1120, 81, 1130, 1132, 84, 978, 980, 47, 1122, 1124, 82, 1126, 1128, 83, 998, 1000, 52, 1006, 1008, 54, 1157, 1159, 90, 1018, 1020, 57, 1042, 1044, 63, 1153, 1155, 89, 974, 976, 46, 1010, 1012, 55, 1014, 1016, 56, 1189, 1191, 91, 451, 453, 3, 463, 465] (by decide +kernel) (by decide +kernel)
def nw_7 : List Cond := [Cond.selects "GrantKernel$Kernel" ⟨"GrantKernel$Kernel", "ringIfDue", "(LGrantKernel$BoardProcess;)V"⟩ ⟨"GrantKernel$Kernel", "ringIfDue", "(LGrantKernel$BoardProcess;)V"⟩, (Jvm.Cond.methodLink "GrantKernel$Kernel" (35 : Nat) ({ cls := "GrantKernel$Kernel", name := "receive", desc := "(LGrantKernel$BoardProcess;I)V" } : Jvm.MethodName)), (Jvm.Cond.instanceMethod ({ cls := "GrantKernel$Kernel", name := "receive", desc := "(LGrantKernel$BoardProcess;I)V" } : Jvm.MethodName)), Cond.selects "GrantKernel$Kernel" ⟨"GrantKernel$Kernel", "receive", "(LGrantKernel$BoardProcess;I)V"⟩ ⟨"GrantKernel$Kernel", "receive", "(LGrantKernel$BoardProcess;I)V"⟩, (Jvm.Cond.methodLink "GrantKernel$Kernel" (39 : Nat) ({ cls := "GrantKernel$Console", name := "addInput", desc := "(I)Z" } : Jvm.MethodName)), (Jvm.Cond.instanceMethod ({ cls := "GrantKernel$Console", name := "addInput", desc := "(I)Z" } : Jvm.MethodName)), (Jvm.Cond.selects "GrantKernel$Console" ({ cls := "GrantKernel$Console", name := "addInput", desc := "(I)Z" } : Jvm.MethodName) ({ cls := "GrantKernel$Console", name := "addInput", desc := "(I)Z" } : Jvm.MethodName)), (Jvm.Cond.methodLink "GrantKernel$Kernel" (57 : Nat) ({ cls := "GrantKernel$Memory", name := "ramWord", desc := "(I)I" } : Jvm.MethodName)), (Jvm.Cond.methodLink "GrantKernel$Kernel" (63 : Nat) ({ cls := "GrantKernel$Memory", name := "setRamWord", desc := "(II)V" } : Jvm.MethodName)), (Jvm.Cond.methodLink "GrantKernel$Kernel" (67 : Nat) ({ cls := "GrantKernel$Kernel", name := "upcall", desc := "(LGrantKernel$BoardProcess;III)V" } : Jvm.MethodName)), (Jvm.Cond.instanceMethod ({ cls := "GrantKernel$Kernel", name := "upcall", desc := "(LGrantKernel$BoardProcess;III)V" } : Jvm.MethodName)), Cond.selects "GrantKernel$Kernel" ⟨"GrantKernel$Kernel", "upcall", "(LGrantKernel$BoardProcess;III)V"⟩ ⟨"GrantKernel$Kernel", "upcall", "(LGrantKernel$BoardProcess;III)V"⟩, (Jvm.Cond.methodLink "GrantKernel$Kernel" (92 : Nat) ({ cls := "GrantKernel$UpcallQueue", name := "removeOldest", desc := "()V" } : Jvm.MethodName)), (Jvm.Cond.instanceMethod ({ cls := "GrantKernel$UpcallQueue", name := "removeOldest", desc := "()V" } : Jvm.MethodName)), (Jvm.Cond.selects "GrantKernel$UpcallQueue" ({ cls := "GrantKernel$UpcallQueue", name := "removeOldest", desc := "()V" } : Jvm.MethodName) ({ cls := "GrantKernel$UpcallQueue", name := "removeOldest", desc := "()V" } : Jvm.MethodName)), (Jvm.Cond.initialized "GrantKernel$UpcallQueue"), (Jvm.Cond.methodLink "GrantKernel$Kernel" (98 : Nat) ({ cls := "GrantKernel$Notes", name := "hasGrant", desc := "(I)Z" } : Jvm.MethodName)), (Jvm.Cond.methodLink "GrantKernel$Kernel" (101 : Nat) ({ cls := "GrantKernel$Kernel", name := "makeGrant", desc := "(LGrantKernel$BoardProcess;I)Z" } : Jvm.MethodName)), (Jvm.Cond.instanceMethod ({ cls := "GrantKernel$Kernel", name := "makeGrant", desc := "(LGrantKernel$BoardProcess;I)Z" } : Jvm.MethodName)), Cond.selects "GrantKernel$Kernel" ⟨"GrantKernel$Kernel", "makeGrant", "(LGrantKernel$BoardProcess;I)Z"⟩ ⟨"GrantKernel$Kernel", "makeGrant", "(LGrantKernel$BoardProcess;I)Z"⟩, (Jvm.Cond.methodLink "GrantKernel$Kernel" (104 : Nat) ({ cls := "GrantKernel$Kernel", name := "subscribe", desc := "(LGrantKernel$Notes;III)I" } : Jvm.MethodName)), (Jvm.Cond.instanceMethod ({ cls := "GrantKernel$Kernel", name := "subscribe", desc := "(LGrantKernel$Notes;III)I" } : Jvm.MethodName)), Cond.selects "GrantKernel$Kernel" ⟨"GrantKernel$Kernel", "subscribe", "(LGrantKernel$Notes;III)I"⟩ ⟨"GrantKernel$Kernel", "subscribe", "(LGrantKernel$Notes;III)I"⟩, (Jvm.Cond.methodLink "GrantKernel$Kernel" (108 : Nat) ({ cls := "GrantKernel$Kernel", name := "allow", desc := "(LGrantKernel$BoardProcess;III)I" } : Jvm.MethodName)), (Jvm.Cond.instanceMethod ({ cls := "GrantKernel$Kernel", name := "allow", desc := "(LGrantKernel$BoardProcess;III)I" } : Jvm.MethodName)), Cond.selects "GrantKernel$Kernel" ⟨"GrantKernel$Kernel", "allow", "(LGrantKernel$BoardProcess;III)I"⟩ ⟨"GrantKernel$Kernel", "allow", "(LGrantKernel$BoardProcess;III)I"⟩, (Jvm.Cond.methodLink "GrantKernel$Kernel" (112 : Nat) ({ cls := "GrantKernel$Kernel", name := "commandAlarm", desc := "(LGrantKernel$BoardProcess;II)I" } : Jvm.MethodName)), (Jvm.Cond.instanceMethod ({ cls := "GrantKernel$Kernel", name := "commandAlarm", desc := "(LGrantKernel$BoardProcess;II)I" } : Jvm.MethodName)), Cond.selects "GrantKernel$Kernel" ⟨"GrantKernel$Kernel", "commandAlarm", "(LGrantKernel$BoardProcess;II)I"⟩ ⟨"GrantKernel$Kernel", "commandAlarm", "(LGrantKernel$BoardProcess;II)I"⟩, (Jvm.Cond.methodLink "GrantKernel$Kernel" (116 : Nat) ({ cls := "GrantKernel$Kernel", name := "commandConsole", desc := "(LGrantKernel$BoardProcess;II)I" } : Jvm.MethodName)), (Jvm.Cond.instanceMethod ({ cls := "GrantKernel$Kernel", name := "commandConsole", desc := "(LGrantKernel$BoardProcess;II)I" } : Jvm.MethodName)), Cond.selects "GrantKernel$Kernel" ⟨"GrantKernel$Kernel", "commandConsole", "(LGrantKernel$BoardProcess;II)I"⟩ ⟨"GrantKernel$Kernel", "commandConsole", "(LGrantKernel$BoardProcess;II)I"⟩, (Jvm.Cond.methodLink "GrantKernel$Kernel" (119 : Nat) ({ cls := "GrantKernel$Kernel", name := "commandSensor", desc := "(LGrantKernel$BoardProcess;I)I" } : Jvm.MethodName)), (Jvm.Cond.instanceMethod ({ cls := "GrantKernel$Kernel", name := "commandSensor", desc := "(LGrantKernel$BoardProcess;I)I" } : Jvm.MethodName)), Cond.selects "GrantKernel$Kernel" ⟨"GrantKernel$Kernel", "commandSensor", "(LGrantKernel$BoardProcess;I)I"⟩ ⟨"GrantKernel$Kernel", "commandSensor", "(LGrantKernel$BoardProcess;I)I"⟩, (Jvm.Cond.methodLink "GrantKernel$Kernel" (126 : Nat) ({ cls := "GrantKernel$BoardProcess", name := "openWordsBefore", desc := "(I)I" } : Jvm.MethodName)), (Jvm.Cond.instanceMethod ({ cls := "GrantKernel$BoardProcess", name := "openWordsBefore", desc := "(I)I" } : Jvm.MethodName)), (Jvm.Cond.selects "GrantKernel$BoardProcess" ({ cls := "GrantKernel$BoardProcess", name := "openWordsBefore", desc := "(I)I" } : Jvm.MethodName) ({ cls := "GrantKernel$BoardProcess", name := "openWordsBefore", desc := "(I)I" } : Jvm.MethodName)), (Jvm.Cond.methodLink "GrantKernel$Kernel" (135 : Nat) ({ cls := "GrantKernel$Notes", name := "buffersEndBy", desc := "(I)Z" } : Jvm.MethodName)), (Jvm.Cond.instanceMethod ({ cls := "GrantKernel$Notes", name := "buffersEndBy", desc := "(I)Z" } : Jvm.MethodName)), (Jvm.Cond.selects "GrantKernel$Notes" ({ cls := "GrantKernel$Notes", name := "buffersEndBy", desc := "(I)Z" } : Jvm.MethodName) ({ cls := "GrantKernel$Notes", name := "buffersEndBy", desc := "(I)Z" } : Jvm.MethodName)), (Jvm.Cond.methodLink "GrantKernel$Kernel" (144 : Nat) ({ cls := "GrantKernel$Memory", name := "clearRam", desc := "(II)V" } : Jvm.MethodName)), (Jvm.Cond.methodLink "GrantKernel$Kernel" (153 : Nat) ({ cls := "GrantKernel$UpcallQueue", name := "removeDriver", desc := "(I)V" } : Jvm.MethodName)), (Jvm.Cond.instanceMethod ({ cls := "GrantKernel$UpcallQueue", name := "removeDriver", desc := "(I)V" } : Jvm.MethodName)), (Jvm.Cond.selects "GrantKernel$UpcallQueue" ({ cls := "GrantKernel$UpcallQueue", name := "removeDriver", desc := "(I)V" } : Jvm.MethodName) ({ cls := "GrantKernel$UpcallQueue", name := "removeDriver", desc := "(I)V" } : Jvm.MethodName)), (Jvm.Cond.methodLink "GrantKernel$Kernel" (157 : Nat) ({ cls := "GrantKernel$BoardProcess", name := "areOpen", desc := "(II)Z" } : Jvm.MethodName)), (Jvm.Cond.methodLink "GrantKernel$Kernel" (167 : Nat) ({ cls := "GrantKernel$Kernel", name := "setAlarm", desc := "(II)I" } : Jvm.MethodName)), (Jvm.Cond.instanceMethod ({ cls := "GrantKernel$Kernel", name := "setAlarm", desc := "(II)I" } : Jvm.MethodName)), Cond.selects "GrantKernel$Kernel" ⟨"GrantKernel$Kernel", "setAlarm", "(II)I"⟩ ⟨"GrantKernel$Kernel", "setAlarm", "(II)I"⟩, (Jvm.Cond.methodLink "GrantKernel$Kernel" (171 : Nat) ({ cls := "GrantKernel$Kernel", name := "cancelAlarm", desc := "(I)I" } : Jvm.MethodName)), (Jvm.Cond.instanceMethod ({ cls := "GrantKernel$Kernel", name := "cancelAlarm", desc := "(I)I" } : Jvm.MethodName)), Cond.selects "GrantKernel$Kernel" ⟨"GrantKernel$Kernel", "cancelAlarm", "(I)I"⟩ ⟨"GrantKernel$Kernel", "cancelAlarm", "(I)I"⟩, (Jvm.Cond.methodLink "GrantKernel$Kernel" (174 : Nat) ({ cls := "GrantKernel$Kernel", name := "putOut", desc := "(LGrantKernel$BoardProcess;I)I" } : Jvm.MethodName)), (Jvm.Cond.instanceMethod ({ cls := "GrantKernel$Kernel", name := "putOut", desc := "(LGrantKernel$BoardProcess;I)I" } : Jvm.MethodName)), Cond.selects "GrantKernel$Kernel" ⟨"GrantKernel$Kernel", "putOut", "(LGrantKernel$BoardProcess;I)I"⟩ ⟨"GrantKernel$Kernel", "putOut", "(LGrantKernel$BoardProcess;I)I"⟩, (Jvm.Cond.methodLink "GrantKernel$Kernel" (180 : Nat) ({ cls := "GrantKernel$Console", name := "removeInput", desc := "()I" } : Jvm.MethodName)), (Jvm.Cond.instanceMethod ({ cls := "GrantKernel$Console", name := "removeInput", desc := "()I" } : Jvm.MethodName)), (Jvm.Cond.selects "GrantKernel$Console" ({ cls := "GrantKernel$Console", name := "removeInput", desc := "()I" } : Jvm.MethodName) ({ cls := "GrantKernel$Console", name := "removeInput", desc := "()I" } : Jvm.MethodName)), (Jvm.Cond.methodLink "GrantKernel$Kernel" (189 : Nat) ({ cls := "GrantKernel$Console", name := "addOutput", desc := "(I)V" } : Jvm.MethodName)), (Jvm.Cond.instanceMethod ({ cls := "GrantKernel$Console", name := "addOutput", desc := "(I)V" } : Jvm.MethodName))]
theorem nw_7_in : ∀ w ∈ nw_7, w ∈ gw := gw_at [4, 699, 701, 37, 726, 727, 728, 459, 467, 468, 470, 5, 628, 629, 630, 97, 455, 643, 645, 29, 656, 658, 30, 664, 666, 31, 669, 671, 32, 681, 683, 35, 703, 705, 38, 647, 648, 649, 651, 652, 653, 655, 660, 661, 662, 668, 673, 675, 33, 677, 679, 34, 685, 687, 36, 694, 695, 696, 690, 691] (by decide +kernel) (by decide +kernel)
def nw_8 : List Cond := [(Jvm.Cond.selects "GrantKernel$Console" ({ cls := "GrantKernel$Console", name := "addOutput", desc := "(I)V" } : Jvm.MethodName) ({ cls := "GrantKernel$Console", name := "addOutput", desc := "(I)V" } : Jvm.MethodName)), (Jvm.Cond.methodLink "GrantKernel$Kernel" (192 : Nat) ({ cls := "GrantKernel$UpcallQueue", name := "enqueue", desc := "(III)V" } : Jvm.MethodName)), (Jvm.Cond.instanceMethod ({ cls := "GrantKernel$UpcallQueue", name := "enqueue", desc := "(III)V" } : Jvm.MethodName)), (Jvm.Cond.selects "GrantKernel$UpcallQueue" ({ cls := "GrantKernel$UpcallQueue", name := "enqueue", desc := "(III)V" } : Jvm.MethodName) ({ cls := "GrantKernel$UpcallQueue", name := "enqueue", desc := "(III)V" } : Jvm.MethodName)), (Jvm.Cond.methodLink "GrantKernel$Loader" (19 : Nat) ({ cls := "GrantKernel$BoardProcess", name := "halt", desc := "()V" } : Jvm.MethodName)), (Jvm.Cond.methodLink "GrantKernel$Loader" (24 : Nat) ({ cls := "GrantKernel$BoardProcess", name := "forgetFaults", desc := "()V" } : Jvm.MethodName)), (Jvm.Cond.instanceMethod ({ cls := "GrantKernel$BoardProcess", name := "forgetFaults", desc := "()V" } : Jvm.MethodName)), (Jvm.Cond.selects "GrantKernel$BoardProcess" ({ cls := "GrantKernel$BoardProcess", name := "forgetFaults", desc := "()V" } : Jvm.MethodName) ({ cls := "GrantKernel$BoardProcess", name := "forgetFaults", desc := "()V" } : Jvm.MethodName)), (Jvm.Cond.methodLink "GrantKernel$Loader" (34 : Nat) ({ cls := "GrantKernel$Loader", name := "isHeader", desc := "(I)Z" } : Jvm.MethodName)), (Jvm.Cond.instanceMethod ({ cls := "GrantKernel$Loader", name := "isHeader", desc := "(I)Z" } : Jvm.MethodName)), Cond.selects "GrantKernel$Loader" ⟨"GrantKernel$Loader", "isHeader", "(I)Z"⟩ ⟨"GrantKernel$Loader", "isHeader", "(I)Z"⟩, (Jvm.Cond.methodLink "GrantKernel$Loader" (38 : Nat) ({ cls := "GrantKernel$Loader", name := "loadAt", desc := "(I)V" } : Jvm.MethodName)), (Jvm.Cond.instanceMethod ({ cls := "GrantKernel$Loader", name := "loadAt", desc := "(I)V" } : Jvm.MethodName)), Cond.selects "GrantKernel$Loader" ⟨"GrantKernel$Loader", "loadAt", "(I)V"⟩ ⟨"GrantKernel$Loader", "loadAt", "(I)V"⟩, (Jvm.Cond.methodLink "GrantKernel$Loader" (69 : Nat) ({ cls := "GrantKernel$BoardProcess", name := "begin", desc := "()V" } : Jvm.MethodName)), (Jvm.Cond.methodLink "GrantKernel$Memory" (18 : Nat) ({ cls := "GrantKernel$Memory", name := "setRamWord", desc := "(II)V" } : Jvm.MethodName)), (Jvm.Cond.methodLink "GrantKernel$Processor" (21 : Nat) ({ cls := "GrantKernel$BoardProcess", name := "isInCode", desc := "(I)Z" } : Jvm.MethodName)), (Jvm.Cond.methodLink "GrantKernel$Processor" (28 : Nat) ({ cls := "GrantKernel$Memory", name := "halfword", desc := "(I)I" } : Jvm.MethodName)), (Jvm.Cond.instanceMethod ({ cls := "GrantKernel$Memory", name := "halfword", desc := "(I)I" } : Jvm.MethodName)), (Jvm.Cond.selects "GrantKernel$Memory" ({ cls := "GrantKernel$Memory", name := "halfword", desc := "(I)I" } : Jvm.MethodName) ({ cls := "GrantKernel$Memory", name := "halfword", desc := "(I)I" } : Jvm.MethodName)), (Jvm.Cond.methodLink "GrantKernel$Processor" (34 : Nat) ({ cls := "GrantKernel$Processor", name := "dispatch", desc := "(LGrantKernel$BoardProcess;I)I" } : Jvm.MethodName)), (Jvm.Cond.instanceMethod ({ cls := "GrantKernel$Processor", name := "dispatch", desc := "(LGrantKernel$BoardProcess;I)I" } : Jvm.MethodName)), Cond.selects "GrantKernel$Processor" ⟨"GrantKernel$Processor", "dispatch", "(LGrantKernel$BoardProcess;I)I"⟩ ⟨"GrantKernel$Processor", "dispatch", "(LGrantKernel$BoardProcess;I)I"⟩, (Jvm.Cond.methodLink "GrantKernel$Processor" (38 : Nat) ({ cls := "GrantKernel$Processor", name := "shiftByNumber", desc := "(LGrantKernel$BoardProcess;I)I" } : Jvm.MethodName)), (Jvm.Cond.instanceMethod ({ cls := "GrantKernel$Processor", name := "shiftByNumber", desc := "(LGrantKernel$BoardProcess;I)I" } : Jvm.MethodName)), Cond.selects "GrantKernel$Processor" ⟨"GrantKernel$Processor", "shiftByNumber", "(LGrantKernel$BoardProcess;I)I"⟩ ⟨"GrantKernel$Processor", "shiftByNumber", "(LGrantKernel$BoardProcess;I)I"⟩, (Jvm.Cond.methodLink "GrantKernel$Processor" (41 : Nat) ({ cls := "GrantKernel$Processor", name := "addThree", desc := "(LGrantKernel$BoardProcess;I)I" } : Jvm.MethodName)), (Jvm.Cond.instanceMethod ({ cls := "GrantKernel$Processor", name := "addThree", desc := "(LGrantKernel$BoardProcess;I)I" } : Jvm.MethodName)), Cond.selects "GrantKernel$Processor" ⟨"GrantKernel$Processor", "addThree", "(LGrantKernel$BoardProcess;I)I"⟩ ⟨"GrantKernel$Processor", "addThree", "(LGrantKernel$BoardProcess;I)I"⟩, (Jvm.Cond.methodLink "GrantKernel$Processor" (44 : Nat) ({ cls := "GrantKernel$Processor", name := "withByte", desc := "(LGrantKernel$BoardProcess;I)I" } : Jvm.MethodName)), (Jvm.Cond.instanceMethod ({ cls := "GrantKernel$Processor", name := "withByte", desc := "(LGrantKernel$BoardProcess;I)I" } : Jvm.MethodName)), Cond.selects "GrantKernel$Processor" ⟨"GrantKernel$Processor", "withByte", "(LGrantKernel$BoardProcess;I)I"⟩ ⟨"GrantKernel$Processor", "withByte", "(LGrantKernel$BoardProcess;I)I"⟩, (Jvm.Cond.methodLink "GrantKernel$Processor" (47 : Nat) ({ cls := "GrantKernel$Processor", name := "combine", desc := "(LGrantKernel$BoardProcess;I)I" } : Jvm.MethodName)), (Jvm.Cond.instanceMethod ({ cls := "GrantKernel$Processor", name := "combine", desc := "(LGrantKernel$BoardProcess;I)I" } : Jvm.MethodName)), Cond.selects "GrantKernel$Processor" ⟨"GrantKernel$Processor", "combine", "(LGrantKernel$BoardProcess;I)I"⟩ ⟨"GrantKernel$Processor", "combine", "(LGrantKernel$BoardProcess;I)I"⟩, (Jvm.Cond.methodLink "GrantKernel$Processor" (50 : Nat) ({ cls := "GrantKernel$Processor", name := "jump", desc := "(LGrantKernel$BoardProcess;I)I" } : Jvm.MethodName)), (Jvm.Cond.instanceMethod ({ cls := "GrantKernel$Processor", name := "jump", desc := "(LGrantKernel$BoardProcess;I)I" } : Jvm.MethodName)), Cond.selects "GrantKernel$Processor" ⟨"GrantKernel$Processor", "jump", "(LGrantKernel$BoardProcess;I)I"⟩ ⟨"GrantKernel$Processor", "jump", "(LGrantKernel$BoardProcess;I)I"⟩, (Jvm.Cond.methodLink "GrantKernel$Processor" (53 : Nat) ({ cls := "GrantKernel$Processor", name := "loadInto", desc := "(LGrantKernel$BoardProcess;II)I" } : Jvm.MethodName)), (Jvm.Cond.instanceMethod ({ cls := "GrantKernel$Processor", name := "loadInto", desc := "(LGrantKernel$BoardProcess;II)I" } : Jvm.MethodName)), Cond.selects "GrantKernel$Processor" ⟨"GrantKernel$Processor", "loadInto", "(LGrantKernel$BoardProcess;II)I"⟩ ⟨"GrantKernel$Processor", "loadInto", "(LGrantKernel$BoardProcess;II)I"⟩, (Jvm.Cond.methodLink "GrantKernel$Processor" (61 : Nat) ({ cls := "GrantKernel$Processor", name := "storeFrom", desc := "(LGrantKernel$BoardProcess;II)I" } : Jvm.MethodName)), (Jvm.Cond.instanceMethod ({ cls := "GrantKernel$Processor", name := "storeFrom", desc := "(LGrantKernel$BoardProcess;II)I" } : Jvm.MethodName)), Cond.selects "GrantKernel$Processor" ⟨"GrantKernel$Processor", "storeFrom", "(LGrantKernel$BoardProcess;II)I"⟩ ⟨"GrantKernel$Processor", "storeFrom", "(LGrantKernel$BoardProcess;II)I"⟩, (Jvm.Cond.methodLink "GrantKernel$Processor" (67 : Nat) ({ cls := "GrantKernel$Processor", name := "moveStack", desc := "(LGrantKernel$BoardProcess;I)I" } : Jvm.MethodName)), (Jvm.Cond.instanceMethod ({ cls := "GrantKernel$Processor", name := "moveStack", desc := "(LGrantKernel$BoardProcess;I)I" } : Jvm.MethodName)), Cond.selects "GrantKernel$Processor" ⟨"GrantKernel$Processor", "moveStack", "(LGrantKernel$BoardProcess;I)I"⟩ ⟨"GrantKernel$Processor", "moveStack", "(LGrantKernel$BoardProcess;I)I"⟩, (Jvm.Cond.methodLink "GrantKernel$Processor" (70 : Nat) ({ cls := "GrantKernel$Processor", name := "push", desc := "(LGrantKernel$BoardProcess;I)I" } : Jvm.MethodName)), (Jvm.Cond.instanceMethod ({ cls := "GrantKernel$Processor", name := "push", desc := "(LGrantKernel$BoardProcess;I)I" } : Jvm.MethodName)), Cond.selects "GrantKernel$Processor" ⟨"GrantKernel$Processor", "push", "(LGrantKernel$BoardProcess;I)I"⟩ ⟨"GrantKernel$Processor", "push", "(LGrantKernel$BoardProcess;I)I"⟩, (Jvm.Cond.methodLink "GrantKernel$Processor" (73 : Nat) ({ cls := "GrantKernel$Processor", name := "pop", desc := "(LGrantKernel$BoardProcess;I)I" } : Jvm.MethodName)), (Jvm.Cond.instanceMethod ({ cls := "GrantKernel$Processor", name := "pop", desc := "(LGrantKernel$BoardProcess;I)I" } : Jvm.MethodName)), Cond.selects "GrantKernel$Processor" ⟨"GrantKernel$Processor", "pop", "(LGrantKernel$BoardProcess;I)I"⟩ ⟨"GrantKernel$Processor", "pop", "(LGrantKernel$BoardProcess;I)I"⟩, (Jvm.Cond.methodLink "GrantKernel$Processor" (76 : Nat) ({ cls := "GrantKernel$Processor", name := "branchIf", desc := "(LGrantKernel$BoardProcess;I)I" } : Jvm.MethodName)), (Jvm.Cond.instanceMethod ({ cls := "GrantKernel$Processor", name := "branchIf", desc := "(LGrantKernel$BoardProcess;I)I" } : Jvm.MethodName)), Cond.selects "GrantKernel$Processor" ⟨"GrantKernel$Processor", "branchIf", "(LGrantKernel$BoardProcess;I)I"⟩ ⟨"GrantKernel$Processor", "branchIf", "(LGrantKernel$BoardProcess;I)I"⟩, (Jvm.Cond.methodLink "GrantKernel$Processor" (79 : Nat) ({ cls := "GrantKernel$Processor", name := "shift", desc := "(LGrantKernel$BoardProcess;III)I" } : Jvm.MethodName)), (Jvm.Cond.instanceMethod ({ cls := "GrantKernel$Processor", name := "shift", desc := "(LGrantKernel$BoardProcess;III)I" } : Jvm.MethodName)), Cond.selects "GrantKernel$Processor" ⟨"GrantKernel$Processor", "shift", "(LGrantKernel$BoardProcess;III)I"⟩ ⟨"GrantKernel$Processor", "shift", "(LGrantKernel$BoardProcess;III)I"⟩, (Jvm.Cond.methodLink "GrantKernel$Processor" (83 : Nat) ({ cls := "GrantKernel$Processor", name := "add", desc := "(LGrantKernel$BoardProcess;III)I" } : Jvm.MethodName))]
theorem nw_8_in : ∀ w ∈ nw_8, w ∈ gw := gw_at [692, 472, 473, 474, 414, 426, 427, 428, 430, 432, 1, 434, 436, 2, 438, 402, 501, 505, 506, 507, 509, 511, 8, 513, 515, 9, 533, 535, 13, 541, 543, 15, 545, 547, 16, 557, 559, 19, 561, 563, 20, 578, 580, 21, 584, 586, 22, 588, 590, 23, 598, 600, 24, 602, 604, 25, 517, 519, 10, 537] (by decide +kernel) (by decide +kernel)
def nw_9 : List Cond := [(Jvm.Cond.instanceMethod ({ cls := "GrantKernel$Processor", name := "add", desc := "(LGrantKernel$BoardProcess;III)I" } : Jvm.MethodName)), Cond.selects "GrantKernel$Processor" ⟨"GrantKernel$Processor", "add", "(LGrantKernel$BoardProcess;III)I"⟩ ⟨"GrantKernel$Processor", "add", "(LGrantKernel$BoardProcess;III)I"⟩, (Jvm.Cond.methodLink "GrantKernel$Processor" (86 : Nat) ({ cls := "GrantKernel$Processor", name := "setSigns", desc := "(LGrantKernel$BoardProcess;I)V" } : Jvm.MethodName)), (Jvm.Cond.instanceMethod ({ cls := "GrantKernel$Processor", name := "setSigns", desc := "(LGrantKernel$BoardProcess;I)V" } : Jvm.MethodName)), Cond.selects "GrantKernel$Processor" ⟨"GrantKernel$Processor", "setSigns", "(LGrantKernel$BoardProcess;I)V"⟩ ⟨"GrantKernel$Processor", "setSigns", "(LGrantKernel$BoardProcess;I)V"⟩, (Jvm.Cond.methodLink "GrantKernel$Processor" (93 : Nat) ({ cls := "GrantKernel$Processor", name := "rotate", desc := "(LGrantKernel$BoardProcess;II)I" } : Jvm.MethodName)), (Jvm.Cond.instanceMethod ({ cls := "GrantKernel$Processor", name := "rotate", desc := "(LGrantKernel$BoardProcess;II)I" } : Jvm.MethodName)), Cond.selects "GrantKernel$Processor" ⟨"GrantKernel$Processor", "rotate", "(LGrantKernel$BoardProcess;II)I"⟩ ⟨"GrantKernel$Processor", "rotate", "(LGrantKernel$BoardProcess;II)I"⟩, (Jvm.Cond.methodLink "GrantKernel$Processor" (96 : Nat) ({ cls := "GrantKernel$Processor", name := "bitwise", desc := "(III)I" } : Jvm.MethodName)), (Jvm.Cond.instanceMethod ({ cls := "GrantKernel$Processor", name := "bitwise", desc := "(III)I" } : Jvm.MethodName)), Cond.selects "GrantKernel$Processor" ⟨"GrantKernel$Processor", "bitwise", "(III)I"⟩ ⟨"GrantKernel$Processor", "bitwise", "(III)I"⟩, (Jvm.Cond.methodLink "GrantKernel$Processor" (103 : Nat) ({ cls := "GrantKernel$BoardProcess", name := "mayLoad", desc := "(I)Z" } : Jvm.MethodName)), (Jvm.Cond.instanceMethod ({ cls := "GrantKernel$BoardProcess", name := "mayLoad", desc := "(I)Z" } : Jvm.MethodName)), (Jvm.Cond.selects "GrantKernel$BoardProcess" ({ cls := "GrantKernel$BoardProcess", name := "mayLoad", desc := "(I)Z" } : Jvm.MethodName) ({ cls := "GrantKernel$BoardProcess", name := "mayLoad", desc := "(I)Z" } : Jvm.MethodName)), (Jvm.Cond.methodLink "GrantKernel$Processor" (106 : Nat) ({ cls := "GrantKernel$BoardProcess", name := "readWord", desc := "(I)I" } : Jvm.MethodName)), (Jvm.Cond.instanceMethod ({ cls := "GrantKernel$BoardProcess", name := "readWord", desc := "(I)I" } : Jvm.MethodName)), (Jvm.Cond.selects "GrantKernel$BoardProcess" ({ cls := "GrantKernel$BoardProcess", name := "readWord", desc := "(I)I" } : Jvm.MethodName) ({ cls := "GrantKernel$BoardProcess", name := "readWord", desc := "(I)I" } : Jvm.MethodName)), (Jvm.Cond.methodLink "GrantKernel$Processor" (109 : Nat) ({ cls := "GrantKernel$BoardProcess", name := "areOpen", desc := "(II)Z" } : Jvm.MethodName)), (Jvm.Cond.methodLink "GrantKernel$Processor" (113 : Nat) ({ cls := "GrantKernel$Memory", name := "setRamWord", desc := "(II)V" } : Jvm.MethodName)), (Jvm.Cond.methodLink "GrantKernel$Processor" (122 : Nat) ({ cls := "GrantKernel$Processor", name := "holds", desc := "(II)Z" } : Jvm.MethodName)), (Jvm.Cond.instanceMethod ({ cls := "GrantKernel$Processor", name := "holds", desc := "(II)Z" } : Jvm.MethodName)), Cond.selects "GrantKernel$Processor" ⟨"GrantKernel$Processor", "holds", "(II)Z"⟩ ⟨"GrantKernel$Processor", "holds", "(II)Z"⟩, (Jvm.Cond.methodLink "GrantKernel$Processor" (133 : Nat) ({ cls := "GrantKernel$Processor", name := "setCarry", desc := "(LGrantKernel$BoardProcess;Z)V" } : Jvm.MethodName)), (Jvm.Cond.instanceMethod ({ cls := "GrantKernel$Processor", name := "setCarry", desc := "(LGrantKernel$BoardProcess;Z)V" } : Jvm.MethodName)), Cond.selects "GrantKernel$Processor" ⟨"GrantKernel$Processor", "setCarry", "(LGrantKernel$BoardProcess;Z)V"⟩ ⟨"GrantKernel$Processor", "setCarry", "(LGrantKernel$BoardProcess;Z)V"⟩, (Jvm.Cond.methodLink "GrantKernel$UpcallQueue" (23 : Nat) ({ cls := "GrantKernel$UpcallQueue", name := "move", desc := "(II)V" } : Jvm.MethodName)), (Jvm.Cond.instanceMethod ({ cls := "GrantKernel$UpcallQueue", name := "move", desc := "(II)V" } : Jvm.MethodName)), Cond.selects "GrantKernel$UpcallQueue" ⟨"GrantKernel$UpcallQueue", "move", "(II)V"⟩ ⟨"GrantKernel$UpcallQueue", "move", "(II)V"⟩, (Jvm.Cond.methodLink "GrantKernelModel" (202 : Nat) ({ cls := "GrantKernelModel", name := "named", desc := "(I)I" } : Jvm.MethodName)), (Jvm.Cond.static ({ cls := "GrantKernelModel", name := "named", desc := "(I)I" } : Jvm.MethodName)), (Jvm.Cond.methodLink "GrantKernel$Processor" (117 : Nat) ({ cls := "java/lang/Integer", name := "bitCount", desc := "(I)I" } : Jvm.MethodName)), (Jvm.Cond.static ({ cls := "java/lang/Integer", name := "bitCount", desc := "(I)I" } : Jvm.MethodName)), (Jvm.Cond.initialized "java/lang/Integer"), (Jvm.Cond.methodLink "GrantKernel$Console" (23 : Nat) ({ cls := "java/lang/Math", name := "max", desc := "(II)I" } : Jvm.MethodName)), (Jvm.Cond.methodLink "GrantKernel$Kernel" (184 : Nat) ({ cls := "java/lang/Math", name := "min", desc := "(II)I" } : Jvm.MethodName)), (Jvm.Cond.methodLink "GrantKernel$Processor" (125 : Nat) ({ cls := "java/lang/Math", name := "min", desc := "(II)I" } : Jvm.MethodName)), (Jvm.Cond.methodLink "GrantKernel$UpcallQueue" (27 : Nat) ({ cls := "java/lang/Math", name := "max", desc := "(II)I" } : Jvm.MethodName)), (Jvm.Cond.static ({ cls := "java/lang/Math", name := "max", desc := "(II)I" } : Jvm.MethodName)), (Jvm.Cond.static ({ cls := "java/lang/Math", name := "min", desc := "(II)I" } : Jvm.MethodName)), (Jvm.Cond.initialized "java/lang/Math")]
theorem nw_9_in : ∀ w ∈ nw_9, w ∈ gw := gw_at [539, 14, 529, 531, 12, 549, 551, 17, 553, 555, 18, 565, 566, 567, 570, 571, 572, 582, 583, 606, 608, 26, 525, 527, 11, 632, 634, 28, 1146, 1147, 592, 593, 104, 698, 689, 521, 636, 637, 522, 103] (by decide +kernel) (by decide +kernel)
theorem ki_GK : ∀ w ∈ u_ws nR_GK nT_GK 9, w ∈ gw := by decide +kernel
theorem kt_GK : ∀ k, k < 9 → parseFieldDescriptor (nT_GK k).2.2.1 = some (nt_GK k) := by decide +kernel
theorem kn_GK : ∀ a, a < 9 → ∀ b, b < 9 → a ≠ b → (nT_GK a).2.1 ≠ (nT_GK b).2.1 := by decide +kernel
theorem ki_BP : ∀ w ∈ u_ws nR_BP nT_BP 20, w ∈ gw := by decide +kernel
theorem kt_BP : ∀ k, k < 20 → parseFieldDescriptor (nT_BP k).2.2.1 = some (nt_BP k) := by decide +kernel
theorem kn_BP : ∀ a, a < 20 → ∀ b, b < 20 → a ≠ b → (nT_BP a).2.1 ≠ (nT_BP b).2.1 := by decide +kernel
theorem ki_Co : ∀ w ∈ u_ws nR_Co nT_Co 4, w ∈ gw := by decide +kernel
theorem kt_Co : ∀ k, k < 4 → parseFieldDescriptor (nT_Co k).2.2.1 = some (nt_Co k) := by decide +kernel
theorem kn_Co : ∀ a, a < 4 → ∀ b, b < 4 → a ≠ b → (nT_Co a).2.1 ≠ (nT_Co b).2.1 := by decide +kernel
theorem ki_Ke : ∀ w ∈ u_ws nR_Ke nT_Ke 4, w ∈ gw := by decide +kernel
theorem kt_Ke : ∀ k, k < 4 → parseFieldDescriptor (nT_Ke k).2.2.1 = some (nt_Ke k) := by decide +kernel
theorem kn_Ke : ∀ a, a < 4 → ∀ b, b < 4 → a ≠ b → (nT_Ke a).2.1 ≠ (nT_Ke b).2.1 := by decide +kernel
theorem ki_Lo : ∀ w ∈ u_ws nR_Lo nT_Lo 4, w ∈ gw := by decide +kernel
theorem kt_Lo : ∀ k, k < 4 → parseFieldDescriptor (nT_Lo k).2.2.1 = some (nt_Lo k) := by decide +kernel
theorem kn_Lo : ∀ a, a < 4 → ∀ b, b < 4 → a ≠ b → (nT_Lo a).2.1 ≠ (nT_Lo b).2.1 := by decide +kernel
theorem ki_Me : ∀ w ∈ u_ws nR_Me nT_Me 2, w ∈ gw := by decide +kernel
theorem kt_Me : ∀ k, k < 2 → parseFieldDescriptor (nT_Me k).2.2.1 = some (nt_Me k) := by decide +kernel
theorem kn_Me : ∀ a, a < 2 → ∀ b, b < 2 → a ≠ b → (nT_Me a).2.1 ≠ (nT_Me b).2.1 := by decide +kernel
theorem ki_No : ∀ w ∈ u_ws nR_No nT_No 7, w ∈ gw := by decide +kernel
theorem kt_No : ∀ k, k < 7 → parseFieldDescriptor (nT_No k).2.2.1 = some (nt_No k) := by decide +kernel
theorem kn_No : ∀ a, a < 7 → ∀ b, b < 7 → a ≠ b → (nT_No a).2.1 ≠ (nT_No b).2.1 := by decide +kernel
theorem ki_Pr : ∀ w ∈ u_ws nR_Pr nT_Pr 2, w ∈ gw := by decide +kernel
theorem kt_Pr : ∀ k, k < 2 → parseFieldDescriptor (nT_Pr k).2.2.1 = some (nt_Pr k) := by decide +kernel
theorem kn_Pr : ∀ a, a < 2 → ∀ b, b < 2 → a ≠ b → (nT_Pr a).2.1 ≠ (nT_Pr b).2.1 := by decide +kernel
theorem ki_UQ : ∀ w ∈ u_ws nR_UQ nT_UQ 4, w ∈ gw := by decide +kernel
theorem kt_UQ : ∀ k, k < 4 → parseFieldDescriptor (nT_UQ k).2.2.1 = some (nt_UQ k) := by decide +kernel
theorem kn_UQ : ∀ a, a < 4 → ∀ b, b < 4 → a ≠ b → (nT_UQ a).2.1 ≠ (nT_UQ b).2.1 := by decide +kernel
theorem ki_GM : ∀ w ∈ u_ws nR_GM nT_GM 40, w ∈ gw := by decide +kernel
theorem kt_GM : ∀ k, k < 40 → parseFieldDescriptor (nT_GM k).2.2.1 = some (nt_GM k) := by decide +kernel
theorem kn_GM : ∀ a, a < 40 → ∀ b, b < 40 → a ≠ b → (nT_GM a).2.1 ≠ (nT_GM b).2.1 := by decide +kernel
theorem kf_BP_9 : zFl gw nR_BP 9 4 0 := ⟨nR_BP, nT_BP, 20, rfl, ki_BP, by decide, (nw_0_in _ (List.mem_of_getElem? (i := 0) rfl))⟩
theorem kf_BP_18 : zFl gw nR_BP 18 4 1 := ⟨nR_BP, nT_BP, 20, rfl, ki_BP, by decide, (nw_0_in _ (List.mem_of_getElem? (i := 1) rfl))⟩
theorem kf_BP_22 : zFl gw nR_BP 22 4 10 := ⟨nR_BP, nT_BP, 20, rfl, ki_BP, by decide, (nw_0_in _ (List.mem_of_getElem? (i := 2) rfl))⟩
theorem kf_BP_30 : zFl gw nR_BP 30 4 5 := ⟨nR_BP, nT_BP, 20, rfl, ki_BP, by decide, (nw_0_in _ (List.mem_of_getElem? (i := 3) rfl))⟩
theorem kf_BP_33 : zFl gw nR_BP 33 4 6 := ⟨nR_BP, nT_BP, 20, rfl, ki_BP, by decide, (nw_0_in _ (List.mem_of_getElem? (i := 4) rfl))⟩
theorem kf_BP_42 : zFl gw nR_BP 42 4 7 := ⟨nR_BP, nT_BP, 20, rfl, ki_BP, by decide, (nw_0_in _ (List.mem_of_getElem? (i := 5) rfl))⟩
theorem kf_BP_45 : zFl gw nR_BP 45 4 11 := ⟨nR_BP, nT_BP, 20, rfl, ki_BP, by decide, (nw_0_in _ (List.mem_of_getElem? (i := 6) rfl))⟩
theorem kf_BP_48 : zFl gw nR_BP 48 4 12 := ⟨nR_BP, nT_BP, 20, rfl, ki_BP, by decide, (nw_0_in _ (List.mem_of_getElem? (i := 7) rfl))⟩
theorem kf_BP_51 : zFl gw nR_BP 51 4 4 := ⟨nR_BP, nT_BP, 20, rfl, ki_BP, by decide, (nw_0_in _ (List.mem_of_getElem? (i := 8) rfl))⟩
theorem kf_BP_54 : zFl gw nR_BP 54 4 13 := ⟨nR_BP, nT_BP, 20, rfl, ki_BP, by decide, (nw_0_in _ (List.mem_of_getElem? (i := 9) rfl))⟩
theorem kf_BP_57 : zFl gw nR_BP 57 4 14 := ⟨nR_BP, nT_BP, 20, rfl, ki_BP, by decide, (nw_0_in _ (List.mem_of_getElem? (i := 10) rfl))⟩
theorem kf_BP_60 : zFl gw nR_BP 60 4 15 := ⟨nR_BP, nT_BP, 20, rfl, ki_BP, by decide, (nw_0_in _ (List.mem_of_getElem? (i := 11) rfl))⟩
theorem kf_BP_70 : zFl gw nR_BP 70 4 8 := ⟨nR_BP, nT_BP, 20, rfl, ki_BP, by decide, (nw_0_in _ (List.mem_of_getElem? (i := 12) rfl))⟩
theorem kf_BP_76 : zFl gw nR_BP 76 4 18 := ⟨nR_BP, nT_BP, 20, rfl, ki_BP, by decide, (nw_0_in _ (List.mem_of_getElem? (i := 13) rfl))⟩
theorem kf_BP_79 : zFl gw nR_BP 79 4 19 := ⟨nR_BP, nT_BP, 20, rfl, ki_BP, by decide, (nw_0_in _ (List.mem_of_getElem? (i := 14) rfl))⟩
theorem kf_BP_82 : zFl gw nR_BP 82 4 9 := ⟨nR_BP, nT_BP, 20, rfl, ki_BP, by decide, (nw_0_in _ (List.mem_of_getElem? (i := 15) rfl))⟩
theorem kf_BP_91 : zFl gw nR_BP 91 4 2 := ⟨nR_BP, nT_BP, 20, rfl, ki_BP, by decide, (nw_0_in _ (List.mem_of_getElem? (i := 16) rfl))⟩
theorem kf_BP_94 : zFl gw nR_BP 94 4 3 := ⟨nR_BP, nT_BP, 20, rfl, ki_BP, by decide, (nw_0_in _ (List.mem_of_getElem? (i := 17) rfl))⟩
theorem kf_Co_9 : zFl gw nR_Co 9 6 0 := ⟨nR_Co, nT_Co, 4, rfl, ki_Co, by decide, (nw_0_in _ (List.mem_of_getElem? (i := 18) rfl))⟩
theorem kf_Co_13 : zFl gw nR_Co 13 6 1 := ⟨nR_Co, nT_Co, 4, rfl, ki_Co, by decide, (nw_0_in _ (List.mem_of_getElem? (i := 19) rfl))⟩
theorem kf_Co_16 : zFl gw nR_Co 16 6 2 := ⟨nR_Co, nT_Co, 4, rfl, ki_Co, by decide, (nw_0_in _ (List.mem_of_getElem? (i := 20) rfl))⟩
theorem kf_Co_20 : zFl gw nR_Co 20 6 3 := ⟨nR_Co, nT_Co, 4, rfl, ki_Co, by decide, (nw_0_in _ (List.mem_of_getElem? (i := 21) rfl))⟩
theorem kf_GK_10 : zFl gw nR_GK 10 0 0 := ⟨nR_GK, nT_GK, 9, rfl, ki_GK, by decide, (nw_0_in _ (List.mem_of_getElem? (i := 22) rfl))⟩
theorem kf_GK_18 : zFl gw nR_GK 18 0 1 := ⟨nR_GK, nT_GK, 9, rfl, ki_GK, by decide, (nw_0_in _ (List.mem_of_getElem? (i := 23) rfl))⟩
theorem kf_GK_28 : zFl gw nR_GK 28 0 2 := ⟨nR_GK, nT_GK, 9, rfl, ki_GK, by decide, (nw_0_in _ (List.mem_of_getElem? (i := 24) rfl))⟩
theorem kf_GK_37 : zFl gw nR_GK 37 0 3 := ⟨nR_GK, nT_GK, 9, rfl, ki_GK, by decide, (nw_0_in _ (List.mem_of_getElem? (i := 25) rfl))⟩
theorem kf_GK_46 : zFl gw nR_GK 46 0 4 := ⟨nR_GK, nT_GK, 9, rfl, ki_GK, by decide, (nw_0_in _ (List.mem_of_getElem? (i := 26) rfl))⟩
theorem kf_GK_53 : zFl gw nR_GK 53 0 5 := ⟨nR_GK, nT_GK, 9, rfl, ki_GK, by decide, (nw_0_in _ (List.mem_of_getElem? (i := 27) rfl))⟩
theorem kf_GK_57 : zFl gw nR_GK 57 0 7 := ⟨nR_GK, nT_GK, 9, rfl, ki_GK, by decide, (nw_0_in _ (List.mem_of_getElem? (i := 28) rfl))⟩
theorem kf_GK_62 : zFl gw nR_GK 62 1 0 := ⟨nR_Me, nT_Me, 2, rfl, ki_Me, by decide, (nw_0_in _ (List.mem_of_getElem? (i := 29) rfl))⟩
theorem kf_GK_73 : zFl gw nR_GK 73 7 3 := ⟨nR_Ke, nT_Ke, 4, rfl, ki_Ke, by decide, (nw_0_in _ (List.mem_of_getElem? (i := 30) rfl))⟩
theorem kf_GK_76 : zFl gw nR_GK 76 0 8 := ⟨nR_GK, nT_GK, 9, rfl, ki_GK, by decide, (nw_0_in _ (List.mem_of_getElem? (i := 31) rfl))⟩
theorem kf_GK_83 : zFl gw nR_GK 83 0 6 := ⟨nR_GK, nT_GK, 9, rfl, ki_GK, by decide, (nw_0_in _ (List.mem_of_getElem? (i := 32) rfl))⟩
theorem kf_GK_113 : zFl gw nR_GK 113 6 3 := ⟨nR_Co, nT_Co, 4, rfl, ki_Co, by decide, (nw_0_in _ (List.mem_of_getElem? (i := 33) rfl))⟩
theorem kf_GK_123 : zFl gw nR_GK 123 4 16 := ⟨nR_BP, nT_BP, 20, rfl, ki_BP, by decide, (nw_0_in _ (List.mem_of_getElem? (i := 34) rfl))⟩
theorem kf_GK_129 : zFl gw nR_GK 129 1 1 := ⟨nR_Me, nT_Me, 2, rfl, ki_Me, by decide, (nw_0_in _ (List.mem_of_getElem? (i := 35) rfl))⟩
theorem kf_GK_132 : zFl gw nR_GK 132 4 5 := ⟨nR_BP, nT_BP, 20, rfl, ki_BP, by decide, (nw_0_in _ (List.mem_of_getElem? (i := 36) rfl))⟩
theorem kf_GK_135 : zFl gw nR_GK 135 4 8 := ⟨nR_BP, nT_BP, 20, rfl, ki_BP, by decide, (nw_0_in _ (List.mem_of_getElem? (i := 37) rfl))⟩
theorem kf_GK_138 : zFl gw nR_GK 138 4 1 := ⟨nR_BP, nT_BP, 20, rfl, ki_BP, by decide, (nw_0_in _ (List.mem_of_getElem? (i := 38) rfl))⟩
theorem kf_GK_147 : zFl gw nR_GK 147 3 0 := ⟨nR_No, nT_No, 7, rfl, ki_No, by decide, (nw_0_in _ (List.mem_of_getElem? (i := 39) rfl))⟩
theorem kf_GK_150 : zFl gw nR_GK 150 3 5 := ⟨nR_No, nT_No, 7, rfl, ki_No, by decide, (nw_0_in _ (List.mem_of_getElem? (i := 40) rfl))⟩
theorem kf_GK_154 : zFl gw nR_GK 154 2 3 := ⟨nR_UQ, nT_UQ, 4, rfl, ki_UQ, by decide, (nw_0_in _ (List.mem_of_getElem? (i := 41) rfl))⟩
theorem kf_GK_159 : zFl gw nR_GK 159 4 17 := ⟨nR_BP, nT_BP, 20, rfl, ki_BP, by decide, (nw_0_in _ (List.mem_of_getElem? (i := 42) rfl))⟩
theorem kf_GK_162 : zFl gw nR_GK 162 4 18 := ⟨nR_BP, nT_BP, 20, rfl, ki_BP, by decide, (nw_0_in _ (List.mem_of_getElem? (i := 43) rfl))⟩
theorem kf_GK_171 : zFl gw nR_GK 171 4 15 := ⟨nR_BP, nT_BP, 20, rfl, ki_BP, by decide, (nw_0_in _ (List.mem_of_getElem? (i := 44) rfl))⟩
theorem kf_GK_181 : zFl gw nR_GK 181 4 13 := ⟨nR_BP, nT_BP, 20, rfl, ki_BP, by decide, (nw_0_in _ (List.mem_of_getElem? (i := 45) rfl))⟩
theorem kf_GM_7 : zFl gw nR_GM 7 9 0 := ⟨nR_GM, nT_GM, 40, rfl, ki_GM, by decide, (nw_0_in _ (List.mem_of_getElem? (i := 46) rfl))⟩
theorem kf_GM_13 : zFl gw nR_GM 13 9 1 := ⟨nR_GM, nT_GM, 40, rfl, ki_GM, by decide, (nw_0_in _ (List.mem_of_getElem? (i := 47) rfl))⟩
theorem kf_GM_16 : zFl gw nR_GM 16 9 3 := ⟨nR_GM, nT_GM, 40, rfl, ki_GM, by decide, (nw_0_in _ (List.mem_of_getElem? (i := 48) rfl))⟩
theorem kf_GM_20 : zFl gw nR_GM 20 9 6 := ⟨nR_GM, nT_GM, 40, rfl, ki_GM, by decide, (nw_0_in _ (List.mem_of_getElem? (i := 49) rfl))⟩
theorem kf_GM_23 : zFl gw nR_GM 23 9 7 := ⟨nR_GM, nT_GM, 40, rfl, ki_GM, by decide, (nw_0_in _ (List.mem_of_getElem? (i := 50) rfl))⟩
theorem kf_GM_26 : zFl gw nR_GM 26 9 8 := ⟨nR_GM, nT_GM, 40, rfl, ki_GM, by decide, (nw_0_in _ (List.mem_of_getElem? (i := 51) rfl))⟩
theorem kf_GM_29 : zFl gw nR_GM 29 9 9 := ⟨nR_GM, nT_GM, 40, rfl, ki_GM, by decide, (nw_0_in _ (List.mem_of_getElem? (i := 52) rfl))⟩
theorem kf_GM_32 : zFl gw nR_GM 32 9 10 := ⟨nR_GM, nT_GM, 40, rfl, ki_GM, by decide, (nw_0_in _ (List.mem_of_getElem? (i := 53) rfl))⟩
theorem kf_GM_35 : zFl gw nR_GM 35 9 11 := ⟨nR_GM, nT_GM, 40, rfl, ki_GM, by decide, (nw_0_in _ (List.mem_of_getElem? (i := 54) rfl))⟩
theorem kf_GM_38 : zFl gw nR_GM 38 9 12 := ⟨nR_GM, nT_GM, 40, rfl, ki_GM, by decide, (nw_0_in _ (List.mem_of_getElem? (i := 55) rfl))⟩
theorem kf_GM_41 : zFl gw nR_GM 41 9 13 := ⟨nR_GM, nT_GM, 40, rfl, ki_GM, by decide, (nw_0_in _ (List.mem_of_getElem? (i := 56) rfl))⟩
theorem kf_GM_44 : zFl gw nR_GM 44 9 14 := ⟨nR_GM, nT_GM, 40, rfl, ki_GM, by decide, (nw_0_in _ (List.mem_of_getElem? (i := 57) rfl))⟩
theorem kf_GM_47 : zFl gw nR_GM 47 9 15 := ⟨nR_GM, nT_GM, 40, rfl, ki_GM, by decide, (nw_0_in _ (List.mem_of_getElem? (i := 58) rfl))⟩
theorem kf_GM_50 : zFl gw nR_GM 50 9 16 := ⟨nR_GM, nT_GM, 40, rfl, ki_GM, by decide, (nw_0_in _ (List.mem_of_getElem? (i := 59) rfl))⟩
theorem kf_GM_53 : zFl gw nR_GM 53 9 17 := ⟨nR_GM, nT_GM, 40, rfl, ki_GM, by decide, (nw_1_in _ (List.mem_of_getElem? (i := 0) rfl))⟩
theorem kf_GM_56 : zFl gw nR_GM 56 9 18 := ⟨nR_GM, nT_GM, 40, rfl, ki_GM, by decide, (nw_1_in _ (List.mem_of_getElem? (i := 1) rfl))⟩
theorem kf_GM_59 : zFl gw nR_GM 59 9 19 := ⟨nR_GM, nT_GM, 40, rfl, ki_GM, by decide, (nw_1_in _ (List.mem_of_getElem? (i := 2) rfl))⟩
theorem kf_GM_63 : zFl gw nR_GM 63 9 20 := ⟨nR_GM, nT_GM, 40, rfl, ki_GM, by decide, (nw_1_in _ (List.mem_of_getElem? (i := 3) rfl))⟩
theorem kf_GM_66 : zFl gw nR_GM 66 9 21 := ⟨nR_GM, nT_GM, 40, rfl, ki_GM, by decide, (nw_1_in _ (List.mem_of_getElem? (i := 4) rfl))⟩
theorem kf_GM_69 : zFl gw nR_GM 69 9 22 := ⟨nR_GM, nT_GM, 40, rfl, ki_GM, by decide, (nw_1_in _ (List.mem_of_getElem? (i := 5) rfl))⟩
theorem kf_GM_72 : zFl gw nR_GM 72 9 23 := ⟨nR_GM, nT_GM, 40, rfl, ki_GM, by decide, (nw_1_in _ (List.mem_of_getElem? (i := 6) rfl))⟩
theorem kf_GM_75 : zFl gw nR_GM 75 9 24 := ⟨nR_GM, nT_GM, 40, rfl, ki_GM, by decide, (nw_1_in _ (List.mem_of_getElem? (i := 7) rfl))⟩
theorem kf_GM_78 : zFl gw nR_GM 78 9 25 := ⟨nR_GM, nT_GM, 40, rfl, ki_GM, by decide, (nw_1_in _ (List.mem_of_getElem? (i := 8) rfl))⟩
theorem kf_GM_81 : zFl gw nR_GM 81 9 26 := ⟨nR_GM, nT_GM, 40, rfl, ki_GM, by decide, (nw_1_in _ (List.mem_of_getElem? (i := 9) rfl))⟩
theorem kf_GM_84 : zFl gw nR_GM 84 9 27 := ⟨nR_GM, nT_GM, 40, rfl, ki_GM, by decide, (nw_1_in _ (List.mem_of_getElem? (i := 10) rfl))⟩
theorem kf_GM_87 : zFl gw nR_GM 87 9 29 := ⟨nR_GM, nT_GM, 40, rfl, ki_GM, by decide, (nw_1_in _ (List.mem_of_getElem? (i := 11) rfl))⟩
theorem kf_GM_90 : zFl gw nR_GM 90 9 30 := ⟨nR_GM, nT_GM, 40, rfl, ki_GM, by decide, (nw_1_in _ (List.mem_of_getElem? (i := 12) rfl))⟩
theorem kf_GM_93 : zFl gw nR_GM 93 9 31 := ⟨nR_GM, nT_GM, 40, rfl, ki_GM, by decide, (nw_1_in _ (List.mem_of_getElem? (i := 13) rfl))⟩
theorem kf_GM_96 : zFl gw nR_GM 96 9 32 := ⟨nR_GM, nT_GM, 40, rfl, ki_GM, by decide, (nw_1_in _ (List.mem_of_getElem? (i := 14) rfl))⟩
theorem kf_GM_99 : zFl gw nR_GM 99 9 34 := ⟨nR_GM, nT_GM, 40, rfl, ki_GM, by decide, (nw_1_in _ (List.mem_of_getElem? (i := 15) rfl))⟩
theorem kf_GM_102 : zFl gw nR_GM 102 9 36 := ⟨nR_GM, nT_GM, 40, rfl, ki_GM, by decide, (nw_1_in _ (List.mem_of_getElem? (i := 16) rfl))⟩
theorem kf_GM_105 : zFl gw nR_GM 105 9 5 := ⟨nR_GM, nT_GM, 40, rfl, ki_GM, by decide, (nw_1_in _ (List.mem_of_getElem? (i := 17) rfl))⟩
theorem kf_GM_109 : zFl gw nR_GM 109 9 33 := ⟨nR_GM, nT_GM, 40, rfl, ki_GM, by decide, (nw_1_in _ (List.mem_of_getElem? (i := 18) rfl))⟩
theorem kf_GM_112 : zFl gw nR_GM 112 9 35 := ⟨nR_GM, nT_GM, 40, rfl, ki_GM, by decide, (nw_1_in _ (List.mem_of_getElem? (i := 19) rfl))⟩
theorem kf_GM_115 : zFl gw nR_GM 115 9 2 := ⟨nR_GM, nT_GM, 40, rfl, ki_GM, by decide, (nw_1_in _ (List.mem_of_getElem? (i := 20) rfl))⟩
theorem kf_GM_118 : zFl gw nR_GM 118 9 4 := ⟨nR_GM, nT_GM, 40, rfl, ki_GM, by decide, (nw_1_in _ (List.mem_of_getElem? (i := 21) rfl))⟩
theorem kf_GM_121 : zFl gw nR_GM 121 9 28 := ⟨nR_GM, nT_GM, 40, rfl, ki_GM, by decide, (nw_1_in _ (List.mem_of_getElem? (i := 22) rfl))⟩
theorem kf_GM_161 : zFl gw nR_GM 161 9 37 := ⟨nR_GM, nT_GM, 40, rfl, ki_GM, by decide, (nw_1_in _ (List.mem_of_getElem? (i := 23) rfl))⟩
theorem kf_GM_179 : zFl gw nR_GM 179 9 38 := ⟨nR_GM, nT_GM, 40, rfl, ki_GM, by decide, (nw_1_in _ (List.mem_of_getElem? (i := 24) rfl))⟩
theorem kf_GM_199 : zFl gw nR_GM 199 9 39 := ⟨nR_GM, nT_GM, 40, rfl, ki_GM, by decide, (nw_1_in _ (List.mem_of_getElem? (i := 25) rfl))⟩
theorem kf_Ke_9 : zFl gw nR_Ke 9 7 0 := ⟨nR_Ke, nT_Ke, 4, rfl, ki_Ke, by decide, (nw_1_in _ (List.mem_of_getElem? (i := 26) rfl))⟩
theorem kf_Ke_15 : zFl gw nR_Ke 15 7 1 := ⟨nR_Ke, nT_Ke, 4, rfl, ki_Ke, by decide, (nw_1_in _ (List.mem_of_getElem? (i := 27) rfl))⟩
theorem kf_Ke_19 : zFl gw nR_Ke 19 7 2 := ⟨nR_Ke, nT_Ke, 4, rfl, ki_Ke, by decide, (nw_1_in _ (List.mem_of_getElem? (i := 28) rfl))⟩
theorem kf_Ke_23 : zFl gw nR_Ke 23 7 3 := ⟨nR_Ke, nT_Ke, 4, rfl, ki_Ke, by decide, (nw_1_in _ (List.mem_of_getElem? (i := 29) rfl))⟩
theorem kf_Ke_45 : zFl gw nR_Ke 45 4 1 := ⟨nR_BP, nT_BP, 20, rfl, ki_BP, by decide, (nw_1_in _ (List.mem_of_getElem? (i := 30) rfl))⟩
theorem kf_Ke_51 : zFl gw nR_Ke 51 3 0 := ⟨nR_No, nT_No, 7, rfl, ki_No, by decide, (nw_1_in _ (List.mem_of_getElem? (i := 31) rfl))⟩
theorem kf_Ke_71 : zFl gw nR_Ke 71 3 5 := ⟨nR_No, nT_No, 7, rfl, ki_No, by decide, (nw_1_in _ (List.mem_of_getElem? (i := 32) rfl))⟩
theorem kf_Ke_75 : zFl gw nR_Ke 75 4 16 := ⟨nR_BP, nT_BP, 20, rfl, ki_BP, by decide, (nw_1_in _ (List.mem_of_getElem? (i := 33) rfl))⟩
theorem kf_Ke_78 : zFl gw nR_Ke 78 2 3 := ⟨nR_UQ, nT_UQ, 4, rfl, ki_UQ, by decide, (nw_1_in _ (List.mem_of_getElem? (i := 34) rfl))⟩
theorem kf_Ke_83 : zFl gw nR_Ke 83 2 0 := ⟨nR_UQ, nT_UQ, 4, rfl, ki_UQ, by decide, (nw_1_in _ (List.mem_of_getElem? (i := 35) rfl))⟩
theorem kf_Ke_86 : zFl gw nR_Ke 86 2 1 := ⟨nR_UQ, nT_UQ, 4, rfl, ki_UQ, by decide, (nw_1_in _ (List.mem_of_getElem? (i := 36) rfl))⟩
theorem kf_Ke_89 : zFl gw nR_Ke 89 2 2 := ⟨nR_UQ, nT_UQ, 4, rfl, ki_UQ, by decide, (nw_1_in _ (List.mem_of_getElem? (i := 37) rfl))⟩
theorem kf_Ke_95 : zFl gw nR_Ke 95 4 10 := ⟨nR_BP, nT_BP, 20, rfl, ki_BP, by decide, (nw_1_in _ (List.mem_of_getElem? (i := 38) rfl))⟩
theorem kf_Ke_123 : zFl gw nR_Ke 123 3 6 := ⟨nR_No, nT_No, 7, rfl, ki_No, by decide, (nw_1_in _ (List.mem_of_getElem? (i := 39) rfl))⟩
theorem kf_Ke_129 : zFl gw nR_Ke 129 4 7 := ⟨nR_BP, nT_BP, 20, rfl, ki_BP, by decide, (nw_1_in _ (List.mem_of_getElem? (i := 40) rfl))⟩
theorem kf_Ke_132 : zFl gw nR_Ke 132 4 5 := ⟨nR_BP, nT_BP, 20, rfl, ki_BP, by decide, (nw_1_in _ (List.mem_of_getElem? (i := 41) rfl))⟩
theorem kf_Ke_138 : zFl gw nR_Ke 138 4 6 := ⟨nR_BP, nT_BP, 20, rfl, ki_BP, by decide, (nw_1_in _ (List.mem_of_getElem? (i := 42) rfl))⟩
theorem kf_Ke_147 : zFl gw nR_Ke 147 3 1 := ⟨nR_No, nT_No, 7, rfl, ki_No, by decide, (nw_1_in _ (List.mem_of_getElem? (i := 43) rfl))⟩
theorem kf_Ke_150 : zFl gw nR_Ke 150 3 2 := ⟨nR_No, nT_No, 7, rfl, ki_No, by decide, (nw_1_in _ (List.mem_of_getElem? (i := 44) rfl))⟩
theorem kf_Ke_161 : zFl gw nR_Ke 161 3 3 := ⟨nR_No, nT_No, 7, rfl, ki_No, by decide, (nw_1_in _ (List.mem_of_getElem? (i := 45) rfl))⟩
theorem kf_Ke_164 : zFl gw nR_Ke 164 3 4 := ⟨nR_No, nT_No, 7, rfl, ki_No, by decide, (nw_1_in _ (List.mem_of_getElem? (i := 46) rfl))⟩
theorem kf_Ke_177 : zFl gw nR_Ke 177 6 2 := ⟨nR_Co, nT_Co, 4, rfl, ki_Co, by decide, (nw_1_in _ (List.mem_of_getElem? (i := 47) rfl))⟩
theorem kf_Ke_196 : zFl gw nR_Ke 196 4 11 := ⟨nR_BP, nT_BP, 20, rfl, ki_BP, by decide, (nw_1_in _ (List.mem_of_getElem? (i := 48) rfl))⟩
theorem kf_Lo_11 : zFl gw nR_Lo 11 5 0 := ⟨nR_Lo, nT_Lo, 4, rfl, ki_Lo, by decide, (nw_1_in _ (List.mem_of_getElem? (i := 49) rfl))⟩
theorem kf_Lo_15 : zFl gw nR_Lo 15 5 1 := ⟨nR_Lo, nT_Lo, 4, rfl, ki_Lo, by decide, (nw_1_in _ (List.mem_of_getElem? (i := 50) rfl))⟩
theorem kf_Lo_27 : zFl gw nR_Lo 27 5 2 := ⟨nR_Lo, nT_Lo, 4, rfl, ki_Lo, by decide, (nw_1_in _ (List.mem_of_getElem? (i := 51) rfl))⟩
theorem kf_Lo_31 : zFl gw nR_Lo 31 5 3 := ⟨nR_Lo, nT_Lo, 4, rfl, ki_Lo, by decide, (nw_1_in _ (List.mem_of_getElem? (i := 52) rfl))⟩
theorem kf_Lo_42 : zFl gw nR_Lo 42 1 0 := ⟨nR_Me, nT_Me, 2, rfl, ki_Me, by decide, (nw_1_in _ (List.mem_of_getElem? (i := 53) rfl))⟩
theorem kf_Me_9 : zFl gw nR_Me 9 1 0 := ⟨nR_Me, nT_Me, 2, rfl, ki_Me, by decide, (nw_1_in _ (List.mem_of_getElem? (i := 54) rfl))⟩
theorem kf_Me_15 : zFl gw nR_Me 15 1 1 := ⟨nR_Me, nT_Me, 2, rfl, ki_Me, by decide, (nw_1_in _ (List.mem_of_getElem? (i := 55) rfl))⟩
theorem kf_No_9 : zFl gw nR_No 9 3 0 := ⟨nR_No, nT_No, 7, rfl, ki_No, by decide, (nw_1_in _ (List.mem_of_getElem? (i := 56) rfl))⟩
theorem kf_No_15 : zFl gw nR_No 15 3 1 := ⟨nR_No, nT_No, 7, rfl, ki_No, by decide, (nw_1_in _ (List.mem_of_getElem? (i := 57) rfl))⟩
theorem kf_No_18 : zFl gw nR_No 18 3 2 := ⟨nR_No, nT_No, 7, rfl, ki_No, by decide, (nw_1_in _ (List.mem_of_getElem? (i := 58) rfl))⟩
theorem kf_No_21 : zFl gw nR_No 21 3 3 := ⟨nR_No, nT_No, 7, rfl, ki_No, by decide, (nw_1_in _ (List.mem_of_getElem? (i := 59) rfl))⟩
theorem kf_No_24 : zFl gw nR_No 24 3 4 := ⟨nR_No, nT_No, 7, rfl, ki_No, by decide, (nw_2_in _ (List.mem_of_getElem? (i := 0) rfl))⟩
theorem kf_No_30 : zFl gw nR_No 30 3 5 := ⟨nR_No, nT_No, 7, rfl, ki_No, by decide, (nw_2_in _ (List.mem_of_getElem? (i := 1) rfl))⟩
theorem kf_Pr_9 : zFl gw nR_Pr 9 8 0 := ⟨nR_Pr, nT_Pr, 2, rfl, ki_Pr, by decide, (nw_2_in _ (List.mem_of_getElem? (i := 2) rfl))⟩
theorem kf_Pr_15 : zFl gw nR_Pr 15 4 13 := ⟨nR_BP, nT_BP, 20, rfl, ki_BP, by decide, (nw_2_in _ (List.mem_of_getElem? (i := 3) rfl))⟩
theorem kf_Pr_25 : zFl gw nR_Pr 25 8 1 := ⟨nR_Pr, nT_Pr, 2, rfl, ki_Pr, by decide, (nw_2_in _ (List.mem_of_getElem? (i := 4) rfl))⟩
theorem kf_Pr_57 : zFl gw nR_Pr 57 4 10 := ⟨nR_BP, nT_BP, 20, rfl, ki_BP, by decide, (nw_2_in _ (List.mem_of_getElem? (i := 5) rfl))⟩
theorem kf_Pr_64 : zFl gw nR_Pr 64 4 11 := ⟨nR_BP, nT_BP, 20, rfl, ki_BP, by decide, (nw_2_in _ (List.mem_of_getElem? (i := 6) rfl))⟩
theorem kf_Pr_90 : zFl gw nR_Pr 90 4 14 := ⟨nR_BP, nT_BP, 20, rfl, ki_BP, by decide, (nw_2_in _ (List.mem_of_getElem? (i := 7) rfl))⟩
theorem kf_Pr_100 : zFl gw nR_Pr 100 4 12 := ⟨nR_BP, nT_BP, 20, rfl, ki_BP, by decide, (nw_2_in _ (List.mem_of_getElem? (i := 8) rfl))⟩
theorem kf_UQ_9 : zFl gw nR_UQ 9 2 0 := ⟨nR_UQ, nT_UQ, 4, rfl, ki_UQ, by decide, (nw_2_in _ (List.mem_of_getElem? (i := 9) rfl))⟩
theorem kf_UQ_13 : zFl gw nR_UQ 13 2 1 := ⟨nR_UQ, nT_UQ, 4, rfl, ki_UQ, by decide, (nw_2_in _ (List.mem_of_getElem? (i := 10) rfl))⟩
theorem kf_UQ_16 : zFl gw nR_UQ 16 2 2 := ⟨nR_UQ, nT_UQ, 4, rfl, ki_UQ, by decide, (nw_2_in _ (List.mem_of_getElem? (i := 11) rfl))⟩
theorem kf_UQ_19 : zFl gw nR_UQ 19 2 3 := ⟨nR_UQ, nT_UQ, 4, rfl, ki_UQ, by decide, (nw_2_in _ (List.mem_of_getElem? (i := 12) rfl))⟩
theorem kp_BP_26 : zFp gw nR_BP 26 4 16 .int := ⟨nR_BP, nT_BP, 20, nt_BP, rfl, ki_BP, by decide, (nw_2_in _ (List.mem_of_getElem? (i := 13) rfl)), kt_BP, kn_BP, rfl, by decide +kernel⟩
theorem kp_BP_45 : zFp gw nR_BP 45 4 11 .int := ⟨nR_BP, nT_BP, 20, nt_BP, rfl, ki_BP, by decide, (nw_0_in _ (List.mem_of_getElem? (i := 6) rfl)), kt_BP, kn_BP, rfl, by decide +kernel⟩
theorem kp_BP_48 : zFp gw nR_BP 48 4 12 .int := ⟨nR_BP, nT_BP, 20, nt_BP, rfl, ki_BP, by decide, (nw_0_in _ (List.mem_of_getElem? (i := 7) rfl)), kt_BP, kn_BP, rfl, by decide +kernel⟩
theorem kp_BP_54 : zFp gw nR_BP 54 4 13 .int := ⟨nR_BP, nT_BP, 20, nt_BP, rfl, ki_BP, by decide, (nw_0_in _ (List.mem_of_getElem? (i := 9) rfl)), kt_BP, kn_BP, rfl, by decide +kernel⟩
theorem kp_BP_57 : zFp gw nR_BP 57 4 14 .int := ⟨nR_BP, nT_BP, 20, nt_BP, rfl, ki_BP, by decide, (nw_0_in _ (List.mem_of_getElem? (i := 10) rfl)), kt_BP, kn_BP, rfl, by decide +kernel⟩
theorem kp_BP_60 : zFp gw nR_BP 60 4 15 .boolean := ⟨nR_BP, nT_BP, 20, nt_BP, rfl, ki_BP, by decide, (nw_0_in _ (List.mem_of_getElem? (i := 11) rfl)), kt_BP, kn_BP, rfl, by decide +kernel⟩
theorem kp_BP_70 : zFp gw nR_BP 70 4 8 .int := ⟨nR_BP, nT_BP, 20, nt_BP, rfl, ki_BP, by decide, (nw_0_in _ (List.mem_of_getElem? (i := 12) rfl)), kt_BP, kn_BP, rfl, by decide +kernel⟩
theorem kp_BP_73 : zFp gw nR_BP 73 4 17 .int := ⟨nR_BP, nT_BP, 20, nt_BP, rfl, ki_BP, by decide, (nw_2_in _ (List.mem_of_getElem? (i := 14) rfl)), kt_BP, kn_BP, rfl, by decide +kernel⟩
theorem kp_BP_76 : zFp gw nR_BP 76 4 18 .int := ⟨nR_BP, nT_BP, 20, nt_BP, rfl, ki_BP, by decide, (nw_0_in _ (List.mem_of_getElem? (i := 13) rfl)), kt_BP, kn_BP, rfl, by decide +kernel⟩
theorem kp_BP_79 : zFp gw nR_BP 79 4 19 .int := ⟨nR_BP, nT_BP, 20, nt_BP, rfl, ki_BP, by decide, (nw_0_in _ (List.mem_of_getElem? (i := 14) rfl)), kt_BP, kn_BP, rfl, by decide +kernel⟩
theorem kp_Co_16 : zFp gw nR_Co 16 6 2 .int := ⟨nR_Co, nT_Co, 4, nt_Co, rfl, ki_Co, by decide, (nw_0_in _ (List.mem_of_getElem? (i := 20) rfl)), kt_Co, kn_Co, rfl, by decide +kernel⟩
theorem kp_Co_20 : zFp gw nR_Co 20 6 3 .int := ⟨nR_Co, nT_Co, 4, nt_Co, rfl, ki_Co, by decide, (nw_0_in _ (List.mem_of_getElem? (i := 21) rfl)), kt_Co, kn_Co, rfl, by decide +kernel⟩
theorem kp_GK_57 : zFp gw nR_GK 57 0 7 .int := ⟨nR_GK, nT_GK, 9, nt_GK, rfl, ki_GK, by decide, (nw_0_in _ (List.mem_of_getElem? (i := 28) rfl)), kt_GK, kn_GK, rfl, by decide +kernel⟩
theorem kp_GK_73 : zFp gw nR_GK 73 7 3 .int := ⟨nR_Ke, nT_Ke, 4, nt_Ke, rfl, ki_Ke, by decide, (nw_0_in _ (List.mem_of_getElem? (i := 30) rfl)), kt_Ke, kn_Ke, rfl, by decide +kernel⟩
theorem kp_GK_76 : zFp gw nR_GK 76 0 8 .int := ⟨nR_GK, nT_GK, 9, nt_GK, rfl, ki_GK, by decide, (nw_0_in _ (List.mem_of_getElem? (i := 31) rfl)), kt_GK, kn_GK, rfl, by decide +kernel⟩
theorem kp_GK_83 : zFp gw nR_GK 83 0 6 .int := ⟨nR_GK, nT_GK, 9, nt_GK, rfl, ki_GK, by decide, (nw_0_in _ (List.mem_of_getElem? (i := 32) rfl)), kt_GK, kn_GK, rfl, by decide +kernel⟩
theorem kp_GM_16 : zFp gw nR_GM 16 9 3 .int := ⟨nR_GM, nT_GM, 40, nt_GM, rfl, ki_GM, by decide, (nw_0_in _ (List.mem_of_getElem? (i := 48) rfl)), kt_GM, kn_GM, rfl, by decide +kernel⟩
theorem kp_GM_105 : zFp gw nR_GM 105 9 5 .int := ⟨nR_GM, nT_GM, 40, nt_GM, rfl, ki_GM, by decide, (nw_1_in _ (List.mem_of_getElem? (i := 17) rfl)), kt_GM, kn_GM, rfl, by decide +kernel⟩
theorem kp_GM_109 : zFp gw nR_GM 109 9 33 .int := ⟨nR_GM, nT_GM, 40, nt_GM, rfl, ki_GM, by decide, (nw_1_in _ (List.mem_of_getElem? (i := 18) rfl)), kt_GM, kn_GM, rfl, by decide +kernel⟩
theorem kp_GM_112 : zFp gw nR_GM 112 9 35 .int := ⟨nR_GM, nT_GM, 40, nt_GM, rfl, ki_GM, by decide, (nw_1_in _ (List.mem_of_getElem? (i := 19) rfl)), kt_GM, kn_GM, rfl, by decide +kernel⟩
theorem kp_GM_115 : zFp gw nR_GM 115 9 2 .int := ⟨nR_GM, nT_GM, 40, nt_GM, rfl, ki_GM, by decide, (nw_1_in _ (List.mem_of_getElem? (i := 20) rfl)), kt_GM, kn_GM, rfl, by decide +kernel⟩
theorem kp_GM_118 : zFp gw nR_GM 118 9 4 .int := ⟨nR_GM, nT_GM, 40, nt_GM, rfl, ki_GM, by decide, (nw_1_in _ (List.mem_of_getElem? (i := 21) rfl)), kt_GM, kn_GM, rfl, by decide +kernel⟩
theorem kp_GM_121 : zFp gw nR_GM 121 9 28 .int := ⟨nR_GM, nT_GM, 40, nt_GM, rfl, ki_GM, by decide, (nw_1_in _ (List.mem_of_getElem? (i := 22) rfl)), kt_GM, kn_GM, rfl, by decide +kernel⟩
theorem kp_GM_161 : zFp gw nR_GM 161 9 37 .int := ⟨nR_GM, nT_GM, 40, nt_GM, rfl, ki_GM, by decide, (nw_1_in _ (List.mem_of_getElem? (i := 23) rfl)), kt_GM, kn_GM, rfl, by decide +kernel⟩
theorem kp_GM_179 : zFp gw nR_GM 179 9 38 .int := ⟨nR_GM, nT_GM, 40, nt_GM, rfl, ki_GM, by decide, (nw_1_in _ (List.mem_of_getElem? (i := 24) rfl)), kt_GM, kn_GM, rfl, by decide +kernel⟩
theorem kp_GM_199 : zFp gw nR_GM 199 9 39 .int := ⟨nR_GM, nT_GM, 40, nt_GM, rfl, ki_GM, by decide, (nw_1_in _ (List.mem_of_getElem? (i := 25) rfl)), kt_GM, kn_GM, rfl, by decide +kernel⟩
theorem kp_Ke_23 : zFp gw nR_Ke 23 7 3 .int := ⟨nR_Ke, nT_Ke, 4, nt_Ke, rfl, ki_Ke, by decide, (nw_1_in _ (List.mem_of_getElem? (i := 29) rfl)), kt_Ke, kn_Ke, rfl, by decide +kernel⟩
theorem kp_Ke_75 : zFp gw nR_Ke 75 4 16 .int := ⟨nR_BP, nT_BP, 20, nt_BP, rfl, ki_BP, by decide, (nw_1_in _ (List.mem_of_getElem? (i := 33) rfl)), kt_BP, kn_BP, rfl, by decide +kernel⟩
theorem kp_Ke_123 : zFp gw nR_Ke 123 3 6 .int := ⟨nR_No, nT_No, 7, nt_No, rfl, ki_No, by decide, (nw_1_in _ (List.mem_of_getElem? (i := 39) rfl)), kt_No, kn_No, rfl, by decide +kernel⟩
theorem kp_Ke_141 : zFp gw nR_Ke 141 4 8 .int := ⟨nR_BP, nT_BP, 20, nt_BP, rfl, ki_BP, by decide, (nw_2_in _ (List.mem_of_getElem? (i := 15) rfl)), kt_BP, kn_BP, rfl, by decide +kernel⟩
theorem kp_Lo_27 : zFp gw nR_Lo 27 5 2 .int := ⟨nR_Lo, nT_Lo, 4, nt_Lo, rfl, ki_Lo, by decide, (nw_1_in _ (List.mem_of_getElem? (i := 51) rfl)), kt_Lo, kn_Lo, rfl, by decide +kernel⟩
theorem kp_Lo_31 : zFp gw nR_Lo 31 5 3 .int := ⟨nR_Lo, nT_Lo, 4, nt_Lo, rfl, ki_Lo, by decide, (nw_1_in _ (List.mem_of_getElem? (i := 52) rfl)), kt_Lo, kn_Lo, rfl, by decide +kernel⟩
theorem kp_Lo_48 : zFp gw nR_Lo 48 4 2 .int := ⟨nR_BP, nT_BP, 20, nt_BP, rfl, ki_BP, by decide, (nw_2_in _ (List.mem_of_getElem? (i := 16) rfl)), kt_BP, kn_BP, rfl, by decide +kernel⟩
theorem kp_Lo_51 : zFp gw nR_Lo 51 4 3 .int := ⟨nR_BP, nT_BP, 20, nt_BP, rfl, ki_BP, by decide, (nw_2_in _ (List.mem_of_getElem? (i := 17) rfl)), kt_BP, kn_BP, rfl, by decide +kernel⟩
theorem kp_Lo_54 : zFp gw nR_Lo 54 4 4 .int := ⟨nR_BP, nT_BP, 20, nt_BP, rfl, ki_BP, by decide, (nw_2_in _ (List.mem_of_getElem? (i := 18) rfl)), kt_BP, kn_BP, rfl, by decide +kernel⟩
theorem kp_Lo_57 : zFp gw nR_Lo 57 4 5 .int := ⟨nR_BP, nT_BP, 20, nt_BP, rfl, ki_BP, by decide, (nw_2_in _ (List.mem_of_getElem? (i := 19) rfl)), kt_BP, kn_BP, rfl, by decide +kernel⟩
theorem kp_Lo_60 : zFp gw nR_Lo 60 4 6 .int := ⟨nR_BP, nT_BP, 20, nt_BP, rfl, ki_BP, by decide, (nw_2_in _ (List.mem_of_getElem? (i := 20) rfl)), kt_BP, kn_BP, rfl, by decide +kernel⟩
theorem kp_Lo_63 : zFp gw nR_Lo 63 4 7 .int := ⟨nR_BP, nT_BP, 20, nt_BP, rfl, ki_BP, by decide, (nw_2_in _ (List.mem_of_getElem? (i := 21) rfl)), kt_BP, kn_BP, rfl, by decide +kernel⟩
theorem kp_Lo_66 : zFp gw nR_Lo 66 4 9 .int := ⟨nR_BP, nT_BP, 20, nt_BP, rfl, ki_BP, by decide, (nw_2_in _ (List.mem_of_getElem? (i := 22) rfl)), kt_BP, kn_BP, rfl, by decide +kernel⟩
theorem kp_No_34 : zFp gw nR_No 34 3 6 .int := ⟨nR_No, nT_No, 7, nt_No, rfl, ki_No, by decide, (nw_2_in _ (List.mem_of_getElem? (i := 23) rfl)), kt_No, kn_No, rfl, by decide +kernel⟩
theorem kp_No_38 : zFp gw nR_No 38 2 3 .int := ⟨nR_UQ, nT_UQ, 4, nt_UQ, rfl, ki_UQ, by decide, (nw_2_in _ (List.mem_of_getElem? (i := 24) rfl)), kt_UQ, kn_UQ, rfl, by decide +kernel⟩
theorem kp_Pr_15 : zFp gw nR_Pr 15 4 13 .int := ⟨nR_BP, nT_BP, 20, nt_BP, rfl, ki_BP, by decide, (nw_2_in _ (List.mem_of_getElem? (i := 3) rfl)), kt_BP, kn_BP, rfl, by decide +kernel⟩
theorem kp_Pr_25 : zFp gw nR_Pr 25 8 1 .int := ⟨nR_Pr, nT_Pr, 2, nt_Pr, rfl, ki_Pr, by decide, (nw_2_in _ (List.mem_of_getElem? (i := 4) rfl)), kt_Pr, kn_Pr, rfl, by decide +kernel⟩
theorem kp_Pr_64 : zFp gw nR_Pr 64 4 11 .int := ⟨nR_BP, nT_BP, 20, nt_BP, rfl, ki_BP, by decide, (nw_2_in _ (List.mem_of_getElem? (i := 6) rfl)), kt_BP, kn_BP, rfl, by decide +kernel⟩
theorem kp_Pr_90 : zFp gw nR_Pr 90 4 14 .int := ⟨nR_BP, nT_BP, 20, nt_BP, rfl, ki_BP, by decide, (nw_2_in _ (List.mem_of_getElem? (i := 7) rfl)), kt_BP, kn_BP, rfl, by decide +kernel⟩
theorem kp_Pr_100 : zFp gw nR_Pr 100 4 12 .int := ⟨nR_BP, nT_BP, 20, nt_BP, rfl, ki_BP, by decide, (nw_2_in _ (List.mem_of_getElem? (i := 8) rfl)), kt_BP, kn_BP, rfl, by decide +kernel⟩
theorem kp_UQ_19 : zFp gw nR_UQ 19 2 3 .int := ⟨nR_UQ, nT_UQ, 4, nt_UQ, rfl, ki_UQ, by decide, (nw_2_in _ (List.mem_of_getElem? (i := 12) rfl)), kt_UQ, kn_UQ, rfl, by decide +kernel⟩
theorem kc_BP_118 : Cond.constant nR_BP 118 16777216 ∈ gw := (nw_2_in _ (List.mem_of_getElem? (i := 25) rfl))
theorem kc_GK_61 : Cond.constant nR_GK 61 65535 ∈ gw := (nw_2_in _ (List.mem_of_getElem? (i := 26) rfl))
theorem kc_GM_108 : Cond.constant nR_GM 108 65535 ∈ gw := (nw_2_in _ (List.mem_of_getElem? (i := 27) rfl))
theorem kc_GM_170 : Cond.constant nR_GM 170 268435456 ∈ gw := (nw_2_in _ (List.mem_of_getElem? (i := 28) rfl))
theorem kc_GM_171 : Cond.constant nR_GM 171 16777216 ∈ gw := (nw_2_in _ (List.mem_of_getElem? (i := 29) rfl))
theorem kc_GM_175 : Cond.constantLong nR_GM 175 4294967295 ∈ gw := (nw_2_in _ (List.mem_of_getElem? (i := 30) rfl))
theorem kc_GM_177 : Cond.constantLong nR_GM 177 4294967296 ∈ gw := (nw_2_in _ (List.mem_of_getElem? (i := 31) rfl))
theorem kc_JI_265 : Cond.constant nR_JI 265 1431655765 ∈ gw := (nw_2_in _ (List.mem_of_getElem? (i := 32) rfl))
theorem kc_JI_266 : Cond.constant nR_JI 266 858993459 ∈ gw := (nw_2_in _ (List.mem_of_getElem? (i := 33) rfl))
theorem kc_JI_267 : Cond.constant nR_JI 267 252645135 ∈ gw := (nw_2_in _ (List.mem_of_getElem? (i := 34) rfl))
theorem kc_Pr_131 : Cond.constantLong nR_Pr 131 4294967295 ∈ gw := (nw_2_in _ (List.mem_of_getElem? (i := 35) rfl))
theorem kw_BP_areOpen : Cond.code ny_BP_areOpen nc_BP_areOpen 5 (some .boolean) ∈ gw := gw_in (tb_2 (List.mem_of_getElem? (i := 159) rfl)) rfl
theorem kw_BP_begin : Cond.code ny_BP_begin nc_BP_begin 2 none ∈ gw := gw_in (tb_2 (List.mem_of_getElem? (i := 109) rfl)) rfl
theorem kw_BP_fail : Cond.code ny_BP_fail nc_BP_fail 2 none ∈ gw := gw_in (tb_3 (List.mem_of_getElem? (i := 143) rfl)) rfl
theorem kw_BP_forgetFaults : Cond.code ny_BP_forgetFaults nc_BP_forgetFaults 1 none ∈ gw := gw_in (tb_2 (List.mem_of_getElem? (i := 97) rfl)) rfl
theorem kw_BP_frameWord : Cond.code ny_BP_frameWord nc_BP_frameWord 2 (some .int) ∈ gw := gw_in (tb_2 (List.mem_of_getElem? (i := 163) rfl)) rfl
theorem kw_BP_halt : Cond.code ny_BP_halt nc_BP_halt 1 none ∈ gw := gw_in (tb_2 (List.mem_of_getElem? (i := 85) rfl)) rfl
theorem kw_BP_isInCode : Cond.code ny_BP_isInCode nc_BP_isInCode 2 (some .boolean) ∈ gw := gw_in (tb_2 (List.mem_of_getElem? (i := 172) rfl)) rfl
theorem kw_BP_loseNotes : Cond.code ny_BP_loseNotes nc_BP_loseNotes 1 none ∈ gw := gw_in (tb_2 (List.mem_of_getElem? (i := 89) rfl)) rfl
theorem kw_BP_mayLoad : Cond.code ny_BP_mayLoad nc_BP_mayLoad 2 (some .boolean) ∈ gw := gw_in (tb_2 (List.mem_of_getElem? (i := 236) rfl)) rfl
theorem kw_BP_openWordsBefore : Cond.code ny_BP_openWordsBefore nc_BP_openWordsBefore 2 (some .int) ∈ gw := gw_in (tb_3 (List.mem_of_getElem? (i := 78) rfl)) rfl
theorem kw_BP_readWord : Cond.code ny_BP_readWord nc_BP_readWord 2 (some .int) ∈ gw := gw_in (tb_3 (List.mem_of_getElem? (i := 1) rfl)) rfl
theorem kw_BP_registerValue : Cond.code ny_BP_registerValue nc_BP_registerValue 2 (some .int) ∈ gw := gw_in (tb_3 (List.mem_of_getElem? (i := 201) rfl)) rfl
theorem kw_BP_setFrameWord : Cond.code ny_BP_setFrameWord nc_BP_setFrameWord 3 none ∈ gw := gw_in (tb_3 (List.mem_of_getElem? (i := 49) rfl)) rfl
theorem kw_BP_stackFrame : Cond.code ny_BP_stackFrame nc_BP_stackFrame 5 (some .boolean) ∈ gw := gw_in (tb_3 (List.mem_of_getElem? (i := 45) rfl)) rfl
theorem kw_BP_takeFrame : Cond.code ny_BP_takeFrame nc_BP_takeFrame 2 (some .boolean) ∈ gw := gw_in (tb_2 (List.mem_of_getElem? (i := 155) rfl)) rfl
theorem kw_Co_addInput : Cond.code ny_Co_addInput nc_Co_addInput 2 (some .boolean) ∈ gw := gw_in (tb_3 (List.mem_of_getElem? (i := 157) rfl)) rfl
theorem kw_Co_addOutput : Cond.code ny_Co_addOutput nc_Co_addOutput 2 none ∈ gw := gw_in (tb_3 (List.mem_of_getElem? (i := 121) rfl)) rfl
theorem kw_Co_clear : Cond.code ny_Co_clear nc_Co_clear 1 none ∈ gw := gw_in (tb_2 (List.mem_of_getElem? (i := 77) rfl)) rfl
theorem kw_Co_latestOutput : Cond.code ny_Co_latestOutput nc_Co_latestOutput 2 (some .int) ∈ gw := gw_in (tb_3 (List.mem_of_getElem? (i := 177) rfl)) rfl
theorem kw_Co_removeInput : Cond.code ny_Co_removeInput nc_Co_removeInput 3 (some .int) ∈ gw := gw_in (tb_3 (List.mem_of_getElem? (i := 125) rfl)) rfl
theorem kw_GK_doInstruction : Cond.code ny_GK_doInstruction nc_GK_doInstruction 2 (some .int) ∈ gw := gw_in (tb_2 (List.mem_of_getElem? (i := 151) rfl)) rfl
theorem kw_GK_endStep : Cond.code ny_GK_endStep nc_GK_endStep 4 none ∈ gw := gw_in (tb_3 (List.mem_of_getElem? (i := 139) rfl)) rfl
theorem kw_GK_find : Cond.code ny_GK_find nc_GK_find 2 (some (.object "GrantKernel$BoardProcess")) ∈ gw := gw_in (tb_3 (List.mem_of_getElem? (i := 193) rfl)) rfl
theorem kw_GK_giveTurn : Cond.code ny_GK_giveTurn nc_GK_giveTurn 3 (some .boolean) ∈ gw := gw_in (tb_2 (List.mem_of_getElem? (i := 147) rfl)) rfl
theorem kw_GK_serve : Cond.code ny_GK_serve nc_GK_serve 3 (some .int) ∈ gw := gw_in (tb_3 (List.mem_of_getElem? (i := 41) rfl)) rfl
theorem kw_GM_access : Cond.code ny_GM_access nc_GM_access 5 none ∈ gw := gw_in (tb_5 (List.mem_of_getElem? (i := 35) rfl)) rfl
theorem kw_GM_addOrTake : Cond.code ny_GM_addOrTake nc_GM_addOrTake 7 none ∈ gw := gw_in (tb_5 (List.mem_of_getElem? (i := 13) rfl)) rfl
theorem kw_GM_alarms : Cond.code ny_GM_alarms nc_GM_alarms 3 none ∈ gw := gw_in (tb_4 (List.mem_of_getElem? (i := 165) rfl)) rfl
theorem kw_GM_allow : Cond.code ny_GM_allow nc_GM_allow 6 (some .int) ∈ gw := gw_in (tb_5 (List.mem_of_getElem? (i := 81) rfl)) rfl
theorem kw_GM_begin : Cond.code ny_GM_begin nc_GM_begin 3 none ∈ gw := gw_in (tb_4 (List.mem_of_getElem? (i := 145) rfl)) rfl
theorem kw_GM_branch : Cond.code ny_GM_branch nc_GM_branch 5 none ∈ gw := gw_in (tb_5 (List.mem_of_getElem? (i := 43) rfl)) rfl
theorem kw_GM_calculate : Cond.code ny_GM_calculate nc_GM_calculate 9 none ∈ gw := gw_in (tb_5 (List.mem_of_getElem? (i := 27) rfl)) rfl
theorem kw_GM_choose : Cond.code ny_GM_choose nc_GM_choose 3 (some .boolean) ∈ gw := gw_in (tb_4 (List.mem_of_getElem? (i := 201) rfl)) rfl
theorem kw_GM_command : Cond.code ny_GM_command nc_GM_command 7 (some .int) ∈ gw := gw_in (tb_5 (List.mem_of_getElem? (i := 69) rfl)) rfl
theorem kw_GM_deliver : Cond.code ny_GM_deliver nc_GM_deliver 7 none ∈ gw := gw_in (tb_4 (List.mem_of_getElem? (i := 193) rfl)) rfl
theorem kw_GM_drop : Cond.code ny_GM_drop nc_GM_drop 5 none ∈ gw := gw_in (tb_4 (List.mem_of_getElem? (i := 153) rfl)) rfl
theorem kw_GM_eight : Cond.code ny_GM_eight nc_GM_eight 5 (some .boolean) ∈ gw := gw_in (tb_4 (List.mem_of_getElem? (i := 213) rfl)) rfl
theorem kw_GM_ensure : Cond.code ny_GM_ensure nc_GM_ensure 8 (some .boolean) ∈ gw := gw_in (tb_5 (List.mem_of_getElem? (i := 61) rfl)) rfl
theorem kw_GM_faulted : Cond.code ny_GM_faulted nc_GM_faulted 2 none ∈ gw := gw_in (tb_5 (List.mem_of_getElem? (i := 104) rfl)) rfl
theorem kw_GM_forget : Cond.code ny_GM_forget nc_GM_forget 3 none ∈ gw := gw_in (tb_4 (List.mem_of_getElem? (i := 149) rfl)) rfl
theorem kw_GM_get : Cond.code ny_GM_get nc_GM_get 2 (some .int) ∈ gw := gw_in (tb_4 (List.mem_of_getElem? (i := 177) rfl)) rfl
theorem kw_GM_grantAddress : Cond.code ny_GM_grantAddress nc_GM_grantAddress 3 (some .int) ∈ gw := gw_in (tb_4 (List.mem_of_getElem? (i := 173) rfl)) rfl
theorem kw_GM_granted : Cond.code ny_GM_granted nc_GM_granted 4 (some .int) ∈ gw := gw_in (tb_4 (List.mem_of_getElem? (i := 221) rfl)) rfl
theorem kw_GM_halt : Cond.code ny_GM_halt nc_GM_halt 2 none ∈ gw := gw_in (tb_5 (List.mem_of_getElem? (i := 108) rfl)) rfl
theorem kw_GM_holds : Cond.code ny_GM_holds nc_GM_holds 9 (some .boolean) ∈ gw := gw_in (tb_5 (List.mem_of_getElem? (i := 85) rfl)) rfl
theorem kw_GM_immediate : Cond.code ny_GM_immediate nc_GM_immediate 7 none ∈ gw := gw_in (tb_5 (List.mem_of_getElem? (i := 23) rfl)) rfl
theorem kw_GM_inCode : Cond.code ny_GM_inCode nc_GM_inCode 3 (some .boolean) ∈ gw := gw_in (tb_4 (List.mem_of_getElem? (i := 237) rfl)) rfl
theorem kw_GM_instruction : Cond.code ny_GM_instruction nc_GM_instruction 7 none ∈ gw := gw_in (tb_4 (List.mem_of_getElem? (i := 233) rfl)) rfl
theorem kw_GM_isOpen : Cond.code ny_GM_isOpen nc_GM_isOpen 4 (some .boolean) ∈ gw := gw_in (tb_4 (List.mem_of_getElem? (i := 217) rfl)) rfl
theorem kw_GM_kernel : Cond.code ny_GM_kernel nc_GM_kernel 12 none ∈ gw := gw_in (tb_5 (List.mem_of_getElem? (i := 53) rfl)) rfl
theorem kw_GM_leap : Cond.code ny_GM_leap nc_GM_leap 6 none ∈ gw := gw_in (tb_5 (List.mem_of_getElem? (i := 31) rfl)) rfl
theorem kw_GM_load : Cond.code ny_GM_load nc_GM_load 5 none ∈ gw := gw_in (tb_4 (List.mem_of_getElem? (i := 141) rfl)) rfl
theorem kw_GM_may : Cond.code ny_GM_may nc_GM_may 5 (some .boolean) ∈ gw := gw_in (tb_5 (List.mem_of_getElem? (i := 39) rfl)) rfl
theorem kw_GM_move : Cond.code ny_GM_move nc_GM_move 3 none ∈ gw := gw_in (tb_4 (List.mem_of_getElem? (i := 157) rfl)) rfl
theorem kw_GM_named : Cond.code ny_GM_named nc_GM_named 3 (some .int) ∈ gw := gw_in (tb_5 (List.mem_of_getElem? (i := 96) rfl)) rfl
theorem kw_GM_note : Cond.code ny_GM_note nc_GM_note 4 (some .int) ∈ gw := gw_in (tb_4 (List.mem_of_getElem? (i := 169) rfl)) rfl
theorem kw_GM_nz : Cond.code ny_GM_nz nc_GM_nz 3 none ∈ gw := gw_in (tb_5 (List.mem_of_getElem? (i := 5) rfl)) rfl
theorem kw_GM_oldest : Cond.code ny_GM_oldest nc_GM_oldest 3 (some .int) ∈ gw := gw_in (tb_5 (List.mem_of_getElem? (i := 57) rfl)) rfl
theorem kw_GM_openWords : Cond.code ny_GM_openWords nc_GM_openWords 4 (some .int) ∈ gw := gw_in (tb_4 (List.mem_of_getElem? (i := 225) rfl)) rfl
theorem kw_GM_pop : Cond.code ny_GM_pop nc_GM_pop 7 none ∈ gw := gw_in (tb_5 (List.mem_of_getElem? (i := 100) rfl)) rfl
theorem kw_GM_print : Cond.code ny_GM_print nc_GM_print 5 (some .int) ∈ gw := gw_in (tb_5 (List.mem_of_getElem? (i := 73) rfl)) rfl
theorem kw_GM_push : Cond.code ny_GM_push nc_GM_push 6 none ∈ gw := gw_in (tb_5 (List.mem_of_getElem? (i := 93) rfl)) rfl
theorem kw_GM_receive : Cond.code ny_GM_receive nc_GM_receive 3 none ∈ gw := gw_in (tb_5 (List.mem_of_getElem? (i := 77) rfl)) rfl
theorem kw_GM_set : Cond.code ny_GM_set nc_GM_set 3 none ∈ gw := gw_in (tb_4 (List.mem_of_getElem? (i := 185) rfl)) rfl
theorem kw_GM_setCarry : Cond.code ny_GM_setCarry nc_GM_setCarry 3 none ∈ gw := gw_in (tb_5 (List.mem_of_getElem? (i := 9) rfl)) rfl
theorem kw_GM_shifted : Cond.code ny_GM_shifted nc_GM_shifted 7 (some .int) ∈ gw := gw_in (tb_5 (List.mem_of_getElem? (i := 1) rfl)) rfl
theorem kw_GM_stack : Cond.code ny_GM_stack nc_GM_stack 6 none ∈ gw := gw_in (tb_5 (List.mem_of_getElem? (i := 47) rfl)) rfl
theorem kw_GM_stackWord : Cond.code ny_GM_stackWord nc_GM_stackWord 6 none ∈ gw := gw_in (tb_5 (List.mem_of_getElem? (i := 89) rfl)) rfl
theorem kw_GM_step : Cond.code ny_GM_step nc_GM_step 2 none ∈ gw := gw_in (tb_4 (List.mem_of_getElem? (i := 205) rfl)) rfl
theorem kw_GM_subscribe : Cond.code ny_GM_subscribe nc_GM_subscribe 5 (some .int) ∈ gw := gw_in (tb_5 (List.mem_of_getElem? (i := 65) rfl)) rfl
theorem kw_GM_sum : Cond.code ny_GM_sum nc_GM_sum 10 (some .int) ∈ gw := gw_in (tb_5 (List.mem_of_getElem? (i := 17) rfl)) rfl
theorem kw_GM_there : Cond.code ny_GM_there nc_GM_there 2 (some .boolean) ∈ gw := gw_in (tb_5 (List.mem_of_getElem? (i := 140) rfl)) rfl
theorem kw_GM_unstack : Cond.code ny_GM_unstack nc_GM_unstack 4 none ∈ gw := gw_in (tb_4 (List.mem_of_getElem? (i := 209) rfl)) rfl
theorem kw_GM_upcall : Cond.code ny_GM_upcall nc_GM_upcall 5 none ∈ gw := gw_in (tb_4 (List.mem_of_getElem? (i := 189) rfl)) rfl
theorem kw_GM_waiting : Cond.code ny_GM_waiting nc_GM_waiting 4 (some .int) ∈ gw := gw_in (tb_4 (List.mem_of_getElem? (i := 197) rfl)) rfl
theorem kw_GM_within : Cond.code ny_GM_within nc_GM_within 5 (some .boolean) ∈ gw := gw_in (tb_4 (List.mem_of_getElem? (i := 229) rfl)) rfl
theorem kw_GM_write : Cond.code ny_GM_write nc_GM_write 5 none ∈ gw := gw_in (tb_4 (List.mem_of_getElem? (i := 181) rfl)) rfl
theorem kw_JI_bitCount : Cond.code ny_JI_bitCount nc_JI_bitCount 1 (some .int) ∈ gw := gw_in (tb_3 (List.mem_of_getElem? (i := 22) rfl)) rfl
theorem kw_Ke_allow : Cond.code ny_Ke_allow nc_Ke_allow 6 (some .int) ∈ gw := gw_in (tb_3 (List.mem_of_getElem? (i := 95) rfl)) rfl
theorem kw_Ke_answer : Cond.code ny_Ke_answer nc_Ke_answer 6 (some .int) ∈ gw := gw_in (tb_3 (List.mem_of_getElem? (i := 70) rfl)) rfl
theorem kw_Ke_beginTick : Cond.code ny_Ke_beginTick nc_Ke_beginTick 2 none ∈ gw := gw_in (tb_2 (List.mem_of_getElem? (i := 118) rfl)) rfl
theorem kw_Ke_cancelAlarm : Cond.code ny_Ke_cancelAlarm nc_Ke_cancelAlarm 3 (some .int) ∈ gw := gw_in (tb_3 (List.mem_of_getElem? (i := 108) rfl)) rfl
theorem kw_Ke_commandAlarm : Cond.code ny_Ke_commandAlarm nc_Ke_commandAlarm 5 (some .int) ∈ gw := gw_in (tb_3 (List.mem_of_getElem? (i := 100) rfl)) rfl
theorem kw_Ke_commandConsole : Cond.code ny_Ke_commandConsole nc_Ke_commandConsole 4 (some .int) ∈ gw := gw_in (tb_3 (List.mem_of_getElem? (i := 112) rfl)) rfl
theorem kw_Ke_commandSensor : Cond.code ny_Ke_commandSensor nc_Ke_commandSensor 3 (some .int) ∈ gw := gw_in (tb_3 (List.mem_of_getElem? (i := 134) rfl)) rfl
theorem kw_Ke_isPending : Cond.code ny_Ke_isPending nc_Ke_isPending 3 (some .boolean) ∈ gw := gw_in (tb_2 (List.mem_of_getElem? (i := 122) rfl)) rfl
theorem kw_Ke_makeGrant : Cond.code ny_Ke_makeGrant nc_Ke_makeGrant 7 (some .boolean) ∈ gw := gw_in (tb_3 (List.mem_of_getElem? (i := 74) rfl)) rfl
theorem kw_Ke_putOut : Cond.code ny_Ke_putOut nc_Ke_putOut 6 (some .int) ∈ gw := gw_in (tb_3 (List.mem_of_getElem? (i := 116) rfl)) rfl
theorem kw_Ke_receive : Cond.code ny_Ke_receive nc_Ke_receive 3 none ∈ gw := gw_in (tb_3 (List.mem_of_getElem? (i := 130) rfl)) rfl
theorem kw_Ke_ringIfDue : Cond.code ny_Ke_ringIfDue nc_Ke_ringIfDue 4 none ∈ gw := gw_in (tb_2 (List.mem_of_getElem? (i := 134) rfl)) rfl
theorem kw_Ke_setAlarm : Cond.code ny_Ke_setAlarm nc_Ke_setAlarm 3 (some .int) ∈ gw := gw_in (tb_3 (List.mem_of_getElem? (i := 104) rfl)) rfl
theorem kw_Ke_subscribe : Cond.code ny_Ke_subscribe nc_Ke_subscribe 5 (some .int) ∈ gw := gw_in (tb_3 (List.mem_of_getElem? (i := 87) rfl)) rfl
theorem kw_Ke_takeInput : Cond.code ny_Ke_takeInput nc_Ke_takeInput 3 (some .boolean) ∈ gw := gw_in (tb_3 (List.mem_of_getElem? (i := 153) rfl)) rfl
theorem kw_Ke_takeSample : Cond.code ny_Ke_takeSample nc_Ke_takeSample 7 (some .int) ∈ gw := gw_in (tb_3 (List.mem_of_getElem? (i := 165) rfl)) rfl
theorem kw_Ke_upcall : Cond.code ny_Ke_upcall nc_Ke_upcall 9 none ∈ gw := gw_in (tb_2 (List.mem_of_getElem? (i := 139) rfl)) rfl
theorem kw_Ke_waitForUpcall : Cond.code ny_Ke_waitForUpcall nc_Ke_waitForUpcall 6 none ∈ gw := gw_in (tb_3 (List.mem_of_getElem? (i := 55) rfl)) rfl
theorem kw_Lo_isHeader : Cond.code ny_Lo_isHeader nc_Lo_isHeader 3 (some .boolean) ∈ gw := gw_in (tb_2 (List.mem_of_getElem? (i := 101) rfl)) rfl
theorem kw_Lo_loadAll : Cond.code ny_Lo_loadAll nc_Lo_loadAll 3 (some .int) ∈ gw := gw_in (tb_2 (List.mem_of_getElem? (i := 81) rfl)) rfl
theorem kw_Lo_loadAt : Cond.code ny_Lo_loadAt nc_Lo_loadAt 11 none ∈ gw := gw_in (tb_2 (List.mem_of_getElem? (i := 105) rfl)) rfl
theorem kw_Me_clearRam : Cond.code ny_Me_clearRam nc_Me_clearRam 4 none ∈ gw := gw_in (tb_2 (List.mem_of_getElem? (i := 69) rfl)) rfl
theorem kw_Me_flashWord : Cond.code ny_Me_flashWord nc_Me_flashWord 3 (some .int) ∈ gw := gw_in (tb_3 (List.mem_of_getElem? (i := 5) rfl)) rfl
theorem kw_Me_halfword : Cond.code ny_Me_halfword nc_Me_halfword 3 (some .int) ∈ gw := gw_in (tb_2 (List.mem_of_getElem? (i := 176) rfl)) rfl
theorem kw_Me_ramWord : Cond.code ny_Me_ramWord nc_Me_ramWord 3 (some .int) ∈ gw := gw_in (tb_2 (List.mem_of_getElem? (i := 130) rfl)) rfl
theorem kw_Me_setRamWord : Cond.code ny_Me_setRamWord nc_Me_setRamWord 4 none ∈ gw := gw_in (tb_2 (List.mem_of_getElem? (i := 73) rfl)) rfl
theorem kw_No_buffersEndBy : Cond.code ny_No_buffersEndBy nc_No_buffersEndBy 4 (some .boolean) ∈ gw := gw_in (tb_3 (List.mem_of_getElem? (i := 82) rfl)) rfl
theorem kw_No_clear : Cond.code ny_No_clear nc_No_clear 2 none ∈ gw := gw_in (tb_2 (List.mem_of_getElem? (i := 93) rfl)) rfl
theorem kw_No_hasGrant : Cond.code ny_No_hasGrant nc_No_hasGrant 2 (some .boolean) ∈ gw := gw_in (tb_2 (List.mem_of_getElem? (i := 126) rfl)) rfl
theorem kw_Pr_add : Cond.code ny_Pr_add nc_Pr_add 10 (some .int) ∈ gw := gw_in (tb_2 (List.mem_of_getElem? (i := 208) rfl)) rfl
theorem kw_Pr_addThree : Cond.code ny_Pr_addThree nc_Pr_addThree 7 (some .int) ∈ gw := gw_in (tb_2 (List.mem_of_getElem? (i := 204) rfl)) rfl
theorem kw_Pr_bitwise : Cond.code ny_Pr_bitwise nc_Pr_bitwise 4 (some .int) ∈ gw := gw_in (tb_2 (List.mem_of_getElem? (i := 224) rfl)) rfl
theorem kw_Pr_branchIf : Cond.code ny_Pr_branchIf nc_Pr_branchIf 5 (some .int) ∈ gw := gw_in (tb_3 (List.mem_of_getElem? (i := 33) rfl)) rfl
theorem kw_Pr_combine : Cond.code ny_Pr_combine nc_Pr_combine 9 (some .int) ∈ gw := gw_in (tb_2 (List.mem_of_getElem? (i := 216) rfl)) rfl
theorem kw_Pr_dispatch : Cond.code ny_Pr_dispatch nc_Pr_dispatch 5 (some .int) ∈ gw := gw_in (tb_2 (List.mem_of_getElem? (i := 180) rfl)) rfl
theorem kw_Pr_execute : Cond.code ny_Pr_execute nc_Pr_execute 3 (some .int) ∈ gw := gw_in (tb_2 (List.mem_of_getElem? (i := 168) rfl)) rfl
theorem kw_Pr_holds : Cond.code ny_Pr_holds nc_Pr_holds 7 (some .boolean) ∈ gw := gw_in (tb_3 (List.mem_of_getElem? (i := 37) rfl)) rfl
theorem kw_Pr_jump : Cond.code ny_Pr_jump nc_Pr_jump 6 (some .int) ∈ gw := gw_in (tb_2 (List.mem_of_getElem? (i := 228) rfl)) rfl
theorem kw_Pr_loadInto : Cond.code ny_Pr_loadInto nc_Pr_loadInto 4 (some .int) ∈ gw := gw_in (tb_2 (List.mem_of_getElem? (i := 232) rfl)) rfl
theorem kw_Pr_moveStack : Cond.code ny_Pr_moveStack nc_Pr_moveStack 4 (some .int) ∈ gw := gw_in (tb_3 (List.mem_of_getElem? (i := 15) rfl)) rfl
theorem kw_Pr_pop : Cond.code ny_Pr_pop nc_Pr_pop 7 (some .int) ∈ gw := gw_in (tb_3 (List.mem_of_getElem? (i := 29) rfl)) rfl
theorem kw_Pr_push : Cond.code ny_Pr_push nc_Pr_push 7 (some .int) ∈ gw := gw_in (tb_3 (List.mem_of_getElem? (i := 19) rfl)) rfl
theorem kw_Pr_rotate : Cond.code ny_Pr_rotate nc_Pr_rotate 6 (some .int) ∈ gw := gw_in (tb_2 (List.mem_of_getElem? (i := 220) rfl)) rfl
theorem kw_Pr_setCarry : Cond.code ny_Pr_setCarry nc_Pr_setCarry 3 none ∈ gw := gw_in (tb_2 (List.mem_of_getElem? (i := 196) rfl)) rfl
theorem kw_Pr_setSigns : Cond.code ny_Pr_setSigns nc_Pr_setSigns 4 none ∈ gw := gw_in (tb_2 (List.mem_of_getElem? (i := 200) rfl)) rfl
theorem kw_Pr_shift : Cond.code ny_Pr_shift nc_Pr_shift 11 (some .int) ∈ gw := gw_in (tb_2 (List.mem_of_getElem? (i := 188) rfl)) rfl
theorem kw_Pr_shiftByNumber : Cond.code ny_Pr_shiftByNumber nc_Pr_shiftByNumber 5 (some .int) ∈ gw := gw_in (tb_2 (List.mem_of_getElem? (i := 184) rfl)) rfl
theorem kw_Pr_storeFrom : Cond.code ny_Pr_storeFrom nc_Pr_storeFrom 4 (some .int) ∈ gw := gw_in (tb_3 (List.mem_of_getElem? (i := 9) rfl)) rfl
theorem kw_Pr_withByte : Cond.code ny_Pr_withByte nc_Pr_withByte 6 (some .int) ∈ gw := gw_in (tb_2 (List.mem_of_getElem? (i := 212) rfl)) rfl
theorem kw_UQ_enqueue : Cond.code ny_UQ_enqueue nc_UQ_enqueue 4 none ∈ gw := gw_in (tb_2 (List.mem_of_getElem? (i := 143) rfl)) rfl
theorem kw_UQ_move : Cond.code ny_UQ_move nc_UQ_move 3 none ∈ gw := gw_in (tb_3 (List.mem_of_getElem? (i := 63) rfl)) rfl
theorem kw_UQ_removeDriver : Cond.code ny_UQ_removeDriver nc_UQ_removeDriver 4 none ∈ gw := gw_in (tb_3 (List.mem_of_getElem? (i := 91) rfl)) rfl
theorem kw_UQ_removeOldest : Cond.code ny_UQ_removeOldest nc_UQ_removeOldest 2 none ∈ gw := gw_in (tb_3 (List.mem_of_getElem? (i := 59) rfl)) rfl
theorem kv_BP_36 : zCv gw nR_BP 36 md_Me_clearRam 2 := ⟨(nw_2_in _ (List.mem_of_getElem? (i := 36) rfl)), (nw_2_in _ (List.mem_of_getElem? (i := 37) rfl)), (nw_2_in _ (List.mem_of_getElem? (i := 38) rfl)), (nw_2_in _ (List.mem_of_getElem? (i := 39) rfl)), kw_Me_clearRam, by decide, by decide, by decide +kernel⟩
theorem kv_BP_64 : zCv gw nR_BP 64 md_BP_loseNotes 0 := ⟨(nw_2_in _ (List.mem_of_getElem? (i := 40) rfl)), (nw_2_in _ (List.mem_of_getElem? (i := 41) rfl)), (nw_2_in _ (List.mem_of_getElem? (i := 42) rfl)), (nw_2_in _ (List.mem_of_getElem? (i := 43) rfl)), kw_BP_loseNotes, by decide, by decide, by decide +kernel⟩
theorem kv_BP_67 : zCv gw nR_BP 67 md_No_clear 0 := ⟨(nw_2_in _ (List.mem_of_getElem? (i := 44) rfl)), (nw_2_in _ (List.mem_of_getElem? (i := 45) rfl)), (nw_2_in _ (List.mem_of_getElem? (i := 46) rfl)), (nw_2_in _ (List.mem_of_getElem? (i := 47) rfl)), kw_No_clear, by decide, by decide, by decide +kernel⟩
theorem kv_BP_85 : zCv gw nR_BP 85 md_BP_begin 0 := ⟨(nw_2_in _ (List.mem_of_getElem? (i := 48) rfl)), (nw_2_in _ (List.mem_of_getElem? (i := 49) rfl)), (nw_2_in _ (List.mem_of_getElem? (i := 50) rfl)), (nw_2_in _ (List.mem_of_getElem? (i := 43) rfl)), kw_BP_begin, by decide, by decide, by decide +kernel⟩
theorem kv_BP_88 : zCv gw nR_BP 88 md_BP_halt 0 := ⟨(nw_2_in _ (List.mem_of_getElem? (i := 51) rfl)), (nw_2_in _ (List.mem_of_getElem? (i := 52) rfl)), (nw_2_in _ (List.mem_of_getElem? (i := 53) rfl)), (nw_2_in _ (List.mem_of_getElem? (i := 43) rfl)), kw_BP_halt, by decide, by decide, by decide +kernel⟩
theorem kv_BP_97 : zCv gw nR_BP 97 md_BP_isInCode 1 := ⟨(nw_2_in _ (List.mem_of_getElem? (i := 54) rfl)), (nw_2_in _ (List.mem_of_getElem? (i := 55) rfl)), (nw_2_in _ (List.mem_of_getElem? (i := 56) rfl)), (nw_2_in _ (List.mem_of_getElem? (i := 43) rfl)), kw_BP_isInCode, by decide, by decide, by decide +kernel⟩
theorem kv_BP_101 : zCv gw nR_BP 101 md_BP_areOpen 2 := ⟨(nw_2_in _ (List.mem_of_getElem? (i := 57) rfl)), (nw_2_in _ (List.mem_of_getElem? (i := 58) rfl)), (nw_2_in _ (List.mem_of_getElem? (i := 59) rfl)), (nw_2_in _ (List.mem_of_getElem? (i := 43) rfl)), kw_BP_areOpen, by decide, by decide, by decide +kernel⟩
theorem kv_BP_105 : zCv gw nR_BP 105 md_Me_flashWord 1 := ⟨(nw_3_in _ (List.mem_of_getElem? (i := 0) rfl)), (nw_3_in _ (List.mem_of_getElem? (i := 1) rfl)), (nw_3_in _ (List.mem_of_getElem? (i := 2) rfl)), (nw_2_in _ (List.mem_of_getElem? (i := 39) rfl)), kw_Me_flashWord, by decide, by decide, by decide +kernel⟩
theorem kv_BP_109 : zCv gw nR_BP 109 md_Me_ramWord 1 := ⟨(nw_3_in _ (List.mem_of_getElem? (i := 3) rfl)), (nw_3_in _ (List.mem_of_getElem? (i := 4) rfl)), (nw_3_in _ (List.mem_of_getElem? (i := 5) rfl)), (nw_2_in _ (List.mem_of_getElem? (i := 39) rfl)), kw_Me_ramWord, by decide, by decide, by decide +kernel⟩
theorem kv_BP_112 : zCv gw nR_BP 112 md_Me_setRamWord 2 := ⟨(nw_3_in _ (List.mem_of_getElem? (i := 6) rfl)), (nw_3_in _ (List.mem_of_getElem? (i := 7) rfl)), (nw_3_in _ (List.mem_of_getElem? (i := 8) rfl)), (nw_2_in _ (List.mem_of_getElem? (i := 39) rfl)), kw_Me_setRamWord, by decide, by decide, by decide +kernel⟩
theorem kv_BP_115 : zCv gw nR_BP 115 md_BP_setFrameWord 2 := ⟨(nw_3_in _ (List.mem_of_getElem? (i := 9) rfl)), (nw_3_in _ (List.mem_of_getElem? (i := 10) rfl)), (nw_3_in _ (List.mem_of_getElem? (i := 11) rfl)), (nw_2_in _ (List.mem_of_getElem? (i := 43) rfl)), kw_BP_setFrameWord, by decide, by decide, by decide +kernel⟩
theorem kv_BP_119 : zCv gw nR_BP 119 md_BP_frameWord 1 := ⟨(nw_3_in _ (List.mem_of_getElem? (i := 12) rfl)), (nw_3_in _ (List.mem_of_getElem? (i := 13) rfl)), (nw_3_in _ (List.mem_of_getElem? (i := 14) rfl)), (nw_2_in _ (List.mem_of_getElem? (i := 43) rfl)), kw_BP_frameWord, by decide, by decide, by decide +kernel⟩
theorem kv_GK_66 : zCv gw nR_GK 66 md_Me_clearRam 2 := ⟨(nw_3_in _ (List.mem_of_getElem? (i := 15) rfl)), (nw_2_in _ (List.mem_of_getElem? (i := 37) rfl)), (nw_2_in _ (List.mem_of_getElem? (i := 38) rfl)), (nw_2_in _ (List.mem_of_getElem? (i := 39) rfl)), kw_Me_clearRam, by decide, by decide, by decide +kernel⟩
theorem kv_GK_70 : zCv gw nR_GK 70 md_Co_clear 0 := ⟨(nw_3_in _ (List.mem_of_getElem? (i := 16) rfl)), (nw_3_in _ (List.mem_of_getElem? (i := 17) rfl)), (nw_3_in _ (List.mem_of_getElem? (i := 18) rfl)), (nw_3_in _ (List.mem_of_getElem? (i := 19) rfl)), kw_Co_clear, by decide, by decide, by decide +kernel⟩
theorem kv_GK_79 : zCv gw nR_GK 79 md_Lo_loadAll 0 := ⟨(nw_3_in _ (List.mem_of_getElem? (i := 20) rfl)), (nw_3_in _ (List.mem_of_getElem? (i := 21) rfl)), (nw_3_in _ (List.mem_of_getElem? (i := 22) rfl)), (nw_3_in _ (List.mem_of_getElem? (i := 23) rfl)), kw_Lo_loadAll, by decide, by decide, by decide +kernel⟩
theorem kv_GK_86 : zCv gw nR_GK 86 md_Ke_beginTick 0 := ⟨(nw_3_in _ (List.mem_of_getElem? (i := 24) rfl)), (nw_3_in _ (List.mem_of_getElem? (i := 25) rfl)), (nw_3_in _ (List.mem_of_getElem? (i := 26) rfl)), (nw_3_in _ (List.mem_of_getElem? (i := 27) rfl)), kw_Ke_beginTick, by decide, by decide, by decide +kernel⟩
theorem kv_GK_89 : zCv gw nR_GK 89 md_GK_giveTurn 0 := ⟨(nw_3_in _ (List.mem_of_getElem? (i := 28) rfl)), (nw_3_in _ (List.mem_of_getElem? (i := 29) rfl)), (nw_3_in _ (List.mem_of_getElem? (i := 30) rfl)), (nw_3_in _ (List.mem_of_getElem? (i := 31) rfl)), kw_GK_giveTurn, by decide, by decide, by decide +kernel⟩
theorem kv_GK_93 : zCv gw nR_GK 93 md_GK_doInstruction 1 := ⟨(nw_3_in _ (List.mem_of_getElem? (i := 32) rfl)), (nw_3_in _ (List.mem_of_getElem? (i := 33) rfl)), (nw_3_in _ (List.mem_of_getElem? (i := 34) rfl)), (nw_3_in _ (List.mem_of_getElem? (i := 31) rfl)), kw_GK_doInstruction, by decide, by decide, by decide +kernel⟩
theorem kv_GK_97 : zCv gw nR_GK 97 md_GK_serve 2 := ⟨(nw_3_in _ (List.mem_of_getElem? (i := 35) rfl)), (nw_3_in _ (List.mem_of_getElem? (i := 36) rfl)), (nw_3_in _ (List.mem_of_getElem? (i := 37) rfl)), (nw_3_in _ (List.mem_of_getElem? (i := 31) rfl)), kw_GK_serve, by decide, by decide, by decide +kernel⟩
theorem kv_GK_101 : zCv gw nR_GK 101 md_GK_endStep 2 := ⟨(nw_3_in _ (List.mem_of_getElem? (i := 38) rfl)), (nw_3_in _ (List.mem_of_getElem? (i := 39) rfl)), (nw_3_in _ (List.mem_of_getElem? (i := 40) rfl)), (nw_3_in _ (List.mem_of_getElem? (i := 31) rfl)), kw_GK_endStep, by decide, by decide, by decide +kernel⟩
theorem kv_GK_105 : zCv gw nR_GK 105 md_Ke_takeInput 1 := ⟨(nw_3_in _ (List.mem_of_getElem? (i := 41) rfl)), (nw_3_in _ (List.mem_of_getElem? (i := 42) rfl)), (nw_3_in _ (List.mem_of_getElem? (i := 43) rfl)), (nw_3_in _ (List.mem_of_getElem? (i := 27) rfl)), kw_Ke_takeInput, by decide, by decide, by decide +kernel⟩
theorem kv_GK_109 : zCv gw nR_GK 109 md_Ke_takeSample 1 := ⟨(nw_3_in _ (List.mem_of_getElem? (i := 44) rfl)), (nw_3_in _ (List.mem_of_getElem? (i := 45) rfl)), (nw_3_in _ (List.mem_of_getElem? (i := 46) rfl)), (nw_3_in _ (List.mem_of_getElem? (i := 27) rfl)), kw_Ke_takeSample, by decide, by decide, by decide +kernel⟩
theorem kv_GK_116 : zCv gw nR_GK 116 md_Co_latestOutput 1 := ⟨(nw_3_in _ (List.mem_of_getElem? (i := 47) rfl)), (nw_3_in _ (List.mem_of_getElem? (i := 48) rfl)), (nw_3_in _ (List.mem_of_getElem? (i := 49) rfl)), (nw_3_in _ (List.mem_of_getElem? (i := 19) rfl)), kw_Co_latestOutput, by decide, by decide, by decide +kernel⟩
theorem kv_GK_119 : zCv gw nR_GK 119 md_GK_find 1 := ⟨(nw_3_in _ (List.mem_of_getElem? (i := 50) rfl)), (nw_3_in _ (List.mem_of_getElem? (i := 51) rfl)), (nw_3_in _ (List.mem_of_getElem? (i := 52) rfl)), (nw_3_in _ (List.mem_of_getElem? (i := 31) rfl)), kw_GK_find, by decide, by decide, by decide +kernel⟩
theorem kv_GK_126 : zCv gw nR_GK 126 md_BP_registerValue 1 := ⟨(nw_3_in _ (List.mem_of_getElem? (i := 53) rfl)), (nw_3_in _ (List.mem_of_getElem? (i := 54) rfl)), (nw_3_in _ (List.mem_of_getElem? (i := 55) rfl)), (nw_2_in _ (List.mem_of_getElem? (i := 43) rfl)), kw_BP_registerValue, by decide, by decide, by decide +kernel⟩
theorem kv_GK_142 : zCv gw nR_GK 142 md_No_hasGrant 1 := ⟨(nw_3_in _ (List.mem_of_getElem? (i := 56) rfl)), (nw_3_in _ (List.mem_of_getElem? (i := 57) rfl)), (nw_3_in _ (List.mem_of_getElem? (i := 58) rfl)), (nw_2_in _ (List.mem_of_getElem? (i := 47) rfl)), kw_No_hasGrant, by decide, by decide, by decide +kernel⟩
theorem kv_GK_165 : zCv gw nR_GK 165 md_BP_begin 0 := ⟨(nw_3_in _ (List.mem_of_getElem? (i := 59) rfl)), (nw_2_in _ (List.mem_of_getElem? (i := 49) rfl)), (nw_2_in _ (List.mem_of_getElem? (i := 50) rfl)), (nw_2_in _ (List.mem_of_getElem? (i := 43) rfl)), kw_BP_begin, by decide, by decide, by decide +kernel⟩
theorem kv_GK_168 : zCv gw nR_GK 168 md_BP_halt 0 := ⟨(nw_4_in _ (List.mem_of_getElem? (i := 0) rfl)), (nw_2_in _ (List.mem_of_getElem? (i := 52) rfl)), (nw_2_in _ (List.mem_of_getElem? (i := 53) rfl)), (nw_2_in _ (List.mem_of_getElem? (i := 43) rfl)), kw_BP_halt, by decide, by decide, by decide +kernel⟩
theorem kv_GK_175 : zCv gw nR_GK 175 md_BP_takeFrame 0 := ⟨(nw_4_in _ (List.mem_of_getElem? (i := 1) rfl)), (nw_4_in _ (List.mem_of_getElem? (i := 2) rfl)), (nw_4_in _ (List.mem_of_getElem? (i := 3) rfl)), (nw_2_in _ (List.mem_of_getElem? (i := 43) rfl)), kw_BP_takeFrame, by decide, by decide, by decide +kernel⟩
theorem kv_GK_178 : zCv gw nR_GK 178 md_Pr_execute 1 := ⟨(nw_4_in _ (List.mem_of_getElem? (i := 4) rfl)), (nw_4_in _ (List.mem_of_getElem? (i := 5) rfl)), (nw_4_in _ (List.mem_of_getElem? (i := 6) rfl)), (nw_4_in _ (List.mem_of_getElem? (i := 7) rfl)), kw_Pr_execute, by decide, by decide, by decide +kernel⟩
theorem kv_GK_184 : zCv gw nR_GK 184 md_BP_stackFrame 1 := ⟨(nw_4_in _ (List.mem_of_getElem? (i := 8) rfl)), (nw_4_in _ (List.mem_of_getElem? (i := 9) rfl)), (nw_4_in _ (List.mem_of_getElem? (i := 10) rfl)), (nw_2_in _ (List.mem_of_getElem? (i := 43) rfl)), kw_BP_stackFrame, by decide, by decide, by decide +kernel⟩
theorem kv_GK_187 : zCv gw nR_GK 187 md_Ke_waitForUpcall 1 := ⟨(nw_4_in _ (List.mem_of_getElem? (i := 11) rfl)), (nw_4_in _ (List.mem_of_getElem? (i := 12) rfl)), (nw_4_in _ (List.mem_of_getElem? (i := 13) rfl)), (nw_3_in _ (List.mem_of_getElem? (i := 27) rfl)), kw_Ke_waitForUpcall, by decide, by decide, by decide +kernel⟩
theorem kv_GK_191 : zCv gw nR_GK 191 md_Ke_answer 2 := ⟨(nw_4_in _ (List.mem_of_getElem? (i := 14) rfl)), (nw_4_in _ (List.mem_of_getElem? (i := 15) rfl)), (nw_4_in _ (List.mem_of_getElem? (i := 16) rfl)), (nw_3_in _ (List.mem_of_getElem? (i := 27) rfl)), kw_Ke_answer, by decide, by decide, by decide +kernel⟩
theorem kv_GK_194 : zCv gw nR_GK 194 md_BP_setFrameWord 2 := ⟨(nw_4_in _ (List.mem_of_getElem? (i := 17) rfl)), (nw_3_in _ (List.mem_of_getElem? (i := 10) rfl)), (nw_3_in _ (List.mem_of_getElem? (i := 11) rfl)), (nw_2_in _ (List.mem_of_getElem? (i := 43) rfl)), kw_BP_setFrameWord, by decide, by decide, by decide +kernel⟩
theorem kv_GK_197 : zCv gw nR_GK 197 md_BP_fail 1 := ⟨(nw_4_in _ (List.mem_of_getElem? (i := 18) rfl)), (nw_4_in _ (List.mem_of_getElem? (i := 19) rfl)), (nw_4_in _ (List.mem_of_getElem? (i := 20) rfl)), (nw_2_in _ (List.mem_of_getElem? (i := 43) rfl)), kw_BP_fail, by decide, by decide, by decide +kernel⟩
theorem kv_GM_124 : zCv gw nR_GM 124 md_GM_load 3 := ⟨(nw_4_in _ (List.mem_of_getElem? (i := 21) rfl)), (nw_4_in _ (List.mem_of_getElem? (i := 22) rfl)), (nw_4_in _ (List.mem_of_getElem? (i := 23) rfl)), (nw_4_in _ (List.mem_of_getElem? (i := 24) rfl)), kw_GM_load, by decide, by decide, by decide +kernel⟩
theorem kv_GM_128 : zCv gw nR_GM 128 md_GM_begin 1 := ⟨(nw_4_in _ (List.mem_of_getElem? (i := 25) rfl)), (nw_4_in _ (List.mem_of_getElem? (i := 26) rfl)), (nw_4_in _ (List.mem_of_getElem? (i := 27) rfl)), (nw_4_in _ (List.mem_of_getElem? (i := 24) rfl)), kw_GM_begin, by decide, by decide, by decide +kernel⟩
theorem kv_GM_132 : zCv gw nR_GM 132 md_GM_forget 1 := ⟨(nw_4_in _ (List.mem_of_getElem? (i := 28) rfl)), (nw_4_in _ (List.mem_of_getElem? (i := 29) rfl)), (nw_4_in _ (List.mem_of_getElem? (i := 30) rfl)), (nw_4_in _ (List.mem_of_getElem? (i := 24) rfl)), kw_GM_forget, by decide, by decide, by decide +kernel⟩
theorem kv_GM_135 : zCv gw nR_GM 135 md_GM_drop 2 := ⟨(nw_4_in _ (List.mem_of_getElem? (i := 31) rfl)), (nw_4_in _ (List.mem_of_getElem? (i := 32) rfl)), (nw_4_in _ (List.mem_of_getElem? (i := 33) rfl)), (nw_4_in _ (List.mem_of_getElem? (i := 24) rfl)), kw_GM_drop, by decide, by decide, by decide +kernel⟩
theorem kv_GM_139 : zCv gw nR_GM 139 md_GM_move 2 := ⟨(nw_4_in _ (List.mem_of_getElem? (i := 34) rfl)), (nw_4_in _ (List.mem_of_getElem? (i := 35) rfl)), (nw_4_in _ (List.mem_of_getElem? (i := 36) rfl)), (nw_4_in _ (List.mem_of_getElem? (i := 24) rfl)), kw_GM_move, by decide, by decide, by decide +kernel⟩
theorem kv_GM_142 : zCv gw nR_GM 142 md_GM_granted 1 := ⟨(nw_4_in _ (List.mem_of_getElem? (i := 37) rfl)), (nw_4_in _ (List.mem_of_getElem? (i := 38) rfl)), (nw_4_in _ (List.mem_of_getElem? (i := 39) rfl)), (nw_4_in _ (List.mem_of_getElem? (i := 24) rfl)), kw_GM_granted, by decide, by decide, by decide +kernel⟩
theorem kv_GM_146 : zCv gw nR_GM 146 md_GM_openWords 2 := ⟨(nw_4_in _ (List.mem_of_getElem? (i := 40) rfl)), (nw_4_in _ (List.mem_of_getElem? (i := 41) rfl)), (nw_4_in _ (List.mem_of_getElem? (i := 42) rfl)), (nw_4_in _ (List.mem_of_getElem? (i := 24) rfl)), kw_GM_openWords, by decide, by decide, by decide +kernel⟩
theorem kv_GM_150 : zCv gw nR_GM 150 md_GM_within 3 := ⟨(nw_4_in _ (List.mem_of_getElem? (i := 43) rfl)), (nw_4_in _ (List.mem_of_getElem? (i := 44) rfl)), (nw_4_in _ (List.mem_of_getElem? (i := 45) rfl)), (nw_4_in _ (List.mem_of_getElem? (i := 24) rfl)), kw_GM_within, by decide, by decide, by decide +kernel⟩
theorem kv_GM_154 : zCv gw nR_GM 154 md_GM_isOpen 2 := ⟨(nw_4_in _ (List.mem_of_getElem? (i := 46) rfl)), (nw_4_in _ (List.mem_of_getElem? (i := 47) rfl)), (nw_4_in _ (List.mem_of_getElem? (i := 48) rfl)), (nw_4_in _ (List.mem_of_getElem? (i := 24) rfl)), kw_GM_isOpen, by decide, by decide, by decide +kernel⟩
theorem kv_GM_158 : zCv gw nR_GM 158 md_GM_inCode 2 := ⟨(nw_4_in _ (List.mem_of_getElem? (i := 49) rfl)), (nw_4_in _ (List.mem_of_getElem? (i := 50) rfl)), (nw_4_in _ (List.mem_of_getElem? (i := 51) rfl)), (nw_4_in _ (List.mem_of_getElem? (i := 24) rfl)), kw_GM_inCode, by decide, by decide, by decide +kernel⟩
theorem kv_GM_164 : zCv gw nR_GM 164 md_GM_eight 2 := ⟨(nw_4_in _ (List.mem_of_getElem? (i := 52) rfl)), (nw_4_in _ (List.mem_of_getElem? (i := 53) rfl)), (nw_4_in _ (List.mem_of_getElem? (i := 54) rfl)), (nw_4_in _ (List.mem_of_getElem? (i := 24) rfl)), kw_GM_eight, by decide, by decide, by decide +kernel⟩
theorem kv_GM_167 : zCv gw nR_GM 167 md_GM_set 2 := ⟨(nw_4_in _ (List.mem_of_getElem? (i := 55) rfl)), (nw_4_in _ (List.mem_of_getElem? (i := 56) rfl)), (nw_4_in _ (List.mem_of_getElem? (i := 57) rfl)), (nw_4_in _ (List.mem_of_getElem? (i := 24) rfl)), kw_GM_set, by decide, by decide, by decide +kernel⟩
theorem kv_GM_172 : zCv gw nR_GM 172 md_GM_get 1 := ⟨(nw_4_in _ (List.mem_of_getElem? (i := 58) rfl)), (nw_4_in _ (List.mem_of_getElem? (i := 59) rfl)), (nw_5_in _ (List.mem_of_getElem? (i := 0) rfl)), (nw_4_in _ (List.mem_of_getElem? (i := 24) rfl)), kw_GM_get, by decide, by decide, by decide +kernel⟩
theorem kv_GM_182 : zCv gw nR_GM 182 md_GM_nz 2 := ⟨(nw_5_in _ (List.mem_of_getElem? (i := 1) rfl)), (nw_5_in _ (List.mem_of_getElem? (i := 2) rfl)), (nw_5_in _ (List.mem_of_getElem? (i := 3) rfl)), (nw_4_in _ (List.mem_of_getElem? (i := 24) rfl)), kw_GM_nz, by decide, by decide, by decide +kernel⟩
theorem kv_GM_185 : zCv gw nR_GM 185 md_GM_setCarry 2 := ⟨(nw_5_in _ (List.mem_of_getElem? (i := 4) rfl)), (nw_5_in _ (List.mem_of_getElem? (i := 5) rfl)), (nw_5_in _ (List.mem_of_getElem? (i := 6) rfl)), (nw_4_in _ (List.mem_of_getElem? (i := 24) rfl)), kw_GM_setCarry, by decide, by decide, by decide +kernel⟩
theorem kv_GM_188 : zCv gw nR_GM 188 md_GM_shifted 4 := ⟨(nw_5_in _ (List.mem_of_getElem? (i := 7) rfl)), (nw_5_in _ (List.mem_of_getElem? (i := 8) rfl)), (nw_5_in _ (List.mem_of_getElem? (i := 9) rfl)), (nw_4_in _ (List.mem_of_getElem? (i := 24) rfl)), kw_GM_shifted, by decide, by decide, by decide +kernel⟩
theorem kv_GM_192 : zCv gw nR_GM 192 md_GM_sum 4 := ⟨(nw_5_in _ (List.mem_of_getElem? (i := 10) rfl)), (nw_5_in _ (List.mem_of_getElem? (i := 11) rfl)), (nw_5_in _ (List.mem_of_getElem? (i := 12) rfl)), (nw_4_in _ (List.mem_of_getElem? (i := 24) rfl)), kw_GM_sum, by decide, by decide, by decide +kernel⟩
theorem kv_GM_195 : zCv gw nR_GM 195 md_GM_may 3 := ⟨(nw_5_in _ (List.mem_of_getElem? (i := 13) rfl)), (nw_5_in _ (List.mem_of_getElem? (i := 14) rfl)), (nw_5_in _ (List.mem_of_getElem? (i := 15) rfl)), (nw_4_in _ (List.mem_of_getElem? (i := 24) rfl)), kw_GM_may, by decide, by decide, by decide +kernel⟩
theorem kv_GM_205 : zCv gw nR_GM 205 md_GM_stack 2 := ⟨(nw_5_in _ (List.mem_of_getElem? (i := 16) rfl)), (nw_5_in _ (List.mem_of_getElem? (i := 17) rfl)), (nw_5_in _ (List.mem_of_getElem? (i := 18) rfl)), (nw_4_in _ (List.mem_of_getElem? (i := 24) rfl)), kw_GM_stack, by decide, by decide, by decide +kernel⟩
theorem kv_GM_208 : zCv gw nR_GM 208 md_GM_kernel 2 := ⟨(nw_5_in _ (List.mem_of_getElem? (i := 19) rfl)), (nw_5_in _ (List.mem_of_getElem? (i := 20) rfl)), (nw_5_in _ (List.mem_of_getElem? (i := 21) rfl)), (nw_4_in _ (List.mem_of_getElem? (i := 24) rfl)), kw_GM_kernel, by decide, by decide, by decide +kernel⟩
theorem kv_GM_211 : zCv gw nR_GM 211 md_GM_holds 2 := ⟨(nw_5_in _ (List.mem_of_getElem? (i := 22) rfl)), (nw_5_in _ (List.mem_of_getElem? (i := 23) rfl)), (nw_5_in _ (List.mem_of_getElem? (i := 24) rfl)), (nw_4_in _ (List.mem_of_getElem? (i := 24) rfl)), kw_GM_holds, by decide, by decide, by decide +kernel⟩
theorem kv_GM_214 : zCv gw nR_GM 214 md_GM_access 4 := ⟨(nw_5_in _ (List.mem_of_getElem? (i := 25) rfl)), (nw_5_in _ (List.mem_of_getElem? (i := 26) rfl)), (nw_5_in _ (List.mem_of_getElem? (i := 27) rfl)), (nw_4_in _ (List.mem_of_getElem? (i := 24) rfl)), kw_GM_access, by decide, by decide, by decide +kernel⟩
theorem kv_GM_218 : zCv gw nR_GM 218 md_GM_push 2 := ⟨(nw_5_in _ (List.mem_of_getElem? (i := 28) rfl)), (nw_5_in _ (List.mem_of_getElem? (i := 29) rfl)), (nw_5_in _ (List.mem_of_getElem? (i := 30) rfl)), (nw_4_in _ (List.mem_of_getElem? (i := 24) rfl)), kw_GM_push, by decide, by decide, by decide +kernel⟩
theorem kv_GM_221 : zCv gw nR_GM 221 md_GM_pop 2 := ⟨(nw_5_in _ (List.mem_of_getElem? (i := 31) rfl)), (nw_5_in _ (List.mem_of_getElem? (i := 32) rfl)), (nw_5_in _ (List.mem_of_getElem? (i := 33) rfl)), (nw_4_in _ (List.mem_of_getElem? (i := 24) rfl)), kw_GM_pop, by decide, by decide, by decide +kernel⟩
theorem kv_GM_224 : zCv gw nR_GM 224 md_GM_addOrTake 2 := ⟨(nw_5_in _ (List.mem_of_getElem? (i := 34) rfl)), (nw_5_in _ (List.mem_of_getElem? (i := 35) rfl)), (nw_5_in _ (List.mem_of_getElem? (i := 36) rfl)), (nw_4_in _ (List.mem_of_getElem? (i := 24) rfl)), kw_GM_addOrTake, by decide, by decide, by decide +kernel⟩
theorem kv_GM_227 : zCv gw nR_GM 227 md_GM_immediate 2 := ⟨(nw_5_in _ (List.mem_of_getElem? (i := 37) rfl)), (nw_5_in _ (List.mem_of_getElem? (i := 38) rfl)), (nw_5_in _ (List.mem_of_getElem? (i := 39) rfl)), (nw_4_in _ (List.mem_of_getElem? (i := 24) rfl)), kw_GM_immediate, by decide, by decide, by decide +kernel⟩
theorem kv_GM_230 : zCv gw nR_GM 230 md_GM_calculate 2 := ⟨(nw_5_in _ (List.mem_of_getElem? (i := 40) rfl)), (nw_5_in _ (List.mem_of_getElem? (i := 41) rfl)), (nw_5_in _ (List.mem_of_getElem? (i := 42) rfl)), (nw_4_in _ (List.mem_of_getElem? (i := 24) rfl)), kw_GM_calculate, by decide, by decide, by decide +kernel⟩
theorem kv_GM_233 : zCv gw nR_GM 233 md_GM_leap 2 := ⟨(nw_5_in _ (List.mem_of_getElem? (i := 43) rfl)), (nw_5_in _ (List.mem_of_getElem? (i := 44) rfl)), (nw_5_in _ (List.mem_of_getElem? (i := 45) rfl)), (nw_4_in _ (List.mem_of_getElem? (i := 24) rfl)), kw_GM_leap, by decide, by decide, by decide +kernel⟩
theorem kv_GM_236 : zCv gw nR_GM 236 md_GM_branch 2 := ⟨(nw_5_in _ (List.mem_of_getElem? (i := 46) rfl)), (nw_5_in _ (List.mem_of_getElem? (i := 47) rfl)), (nw_5_in _ (List.mem_of_getElem? (i := 48) rfl)), (nw_4_in _ (List.mem_of_getElem? (i := 24) rfl)), kw_GM_branch, by decide, by decide, by decide +kernel⟩
theorem kv_GM_239 : zCv gw nR_GM 239 md_GM_stackWord 2 := ⟨(nw_5_in _ (List.mem_of_getElem? (i := 49) rfl)), (nw_5_in _ (List.mem_of_getElem? (i := 50) rfl)), (nw_5_in _ (List.mem_of_getElem? (i := 51) rfl)), (nw_4_in _ (List.mem_of_getElem? (i := 24) rfl)), kw_GM_stackWord, by decide, by decide, by decide +kernel⟩
theorem kv_GM_242 : zCv gw nR_GM 242 md_GM_grantAddress 2 := ⟨(nw_5_in _ (List.mem_of_getElem? (i := 52) rfl)), (nw_5_in _ (List.mem_of_getElem? (i := 53) rfl)), (nw_5_in _ (List.mem_of_getElem? (i := 54) rfl)), (nw_4_in _ (List.mem_of_getElem? (i := 24) rfl)), kw_GM_grantAddress, by decide, by decide, by decide +kernel⟩
theorem kv_GM_245 : zCv gw nR_GM 245 md_GM_write 4 := ⟨(nw_5_in _ (List.mem_of_getElem? (i := 55) rfl)), (nw_5_in _ (List.mem_of_getElem? (i := 56) rfl)), (nw_5_in _ (List.mem_of_getElem? (i := 57) rfl)), (nw_4_in _ (List.mem_of_getElem? (i := 24) rfl)), kw_GM_write, by decide, by decide, by decide +kernel⟩
theorem kv_GM_249 : zCv gw nR_GM 249 md_GM_oldest 1 := ⟨(nw_5_in _ (List.mem_of_getElem? (i := 58) rfl)), (nw_5_in _ (List.mem_of_getElem? (i := 59) rfl)), (nw_6_in _ (List.mem_of_getElem? (i := 0) rfl)), (nw_4_in _ (List.mem_of_getElem? (i := 24) rfl)), kw_GM_oldest, by decide, by decide, by decide +kernel⟩
theorem kv_GM_252 : zCv gw nR_GM 252 md_GM_deliver 4 := ⟨(nw_6_in _ (List.mem_of_getElem? (i := 1) rfl)), (nw_6_in _ (List.mem_of_getElem? (i := 2) rfl)), (nw_6_in _ (List.mem_of_getElem? (i := 3) rfl)), (nw_4_in _ (List.mem_of_getElem? (i := 24) rfl)), kw_GM_deliver, by decide, by decide, by decide +kernel⟩
theorem kv_GM_255 : zCv gw nR_GM 255 md_GM_ensure 2 := ⟨(nw_6_in _ (List.mem_of_getElem? (i := 4) rfl)), (nw_6_in _ (List.mem_of_getElem? (i := 5) rfl)), (nw_6_in _ (List.mem_of_getElem? (i := 6) rfl)), (nw_4_in _ (List.mem_of_getElem? (i := 24) rfl)), kw_GM_ensure, by decide, by decide, by decide +kernel⟩
theorem kv_GM_258 : zCv gw nR_GM 258 md_GM_subscribe 4 := ⟨(nw_6_in _ (List.mem_of_getElem? (i := 7) rfl)), (nw_6_in _ (List.mem_of_getElem? (i := 8) rfl)), (nw_6_in _ (List.mem_of_getElem? (i := 9) rfl)), (nw_4_in _ (List.mem_of_getElem? (i := 24) rfl)), kw_GM_subscribe, by decide, by decide, by decide +kernel⟩
theorem kv_GM_261 : zCv gw nR_GM 261 md_GM_command 4 := ⟨(nw_6_in _ (List.mem_of_getElem? (i := 10) rfl)), (nw_6_in _ (List.mem_of_getElem? (i := 11) rfl)), (nw_6_in _ (List.mem_of_getElem? (i := 12) rfl)), (nw_4_in _ (List.mem_of_getElem? (i := 24) rfl)), kw_GM_command, by decide, by decide, by decide +kernel⟩
theorem kv_GM_264 : zCv gw nR_GM 264 md_GM_allow 4 := ⟨(nw_6_in _ (List.mem_of_getElem? (i := 13) rfl)), (nw_6_in _ (List.mem_of_getElem? (i := 14) rfl)), (nw_6_in _ (List.mem_of_getElem? (i := 15) rfl)), (nw_4_in _ (List.mem_of_getElem? (i := 24) rfl)), kw_GM_allow, by decide, by decide, by decide +kernel⟩
theorem kv_GM_267 : zCv gw nR_GM 267 md_GM_note 3 := ⟨(nw_6_in _ (List.mem_of_getElem? (i := 16) rfl)), (nw_6_in _ (List.mem_of_getElem? (i := 17) rfl)), (nw_6_in _ (List.mem_of_getElem? (i := 18) rfl)), (nw_4_in _ (List.mem_of_getElem? (i := 24) rfl)), kw_GM_note, by decide, by decide, by decide +kernel⟩
theorem kv_GM_271 : zCv gw nR_GM 271 md_GM_print 2 := ⟨(nw_6_in _ (List.mem_of_getElem? (i := 19) rfl)), (nw_6_in _ (List.mem_of_getElem? (i := 20) rfl)), (nw_6_in _ (List.mem_of_getElem? (i := 21) rfl)), (nw_4_in _ (List.mem_of_getElem? (i := 24) rfl)), kw_GM_print, by decide, by decide, by decide +kernel⟩
theorem kv_GM_274 : zCv gw nR_GM 274 md_GM_receive 2 := ⟨(nw_6_in _ (List.mem_of_getElem? (i := 22) rfl)), (nw_6_in _ (List.mem_of_getElem? (i := 23) rfl)), (nw_6_in _ (List.mem_of_getElem? (i := 24) rfl)), (nw_4_in _ (List.mem_of_getElem? (i := 24) rfl)), kw_GM_receive, by decide, by decide, by decide +kernel⟩
theorem kv_GM_277 : zCv gw nR_GM 277 md_GM_upcall 4 := ⟨(nw_6_in _ (List.mem_of_getElem? (i := 25) rfl)), (nw_6_in _ (List.mem_of_getElem? (i := 26) rfl)), (nw_6_in _ (List.mem_of_getElem? (i := 27) rfl)), (nw_4_in _ (List.mem_of_getElem? (i := 24) rfl)), kw_GM_upcall, by decide, by decide, by decide +kernel⟩
theorem kv_GM_280 : zCv gw nR_GM 280 md_GM_waiting 1 := ⟨(nw_6_in _ (List.mem_of_getElem? (i := 28) rfl)), (nw_6_in _ (List.mem_of_getElem? (i := 29) rfl)), (nw_6_in _ (List.mem_of_getElem? (i := 30) rfl)), (nw_4_in _ (List.mem_of_getElem? (i := 24) rfl)), kw_GM_waiting, by decide, by decide, by decide +kernel⟩
theorem kv_GM_283 : zCv gw nR_GM 283 md_GM_halt 1 := ⟨(nw_6_in _ (List.mem_of_getElem? (i := 31) rfl)), (nw_6_in _ (List.mem_of_getElem? (i := 32) rfl)), (nw_6_in _ (List.mem_of_getElem? (i := 33) rfl)), (nw_4_in _ (List.mem_of_getElem? (i := 24) rfl)), kw_GM_halt, by decide, by decide, by decide +kernel⟩
theorem kv_GM_286 : zCv gw nR_GM 286 md_GM_unstack 1 := ⟨(nw_6_in _ (List.mem_of_getElem? (i := 34) rfl)), (nw_6_in _ (List.mem_of_getElem? (i := 35) rfl)), (nw_6_in _ (List.mem_of_getElem? (i := 36) rfl)), (nw_4_in _ (List.mem_of_getElem? (i := 24) rfl)), kw_GM_unstack, by decide, by decide, by decide +kernel⟩
theorem kv_GM_289 : zCv gw nR_GM 289 md_GM_instruction 1 := ⟨(nw_6_in _ (List.mem_of_getElem? (i := 37) rfl)), (nw_6_in _ (List.mem_of_getElem? (i := 38) rfl)), (nw_6_in _ (List.mem_of_getElem? (i := 39) rfl)), (nw_4_in _ (List.mem_of_getElem? (i := 24) rfl)), kw_GM_instruction, by decide, by decide, by decide +kernel⟩
theorem kv_GM_292 : zCv gw nR_GM 292 md_GM_faulted 1 := ⟨(nw_6_in _ (List.mem_of_getElem? (i := 40) rfl)), (nw_6_in _ (List.mem_of_getElem? (i := 41) rfl)), (nw_6_in _ (List.mem_of_getElem? (i := 42) rfl)), (nw_4_in _ (List.mem_of_getElem? (i := 24) rfl)), kw_GM_faulted, by decide, by decide, by decide +kernel⟩
theorem kv_GM_295 : zCv gw nR_GM 295 md_GM_alarms 0 := ⟨(nw_6_in _ (List.mem_of_getElem? (i := 43) rfl)), (nw_6_in _ (List.mem_of_getElem? (i := 44) rfl)), (nw_6_in _ (List.mem_of_getElem? (i := 45) rfl)), (nw_4_in _ (List.mem_of_getElem? (i := 24) rfl)), kw_GM_alarms, by decide, by decide, by decide +kernel⟩
theorem kv_GM_298 : zCv gw nR_GM 298 md_GM_choose 0 := ⟨(nw_6_in _ (List.mem_of_getElem? (i := 46) rfl)), (nw_6_in _ (List.mem_of_getElem? (i := 47) rfl)), (nw_6_in _ (List.mem_of_getElem? (i := 48) rfl)), (nw_4_in _ (List.mem_of_getElem? (i := 24) rfl)), kw_GM_choose, by decide, by decide, by decide +kernel⟩
theorem kv_GM_302 : zCv gw nR_GM 302 md_GM_step 1 := ⟨(nw_6_in _ (List.mem_of_getElem? (i := 49) rfl)), (nw_6_in _ (List.mem_of_getElem? (i := 50) rfl)), (nw_6_in _ (List.mem_of_getElem? (i := 51) rfl)), (nw_4_in _ (List.mem_of_getElem? (i := 24) rfl)), kw_GM_step, by decide, by decide, by decide +kernel⟩
theorem kv_GM_305 : zCv gw nR_GM 305 md_GM_there 1 := ⟨(nw_6_in _ (List.mem_of_getElem? (i := 52) rfl)), (nw_6_in _ (List.mem_of_getElem? (i := 53) rfl)), (nw_6_in _ (List.mem_of_getElem? (i := 54) rfl)), (nw_4_in _ (List.mem_of_getElem? (i := 24) rfl)), kw_GM_there, by decide, by decide, by decide +kernel⟩
theorem kv_Ke_27 : zCv gw nR_Ke 27 md_Ke_isPending 2 := ⟨(nw_6_in _ (List.mem_of_getElem? (i := 55) rfl)), (nw_6_in _ (List.mem_of_getElem? (i := 56) rfl)), (nw_6_in _ (List.mem_of_getElem? (i := 57) rfl)), (nw_3_in _ (List.mem_of_getElem? (i := 27) rfl)), kw_Ke_isPending, by decide, by decide, by decide +kernel⟩
theorem kv_Ke_31 : zCv gw nR_Ke 31 md_Ke_ringIfDue 1 := ⟨(nw_6_in _ (List.mem_of_getElem? (i := 58) rfl)), (nw_6_in _ (List.mem_of_getElem? (i := 59) rfl)), (nw_7_in _ (List.mem_of_getElem? (i := 0) rfl)), (nw_3_in _ (List.mem_of_getElem? (i := 27) rfl)), kw_Ke_ringIfDue, by decide, by decide, by decide +kernel⟩
theorem kv_Ke_35 : zCv gw nR_Ke 35 md_Ke_receive 2 := ⟨(nw_7_in _ (List.mem_of_getElem? (i := 1) rfl)), (nw_7_in _ (List.mem_of_getElem? (i := 2) rfl)), (nw_7_in _ (List.mem_of_getElem? (i := 3) rfl)), (nw_3_in _ (List.mem_of_getElem? (i := 27) rfl)), kw_Ke_receive, by decide, by decide, by decide +kernel⟩
theorem kv_Ke_39 : zCv gw nR_Ke 39 md_Co_addInput 1 := ⟨(nw_7_in _ (List.mem_of_getElem? (i := 4) rfl)), (nw_7_in _ (List.mem_of_getElem? (i := 5) rfl)), (nw_7_in _ (List.mem_of_getElem? (i := 6) rfl)), (nw_3_in _ (List.mem_of_getElem? (i := 19) rfl)), kw_Co_addInput, by decide, by decide, by decide +kernel⟩
theorem kv_Ke_57 : zCv gw nR_Ke 57 md_Me_ramWord 1 := ⟨(nw_7_in _ (List.mem_of_getElem? (i := 7) rfl)), (nw_3_in _ (List.mem_of_getElem? (i := 4) rfl)), (nw_3_in _ (List.mem_of_getElem? (i := 5) rfl)), (nw_2_in _ (List.mem_of_getElem? (i := 39) rfl)), kw_Me_ramWord, by decide, by decide, by decide +kernel⟩
theorem kv_Ke_63 : zCv gw nR_Ke 63 md_Me_setRamWord 2 := ⟨(nw_7_in _ (List.mem_of_getElem? (i := 8) rfl)), (nw_3_in _ (List.mem_of_getElem? (i := 7) rfl)), (nw_3_in _ (List.mem_of_getElem? (i := 8) rfl)), (nw_2_in _ (List.mem_of_getElem? (i := 39) rfl)), kw_Me_setRamWord, by decide, by decide, by decide +kernel⟩
theorem kv_Ke_67 : zCv gw nR_Ke 67 md_Ke_upcall 4 := ⟨(nw_7_in _ (List.mem_of_getElem? (i := 9) rfl)), (nw_7_in _ (List.mem_of_getElem? (i := 10) rfl)), (nw_7_in _ (List.mem_of_getElem? (i := 11) rfl)), (nw_3_in _ (List.mem_of_getElem? (i := 27) rfl)), kw_Ke_upcall, by decide, by decide, by decide +kernel⟩
theorem kv_Ke_92 : zCv gw nR_Ke 92 md_UQ_removeOldest 0 := ⟨(nw_7_in _ (List.mem_of_getElem? (i := 12) rfl)), (nw_7_in _ (List.mem_of_getElem? (i := 13) rfl)), (nw_7_in _ (List.mem_of_getElem? (i := 14) rfl)), (nw_7_in _ (List.mem_of_getElem? (i := 15) rfl)), kw_UQ_removeOldest, by decide, by decide, by decide +kernel⟩
theorem kv_Ke_98 : zCv gw nR_Ke 98 md_No_hasGrant 1 := ⟨(nw_7_in _ (List.mem_of_getElem? (i := 16) rfl)), (nw_3_in _ (List.mem_of_getElem? (i := 57) rfl)), (nw_3_in _ (List.mem_of_getElem? (i := 58) rfl)), (nw_2_in _ (List.mem_of_getElem? (i := 47) rfl)), kw_No_hasGrant, by decide, by decide, by decide +kernel⟩
theorem kv_Ke_101 : zCv gw nR_Ke 101 md_Ke_makeGrant 2 := ⟨(nw_7_in _ (List.mem_of_getElem? (i := 17) rfl)), (nw_7_in _ (List.mem_of_getElem? (i := 18) rfl)), (nw_7_in _ (List.mem_of_getElem? (i := 19) rfl)), (nw_3_in _ (List.mem_of_getElem? (i := 27) rfl)), kw_Ke_makeGrant, by decide, by decide, by decide +kernel⟩
theorem kv_Ke_104 : zCv gw nR_Ke 104 md_Ke_subscribe 4 := ⟨(nw_7_in _ (List.mem_of_getElem? (i := 20) rfl)), (nw_7_in _ (List.mem_of_getElem? (i := 21) rfl)), (nw_7_in _ (List.mem_of_getElem? (i := 22) rfl)), (nw_3_in _ (List.mem_of_getElem? (i := 27) rfl)), kw_Ke_subscribe, by decide, by decide, by decide +kernel⟩
theorem kv_Ke_108 : zCv gw nR_Ke 108 md_Ke_allow 4 := ⟨(nw_7_in _ (List.mem_of_getElem? (i := 23) rfl)), (nw_7_in _ (List.mem_of_getElem? (i := 24) rfl)), (nw_7_in _ (List.mem_of_getElem? (i := 25) rfl)), (nw_3_in _ (List.mem_of_getElem? (i := 27) rfl)), kw_Ke_allow, by decide, by decide, by decide +kernel⟩
theorem kv_Ke_112 : zCv gw nR_Ke 112 md_Ke_commandAlarm 3 := ⟨(nw_7_in _ (List.mem_of_getElem? (i := 26) rfl)), (nw_7_in _ (List.mem_of_getElem? (i := 27) rfl)), (nw_7_in _ (List.mem_of_getElem? (i := 28) rfl)), (nw_3_in _ (List.mem_of_getElem? (i := 27) rfl)), kw_Ke_commandAlarm, by decide, by decide, by decide +kernel⟩
theorem kv_Ke_116 : zCv gw nR_Ke 116 md_Ke_commandConsole 3 := ⟨(nw_7_in _ (List.mem_of_getElem? (i := 29) rfl)), (nw_7_in _ (List.mem_of_getElem? (i := 30) rfl)), (nw_7_in _ (List.mem_of_getElem? (i := 31) rfl)), (nw_3_in _ (List.mem_of_getElem? (i := 27) rfl)), kw_Ke_commandConsole, by decide, by decide, by decide +kernel⟩
theorem kv_Ke_119 : zCv gw nR_Ke 119 md_Ke_commandSensor 2 := ⟨(nw_7_in _ (List.mem_of_getElem? (i := 32) rfl)), (nw_7_in _ (List.mem_of_getElem? (i := 33) rfl)), (nw_7_in _ (List.mem_of_getElem? (i := 34) rfl)), (nw_3_in _ (List.mem_of_getElem? (i := 27) rfl)), kw_Ke_commandSensor, by decide, by decide, by decide +kernel⟩
theorem kv_Ke_126 : zCv gw nR_Ke 126 md_BP_openWordsBefore 1 := ⟨(nw_7_in _ (List.mem_of_getElem? (i := 35) rfl)), (nw_7_in _ (List.mem_of_getElem? (i := 36) rfl)), (nw_7_in _ (List.mem_of_getElem? (i := 37) rfl)), (nw_2_in _ (List.mem_of_getElem? (i := 43) rfl)), kw_BP_openWordsBefore, by decide, by decide, by decide +kernel⟩
theorem kv_Ke_135 : zCv gw nR_Ke 135 md_No_buffersEndBy 1 := ⟨(nw_7_in _ (List.mem_of_getElem? (i := 38) rfl)), (nw_7_in _ (List.mem_of_getElem? (i := 39) rfl)), (nw_7_in _ (List.mem_of_getElem? (i := 40) rfl)), (nw_2_in _ (List.mem_of_getElem? (i := 47) rfl)), kw_No_buffersEndBy, by decide, by decide, by decide +kernel⟩
theorem kv_Ke_144 : zCv gw nR_Ke 144 md_Me_clearRam 2 := ⟨(nw_7_in _ (List.mem_of_getElem? (i := 41) rfl)), (nw_2_in _ (List.mem_of_getElem? (i := 37) rfl)), (nw_2_in _ (List.mem_of_getElem? (i := 38) rfl)), (nw_2_in _ (List.mem_of_getElem? (i := 39) rfl)), kw_Me_clearRam, by decide, by decide, by decide +kernel⟩
theorem kv_Ke_153 : zCv gw nR_Ke 153 md_UQ_removeDriver 1 := ⟨(nw_7_in _ (List.mem_of_getElem? (i := 42) rfl)), (nw_7_in _ (List.mem_of_getElem? (i := 43) rfl)), (nw_7_in _ (List.mem_of_getElem? (i := 44) rfl)), (nw_7_in _ (List.mem_of_getElem? (i := 15) rfl)), kw_UQ_removeDriver, by decide, by decide, by decide +kernel⟩
theorem kv_Ke_157 : zCv gw nR_Ke 157 md_BP_areOpen 2 := ⟨(nw_7_in _ (List.mem_of_getElem? (i := 45) rfl)), (nw_2_in _ (List.mem_of_getElem? (i := 58) rfl)), (nw_2_in _ (List.mem_of_getElem? (i := 59) rfl)), (nw_2_in _ (List.mem_of_getElem? (i := 43) rfl)), kw_BP_areOpen, by decide, by decide, by decide +kernel⟩
theorem kv_Ke_167 : zCv gw nR_Ke 167 md_Ke_setAlarm 2 := ⟨(nw_7_in _ (List.mem_of_getElem? (i := 46) rfl)), (nw_7_in _ (List.mem_of_getElem? (i := 47) rfl)), (nw_7_in _ (List.mem_of_getElem? (i := 48) rfl)), (nw_3_in _ (List.mem_of_getElem? (i := 27) rfl)), kw_Ke_setAlarm, by decide, by decide, by decide +kernel⟩
theorem kv_Ke_171 : zCv gw nR_Ke 171 md_Ke_cancelAlarm 1 := ⟨(nw_7_in _ (List.mem_of_getElem? (i := 49) rfl)), (nw_7_in _ (List.mem_of_getElem? (i := 50) rfl)), (nw_7_in _ (List.mem_of_getElem? (i := 51) rfl)), (nw_3_in _ (List.mem_of_getElem? (i := 27) rfl)), kw_Ke_cancelAlarm, by decide, by decide, by decide +kernel⟩
theorem kv_Ke_174 : zCv gw nR_Ke 174 md_Ke_putOut 2 := ⟨(nw_7_in _ (List.mem_of_getElem? (i := 52) rfl)), (nw_7_in _ (List.mem_of_getElem? (i := 53) rfl)), (nw_7_in _ (List.mem_of_getElem? (i := 54) rfl)), (nw_3_in _ (List.mem_of_getElem? (i := 27) rfl)), kw_Ke_putOut, by decide, by decide, by decide +kernel⟩
theorem kv_Ke_180 : zCv gw nR_Ke 180 md_Co_removeInput 0 := ⟨(nw_7_in _ (List.mem_of_getElem? (i := 55) rfl)), (nw_7_in _ (List.mem_of_getElem? (i := 56) rfl)), (nw_7_in _ (List.mem_of_getElem? (i := 57) rfl)), (nw_3_in _ (List.mem_of_getElem? (i := 19) rfl)), kw_Co_removeInput, by decide, by decide, by decide +kernel⟩
theorem kv_Ke_189 : zCv gw nR_Ke 189 md_Co_addOutput 1 := ⟨(nw_7_in _ (List.mem_of_getElem? (i := 58) rfl)), (nw_7_in _ (List.mem_of_getElem? (i := 59) rfl)), (nw_8_in _ (List.mem_of_getElem? (i := 0) rfl)), (nw_3_in _ (List.mem_of_getElem? (i := 19) rfl)), kw_Co_addOutput, by decide, by decide, by decide +kernel⟩
theorem kv_Ke_192 : zCv gw nR_Ke 192 md_UQ_enqueue 3 := ⟨(nw_8_in _ (List.mem_of_getElem? (i := 1) rfl)), (nw_8_in _ (List.mem_of_getElem? (i := 2) rfl)), (nw_8_in _ (List.mem_of_getElem? (i := 3) rfl)), (nw_7_in _ (List.mem_of_getElem? (i := 15) rfl)), kw_UQ_enqueue, by decide, by decide, by decide +kernel⟩
theorem kv_Lo_19 : zCv gw nR_Lo 19 md_BP_halt 0 := ⟨(nw_8_in _ (List.mem_of_getElem? (i := 4) rfl)), (nw_2_in _ (List.mem_of_getElem? (i := 52) rfl)), (nw_2_in _ (List.mem_of_getElem? (i := 53) rfl)), (nw_2_in _ (List.mem_of_getElem? (i := 43) rfl)), kw_BP_halt, by decide, by decide, by decide +kernel⟩
theorem kv_Lo_24 : zCv gw nR_Lo 24 md_BP_forgetFaults 0 := ⟨(nw_8_in _ (List.mem_of_getElem? (i := 5) rfl)), (nw_8_in _ (List.mem_of_getElem? (i := 6) rfl)), (nw_8_in _ (List.mem_of_getElem? (i := 7) rfl)), (nw_2_in _ (List.mem_of_getElem? (i := 43) rfl)), kw_BP_forgetFaults, by decide, by decide, by decide +kernel⟩
theorem kv_Lo_34 : zCv gw nR_Lo 34 md_Lo_isHeader 1 := ⟨(nw_8_in _ (List.mem_of_getElem? (i := 8) rfl)), (nw_8_in _ (List.mem_of_getElem? (i := 9) rfl)), (nw_8_in _ (List.mem_of_getElem? (i := 10) rfl)), (nw_3_in _ (List.mem_of_getElem? (i := 23) rfl)), kw_Lo_isHeader, by decide, by decide, by decide +kernel⟩
theorem kv_Lo_38 : zCv gw nR_Lo 38 md_Lo_loadAt 1 := ⟨(nw_8_in _ (List.mem_of_getElem? (i := 11) rfl)), (nw_8_in _ (List.mem_of_getElem? (i := 12) rfl)), (nw_8_in _ (List.mem_of_getElem? (i := 13) rfl)), (nw_3_in _ (List.mem_of_getElem? (i := 23) rfl)), kw_Lo_loadAt, by decide, by decide, by decide +kernel⟩
theorem kv_Lo_69 : zCv gw nR_Lo 69 md_BP_begin 0 := ⟨(nw_8_in _ (List.mem_of_getElem? (i := 14) rfl)), (nw_2_in _ (List.mem_of_getElem? (i := 49) rfl)), (nw_2_in _ (List.mem_of_getElem? (i := 50) rfl)), (nw_2_in _ (List.mem_of_getElem? (i := 43) rfl)), kw_BP_begin, by decide, by decide, by decide +kernel⟩
theorem kv_Me_18 : zCv gw nR_Me 18 md_Me_setRamWord 2 := ⟨(nw_8_in _ (List.mem_of_getElem? (i := 15) rfl)), (nw_3_in _ (List.mem_of_getElem? (i := 7) rfl)), (nw_3_in _ (List.mem_of_getElem? (i := 8) rfl)), (nw_2_in _ (List.mem_of_getElem? (i := 39) rfl)), kw_Me_setRamWord, by decide, by decide, by decide +kernel⟩
theorem kv_Pr_21 : zCv gw nR_Pr 21 md_BP_isInCode 1 := ⟨(nw_8_in _ (List.mem_of_getElem? (i := 16) rfl)), (nw_2_in _ (List.mem_of_getElem? (i := 55) rfl)), (nw_2_in _ (List.mem_of_getElem? (i := 56) rfl)), (nw_2_in _ (List.mem_of_getElem? (i := 43) rfl)), kw_BP_isInCode, by decide, by decide, by decide +kernel⟩
theorem kv_Pr_28 : zCv gw nR_Pr 28 md_Me_halfword 1 := ⟨(nw_8_in _ (List.mem_of_getElem? (i := 17) rfl)), (nw_8_in _ (List.mem_of_getElem? (i := 18) rfl)), (nw_8_in _ (List.mem_of_getElem? (i := 19) rfl)), (nw_2_in _ (List.mem_of_getElem? (i := 39) rfl)), kw_Me_halfword, by decide, by decide, by decide +kernel⟩
theorem kv_Pr_34 : zCv gw nR_Pr 34 md_Pr_dispatch 2 := ⟨(nw_8_in _ (List.mem_of_getElem? (i := 20) rfl)), (nw_8_in _ (List.mem_of_getElem? (i := 21) rfl)), (nw_8_in _ (List.mem_of_getElem? (i := 22) rfl)), (nw_4_in _ (List.mem_of_getElem? (i := 7) rfl)), kw_Pr_dispatch, by decide, by decide, by decide +kernel⟩
theorem kv_Pr_38 : zCv gw nR_Pr 38 md_Pr_shiftByNumber 2 := ⟨(nw_8_in _ (List.mem_of_getElem? (i := 23) rfl)), (nw_8_in _ (List.mem_of_getElem? (i := 24) rfl)), (nw_8_in _ (List.mem_of_getElem? (i := 25) rfl)), (nw_4_in _ (List.mem_of_getElem? (i := 7) rfl)), kw_Pr_shiftByNumber, by decide, by decide, by decide +kernel⟩
theorem kv_Pr_41 : zCv gw nR_Pr 41 md_Pr_addThree 2 := ⟨(nw_8_in _ (List.mem_of_getElem? (i := 26) rfl)), (nw_8_in _ (List.mem_of_getElem? (i := 27) rfl)), (nw_8_in _ (List.mem_of_getElem? (i := 28) rfl)), (nw_4_in _ (List.mem_of_getElem? (i := 7) rfl)), kw_Pr_addThree, by decide, by decide, by decide +kernel⟩
theorem kv_Pr_44 : zCv gw nR_Pr 44 md_Pr_withByte 2 := ⟨(nw_8_in _ (List.mem_of_getElem? (i := 29) rfl)), (nw_8_in _ (List.mem_of_getElem? (i := 30) rfl)), (nw_8_in _ (List.mem_of_getElem? (i := 31) rfl)), (nw_4_in _ (List.mem_of_getElem? (i := 7) rfl)), kw_Pr_withByte, by decide, by decide, by decide +kernel⟩
theorem kv_Pr_47 : zCv gw nR_Pr 47 md_Pr_combine 2 := ⟨(nw_8_in _ (List.mem_of_getElem? (i := 32) rfl)), (nw_8_in _ (List.mem_of_getElem? (i := 33) rfl)), (nw_8_in _ (List.mem_of_getElem? (i := 34) rfl)), (nw_4_in _ (List.mem_of_getElem? (i := 7) rfl)), kw_Pr_combine, by decide, by decide, by decide +kernel⟩
theorem kv_Pr_50 : zCv gw nR_Pr 50 md_Pr_jump 2 := ⟨(nw_8_in _ (List.mem_of_getElem? (i := 35) rfl)), (nw_8_in _ (List.mem_of_getElem? (i := 36) rfl)), (nw_8_in _ (List.mem_of_getElem? (i := 37) rfl)), (nw_4_in _ (List.mem_of_getElem? (i := 7) rfl)), kw_Pr_jump, by decide, by decide, by decide +kernel⟩
theorem kv_Pr_53 : zCv gw nR_Pr 53 md_Pr_loadInto 3 := ⟨(nw_8_in _ (List.mem_of_getElem? (i := 38) rfl)), (nw_8_in _ (List.mem_of_getElem? (i := 39) rfl)), (nw_8_in _ (List.mem_of_getElem? (i := 40) rfl)), (nw_4_in _ (List.mem_of_getElem? (i := 7) rfl)), kw_Pr_loadInto, by decide, by decide, by decide +kernel⟩
theorem kv_Pr_61 : zCv gw nR_Pr 61 md_Pr_storeFrom 3 := ⟨(nw_8_in _ (List.mem_of_getElem? (i := 41) rfl)), (nw_8_in _ (List.mem_of_getElem? (i := 42) rfl)), (nw_8_in _ (List.mem_of_getElem? (i := 43) rfl)), (nw_4_in _ (List.mem_of_getElem? (i := 7) rfl)), kw_Pr_storeFrom, by decide, by decide, by decide +kernel⟩
theorem kv_Pr_67 : zCv gw nR_Pr 67 md_Pr_moveStack 2 := ⟨(nw_8_in _ (List.mem_of_getElem? (i := 44) rfl)), (nw_8_in _ (List.mem_of_getElem? (i := 45) rfl)), (nw_8_in _ (List.mem_of_getElem? (i := 46) rfl)), (nw_4_in _ (List.mem_of_getElem? (i := 7) rfl)), kw_Pr_moveStack, by decide, by decide, by decide +kernel⟩
theorem kv_Pr_70 : zCv gw nR_Pr 70 md_Pr_push 2 := ⟨(nw_8_in _ (List.mem_of_getElem? (i := 47) rfl)), (nw_8_in _ (List.mem_of_getElem? (i := 48) rfl)), (nw_8_in _ (List.mem_of_getElem? (i := 49) rfl)), (nw_4_in _ (List.mem_of_getElem? (i := 7) rfl)), kw_Pr_push, by decide, by decide, by decide +kernel⟩
theorem kv_Pr_73 : zCv gw nR_Pr 73 md_Pr_pop 2 := ⟨(nw_8_in _ (List.mem_of_getElem? (i := 50) rfl)), (nw_8_in _ (List.mem_of_getElem? (i := 51) rfl)), (nw_8_in _ (List.mem_of_getElem? (i := 52) rfl)), (nw_4_in _ (List.mem_of_getElem? (i := 7) rfl)), kw_Pr_pop, by decide, by decide, by decide +kernel⟩
theorem kv_Pr_76 : zCv gw nR_Pr 76 md_Pr_branchIf 2 := ⟨(nw_8_in _ (List.mem_of_getElem? (i := 53) rfl)), (nw_8_in _ (List.mem_of_getElem? (i := 54) rfl)), (nw_8_in _ (List.mem_of_getElem? (i := 55) rfl)), (nw_4_in _ (List.mem_of_getElem? (i := 7) rfl)), kw_Pr_branchIf, by decide, by decide, by decide +kernel⟩
theorem kv_Pr_79 : zCv gw nR_Pr 79 md_Pr_shift 4 := ⟨(nw_8_in _ (List.mem_of_getElem? (i := 56) rfl)), (nw_8_in _ (List.mem_of_getElem? (i := 57) rfl)), (nw_8_in _ (List.mem_of_getElem? (i := 58) rfl)), (nw_4_in _ (List.mem_of_getElem? (i := 7) rfl)), kw_Pr_shift, by decide, by decide, by decide +kernel⟩
theorem kv_Pr_83 : zCv gw nR_Pr 83 md_Pr_add 4 := ⟨(nw_8_in _ (List.mem_of_getElem? (i := 59) rfl)), (nw_9_in _ (List.mem_of_getElem? (i := 0) rfl)), (nw_9_in _ (List.mem_of_getElem? (i := 1) rfl)), (nw_4_in _ (List.mem_of_getElem? (i := 7) rfl)), kw_Pr_add, by decide, by decide, by decide +kernel⟩
theorem kv_Pr_86 : zCv gw nR_Pr 86 md_Pr_setSigns 2 := ⟨(nw_9_in _ (List.mem_of_getElem? (i := 2) rfl)), (nw_9_in _ (List.mem_of_getElem? (i := 3) rfl)), (nw_9_in _ (List.mem_of_getElem? (i := 4) rfl)), (nw_4_in _ (List.mem_of_getElem? (i := 7) rfl)), kw_Pr_setSigns, by decide, by decide, by decide +kernel⟩
theorem kv_Pr_93 : zCv gw nR_Pr 93 md_Pr_rotate 3 := ⟨(nw_9_in _ (List.mem_of_getElem? (i := 5) rfl)), (nw_9_in _ (List.mem_of_getElem? (i := 6) rfl)), (nw_9_in _ (List.mem_of_getElem? (i := 7) rfl)), (nw_4_in _ (List.mem_of_getElem? (i := 7) rfl)), kw_Pr_rotate, by decide, by decide, by decide +kernel⟩
theorem kv_Pr_96 : zCv gw nR_Pr 96 md_Pr_bitwise 3 := ⟨(nw_9_in _ (List.mem_of_getElem? (i := 8) rfl)), (nw_9_in _ (List.mem_of_getElem? (i := 9) rfl)), (nw_9_in _ (List.mem_of_getElem? (i := 10) rfl)), (nw_4_in _ (List.mem_of_getElem? (i := 7) rfl)), kw_Pr_bitwise, by decide, by decide, by decide +kernel⟩
theorem kv_Pr_103 : zCv gw nR_Pr 103 md_BP_mayLoad 1 := ⟨(nw_9_in _ (List.mem_of_getElem? (i := 11) rfl)), (nw_9_in _ (List.mem_of_getElem? (i := 12) rfl)), (nw_9_in _ (List.mem_of_getElem? (i := 13) rfl)), (nw_2_in _ (List.mem_of_getElem? (i := 43) rfl)), kw_BP_mayLoad, by decide, by decide, by decide +kernel⟩
theorem kv_Pr_106 : zCv gw nR_Pr 106 md_BP_readWord 1 := ⟨(nw_9_in _ (List.mem_of_getElem? (i := 14) rfl)), (nw_9_in _ (List.mem_of_getElem? (i := 15) rfl)), (nw_9_in _ (List.mem_of_getElem? (i := 16) rfl)), (nw_2_in _ (List.mem_of_getElem? (i := 43) rfl)), kw_BP_readWord, by decide, by decide, by decide +kernel⟩
theorem kv_Pr_109 : zCv gw nR_Pr 109 md_BP_areOpen 2 := ⟨(nw_9_in _ (List.mem_of_getElem? (i := 17) rfl)), (nw_2_in _ (List.mem_of_getElem? (i := 58) rfl)), (nw_2_in _ (List.mem_of_getElem? (i := 59) rfl)), (nw_2_in _ (List.mem_of_getElem? (i := 43) rfl)), kw_BP_areOpen, by decide, by decide, by decide +kernel⟩
theorem kv_Pr_113 : zCv gw nR_Pr 113 md_Me_setRamWord 2 := ⟨(nw_9_in _ (List.mem_of_getElem? (i := 18) rfl)), (nw_3_in _ (List.mem_of_getElem? (i := 7) rfl)), (nw_3_in _ (List.mem_of_getElem? (i := 8) rfl)), (nw_2_in _ (List.mem_of_getElem? (i := 39) rfl)), kw_Me_setRamWord, by decide, by decide, by decide +kernel⟩
theorem kv_Pr_122 : zCv gw nR_Pr 122 md_Pr_holds 2 := ⟨(nw_9_in _ (List.mem_of_getElem? (i := 19) rfl)), (nw_9_in _ (List.mem_of_getElem? (i := 20) rfl)), (nw_9_in _ (List.mem_of_getElem? (i := 21) rfl)), (nw_4_in _ (List.mem_of_getElem? (i := 7) rfl)), kw_Pr_holds, by decide, by decide, by decide +kernel⟩
theorem kv_Pr_133 : zCv gw nR_Pr 133 md_Pr_setCarry 2 := ⟨(nw_9_in _ (List.mem_of_getElem? (i := 22) rfl)), (nw_9_in _ (List.mem_of_getElem? (i := 23) rfl)), (nw_9_in _ (List.mem_of_getElem? (i := 24) rfl)), (nw_4_in _ (List.mem_of_getElem? (i := 7) rfl)), kw_Pr_setCarry, by decide, by decide, by decide +kernel⟩
theorem kv_UQ_23 : zCv gw nR_UQ 23 md_UQ_move 2 := ⟨(nw_9_in _ (List.mem_of_getElem? (i := 25) rfl)), (nw_9_in _ (List.mem_of_getElem? (i := 26) rfl)), (nw_9_in _ (List.mem_of_getElem? (i := 27) rfl)), (nw_7_in _ (List.mem_of_getElem? (i := 15) rfl)), kw_UQ_move, by decide, by decide, by decide +kernel⟩
theorem ks_GM_202 : zCs gw nR_GM 202 md_GM_named 1 := ⟨(nw_9_in _ (List.mem_of_getElem? (i := 28) rfl)), (nw_9_in _ (List.mem_of_getElem? (i := 29) rfl)), (nw_4_in _ (List.mem_of_getElem? (i := 24) rfl)), kw_GM_named, by decide, by decide, by decide +kernel⟩
theorem ks_Pr_117 : zCs gw nR_Pr 117 md_JI_bitCount 1 := ⟨(nw_9_in _ (List.mem_of_getElem? (i := 30) rfl)), (nw_9_in _ (List.mem_of_getElem? (i := 31) rfl)), (nw_9_in _ (List.mem_of_getElem? (i := 32) rfl)), kw_JI_bitCount, by decide, by decide, by decide +kernel⟩
theorem km_Co_23 : Cond.methodLink nR_Co 23 Lib.Math.max.name ∈ gw := (nw_9_in _ (List.mem_of_getElem? (i := 33) rfl))
theorem km_Ke_184 : Cond.methodLink nR_Ke 184 Lib.Math.min.name ∈ gw := (nw_9_in _ (List.mem_of_getElem? (i := 34) rfl))
theorem km_Pr_125 : Cond.methodLink nR_Pr 125 Lib.Math.min.name ∈ gw := (nw_9_in _ (List.mem_of_getElem? (i := 35) rfl))
theorem km_UQ_27 : Cond.methodLink nR_UQ 27 Lib.Math.max.name ∈ gw := (nw_9_in _ (List.mem_of_getElem? (i := 36) rfl))
theorem km_max_st : Cond.static Lib.Math.max.name ∈ gw := (nw_9_in _ (List.mem_of_getElem? (i := 37) rfl))
theorem km_max_code : Cond.code Lib.Math.max.name Lib.Math.max.code 2 (some .int) ∈ gw := gw_in (tb_3 (List.mem_of_getElem? (i := 66) rfl)) rfl
theorem km_min_st : Cond.static Lib.Math.min.name ∈ gw := (nw_9_in _ (List.mem_of_getElem? (i := 38) rfl))
theorem km_min_code : Cond.code Lib.Math.min.name Lib.Math.min.code 2 (some .int) ∈ gw := gw_in (tb_2 (List.mem_of_getElem? (i := 191) rfl)) rfl
theorem km_ini : Cond.initialized "java/lang/Math" ∈ gw := (nw_9_in _ (List.mem_of_getElem? (i := 39) rfl))
end
