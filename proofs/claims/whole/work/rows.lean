section
-- ===== PART A: goes FIRST, ahead of the names: the tables' words, and 'selects' of the private methods out of them =====
/-- a private method of a class that the tables say can be made, by its rows of tables_1 -/
def lw_okq (q : MethodName × Nat) : Prop := (q.1.cls ≠ "java/lang/invoke/MethodHandle" ∧ q.1.cls ≠ "java/lang/invoke/VarHandle") ∧ Cond.instantiable q.1.cls q.2 ∈ tables_1 ∧ Cond.privateMethod q.1 ∈ tables_1 ∧ Cond.instanceMethod q.1 ∈ tables_1
theorem lw_p0 : lw_okq (⟨"GrantKernel$BoardProcess", "loseNotes", "()V"⟩, 20) := ⟨⟨by decide +kernel, by decide +kernel⟩, List.mem_of_getElem? (i := 40) (by decide +kernel), List.mem_of_getElem? (i := 327) (by decide +kernel), List.mem_of_getElem? (i := 328) (by decide +kernel)⟩
theorem lw_p1 : lw_okq (⟨"GrantKernel$Loader", "isHeader", "(I)Z"⟩, 4) := ⟨⟨by decide +kernel, by decide +kernel⟩, List.mem_of_getElem? (i := 238) (by decide +kernel), List.mem_of_getElem? (i := 339) (by decide +kernel), List.mem_of_getElem? (i := 340) (by decide +kernel)⟩
theorem lw_p2 : lw_okq (⟨"GrantKernel$Loader", "loadAt", "(I)V"⟩, 4) := ⟨⟨by decide +kernel, by decide +kernel⟩, List.mem_of_getElem? (i := 238) (by decide +kernel), List.mem_of_getElem? (i := 343) (by decide +kernel), List.mem_of_getElem? (i := 344) (by decide +kernel)⟩
theorem lw_p3 : lw_okq (⟨"GrantKernel$Kernel", "isPending", "(LGrantKernel$BoardProcess;I)Z"⟩, 4) := ⟨⟨by decide +kernel, by decide +kernel⟩, List.mem_of_getElem? (i := 218) (by decide +kernel), List.mem_of_getElem? (i := 360) (by decide +kernel), List.mem_of_getElem? (i := 361) (by decide +kernel)⟩
theorem lw_p4 : lw_okq (⟨"GrantKernel$Kernel", "ringIfDue", "(LGrantKernel$BoardProcess;)V"⟩, 4) := ⟨⟨by decide +kernel, by decide +kernel⟩, List.mem_of_getElem? (i := 218) (by decide +kernel), List.mem_of_getElem? (i := 372) (by decide +kernel), List.mem_of_getElem? (i := 373) (by decide +kernel)⟩
theorem lw_p5 : lw_okq (⟨"GrantKernel$Kernel", "upcall", "(LGrantKernel$BoardProcess;III)V"⟩, 4) := ⟨⟨by decide +kernel, by decide +kernel⟩, List.mem_of_getElem? (i := 218) (by decide +kernel), List.mem_of_getElem? (i := 377) (by decide +kernel), List.mem_of_getElem? (i := 378) (by decide +kernel)⟩
theorem lw_p6 : lw_okq (⟨"GrantKernel", "giveTurn", "()Z"⟩, 9) := ⟨⟨by decide +kernel, by decide +kernel⟩, List.mem_of_getElem? (i := 14) (by decide +kernel), List.mem_of_getElem? (i := 385) (by decide +kernel), List.mem_of_getElem? (i := 386) (by decide +kernel)⟩
theorem lw_p7 : lw_okq (⟨"GrantKernel", "doInstruction", "(LGrantKernel$BoardProcess;)I"⟩, 9) := ⟨⟨by decide +kernel, by decide +kernel⟩, List.mem_of_getElem? (i := 14) (by decide +kernel), List.mem_of_getElem? (i := 389) (by decide +kernel), List.mem_of_getElem? (i := 390) (by decide +kernel)⟩
theorem lw_p8 : lw_okq (⟨"GrantKernel$Processor", "dispatch", "(LGrantKernel$BoardProcess;I)I"⟩, 2) := ⟨⟨by decide +kernel, by decide +kernel⟩, List.mem_of_getElem? (i := 257) (by decide +kernel), List.mem_of_getElem? (i := 418) (by decide +kernel), List.mem_of_getElem? (i := 419) (by decide +kernel)⟩
theorem lw_p9 : lw_okq (⟨"GrantKernel$Processor", "shiftByNumber", "(LGrantKernel$BoardProcess;I)I"⟩, 2) := ⟨⟨by decide +kernel, by decide +kernel⟩, List.mem_of_getElem? (i := 257) (by decide +kernel), List.mem_of_getElem? (i := 422) (by decide +kernel), List.mem_of_getElem? (i := 423) (by decide +kernel)⟩
theorem lw_p10 : lw_okq (⟨"GrantKernel$Processor", "shift", "(LGrantKernel$BoardProcess;III)I"⟩, 2) := ⟨⟨by decide +kernel, by decide +kernel⟩, List.mem_of_getElem? (i := 257) (by decide +kernel), List.mem_of_getElem? (i := 426) (by decide +kernel), List.mem_of_getElem? (i := 427) (by decide +kernel)⟩
theorem lw_p11 : lw_okq (⟨"GrantKernel$Processor", "setCarry", "(LGrantKernel$BoardProcess;Z)V"⟩, 2) := ⟨⟨by decide +kernel, by decide +kernel⟩, List.mem_of_getElem? (i := 257) (by decide +kernel), List.mem_of_getElem? (i := 434) (by decide +kernel), List.mem_of_getElem? (i := 435) (by decide +kernel)⟩
theorem lw_p12 : lw_okq (⟨"GrantKernel$Processor", "setSigns", "(LGrantKernel$BoardProcess;I)V"⟩, 2) := ⟨⟨by decide +kernel, by decide +kernel⟩, List.mem_of_getElem? (i := 257) (by decide +kernel), List.mem_of_getElem? (i := 438) (by decide +kernel), List.mem_of_getElem? (i := 439) (by decide +kernel)⟩
theorem lw_p13 : lw_okq (⟨"GrantKernel$Processor", "addThree", "(LGrantKernel$BoardProcess;I)I"⟩, 2) := ⟨⟨by decide +kernel, by decide +kernel⟩, List.mem_of_getElem? (i := 257) (by decide +kernel), List.mem_of_getElem? (i := 442) (by decide +kernel), List.mem_of_getElem? (i := 443) (by decide +kernel)⟩
theorem lw_p14 : lw_okq (⟨"GrantKernel$Processor", "add", "(LGrantKernel$BoardProcess;III)I"⟩, 2) := ⟨⟨by decide +kernel, by decide +kernel⟩, List.mem_of_getElem? (i := 257) (by decide +kernel), List.mem_of_getElem? (i := 446) (by decide +kernel), List.mem_of_getElem? (i := 447) (by decide +kernel)⟩
theorem lw_p15 : lw_okq (⟨"GrantKernel$Processor", "withByte", "(LGrantKernel$BoardProcess;I)I"⟩, 2) := ⟨⟨by decide +kernel, by decide +kernel⟩, List.mem_of_getElem? (i := 257) (by decide +kernel), List.mem_of_getElem? (i := 450) (by decide +kernel), List.mem_of_getElem? (i := 451) (by decide +kernel)⟩
def lw_privs_1 : List (MethodName × Nat) := [(⟨"GrantKernel$BoardProcess", "loseNotes", "()V"⟩, 20), (⟨"GrantKernel$Loader", "isHeader", "(I)Z"⟩, 4), (⟨"GrantKernel$Loader", "loadAt", "(I)V"⟩, 4), (⟨"GrantKernel$Kernel", "isPending", "(LGrantKernel$BoardProcess;I)Z"⟩, 4), (⟨"GrantKernel$Kernel", "ringIfDue", "(LGrantKernel$BoardProcess;)V"⟩, 4), (⟨"GrantKernel$Kernel", "upcall", "(LGrantKernel$BoardProcess;III)V"⟩, 4), (⟨"GrantKernel", "giveTurn", "()Z"⟩, 9), (⟨"GrantKernel", "doInstruction", "(LGrantKernel$BoardProcess;)I"⟩, 9), (⟨"GrantKernel$Processor", "dispatch", "(LGrantKernel$BoardProcess;I)I"⟩, 2), (⟨"GrantKernel$Processor", "shiftByNumber", "(LGrantKernel$BoardProcess;I)I"⟩, 2), (⟨"GrantKernel$Processor", "shift", "(LGrantKernel$BoardProcess;III)I"⟩, 2), (⟨"GrantKernel$Processor", "setCarry", "(LGrantKernel$BoardProcess;Z)V"⟩, 2), (⟨"GrantKernel$Processor", "setSigns", "(LGrantKernel$BoardProcess;I)V"⟩, 2), (⟨"GrantKernel$Processor", "addThree", "(LGrantKernel$BoardProcess;I)I"⟩, 2), (⟨"GrantKernel$Processor", "add", "(LGrantKernel$BoardProcess;III)I"⟩, 2), (⟨"GrantKernel$Processor", "withByte", "(LGrantKernel$BoardProcess;I)I"⟩, 2)]
theorem lw_r1 : ∀ q ∈ lw_privs_1, lw_okq q := List.forall_mem_cons.mpr ⟨lw_p0, List.forall_mem_cons.mpr ⟨lw_p1, List.forall_mem_cons.mpr ⟨lw_p2, List.forall_mem_cons.mpr ⟨lw_p3, List.forall_mem_cons.mpr ⟨lw_p4, List.forall_mem_cons.mpr ⟨lw_p5, List.forall_mem_cons.mpr ⟨lw_p6, List.forall_mem_cons.mpr ⟨lw_p7, List.forall_mem_cons.mpr ⟨lw_p8, List.forall_mem_cons.mpr ⟨lw_p9, List.forall_mem_cons.mpr ⟨lw_p10, List.forall_mem_cons.mpr ⟨lw_p11, List.forall_mem_cons.mpr ⟨lw_p12, List.forall_mem_cons.mpr ⟨lw_p13, List.forall_mem_cons.mpr ⟨lw_p14, List.forall_mem_cons.mpr ⟨lw_p15, fun _ h => absurd h List.not_mem_nil⟩⟩⟩⟩⟩⟩⟩⟩⟩⟩⟩⟩⟩⟩⟩⟩
theorem lw_p16 : lw_okq (⟨"GrantKernel$Processor", "combine", "(LGrantKernel$BoardProcess;I)I"⟩, 2) := ⟨⟨by decide +kernel, by decide +kernel⟩, List.mem_of_getElem? (i := 257) (by decide +kernel), List.mem_of_getElem? (i := 454) (by decide +kernel), List.mem_of_getElem? (i := 455) (by decide +kernel)⟩
theorem lw_p17 : lw_okq (⟨"GrantKernel$Processor", "rotate", "(LGrantKernel$BoardProcess;II)I"⟩, 2) := ⟨⟨by decide +kernel, by decide +kernel⟩, List.mem_of_getElem? (i := 257) (by decide +kernel), List.mem_of_getElem? (i := 458) (by decide +kernel), List.mem_of_getElem? (i := 459) (by decide +kernel)⟩
theorem lw_p18 : lw_okq (⟨"GrantKernel$Processor", "bitwise", "(III)I"⟩, 2) := ⟨⟨by decide +kernel, by decide +kernel⟩, List.mem_of_getElem? (i := 257) (by decide +kernel), List.mem_of_getElem? (i := 462) (by decide +kernel), List.mem_of_getElem? (i := 463) (by decide +kernel)⟩
theorem lw_p19 : lw_okq (⟨"GrantKernel$Processor", "jump", "(LGrantKernel$BoardProcess;I)I"⟩, 2) := ⟨⟨by decide +kernel, by decide +kernel⟩, List.mem_of_getElem? (i := 257) (by decide +kernel), List.mem_of_getElem? (i := 466) (by decide +kernel), List.mem_of_getElem? (i := 467) (by decide +kernel)⟩
theorem lw_p20 : lw_okq (⟨"GrantKernel$Processor", "loadInto", "(LGrantKernel$BoardProcess;II)I"⟩, 2) := ⟨⟨by decide +kernel, by decide +kernel⟩, List.mem_of_getElem? (i := 257) (by decide +kernel), List.mem_of_getElem? (i := 470) (by decide +kernel), List.mem_of_getElem? (i := 471) (by decide +kernel)⟩
theorem lw_p21 : lw_okq (⟨"GrantKernel$Processor", "storeFrom", "(LGrantKernel$BoardProcess;II)I"⟩, 2) := ⟨⟨by decide +kernel, by decide +kernel⟩, List.mem_of_getElem? (i := 257) (by decide +kernel), List.mem_of_getElem? (i := 487) (by decide +kernel), List.mem_of_getElem? (i := 488) (by decide +kernel)⟩
theorem lw_p22 : lw_okq (⟨"GrantKernel$Processor", "moveStack", "(LGrantKernel$BoardProcess;I)I"⟩, 2) := ⟨⟨by decide +kernel, by decide +kernel⟩, List.mem_of_getElem? (i := 257) (by decide +kernel), List.mem_of_getElem? (i := 493) (by decide +kernel), List.mem_of_getElem? (i := 494) (by decide +kernel)⟩
theorem lw_p23 : lw_okq (⟨"GrantKernel$Processor", "push", "(LGrantKernel$BoardProcess;I)I"⟩, 2) := ⟨⟨by decide +kernel, by decide +kernel⟩, List.mem_of_getElem? (i := 257) (by decide +kernel), List.mem_of_getElem? (i := 497) (by decide +kernel), List.mem_of_getElem? (i := 498) (by decide +kernel)⟩
theorem lw_p24 : lw_okq (⟨"GrantKernel$Processor", "pop", "(LGrantKernel$BoardProcess;I)I"⟩, 2) := ⟨⟨by decide +kernel, by decide +kernel⟩, List.mem_of_getElem? (i := 257) (by decide +kernel), List.mem_of_getElem? (i := 507) (by decide +kernel), List.mem_of_getElem? (i := 508) (by decide +kernel)⟩
theorem lw_p25 : lw_okq (⟨"GrantKernel$Processor", "branchIf", "(LGrantKernel$BoardProcess;I)I"⟩, 2) := ⟨⟨by decide +kernel, by decide +kernel⟩, List.mem_of_getElem? (i := 257) (by decide +kernel), List.mem_of_getElem? (i := 511) (by decide +kernel), List.mem_of_getElem? (i := 512) (by decide +kernel)⟩
theorem lw_p26 : lw_okq (⟨"GrantKernel$Processor", "holds", "(II)Z"⟩, 2) := ⟨⟨by decide +kernel, by decide +kernel⟩, List.mem_of_getElem? (i := 257) (by decide +kernel), List.mem_of_getElem? (i := 515) (by decide +kernel), List.mem_of_getElem? (i := 516) (by decide +kernel)⟩
theorem lw_p27 : lw_okq (⟨"GrantKernel", "serve", "(LGrantKernel$BoardProcess;I)I"⟩, 9) := ⟨⟨by decide +kernel, by decide +kernel⟩, List.mem_of_getElem? (i := 14) (by decide +kernel), List.mem_of_getElem? (i := 519) (by decide +kernel), List.mem_of_getElem? (i := 520) (by decide +kernel)⟩
theorem lw_p28 : lw_okq (⟨"GrantKernel$UpcallQueue", "move", "(II)V"⟩, 4) := ⟨⟨by decide +kernel, by decide +kernel⟩, List.mem_of_getElem? (i := 52) (by decide +kernel), List.mem_of_getElem? (i := 541) (by decide +kernel), List.mem_of_getElem? (i := 542) (by decide +kernel)⟩
theorem lw_p29 : lw_okq (⟨"GrantKernel$Kernel", "makeGrant", "(LGrantKernel$BoardProcess;I)Z"⟩, 4) := ⟨⟨by decide +kernel, by decide +kernel⟩, List.mem_of_getElem? (i := 218) (by decide +kernel), List.mem_of_getElem? (i := 552) (by decide +kernel), List.mem_of_getElem? (i := 553) (by decide +kernel)⟩
theorem lw_p30 : lw_okq (⟨"GrantKernel$Kernel", "subscribe", "(LGrantKernel$Notes;III)I"⟩, 4) := ⟨⟨by decide +kernel, by decide +kernel⟩, List.mem_of_getElem? (i := 218) (by decide +kernel), List.mem_of_getElem? (i := 565) (by decide +kernel), List.mem_of_getElem? (i := 566) (by decide +kernel)⟩
theorem lw_p31 : lw_okq (⟨"GrantKernel$Kernel", "allow", "(LGrantKernel$BoardProcess;III)I"⟩, 4) := ⟨⟨by decide +kernel, by decide +kernel⟩, List.mem_of_getElem? (i := 218) (by decide +kernel), List.mem_of_getElem? (i := 573) (by decide +kernel), List.mem_of_getElem? (i := 574) (by decide +kernel)⟩
def lw_privs_2 : List (MethodName × Nat) := [(⟨"GrantKernel$Processor", "combine", "(LGrantKernel$BoardProcess;I)I"⟩, 2), (⟨"GrantKernel$Processor", "rotate", "(LGrantKernel$BoardProcess;II)I"⟩, 2), (⟨"GrantKernel$Processor", "bitwise", "(III)I"⟩, 2), (⟨"GrantKernel$Processor", "jump", "(LGrantKernel$BoardProcess;I)I"⟩, 2), (⟨"GrantKernel$Processor", "loadInto", "(LGrantKernel$BoardProcess;II)I"⟩, 2), (⟨"GrantKernel$Processor", "storeFrom", "(LGrantKernel$BoardProcess;II)I"⟩, 2), (⟨"GrantKernel$Processor", "moveStack", "(LGrantKernel$BoardProcess;I)I"⟩, 2), (⟨"GrantKernel$Processor", "push", "(LGrantKernel$BoardProcess;I)I"⟩, 2), (⟨"GrantKernel$Processor", "pop", "(LGrantKernel$BoardProcess;I)I"⟩, 2), (⟨"GrantKernel$Processor", "branchIf", "(LGrantKernel$BoardProcess;I)I"⟩, 2), (⟨"GrantKernel$Processor", "holds", "(II)Z"⟩, 2), (⟨"GrantKernel", "serve", "(LGrantKernel$BoardProcess;I)I"⟩, 9), (⟨"GrantKernel$UpcallQueue", "move", "(II)V"⟩, 4), (⟨"GrantKernel$Kernel", "makeGrant", "(LGrantKernel$BoardProcess;I)Z"⟩, 4), (⟨"GrantKernel$Kernel", "subscribe", "(LGrantKernel$Notes;III)I"⟩, 4), (⟨"GrantKernel$Kernel", "allow", "(LGrantKernel$BoardProcess;III)I"⟩, 4)]
theorem lw_r2 : ∀ q ∈ lw_privs_2, lw_okq q := List.forall_mem_cons.mpr ⟨lw_p16, List.forall_mem_cons.mpr ⟨lw_p17, List.forall_mem_cons.mpr ⟨lw_p18, List.forall_mem_cons.mpr ⟨lw_p19, List.forall_mem_cons.mpr ⟨lw_p20, List.forall_mem_cons.mpr ⟨lw_p21, List.forall_mem_cons.mpr ⟨lw_p22, List.forall_mem_cons.mpr ⟨lw_p23, List.forall_mem_cons.mpr ⟨lw_p24, List.forall_mem_cons.mpr ⟨lw_p25, List.forall_mem_cons.mpr ⟨lw_p26, List.forall_mem_cons.mpr ⟨lw_p27, List.forall_mem_cons.mpr ⟨lw_p28, List.forall_mem_cons.mpr ⟨lw_p29, List.forall_mem_cons.mpr ⟨lw_p30, List.forall_mem_cons.mpr ⟨lw_p31, fun _ h => absurd h List.not_mem_nil⟩⟩⟩⟩⟩⟩⟩⟩⟩⟩⟩⟩⟩⟩⟩⟩
theorem lw_p32 : lw_okq (⟨"GrantKernel$Kernel", "commandAlarm", "(LGrantKernel$BoardProcess;II)I"⟩, 4) := ⟨⟨by decide +kernel, by decide +kernel⟩, List.mem_of_getElem? (i := 218) (by decide +kernel), List.mem_of_getElem? (i := 578) (by decide +kernel), List.mem_of_getElem? (i := 579) (by decide +kernel)⟩
theorem lw_p33 : lw_okq (⟨"GrantKernel$Kernel", "setAlarm", "(II)I"⟩, 4) := ⟨⟨by decide +kernel, by decide +kernel⟩, List.mem_of_getElem? (i := 218) (by decide +kernel), List.mem_of_getElem? (i := 582) (by decide +kernel), List.mem_of_getElem? (i := 583) (by decide +kernel)⟩
theorem lw_p34 : lw_okq (⟨"GrantKernel$Kernel", "cancelAlarm", "(I)I"⟩, 4) := ⟨⟨by decide +kernel, by decide +kernel⟩, List.mem_of_getElem? (i := 218) (by decide +kernel), List.mem_of_getElem? (i := 586) (by decide +kernel), List.mem_of_getElem? (i := 587) (by decide +kernel)⟩
theorem lw_p35 : lw_okq (⟨"GrantKernel$Kernel", "commandConsole", "(LGrantKernel$BoardProcess;II)I"⟩, 4) := ⟨⟨by decide +kernel, by decide +kernel⟩, List.mem_of_getElem? (i := 218) (by decide +kernel), List.mem_of_getElem? (i := 590) (by decide +kernel), List.mem_of_getElem? (i := 591) (by decide +kernel)⟩
theorem lw_p36 : lw_okq (⟨"GrantKernel$Kernel", "putOut", "(LGrantKernel$BoardProcess;I)I"⟩, 4) := ⟨⟨by decide +kernel, by decide +kernel⟩, List.mem_of_getElem? (i := 218) (by decide +kernel), List.mem_of_getElem? (i := 594) (by decide +kernel), List.mem_of_getElem? (i := 595) (by decide +kernel)⟩
theorem lw_p37 : lw_okq (⟨"GrantKernel$Kernel", "receive", "(LGrantKernel$BoardProcess;I)V"⟩, 4) := ⟨⟨by decide +kernel, by decide +kernel⟩, List.mem_of_getElem? (i := 218) (by decide +kernel), List.mem_of_getElem? (i := 608) (by decide +kernel), List.mem_of_getElem? (i := 609) (by decide +kernel)⟩
theorem lw_p38 : lw_okq (⟨"GrantKernel$Kernel", "commandSensor", "(LGrantKernel$BoardProcess;I)I"⟩, 4) := ⟨⟨by decide +kernel, by decide +kernel⟩, List.mem_of_getElem? (i := 218) (by decide +kernel), List.mem_of_getElem? (i := 612) (by decide +kernel), List.mem_of_getElem? (i := 613) (by decide +kernel)⟩
theorem lw_p39 : lw_okq (⟨"GrantKernel", "endStep", "(LGrantKernel$BoardProcess;I)V"⟩, 9) := ⟨⟨by decide +kernel, by decide +kernel⟩, List.mem_of_getElem? (i := 14) (by decide +kernel), List.mem_of_getElem? (i := 617) (by decide +kernel), List.mem_of_getElem? (i := 618) (by decide +kernel)⟩
theorem lw_p40 : lw_okq (⟨"GrantKernel", "find", "(I)LGrantKernel$BoardProcess;"⟩, 9) := ⟨⟨by decide +kernel, by decide +kernel⟩, List.mem_of_getElem? (i := 14) (by decide +kernel), List.mem_of_getElem? (i := 671) (by decide +kernel), List.mem_of_getElem? (i := 672) (by decide +kernel)⟩
theorem lw_p41 : lw_okq (⟨"GrantKernelModel", "load", "(III)V"⟩, 40) := ⟨⟨by decide +kernel, by decide +kernel⟩, List.mem_of_getElem? (i := 722) (by decide +kernel), List.mem_of_getElem? (i := 859) (by decide +kernel), List.mem_of_getElem? (i := 860) (by decide +kernel)⟩
theorem lw_p42 : lw_okq (⟨"GrantKernelModel", "begin", "(I)V"⟩, 40) := ⟨⟨by decide +kernel, by decide +kernel⟩, List.mem_of_getElem? (i := 722) (by decide +kernel), List.mem_of_getElem? (i := 863) (by decide +kernel), List.mem_of_getElem? (i := 864) (by decide +kernel)⟩
theorem lw_p43 : lw_okq (⟨"GrantKernelModel", "forget", "(I)V"⟩, 40) := ⟨⟨by decide +kernel, by decide +kernel⟩, List.mem_of_getElem? (i := 722) (by decide +kernel), List.mem_of_getElem? (i := 867) (by decide +kernel), List.mem_of_getElem? (i := 868) (by decide +kernel)⟩
theorem lw_p44 : lw_okq (⟨"GrantKernelModel", "drop", "(II)V"⟩, 40) := ⟨⟨by decide +kernel, by decide +kernel⟩, List.mem_of_getElem? (i := 722) (by decide +kernel), List.mem_of_getElem? (i := 871) (by decide +kernel), List.mem_of_getElem? (i := 872) (by decide +kernel)⟩
theorem lw_p45 : lw_okq (⟨"GrantKernelModel", "move", "(II)V"⟩, 40) := ⟨⟨by decide +kernel, by decide +kernel⟩, List.mem_of_getElem? (i := 722) (by decide +kernel), List.mem_of_getElem? (i := 875) (by decide +kernel), List.mem_of_getElem? (i := 876) (by decide +kernel)⟩
theorem lw_p46 : lw_okq (⟨"GrantKernelModel", "alarms", "()V"⟩, 40) := ⟨⟨by decide +kernel, by decide +kernel⟩, List.mem_of_getElem? (i := 722) (by decide +kernel), List.mem_of_getElem? (i := 883) (by decide +kernel), List.mem_of_getElem? (i := 884) (by decide +kernel)⟩
theorem lw_p47 : lw_okq (⟨"GrantKernelModel", "note", "(III)I"⟩, 40) := ⟨⟨by decide +kernel, by decide +kernel⟩, List.mem_of_getElem? (i := 722) (by decide +kernel), List.mem_of_getElem? (i := 887) (by decide +kernel), List.mem_of_getElem? (i := 888) (by decide +kernel)⟩
def lw_privs_3 : List (MethodName × Nat) := [(⟨"GrantKernel$Kernel", "commandAlarm", "(LGrantKernel$BoardProcess;II)I"⟩, 4), (⟨"GrantKernel$Kernel", "setAlarm", "(II)I"⟩, 4), (⟨"GrantKernel$Kernel", "cancelAlarm", "(I)I"⟩, 4), (⟨"GrantKernel$Kernel", "commandConsole", "(LGrantKernel$BoardProcess;II)I"⟩, 4), (⟨"GrantKernel$Kernel", "putOut", "(LGrantKernel$BoardProcess;I)I"⟩, 4), (⟨"GrantKernel$Kernel", "receive", "(LGrantKernel$BoardProcess;I)V"⟩, 4), (⟨"GrantKernel$Kernel", "commandSensor", "(LGrantKernel$BoardProcess;I)I"⟩, 4), (⟨"GrantKernel", "endStep", "(LGrantKernel$BoardProcess;I)V"⟩, 9), (⟨"GrantKernel", "find", "(I)LGrantKernel$BoardProcess;"⟩, 9), (⟨"GrantKernelModel", "load", "(III)V"⟩, 40), (⟨"GrantKernelModel", "begin", "(I)V"⟩, 40), (⟨"GrantKernelModel", "forget", "(I)V"⟩, 40), (⟨"GrantKernelModel", "drop", "(II)V"⟩, 40), (⟨"GrantKernelModel", "move", "(II)V"⟩, 40), (⟨"GrantKernelModel", "alarms", "()V"⟩, 40), (⟨"GrantKernelModel", "note", "(III)I"⟩, 40)]
theorem lw_r3 : ∀ q ∈ lw_privs_3, lw_okq q := List.forall_mem_cons.mpr ⟨lw_p32, List.forall_mem_cons.mpr ⟨lw_p33, List.forall_mem_cons.mpr ⟨lw_p34, List.forall_mem_cons.mpr ⟨lw_p35, List.forall_mem_cons.mpr ⟨lw_p36, List.forall_mem_cons.mpr ⟨lw_p37, List.forall_mem_cons.mpr ⟨lw_p38, List.forall_mem_cons.mpr ⟨lw_p39, List.forall_mem_cons.mpr ⟨lw_p40, List.forall_mem_cons.mpr ⟨lw_p41, List.forall_mem_cons.mpr ⟨lw_p42, List.forall_mem_cons.mpr ⟨lw_p43, List.forall_mem_cons.mpr ⟨lw_p44, List.forall_mem_cons.mpr ⟨lw_p45, List.forall_mem_cons.mpr ⟨lw_p46, List.forall_mem_cons.mpr ⟨lw_p47, fun _ h => absurd h List.not_mem_nil⟩⟩⟩⟩⟩⟩⟩⟩⟩⟩⟩⟩⟩⟩⟩⟩
theorem lw_p48 : lw_okq (⟨"GrantKernelModel", "grantAddress", "(II)I"⟩, 40) := ⟨⟨by decide +kernel, by decide +kernel⟩, List.mem_of_getElem? (i := 722) (by decide +kernel), List.mem_of_getElem? (i := 891) (by decide +kernel), List.mem_of_getElem? (i := 892) (by decide +kernel)⟩
theorem lw_p49 : lw_okq (⟨"GrantKernelModel", "get", "(I)I"⟩, 40) := ⟨⟨by decide +kernel, by decide +kernel⟩, List.mem_of_getElem? (i := 722) (by decide +kernel), List.mem_of_getElem? (i := 895) (by decide +kernel), List.mem_of_getElem? (i := 896) (by decide +kernel)⟩
theorem lw_p50 : lw_okq (⟨"GrantKernelModel", "write", "(IIII)V"⟩, 40) := ⟨⟨by decide +kernel, by decide +kernel⟩, List.mem_of_getElem? (i := 722) (by decide +kernel), List.mem_of_getElem? (i := 899) (by decide +kernel), List.mem_of_getElem? (i := 900) (by decide +kernel)⟩
theorem lw_p51 : lw_okq (⟨"GrantKernelModel", "set", "(II)V"⟩, 40) := ⟨⟨by decide +kernel, by decide +kernel⟩, List.mem_of_getElem? (i := 722) (by decide +kernel), List.mem_of_getElem? (i := 903) (by decide +kernel), List.mem_of_getElem? (i := 904) (by decide +kernel)⟩
theorem lw_p52 : lw_okq (⟨"GrantKernelModel", "upcall", "(IIII)V"⟩, 40) := ⟨⟨by decide +kernel, by decide +kernel⟩, List.mem_of_getElem? (i := 722) (by decide +kernel), List.mem_of_getElem? (i := 907) (by decide +kernel), List.mem_of_getElem? (i := 908) (by decide +kernel)⟩
theorem lw_p53 : lw_okq (⟨"GrantKernelModel", "deliver", "(IIII)V"⟩, 40) := ⟨⟨by decide +kernel, by decide +kernel⟩, List.mem_of_getElem? (i := 722) (by decide +kernel), List.mem_of_getElem? (i := 911) (by decide +kernel), List.mem_of_getElem? (i := 912) (by decide +kernel)⟩
theorem lw_p54 : lw_okq (⟨"GrantKernelModel", "waiting", "(I)I"⟩, 40) := ⟨⟨by decide +kernel, by decide +kernel⟩, List.mem_of_getElem? (i := 722) (by decide +kernel), List.mem_of_getElem? (i := 915) (by decide +kernel), List.mem_of_getElem? (i := 916) (by decide +kernel)⟩
theorem lw_p55 : lw_okq (⟨"GrantKernelModel", "choose", "()Z"⟩, 40) := ⟨⟨by decide +kernel, by decide +kernel⟩, List.mem_of_getElem? (i := 722) (by decide +kernel), List.mem_of_getElem? (i := 919) (by decide +kernel), List.mem_of_getElem? (i := 920) (by decide +kernel)⟩
theorem lw_p56 : lw_okq (⟨"GrantKernelModel", "step", "(I)V"⟩, 40) := ⟨⟨by decide +kernel, by decide +kernel⟩, List.mem_of_getElem? (i := 722) (by decide +kernel), List.mem_of_getElem? (i := 923) (by decide +kernel), List.mem_of_getElem? (i := 924) (by decide +kernel)⟩
theorem lw_p57 : lw_okq (⟨"GrantKernelModel", "unstack", "(I)V"⟩, 40) := ⟨⟨by decide +kernel, by decide +kernel⟩, List.mem_of_getElem? (i := 722) (by decide +kernel), List.mem_of_getElem? (i := 927) (by decide +kernel), List.mem_of_getElem? (i := 928) (by decide +kernel)⟩
theorem lw_p58 : lw_okq (⟨"GrantKernelModel", "eight", "(II)Z"⟩, 40) := ⟨⟨by decide +kernel, by decide +kernel⟩, List.mem_of_getElem? (i := 722) (by decide +kernel), List.mem_of_getElem? (i := 931) (by decide +kernel), List.mem_of_getElem? (i := 932) (by decide +kernel)⟩
theorem lw_p59 : lw_okq (⟨"GrantKernelModel", "isOpen", "(II)Z"⟩, 40) := ⟨⟨by decide +kernel, by decide +kernel⟩, List.mem_of_getElem? (i := 722) (by decide +kernel), List.mem_of_getElem? (i := 935) (by decide +kernel), List.mem_of_getElem? (i := 936) (by decide +kernel)⟩
theorem lw_p60 : lw_okq (⟨"GrantKernelModel", "granted", "(I)I"⟩, 40) := ⟨⟨by decide +kernel, by decide +kernel⟩, List.mem_of_getElem? (i := 722) (by decide +kernel), List.mem_of_getElem? (i := 939) (by decide +kernel), List.mem_of_getElem? (i := 940) (by decide +kernel)⟩
theorem lw_p61 : lw_okq (⟨"GrantKernelModel", "openWords", "(II)I"⟩, 40) := ⟨⟨by decide +kernel, by decide +kernel⟩, List.mem_of_getElem? (i := 722) (by decide +kernel), List.mem_of_getElem? (i := 943) (by decide +kernel), List.mem_of_getElem? (i := 944) (by decide +kernel)⟩
theorem lw_p62 : lw_okq (⟨"GrantKernelModel", "within", "(III)Z"⟩, 40) := ⟨⟨by decide +kernel, by decide +kernel⟩, List.mem_of_getElem? (i := 722) (by decide +kernel), List.mem_of_getElem? (i := 947) (by decide +kernel), List.mem_of_getElem? (i := 948) (by decide +kernel)⟩
theorem lw_p63 : lw_okq (⟨"GrantKernelModel", "instruction", "(I)V"⟩, 40) := ⟨⟨by decide +kernel, by decide +kernel⟩, List.mem_of_getElem? (i := 722) (by decide +kernel), List.mem_of_getElem? (i := 951) (by decide +kernel), List.mem_of_getElem? (i := 952) (by decide +kernel)⟩
def lw_privs_4 : List (MethodName × Nat) := [(⟨"GrantKernelModel", "grantAddress", "(II)I"⟩, 40), (⟨"GrantKernelModel", "get", "(I)I"⟩, 40), (⟨"GrantKernelModel", "write", "(IIII)V"⟩, 40), (⟨"GrantKernelModel", "set", "(II)V"⟩, 40), (⟨"GrantKernelModel", "upcall", "(IIII)V"⟩, 40), (⟨"GrantKernelModel", "deliver", "(IIII)V"⟩, 40), (⟨"GrantKernelModel", "waiting", "(I)I"⟩, 40), (⟨"GrantKernelModel", "choose", "()Z"⟩, 40), (⟨"GrantKernelModel", "step", "(I)V"⟩, 40), (⟨"GrantKernelModel", "unstack", "(I)V"⟩, 40), (⟨"GrantKernelModel", "eight", "(II)Z"⟩, 40), (⟨"GrantKernelModel", "isOpen", "(II)Z"⟩, 40), (⟨"GrantKernelModel", "granted", "(I)I"⟩, 40), (⟨"GrantKernelModel", "openWords", "(II)I"⟩, 40), (⟨"GrantKernelModel", "within", "(III)Z"⟩, 40), (⟨"GrantKernelModel", "instruction", "(I)V"⟩, 40)]
theorem lw_r4 : ∀ q ∈ lw_privs_4, lw_okq q := List.forall_mem_cons.mpr ⟨lw_p48, List.forall_mem_cons.mpr ⟨lw_p49, List.forall_mem_cons.mpr ⟨lw_p50, List.forall_mem_cons.mpr ⟨lw_p51, List.forall_mem_cons.mpr ⟨lw_p52, List.forall_mem_cons.mpr ⟨lw_p53, List.forall_mem_cons.mpr ⟨lw_p54, List.forall_mem_cons.mpr ⟨lw_p55, List.forall_mem_cons.mpr ⟨lw_p56, List.forall_mem_cons.mpr ⟨lw_p57, List.forall_mem_cons.mpr ⟨lw_p58, List.forall_mem_cons.mpr ⟨lw_p59, List.forall_mem_cons.mpr ⟨lw_p60, List.forall_mem_cons.mpr ⟨lw_p61, List.forall_mem_cons.mpr ⟨lw_p62, List.forall_mem_cons.mpr ⟨lw_p63, fun _ h => absurd h List.not_mem_nil⟩⟩⟩⟩⟩⟩⟩⟩⟩⟩⟩⟩⟩⟩⟩⟩
theorem lw_p64 : lw_okq (⟨"GrantKernelModel", "inCode", "(II)Z"⟩, 40) := ⟨⟨by decide +kernel, by decide +kernel⟩, List.mem_of_getElem? (i := 722) (by decide +kernel), List.mem_of_getElem? (i := 955) (by decide +kernel), List.mem_of_getElem? (i := 956) (by decide +kernel)⟩
theorem lw_p65 : lw_okq (⟨"GrantKernelModel", "shifted", "(IIII)I"⟩, 40) := ⟨⟨by decide +kernel, by decide +kernel⟩, List.mem_of_getElem? (i := 722) (by decide +kernel), List.mem_of_getElem? (i := 959) (by decide +kernel), List.mem_of_getElem? (i := 960) (by decide +kernel)⟩
theorem lw_p66 : lw_okq (⟨"GrantKernelModel", "nz", "(II)V"⟩, 40) := ⟨⟨by decide +kernel, by decide +kernel⟩, List.mem_of_getElem? (i := 722) (by decide +kernel), List.mem_of_getElem? (i := 963) (by decide +kernel), List.mem_of_getElem? (i := 964) (by decide +kernel)⟩
theorem lw_p67 : lw_okq (⟨"GrantKernelModel", "setCarry", "(II)V"⟩, 40) := ⟨⟨by decide +kernel, by decide +kernel⟩, List.mem_of_getElem? (i := 722) (by decide +kernel), List.mem_of_getElem? (i := 967) (by decide +kernel), List.mem_of_getElem? (i := 968) (by decide +kernel)⟩
theorem lw_p68 : lw_okq (⟨"GrantKernelModel", "addOrTake", "(II)V"⟩, 40) := ⟨⟨by decide +kernel, by decide +kernel⟩, List.mem_of_getElem? (i := 722) (by decide +kernel), List.mem_of_getElem? (i := 971) (by decide +kernel), List.mem_of_getElem? (i := 972) (by decide +kernel)⟩
theorem lw_p69 : lw_okq (⟨"GrantKernelModel", "sum", "(IIII)I"⟩, 40) := ⟨⟨by decide +kernel, by decide +kernel⟩, List.mem_of_getElem? (i := 722) (by decide +kernel), List.mem_of_getElem? (i := 975) (by decide +kernel), List.mem_of_getElem? (i := 976) (by decide +kernel)⟩
theorem lw_p70 : lw_okq (⟨"GrantKernelModel", "immediate", "(II)V"⟩, 40) := ⟨⟨by decide +kernel, by decide +kernel⟩, List.mem_of_getElem? (i := 722) (by decide +kernel), List.mem_of_getElem? (i := 981) (by decide +kernel), List.mem_of_getElem? (i := 982) (by decide +kernel)⟩
theorem lw_p71 : lw_okq (⟨"GrantKernelModel", "calculate", "(II)V"⟩, 40) := ⟨⟨by decide +kernel, by decide +kernel⟩, List.mem_of_getElem? (i := 722) (by decide +kernel), List.mem_of_getElem? (i := 985) (by decide +kernel), List.mem_of_getElem? (i := 986) (by decide +kernel)⟩
theorem lw_p72 : lw_okq (⟨"GrantKernelModel", "leap", "(II)V"⟩, 40) := ⟨⟨by decide +kernel, by decide +kernel⟩, List.mem_of_getElem? (i := 722) (by decide +kernel), List.mem_of_getElem? (i := 989) (by decide +kernel), List.mem_of_getElem? (i := 990) (by decide +kernel)⟩
theorem lw_p73 : lw_okq (⟨"GrantKernelModel", "access", "(IIIZ)V"⟩, 40) := ⟨⟨by decide +kernel, by decide +kernel⟩, List.mem_of_getElem? (i := 722) (by decide +kernel), List.mem_of_getElem? (i := 993) (by decide +kernel), List.mem_of_getElem? (i := 994) (by decide +kernel)⟩
theorem lw_p74 : lw_okq (⟨"GrantKernelModel", "may", "(IIZ)Z"⟩, 40) := ⟨⟨by decide +kernel, by decide +kernel⟩, List.mem_of_getElem? (i := 722) (by decide +kernel), List.mem_of_getElem? (i := 997) (by decide +kernel), List.mem_of_getElem? (i := 998) (by decide +kernel)⟩
theorem lw_p75 : lw_okq (⟨"GrantKernelModel", "branch", "(II)V"⟩, 40) := ⟨⟨by decide +kernel, by decide +kernel⟩, List.mem_of_getElem? (i := 722) (by decide +kernel), List.mem_of_getElem? (i := 1001) (by decide +kernel), List.mem_of_getElem? (i := 1002) (by decide +kernel)⟩
theorem lw_p76 : lw_okq (⟨"GrantKernelModel", "stack", "(II)V"⟩, 40) := ⟨⟨by decide +kernel, by decide +kernel⟩, List.mem_of_getElem? (i := 722) (by decide +kernel), List.mem_of_getElem? (i := 1005) (by decide +kernel), List.mem_of_getElem? (i := 1006) (by decide +kernel)⟩
theorem lw_p77 : lw_okq (⟨"GrantKernelModel", "kernel", "(II)V"⟩, 40) := ⟨⟨by decide +kernel, by decide +kernel⟩, List.mem_of_getElem? (i := 722) (by decide +kernel), List.mem_of_getElem? (i := 1011) (by decide +kernel), List.mem_of_getElem? (i := 1012) (by decide +kernel)⟩
theorem lw_p78 : lw_okq (⟨"GrantKernelModel", "oldest", "(I)I"⟩, 40) := ⟨⟨by decide +kernel, by decide +kernel⟩, List.mem_of_getElem? (i := 722) (by decide +kernel), List.mem_of_getElem? (i := 1015) (by decide +kernel), List.mem_of_getElem? (i := 1016) (by decide +kernel)⟩
theorem lw_p79 : lw_okq (⟨"GrantKernelModel", "ensure", "(II)Z"⟩, 40) := ⟨⟨by decide +kernel, by decide +kernel⟩, List.mem_of_getElem? (i := 722) (by decide +kernel), List.mem_of_getElem? (i := 1019) (by decide +kernel), List.mem_of_getElem? (i := 1020) (by decide +kernel)⟩
def lw_privs_5 : List (MethodName × Nat) := [(⟨"GrantKernelModel", "inCode", "(II)Z"⟩, 40), (⟨"GrantKernelModel", "shifted", "(IIII)I"⟩, 40), (⟨"GrantKernelModel", "nz", "(II)V"⟩, 40), (⟨"GrantKernelModel", "setCarry", "(II)V"⟩, 40), (⟨"GrantKernelModel", "addOrTake", "(II)V"⟩, 40), (⟨"GrantKernelModel", "sum", "(IIII)I"⟩, 40), (⟨"GrantKernelModel", "immediate", "(II)V"⟩, 40), (⟨"GrantKernelModel", "calculate", "(II)V"⟩, 40), (⟨"GrantKernelModel", "leap", "(II)V"⟩, 40), (⟨"GrantKernelModel", "access", "(IIIZ)V"⟩, 40), (⟨"GrantKernelModel", "may", "(IIZ)Z"⟩, 40), (⟨"GrantKernelModel", "branch", "(II)V"⟩, 40), (⟨"GrantKernelModel", "stack", "(II)V"⟩, 40), (⟨"GrantKernelModel", "kernel", "(II)V"⟩, 40), (⟨"GrantKernelModel", "oldest", "(I)I"⟩, 40), (⟨"GrantKernelModel", "ensure", "(II)Z"⟩, 40)]
theorem lw_r5 : ∀ q ∈ lw_privs_5, lw_okq q := List.forall_mem_cons.mpr ⟨lw_p64, List.forall_mem_cons.mpr ⟨lw_p65, List.forall_mem_cons.mpr ⟨lw_p66, List.forall_mem_cons.mpr ⟨lw_p67, List.forall_mem_cons.mpr ⟨lw_p68, List.forall_mem_cons.mpr ⟨lw_p69, List.forall_mem_cons.mpr ⟨lw_p70, List.forall_mem_cons.mpr ⟨lw_p71, List.forall_mem_cons.mpr ⟨lw_p72, List.forall_mem_cons.mpr ⟨lw_p73, List.forall_mem_cons.mpr ⟨lw_p74, List.forall_mem_cons.mpr ⟨lw_p75, List.forall_mem_cons.mpr ⟨lw_p76, List.forall_mem_cons.mpr ⟨lw_p77, List.forall_mem_cons.mpr ⟨lw_p78, List.forall_mem_cons.mpr ⟨lw_p79, fun _ h => absurd h List.not_mem_nil⟩⟩⟩⟩⟩⟩⟩⟩⟩⟩⟩⟩⟩⟩⟩⟩
theorem lw_p80 : lw_okq (⟨"GrantKernelModel", "subscribe", "(IIII)I"⟩, 40) := ⟨⟨by decide +kernel, by decide +kernel⟩, List.mem_of_getElem? (i := 722) (by decide +kernel), List.mem_of_getElem? (i := 1023) (by decide +kernel), List.mem_of_getElem? (i := 1024) (by decide +kernel)⟩
theorem lw_p81 : lw_okq (⟨"GrantKernelModel", "command", "(IIII)I"⟩, 40) := ⟨⟨by decide +kernel, by decide +kernel⟩, List.mem_of_getElem? (i := 722) (by decide +kernel), List.mem_of_getElem? (i := 1027) (by decide +kernel), List.mem_of_getElem? (i := 1028) (by decide +kernel)⟩
theorem lw_p82 : lw_okq (⟨"GrantKernelModel", "print", "(II)I"⟩, 40) := ⟨⟨by decide +kernel, by decide +kernel⟩, List.mem_of_getElem? (i := 722) (by decide +kernel), List.mem_of_getElem? (i := 1031) (by decide +kernel), List.mem_of_getElem? (i := 1032) (by decide +kernel)⟩
theorem lw_p83 : lw_okq (⟨"GrantKernelModel", "receive", "(II)V"⟩, 40) := ⟨⟨by decide +kernel, by decide +kernel⟩, List.mem_of_getElem? (i := 722) (by decide +kernel), List.mem_of_getElem? (i := 1035) (by decide +kernel), List.mem_of_getElem? (i := 1036) (by decide +kernel)⟩
theorem lw_p84 : lw_okq (⟨"GrantKernelModel", "allow", "(IIII)I"⟩, 40) := ⟨⟨by decide +kernel, by decide +kernel⟩, List.mem_of_getElem? (i := 722) (by decide +kernel), List.mem_of_getElem? (i := 1039) (by decide +kernel), List.mem_of_getElem? (i := 1040) (by decide +kernel)⟩
theorem lw_p85 : lw_okq (⟨"GrantKernelModel", "holds", "(II)Z"⟩, 40) := ⟨⟨by decide +kernel, by decide +kernel⟩, List.mem_of_getElem? (i := 722) (by decide +kernel), List.mem_of_getElem? (i := 1043) (by decide +kernel), List.mem_of_getElem? (i := 1044) (by decide +kernel)⟩
theorem lw_p86 : lw_okq (⟨"GrantKernelModel", "stackWord", "(II)V"⟩, 40) := ⟨⟨by decide +kernel, by decide +kernel⟩, List.mem_of_getElem? (i := 722) (by decide +kernel), List.mem_of_getElem? (i := 1047) (by decide +kernel), List.mem_of_getElem? (i := 1048) (by decide +kernel)⟩
theorem lw_p87 : lw_okq (⟨"GrantKernelModel", "push", "(II)V"⟩, 40) := ⟨⟨by decide +kernel, by decide +kernel⟩, List.mem_of_getElem? (i := 722) (by decide +kernel), List.mem_of_getElem? (i := 1051) (by decide +kernel), List.mem_of_getElem? (i := 1052) (by decide +kernel)⟩
theorem lw_p88 : lw_okq (⟨"GrantKernelModel", "pop", "(II)V"⟩, 40) := ⟨⟨by decide +kernel, by decide +kernel⟩, List.mem_of_getElem? (i := 722) (by decide +kernel), List.mem_of_getElem? (i := 1058) (by decide +kernel), List.mem_of_getElem? (i := 1059) (by decide +kernel)⟩
theorem lw_p89 : lw_okq (⟨"GrantKernelModel", "faulted", "(I)V"⟩, 40) := ⟨⟨by decide +kernel, by decide +kernel⟩, List.mem_of_getElem? (i := 722) (by decide +kernel), List.mem_of_getElem? (i := 1062) (by decide +kernel), List.mem_of_getElem? (i := 1063) (by decide +kernel)⟩
theorem lw_p90 : lw_okq (⟨"GrantKernelModel", "halt", "(I)V"⟩, 40) := ⟨⟨by decide +kernel, by decide +kernel⟩, List.mem_of_getElem? (i := 722) (by decide +kernel), List.mem_of_getElem? (i := 1066) (by decide +kernel), List.mem_of_getElem? (i := 1067) (by decide +kernel)⟩
theorem lw_p91 : lw_okq (⟨"GrantKernelModel", "there", "(I)Z"⟩, 40) := ⟨⟨by decide +kernel, by decide +kernel⟩, List.mem_of_getElem? (i := 722) (by decide +kernel), List.mem_of_getElem? (i := 1098) (by decide +kernel), List.mem_of_getElem? (i := 1099) (by decide +kernel)⟩
def lw_privs_6 : List (MethodName × Nat) := [(⟨"GrantKernelModel", "subscribe", "(IIII)I"⟩, 40), (⟨"GrantKernelModel", "command", "(IIII)I"⟩, 40), (⟨"GrantKernelModel", "print", "(II)I"⟩, 40), (⟨"GrantKernelModel", "receive", "(II)V"⟩, 40), (⟨"GrantKernelModel", "allow", "(IIII)I"⟩, 40), (⟨"GrantKernelModel", "holds", "(II)Z"⟩, 40), (⟨"GrantKernelModel", "stackWord", "(II)V"⟩, 40), (⟨"GrantKernelModel", "push", "(II)V"⟩, 40), (⟨"GrantKernelModel", "pop", "(II)V"⟩, 40), (⟨"GrantKernelModel", "faulted", "(I)V"⟩, 40), (⟨"GrantKernelModel", "halt", "(I)V"⟩, 40), (⟨"GrantKernelModel", "there", "(I)Z"⟩, 40)]
theorem lw_r6 : ∀ q ∈ lw_privs_6, lw_okq q := List.forall_mem_cons.mpr ⟨lw_p80, List.forall_mem_cons.mpr ⟨lw_p81, List.forall_mem_cons.mpr ⟨lw_p82, List.forall_mem_cons.mpr ⟨lw_p83, List.forall_mem_cons.mpr ⟨lw_p84, List.forall_mem_cons.mpr ⟨lw_p85, List.forall_mem_cons.mpr ⟨lw_p86, List.forall_mem_cons.mpr ⟨lw_p87, List.forall_mem_cons.mpr ⟨lw_p88, List.forall_mem_cons.mpr ⟨lw_p89, List.forall_mem_cons.mpr ⟨lw_p90, List.forall_mem_cons.mpr ⟨lw_p91, fun _ h => absurd h List.not_mem_nil⟩⟩⟩⟩⟩⟩⟩⟩⟩⟩⟩⟩
def lw_privs : List (MethodName × Nat) := lw_privs_1 ++ (lw_privs_2 ++ (lw_privs_3 ++ (lw_privs_4 ++ (lw_privs_5 ++ (lw_privs_6)))))
def lw_tbl : List Cond := k2_sels lw_privs ++ tables_1
theorem lw_privs_ok : ∀ q ∈ lw_privs, lw_okq q := by
  show ∀ q ∈ lw_privs_1 ++ (lw_privs_2 ++ (lw_privs_3 ++ (lw_privs_4 ++ (lw_privs_5 ++ (lw_privs_6))))), lw_okq q
  exact List.forall_mem_append.mpr ⟨lw_r1, List.forall_mem_append.mpr ⟨lw_r2, List.forall_mem_append.mpr ⟨lw_r3, List.forall_mem_append.mpr ⟨lw_r4, List.forall_mem_append.mpr ⟨lw_r5, lw_r6⟩⟩⟩⟩⟩
end
section
/-! names, fields, codes (printed) -/
def nR_GK : String := "GrantKernel"
def nR_Me : String := "GrantKernel$Memory"
def nR_UQ : String := "GrantKernel$UpcallQueue"
def nR_No : String := "GrantKernel$Notes"
def nR_BP : String := "GrantKernel$BoardProcess"
def nR_Lo : String := "GrantKernel$Loader"
def nR_Co : String := "GrantKernel$Console"
def nR_Ke : String := "GrantKernel$Kernel"
def nR_Pr : String := "GrantKernel$Processor"
def nR_GM : String := "GrantKernelModel"
def nR_GL : String := "GrantKernelLaw"
def nR_JI : String := "java/lang/Integer"
def nT_GK : u_T := fun k => match k with
  | 0 => ("GrantKernel", "memory", "LGrantKernel$Memory;", true)
  | 1 => ("GrantKernel", "processes", "[LGrantKernel$BoardProcess;", true)
  | 2 => ("GrantKernel", "console", "LGrantKernel$Console;", true)
  | 3 => ("GrantKernel", "kernel", "LGrantKernel$Kernel;", true)
  | 4 => ("GrantKernel", "loader", "LGrantKernel$Loader;", true)
  | 5 => ("GrantKernel", "processor", "LGrantKernel$Processor;", true)
  | 6 => ("GrantKernel", "processCount", "I", false)
  | 7 => ("GrantKernel", "turn", "I", false)
  | _ => ("GrantKernel", "left", "I", false)
def nt_GK : Nat → FieldType := fun k => match k with
  | 0 => .object "GrantKernel$Memory"
  | 1 => .array (.object "GrantKernel$BoardProcess")
  | 2 => .object "GrantKernel$Console"
  | 3 => .object "GrantKernel$Kernel"
  | 4 => .object "GrantKernel$Loader"
  | 5 => .object "GrantKernel$Processor"
  | 6 => .int
  | 7 => .int
  | _ => .int
def nT_Me : u_T := fun k => match k with
  | 0 => ("GrantKernel$Memory", "flash", "[I", true)
  | _ => ("GrantKernel$Memory", "ram", "[I", true)
def nt_Me : Nat → FieldType := fun k => match k with
  | 0 => .array (.int)
  | _ => .array (.int)
def nT_UQ : u_T := fun k => match k with
  | 0 => ("GrantKernel$UpcallQueue", "drivers", "[I", true)
  | 1 => ("GrantKernel$UpcallQueue", "firsts", "[I", true)
  | 2 => ("GrantKernel$UpcallQueue", "seconds", "[I", true)
  | _ => ("GrantKernel$UpcallQueue", "count", "I", false)
def nt_UQ : Nat → FieldType := fun k => match k with
  | 0 => .array (.int)
  | 1 => .array (.int)
  | 2 => .array (.int)
  | _ => .int
def nT_No : u_T := fun k => match k with
  | 0 => ("GrantKernel$Notes", "grants", "[I", true)
  | 1 => ("GrantKernel$Notes", "functions", "[I", true)
  | 2 => ("GrantKernel$Notes", "data", "[I", true)
  | 3 => ("GrantKernel$Notes", "bufferAddresses", "[I", true)
  | 4 => ("GrantKernel$Notes", "bufferWords", "[I", true)
  | 5 => ("GrantKernel$Notes", "upcalls", "LGrantKernel$UpcallQueue;", true)
  | _ => ("GrantKernel$Notes", "grantWords", "I", false)
def nt_No : Nat → FieldType := fun k => match k with
  | 0 => .array (.int)
  | 1 => .array (.int)
  | 2 => .array (.int)
  | 3 => .array (.int)
  | 4 => .array (.int)
  | 5 => .object "GrantKernel$UpcallQueue"
  | _ => .int
def nT_BP : u_T := fun k => match k with
  | 0 => ("GrantKernel$BoardProcess", "memory", "LGrantKernel$Memory;", true)
  | 1 => ("GrantKernel$BoardProcess", "notes", "LGrantKernel$Notes;", true)
  | 2 => ("GrantKernel$BoardProcess", "codeStart", "I", false)
  | 3 => ("GrantKernel$BoardProcess", "codeEnd", "I", false)
  | 4 => ("GrantKernel$BoardProcess", "entry", "I", false)
  | 5 => ("GrantKernel$BoardProcess", "blockAddress", "I", false)
  | 6 => ("GrantKernel$BoardProcess", "blockWords", "I", false)
  | 7 => ("GrantKernel$BoardProcess", "keepWords", "I", false)
  | 8 => ("GrantKernel$BoardProcess", "openWords", "I", false)
  | 9 => ("GrantKernel$BoardProcess", "policy", "I", false)
  | 10 => ("GrantKernel$BoardProcess", "low", "[I", true)
  | 11 => ("GrantKernel$BoardProcess", "sp", "I", false)
  | 12 => ("GrantKernel$BoardProcess", "lr", "I", false)
  | 13 => ("GrantKernel$BoardProcess", "pc", "I", false)
  | 14 => ("GrantKernel$BoardProcess", "flags", "I", false)
  | 15 => ("GrantKernel$BoardProcess", "inFrame", "Z", false)
  | 16 => ("GrantKernel$BoardProcess", "state", "I", false)
  | 17 => ("GrantKernel$BoardProcess", "latestFault", "I", false)
  | 18 => ("GrantKernel$BoardProcess", "faultCount", "I", false)
  | _ => ("GrantKernel$BoardProcess", "faultRestarts", "I", false)
def nt_BP : Nat → FieldType := fun k => match k with
  | 0 => .object "GrantKernel$Memory"
  | 1 => .object "GrantKernel$Notes"
  | 2 => .int
  | 3 => .int
  | 4 => .int
  | 5 => .int
  | 6 => .int
  | 7 => .int
  | 8 => .int
  | 9 => .int
  | 10 => .array (.int)
  | 11 => .int
  | 12 => .int
  | 13 => .int
  | 14 => .int
  | 15 => .boolean
  | 16 => .int
  | 17 => .int
  | 18 => .int
  | _ => .int
def nT_Lo : u_T := fun k => match k with
  | 0 => ("GrantKernel$Loader", "memory", "LGrantKernel$Memory;", true)
  | 1 => ("GrantKernel$Loader", "processes", "[LGrantKernel$BoardProcess;", true)
  | 2 => ("GrantKernel$Loader", "loaded", "I", false)
  | _ => ("GrantKernel$Loader", "usedWords", "I", false)
def nt_Lo : Nat → FieldType := fun k => match k with
  | 0 => .object "GrantKernel$Memory"
  | 1 => .array (.object "GrantKernel$BoardProcess")
  | 2 => .int
  | _ => .int
def nT_Co : u_T := fun k => match k with
  | 0 => ("GrantKernel$Console", "inputs", "[I", true)
  | 1 => ("GrantKernel$Console", "outputRing", "[I", true)
  | 2 => ("GrantKernel$Console", "inputCount", "I", false)
  | _ => ("GrantKernel$Console", "outputCount", "I", false)
def nt_Co : Nat → FieldType := fun k => match k with
  | 0 => .array (.int)
  | 1 => .array (.int)
  | 2 => .int
  | _ => .int
def nT_Ke : u_T := fun k => match k with
  | 0 => ("GrantKernel$Kernel", "memory", "LGrantKernel$Memory;", true)
  | 1 => ("GrantKernel$Kernel", "processes", "[LGrantKernel$BoardProcess;", true)
  | 2 => ("GrantKernel$Kernel", "console", "LGrantKernel$Console;", true)
  | _ => ("GrantKernel$Kernel", "now", "I", false)
def nt_Ke : Nat → FieldType := fun k => match k with
  | 0 => .object "GrantKernel$Memory"
  | 1 => .array (.object "GrantKernel$BoardProcess")
  | 2 => .object "GrantKernel$Console"
  | _ => .int
def nT_Pr : u_T := fun k => match k with
  | 0 => ("GrantKernel$Processor", "memory", "LGrantKernel$Memory;", true)
  | _ => ("GrantKernel$Processor", "next", "I", false)
def nt_Pr : Nat → FieldType := fun k => match k with
  | 0 => .object "GrantKernel$Memory"
  | _ => .int
def nT_GM : u_T := fun k => match k with
  | 0 => ("GrantKernelModel", "flash", "[I", false)
  | 1 => ("GrantKernelModel", "ram", "[I", false)
  | 2 => ("GrantKernelModel", "now", "I", false)
  | 3 => ("GrantKernelModel", "turn", "I", false)
  | 4 => ("GrantKernelModel", "left", "I", false)
  | 5 => ("GrantKernelModel", "processes", "I", false)
  | 6 => ("GrantKernelModel", "from", "[I", false)
  | 7 => ("GrantKernelModel", "total", "[I", false)
  | 8 => ("GrantKernelModel", "base", "[I", false)
  | 9 => ("GrantKernelModel", "size", "[I", false)
  | 10 => ("GrantKernelModel", "keep", "[I", false)
  | 11 => ("GrantKernelModel", "entry", "[I", false)
  | 12 => ("GrantKernelModel", "policy", "[I", false)
  | 13 => ("GrantKernelModel", "states", "[I", false)
  | 14 => ("GrantKernelModel", "general", "[I", false)
  | 15 => ("GrantKernelModel", "sp", "[I", false)
  | 16 => ("GrantKernelModel", "lr", "[I", false)
  | 17 => ("GrantKernelModel", "pc", "[I", false)
  | 18 => ("GrantKernelModel", "flags", "[I", false)
  | 19 => ("GrantKernelModel", "framed", "[Z", false)
  | 20 => ("GrantKernelModel", "latest", "[I", false)
  | 21 => ("GrantKernelModel", "many", "[I", false)
  | 22 => ("GrantKernelModel", "again", "[I", false)
  | 23 => ("GrantKernelModel", "rank", "[I", false)
  | 24 => ("GrantKernelModel", "function", "[I", false)
  | 25 => ("GrantKernelModel", "data", "[I", false)
  | 26 => ("GrantKernelModel", "buffer", "[I", false)
  | 27 => ("GrantKernelModel", "words", "[I", false)
  | 28 => ("GrantKernelModel", "upcalls", "I", false)
  | 29 => ("GrantKernelModel", "owner", "[I", false)
  | 30 => ("GrantKernelModel", "driver", "[I", false)
  | 31 => ("GrantKernelModel", "first", "[I", false)
  | 32 => ("GrantKernelModel", "second", "[I", false)
  | 33 => ("GrantKernelModel", "inputs", "I", false)
  | 34 => ("GrantKernelModel", "input", "[I", false)
  | 35 => ("GrantKernelModel", "outs", "I", false)
  | 36 => ("GrantKernelModel", "out", "[I", false)
  | 37 => ("GrantKernelModel", "bad", "I", false)
  | 38 => ("GrantKernelModel", "carry", "I", false)
  | _ => ("GrantKernelModel", "next", "I", false)
def nt_GM : Nat → FieldType := fun k => match k with
  | 0 => .array (.int)
  | 1 => .array (.int)
  | 2 => .int
  | 3 => .int
  | 4 => .int
  | 5 => .int
  | 6 => .array (.int)
  | 7 => .array (.int)
  | 8 => .array (.int)
  | 9 => .array (.int)
  | 10 => .array (.int)
  | 11 => .array (.int)
  | 12 => .array (.int)
  | 13 => .array (.int)
  | 14 => .array (.int)
  | 15 => .array (.int)
  | 16 => .array (.int)
  | 17 => .array (.int)
  | 18 => .array (.int)
  | 19 => .array (.boolean)
  | 20 => .array (.int)
  | 21 => .array (.int)
  | 22 => .array (.int)
  | 23 => .array (.int)
  | 24 => .array (.int)
  | 25 => .array (.int)
  | 26 => .array (.int)
  | 27 => .array (.int)
  | 28 => .int
  | 29 => .array (.int)
  | 30 => .array (.int)
  | 31 => .array (.int)
  | 32 => .array (.int)
  | 33 => .int
  | 34 => .array (.int)
  | 35 => .int
  | 36 => .array (.int)
  | 37 => .int
  | 38 => .int
  | _ => .int
abbrev vwCl : List vw_C := [(nR_GK, nT_GK, 9), (nR_Me, nT_Me, 2), (nR_UQ, nT_UQ, 4), (nR_No, nT_No, 7), (nR_BP, nT_BP, 20), (nR_Lo, nT_Lo, 4), (nR_Co, nT_Co, 4), (nR_Ke, nT_Ke, 4), (nR_Pr, nT_Pr, 2), (nR_GM, nT_GM, 40)]
abbrev nc_GK_init : ByteArray := prog_1_method_1_code
def ny_GK_init : MethodName := ⟨nR_GK, "<init>", "()V"⟩
abbrev nc_GK_burn : ByteArray := prog_1_method_2_code
def ny_GK_burn : MethodName := ⟨nR_GK, "burn", "(II)I"⟩
abbrev nc_GK_boot : ByteArray := prog_1_method_3_code
def ny_GK_boot : MethodName := ⟨nR_GK, "boot", "()I"⟩
abbrev nc_GK_run : ByteArray := prog_1_method_4_code
def ny_GK_run : MethodName := ⟨nR_GK, "run", "(I)I"⟩
abbrev nc_GK_type : ByteArray := prog_1_method_5_code
def ny_GK_type : MethodName := ⟨nR_GK, "type", "(I)Z"⟩
abbrev nc_GK_sample : ByteArray := prog_1_method_6_code
def ny_GK_sample : MethodName := ⟨nR_GK, "sample", "(I)I"⟩
abbrev nc_GK_outputs : ByteArray := prog_1_method_7_code
def ny_GK_outputs : MethodName := ⟨nR_GK, "outputs", "()I"⟩
abbrev nc_GK_output : ByteArray := prog_1_method_8_code
def ny_GK_output : MethodName := ⟨nR_GK, "output", "(I)I"⟩
abbrev nc_GK_now : ByteArray := prog_1_method_9_code
def ny_GK_now : MethodName := ⟨nR_GK, "now", "()I"⟩
abbrev nc_GK_turn : ByteArray := prog_1_method_10_code
def ny_GK_turn : MethodName := ⟨nR_GK, "turn", "()I"⟩
abbrev nc_GK_state : ByteArray := prog_1_method_11_code
def ny_GK_state : MethodName := ⟨nR_GK, "state", "(I)I"⟩
abbrev nc_GK_register : ByteArray := prog_1_method_12_code
def ny_GK_register : MethodName := ⟨nR_GK, "register", "(II)I"⟩
abbrev nc_GK_word : ByteArray := prog_1_method_13_code
def ny_GK_word : MethodName := ⟨nR_GK, "word", "(I)I"⟩
abbrev nc_GK_block : ByteArray := prog_1_method_14_code
def ny_GK_block : MethodName := ⟨nR_GK, "block", "(I)I"⟩
abbrev nc_GK_open : ByteArray := prog_1_method_15_code
def ny_GK_open : MethodName := ⟨nR_GK, "open", "(I)I"⟩
abbrev nc_GK_grant : ByteArray := prog_1_method_16_code
def ny_GK_grant : MethodName := ⟨nR_GK, "grant", "(II)I"⟩
abbrev nc_GK_queued : ByteArray := prog_1_method_17_code
def ny_GK_queued : MethodName := ⟨nR_GK, "queued", "(I)I"⟩
abbrev nc_GK_fault : ByteArray := prog_1_method_18_code
def ny_GK_fault : MethodName := ⟨nR_GK, "fault", "(I)I"⟩
abbrev nc_GK_faults : ByteArray := prog_1_method_19_code
def ny_GK_faults : MethodName := ⟨nR_GK, "faults", "(I)I"⟩
abbrev nc_GK_restart : ByteArray := prog_1_method_20_code
def ny_GK_restart : MethodName := ⟨nR_GK, "restart", "(I)Z"⟩
abbrev nc_GK_stop : ByteArray := prog_1_method_21_code
def ny_GK_stop : MethodName := ⟨nR_GK, "stop", "(I)Z"⟩
abbrev nc_GK_find : ByteArray := prog_1_method_22_code
def ny_GK_find : MethodName := ⟨nR_GK, "find", "(I)LGrantKernel$BoardProcess;"⟩
abbrev nc_GK_giveTurn : ByteArray := prog_1_method_23_code
def ny_GK_giveTurn : MethodName := ⟨nR_GK, "giveTurn", "()Z"⟩
abbrev nc_GK_doInstruction : ByteArray := prog_1_method_24_code
def ny_GK_doInstruction : MethodName := ⟨nR_GK, "doInstruction", "(LGrantKernel$BoardProcess;)I"⟩
abbrev nc_GK_serve : ByteArray := prog_1_method_25_code
def ny_GK_serve : MethodName := ⟨nR_GK, "serve", "(LGrantKernel$BoardProcess;I)I"⟩
abbrev nc_GK_endStep : ByteArray := prog_1_method_26_code
def ny_GK_endStep : MethodName := ⟨nR_GK, "endStep", "(LGrantKernel$BoardProcess;I)V"⟩
abbrev nc_Me_init : ByteArray := prog_6_method_1_code
def ny_Me_init : MethodName := ⟨nR_Me, "<init>", "()V"⟩
abbrev nc_Me_halfword : ByteArray := prog_6_method_2_code
def ny_Me_halfword : MethodName := ⟨nR_Me, "halfword", "(I)I"⟩
abbrev nc_Me_flashWord : ByteArray := prog_6_method_3_code
def ny_Me_flashWord : MethodName := ⟨nR_Me, "flashWord", "(I)I"⟩
abbrev nc_Me_ramWord : ByteArray := prog_6_method_4_code
def ny_Me_ramWord : MethodName := ⟨nR_Me, "ramWord", "(I)I"⟩
abbrev nc_Me_setRamWord : ByteArray := prog_6_method_5_code
def ny_Me_setRamWord : MethodName := ⟨nR_Me, "setRamWord", "(II)V"⟩
abbrev nc_Me_clearRam : ByteArray := prog_6_method_6_code
def ny_Me_clearRam : MethodName := ⟨nR_Me, "clearRam", "(II)V"⟩
abbrev nc_UQ_init : ByteArray := prog_9_method_1_code
def ny_UQ_init : MethodName := ⟨nR_UQ, "<init>", "()V"⟩
abbrev nc_UQ_enqueue : ByteArray := prog_9_method_2_code
def ny_UQ_enqueue : MethodName := ⟨nR_UQ, "enqueue", "(III)V"⟩
abbrev nc_UQ_removeOldest : ByteArray := prog_9_method_3_code
def ny_UQ_removeOldest : MethodName := ⟨nR_UQ, "removeOldest", "()V"⟩
abbrev nc_UQ_removeDriver : ByteArray := prog_9_method_4_code
def ny_UQ_removeDriver : MethodName := ⟨nR_UQ, "removeDriver", "(I)V"⟩
abbrev nc_UQ_move : ByteArray := prog_9_method_5_code
def ny_UQ_move : MethodName := ⟨nR_UQ, "move", "(II)V"⟩
abbrev nc_No_init : ByteArray := prog_7_method_1_code
def ny_No_init : MethodName := ⟨nR_No, "<init>", "()V"⟩
abbrev nc_No_hasGrant : ByteArray := prog_7_method_2_code
def ny_No_hasGrant : MethodName := ⟨nR_No, "hasGrant", "(I)Z"⟩
abbrev nc_No_clear : ByteArray := prog_7_method_3_code
def ny_No_clear : MethodName := ⟨nR_No, "clear", "()V"⟩
abbrev nc_No_buffersEndBy : ByteArray := prog_7_method_4_code
def ny_No_buffersEndBy : MethodName := ⟨nR_No, "buffersEndBy", "(I)Z"⟩
abbrev nc_BP_init : ByteArray := prog_2_method_1_code
def ny_BP_init : MethodName := ⟨nR_BP, "<init>", "(LGrantKernel$Memory;)V"⟩
abbrev nc_BP_begin : ByteArray := prog_2_method_2_code
def ny_BP_begin : MethodName := ⟨nR_BP, "begin", "()V"⟩
abbrev nc_BP_halt : ByteArray := prog_2_method_3_code
def ny_BP_halt : MethodName := ⟨nR_BP, "halt", "()V"⟩
abbrev nc_BP_loseNotes : ByteArray := prog_2_method_4_code
def ny_BP_loseNotes : MethodName := ⟨nR_BP, "loseNotes", "()V"⟩
abbrev nc_BP_forgetFaults : ByteArray := prog_2_method_5_code
def ny_BP_forgetFaults : MethodName := ⟨nR_BP, "forgetFaults", "()V"⟩
abbrev nc_BP_fail : ByteArray := prog_2_method_6_code
def ny_BP_fail : MethodName := ⟨nR_BP, "fail", "(I)V"⟩
abbrev nc_BP_openWordsBefore : ByteArray := prog_2_method_7_code
def ny_BP_openWordsBefore : MethodName := ⟨nR_BP, "openWordsBefore", "(I)I"⟩
abbrev nc_BP_areOpen : ByteArray := prog_2_method_8_code
def ny_BP_areOpen : MethodName := ⟨nR_BP, "areOpen", "(II)Z"⟩
abbrev nc_BP_isInCode : ByteArray := prog_2_method_9_code
def ny_BP_isInCode : MethodName := ⟨nR_BP, "isInCode", "(I)Z"⟩
abbrev nc_BP_mayLoad : ByteArray := prog_2_method_10_code
def ny_BP_mayLoad : MethodName := ⟨nR_BP, "mayLoad", "(I)Z"⟩
abbrev nc_BP_readWord : ByteArray := prog_2_method_11_code
def ny_BP_readWord : MethodName := ⟨nR_BP, "readWord", "(I)I"⟩
abbrev nc_BP_frameWord : ByteArray := prog_2_method_12_code
def ny_BP_frameWord : MethodName := ⟨nR_BP, "frameWord", "(I)I"⟩
abbrev nc_BP_setFrameWord : ByteArray := prog_2_method_13_code
def ny_BP_setFrameWord : MethodName := ⟨nR_BP, "setFrameWord", "(II)V"⟩
abbrev nc_BP_stackFrame : ByteArray := prog_2_method_14_code
def ny_BP_stackFrame : MethodName := ⟨nR_BP, "stackFrame", "(I)Z"⟩
abbrev nc_BP_takeFrame : ByteArray := prog_2_method_15_code
def ny_BP_takeFrame : MethodName := ⟨nR_BP, "takeFrame", "()Z"⟩
abbrev nc_BP_registerValue : ByteArray := prog_2_method_16_code
def ny_BP_registerValue : MethodName := ⟨nR_BP, "registerValue", "(I)I"⟩
abbrev nc_Lo_init : ByteArray := prog_5_method_1_code
def ny_Lo_init : MethodName := ⟨nR_Lo, "<init>", "(LGrantKernel$Memory;[LGrantKernel$BoardProcess;)V"⟩
abbrev nc_Lo_loadAll : ByteArray := prog_5_method_2_code
def ny_Lo_loadAll : MethodName := ⟨nR_Lo, "loadAll", "()I"⟩
abbrev nc_Lo_isHeader : ByteArray := prog_5_method_3_code
def ny_Lo_isHeader : MethodName := ⟨nR_Lo, "isHeader", "(I)Z"⟩
abbrev nc_Lo_loadAt : ByteArray := prog_5_method_4_code
def ny_Lo_loadAt : MethodName := ⟨nR_Lo, "loadAt", "(I)V"⟩
abbrev nc_Co_init : ByteArray := prog_3_method_1_code
def ny_Co_init : MethodName := ⟨nR_Co, "<init>", "()V"⟩
abbrev nc_Co_clear : ByteArray := prog_3_method_2_code
def ny_Co_clear : MethodName := ⟨nR_Co, "clear", "()V"⟩
abbrev nc_Co_addInput : ByteArray := prog_3_method_3_code
def ny_Co_addInput : MethodName := ⟨nR_Co, "addInput", "(I)Z"⟩
abbrev nc_Co_removeInput : ByteArray := prog_3_method_4_code
def ny_Co_removeInput : MethodName := ⟨nR_Co, "removeInput", "()I"⟩
abbrev nc_Co_addOutput : ByteArray := prog_3_method_5_code
def ny_Co_addOutput : MethodName := ⟨nR_Co, "addOutput", "(I)V"⟩
abbrev nc_Co_latestOutput : ByteArray := prog_3_method_6_code
def ny_Co_latestOutput : MethodName := ⟨nR_Co, "latestOutput", "(I)I"⟩
abbrev nc_Ke_init : ByteArray := prog_4_method_1_code
def ny_Ke_init : MethodName := ⟨nR_Ke, "<init>", "(LGrantKernel$Memory;[LGrantKernel$BoardProcess;LGrantKernel$Console;)V"⟩
abbrev nc_Ke_beginTick : ByteArray := prog_4_method_2_code
def ny_Ke_beginTick : MethodName := ⟨nR_Ke, "beginTick", "()V"⟩
abbrev nc_Ke_takeInput : ByteArray := prog_4_method_3_code
def ny_Ke_takeInput : MethodName := ⟨nR_Ke, "takeInput", "(I)Z"⟩
abbrev nc_Ke_takeSample : ByteArray := prog_4_method_4_code
def ny_Ke_takeSample : MethodName := ⟨nR_Ke, "takeSample", "(I)I"⟩
abbrev nc_Ke_waitForUpcall : ByteArray := prog_4_method_5_code
def ny_Ke_waitForUpcall : MethodName := ⟨nR_Ke, "waitForUpcall", "(LGrantKernel$BoardProcess;)V"⟩
abbrev nc_Ke_answer : ByteArray := prog_4_method_6_code
def ny_Ke_answer : MethodName := ⟨nR_Ke, "answer", "(LGrantKernel$BoardProcess;I)I"⟩
abbrev nc_Ke_makeGrant : ByteArray := prog_4_method_7_code
def ny_Ke_makeGrant : MethodName := ⟨nR_Ke, "makeGrant", "(LGrantKernel$BoardProcess;I)Z"⟩
abbrev nc_Ke_subscribe : ByteArray := prog_4_method_8_code
def ny_Ke_subscribe : MethodName := ⟨nR_Ke, "subscribe", "(LGrantKernel$Notes;III)I"⟩
abbrev nc_Ke_allow : ByteArray := prog_4_method_9_code
def ny_Ke_allow : MethodName := ⟨nR_Ke, "allow", "(LGrantKernel$BoardProcess;III)I"⟩
abbrev nc_Ke_commandAlarm : ByteArray := prog_4_method_10_code
def ny_Ke_commandAlarm : MethodName := ⟨nR_Ke, "commandAlarm", "(LGrantKernel$BoardProcess;II)I"⟩
abbrev nc_Ke_setAlarm : ByteArray := prog_4_method_11_code
def ny_Ke_setAlarm : MethodName := ⟨nR_Ke, "setAlarm", "(II)I"⟩
abbrev nc_Ke_cancelAlarm : ByteArray := prog_4_method_12_code
def ny_Ke_cancelAlarm : MethodName := ⟨nR_Ke, "cancelAlarm", "(I)I"⟩
abbrev nc_Ke_commandConsole : ByteArray := prog_4_method_13_code
def ny_Ke_commandConsole : MethodName := ⟨nR_Ke, "commandConsole", "(LGrantKernel$BoardProcess;II)I"⟩
abbrev nc_Ke_putOut : ByteArray := prog_4_method_14_code
def ny_Ke_putOut : MethodName := ⟨nR_Ke, "putOut", "(LGrantKernel$BoardProcess;I)I"⟩
abbrev nc_Ke_commandSensor : ByteArray := prog_4_method_15_code
def ny_Ke_commandSensor : MethodName := ⟨nR_Ke, "commandSensor", "(LGrantKernel$BoardProcess;I)I"⟩
abbrev nc_Ke_isPending : ByteArray := prog_4_method_16_code
def ny_Ke_isPending : MethodName := ⟨nR_Ke, "isPending", "(LGrantKernel$BoardProcess;I)Z"⟩
abbrev nc_Ke_ringIfDue : ByteArray := prog_4_method_17_code
def ny_Ke_ringIfDue : MethodName := ⟨nR_Ke, "ringIfDue", "(LGrantKernel$BoardProcess;)V"⟩
abbrev nc_Ke_receive : ByteArray := prog_4_method_18_code
def ny_Ke_receive : MethodName := ⟨nR_Ke, "receive", "(LGrantKernel$BoardProcess;I)V"⟩
abbrev nc_Ke_upcall : ByteArray := prog_4_method_19_code
def ny_Ke_upcall : MethodName := ⟨nR_Ke, "upcall", "(LGrantKernel$BoardProcess;III)V"⟩
abbrev nc_Pr_init : ByteArray := prog_8_method_1_code
def ny_Pr_init : MethodName := ⟨nR_Pr, "<init>", "(LGrantKernel$Memory;)V"⟩
abbrev nc_Pr_execute : ByteArray := prog_8_method_2_code
def ny_Pr_execute : MethodName := ⟨nR_Pr, "execute", "(LGrantKernel$BoardProcess;)I"⟩
abbrev nc_Pr_dispatch : ByteArray := prog_8_method_3_code
def ny_Pr_dispatch : MethodName := ⟨nR_Pr, "dispatch", "(LGrantKernel$BoardProcess;I)I"⟩
abbrev nc_Pr_shiftByNumber : ByteArray := prog_8_method_4_code
def ny_Pr_shiftByNumber : MethodName := ⟨nR_Pr, "shiftByNumber", "(LGrantKernel$BoardProcess;I)I"⟩
abbrev nc_Pr_addThree : ByteArray := prog_8_method_5_code
def ny_Pr_addThree : MethodName := ⟨nR_Pr, "addThree", "(LGrantKernel$BoardProcess;I)I"⟩
abbrev nc_Pr_withByte : ByteArray := prog_8_method_6_code
def ny_Pr_withByte : MethodName := ⟨nR_Pr, "withByte", "(LGrantKernel$BoardProcess;I)I"⟩
abbrev nc_Pr_combine : ByteArray := prog_8_method_7_code
def ny_Pr_combine : MethodName := ⟨nR_Pr, "combine", "(LGrantKernel$BoardProcess;I)I"⟩
abbrev nc_Pr_bitwise : ByteArray := prog_8_method_8_code
def ny_Pr_bitwise : MethodName := ⟨nR_Pr, "bitwise", "(III)I"⟩
abbrev nc_Pr_jump : ByteArray := prog_8_method_9_code
def ny_Pr_jump : MethodName := ⟨nR_Pr, "jump", "(LGrantKernel$BoardProcess;I)I"⟩
abbrev nc_Pr_loadInto : ByteArray := prog_8_method_10_code
def ny_Pr_loadInto : MethodName := ⟨nR_Pr, "loadInto", "(LGrantKernel$BoardProcess;II)I"⟩
abbrev nc_Pr_storeFrom : ByteArray := prog_8_method_11_code
def ny_Pr_storeFrom : MethodName := ⟨nR_Pr, "storeFrom", "(LGrantKernel$BoardProcess;II)I"⟩
abbrev nc_Pr_moveStack : ByteArray := prog_8_method_12_code
def ny_Pr_moveStack : MethodName := ⟨nR_Pr, "moveStack", "(LGrantKernel$BoardProcess;I)I"⟩
abbrev nc_Pr_push : ByteArray := prog_8_method_13_code
def ny_Pr_push : MethodName := ⟨nR_Pr, "push", "(LGrantKernel$BoardProcess;I)I"⟩
abbrev nc_Pr_pop : ByteArray := prog_8_method_14_code
def ny_Pr_pop : MethodName := ⟨nR_Pr, "pop", "(LGrantKernel$BoardProcess;I)I"⟩
abbrev nc_Pr_branchIf : ByteArray := prog_8_method_15_code
def ny_Pr_branchIf : MethodName := ⟨nR_Pr, "branchIf", "(LGrantKernel$BoardProcess;I)I"⟩
abbrev nc_Pr_holds : ByteArray := prog_8_method_16_code
def ny_Pr_holds : MethodName := ⟨nR_Pr, "holds", "(II)Z"⟩
abbrev nc_Pr_shift : ByteArray := prog_8_method_17_code
def ny_Pr_shift : MethodName := ⟨nR_Pr, "shift", "(LGrantKernel$BoardProcess;III)I"⟩
abbrev nc_Pr_rotate : ByteArray := prog_8_method_18_code
def ny_Pr_rotate : MethodName := ⟨nR_Pr, "rotate", "(LGrantKernel$BoardProcess;II)I"⟩
abbrev nc_Pr_add : ByteArray := prog_8_method_19_code
def ny_Pr_add : MethodName := ⟨nR_Pr, "add", "(LGrantKernel$BoardProcess;III)I"⟩
abbrev nc_Pr_setSigns : ByteArray := prog_8_method_20_code
def ny_Pr_setSigns : MethodName := ⟨nR_Pr, "setSigns", "(LGrantKernel$BoardProcess;I)V"⟩
abbrev nc_Pr_setCarry : ByteArray := prog_8_method_21_code
def ny_Pr_setCarry : MethodName := ⟨nR_Pr, "setCarry", "(LGrantKernel$BoardProcess;Z)V"⟩
abbrev nc_GM_init : ByteArray := prog_11_method_1_code
def ny_GM_init : MethodName := ⟨nR_GM, "<init>", "()V"⟩
abbrev nc_GM_there : ByteArray := prog_11_method_2_code
def ny_GM_there : MethodName := ⟨nR_GM, "there", "(I)Z"⟩
abbrev nc_GM_burn : ByteArray := prog_11_method_3_code
def ny_GM_burn : MethodName := ⟨nR_GM, "burn", "(II)I"⟩
abbrev nc_GM_boot : ByteArray := prog_11_method_4_code
def ny_GM_boot : MethodName := ⟨nR_GM, "boot", "()I"⟩
abbrev nc_GM_load : ByteArray := prog_11_method_5_code
def ny_GM_load : MethodName := ⟨nR_GM, "load", "(III)V"⟩
abbrev nc_GM_begin : ByteArray := prog_11_method_6_code
def ny_GM_begin : MethodName := ⟨nR_GM, "begin", "(I)V"⟩
abbrev nc_GM_forget : ByteArray := prog_11_method_7_code
def ny_GM_forget : MethodName := ⟨nR_GM, "forget", "(I)V"⟩
abbrev nc_GM_drop : ByteArray := prog_11_method_8_code
def ny_GM_drop : MethodName := ⟨nR_GM, "drop", "(II)V"⟩
abbrev nc_GM_move : ByteArray := prog_11_method_9_code
def ny_GM_move : MethodName := ⟨nR_GM, "move", "(II)V"⟩
abbrev nc_GM_halt : ByteArray := prog_11_method_10_code
def ny_GM_halt : MethodName := ⟨nR_GM, "halt", "(I)V"⟩
abbrev nc_GM_openWords : ByteArray := prog_11_method_11_code
def ny_GM_openWords : MethodName := ⟨nR_GM, "openWords", "(II)I"⟩
abbrev nc_GM_granted : ByteArray := prog_11_method_12_code
def ny_GM_granted : MethodName := ⟨nR_GM, "granted", "(I)I"⟩
abbrev nc_GM_within : ByteArray := prog_11_method_13_code
def ny_GM_within : MethodName := ⟨nR_GM, "within", "(III)Z"⟩
abbrev nc_GM_isOpen : ByteArray := prog_11_method_14_code
def ny_GM_isOpen : MethodName := ⟨nR_GM, "isOpen", "(II)Z"⟩
abbrev nc_GM_inCode : ByteArray := prog_11_method_15_code
def ny_GM_inCode : MethodName := ⟨nR_GM, "inCode", "(II)Z"⟩
abbrev nc_GM_may : ByteArray := prog_11_method_16_code
def ny_GM_may : MethodName := ⟨nR_GM, "may", "(IIZ)Z"⟩
abbrev nc_GM_get : ByteArray := prog_11_method_17_code
def ny_GM_get : MethodName := ⟨nR_GM, "get", "(I)I"⟩
abbrev nc_GM_set : ByteArray := prog_11_method_18_code
def ny_GM_set : MethodName := ⟨nR_GM, "set", "(II)V"⟩
abbrev nc_GM_eight : ByteArray := prog_11_method_19_code
def ny_GM_eight : MethodName := ⟨nR_GM, "eight", "(II)Z"⟩
abbrev nc_GM_stack : ByteArray := prog_11_method_20_code
def ny_GM_stack : MethodName := ⟨nR_GM, "stack", "(II)V"⟩
abbrev nc_GM_unstack : ByteArray := prog_11_method_21_code
def ny_GM_unstack : MethodName := ⟨nR_GM, "unstack", "(I)V"⟩
abbrev nc_GM_nz : ByteArray := prog_11_method_22_code
def ny_GM_nz : MethodName := ⟨nR_GM, "nz", "(II)V"⟩
abbrev nc_GM_sum : ByteArray := prog_11_method_23_code
def ny_GM_sum : MethodName := ⟨nR_GM, "sum", "(IIII)I"⟩
abbrev nc_GM_setCarry : ByteArray := prog_11_method_24_code
def ny_GM_setCarry : MethodName := ⟨nR_GM, "setCarry", "(II)V"⟩
abbrev nc_GM_shifted : ByteArray := prog_11_method_25_code
def ny_GM_shifted : MethodName := ⟨nR_GM, "shifted", "(IIII)I"⟩
abbrev nc_GM_calculate : ByteArray := prog_11_method_26_code
def ny_GM_calculate : MethodName := ⟨nR_GM, "calculate", "(II)V"⟩
abbrev nc_GM_immediate : ByteArray := prog_11_method_27_code
def ny_GM_immediate : MethodName := ⟨nR_GM, "immediate", "(II)V"⟩
abbrev nc_GM_addOrTake : ByteArray := prog_11_method_28_code
def ny_GM_addOrTake : MethodName := ⟨nR_GM, "addOrTake", "(II)V"⟩
abbrev nc_GM_access : ByteArray := prog_11_method_29_code
def ny_GM_access : MethodName := ⟨nR_GM, "access", "(IIIZ)V"⟩
abbrev nc_GM_leap : ByteArray := prog_11_method_30_code
def ny_GM_leap : MethodName := ⟨nR_GM, "leap", "(II)V"⟩
abbrev nc_GM_named : ByteArray := prog_11_method_31_code
def ny_GM_named : MethodName := ⟨nR_GM, "named", "(I)I"⟩
abbrev nc_GM_push : ByteArray := prog_11_method_32_code
def ny_GM_push : MethodName := ⟨nR_GM, "push", "(II)V"⟩
abbrev nc_GM_pop : ByteArray := prog_11_method_33_code
def ny_GM_pop : MethodName := ⟨nR_GM, "pop", "(II)V"⟩
abbrev nc_GM_holds : ByteArray := prog_11_method_34_code
def ny_GM_holds : MethodName := ⟨nR_GM, "holds", "(II)Z"⟩
abbrev nc_GM_branch : ByteArray := prog_11_method_35_code
def ny_GM_branch : MethodName := ⟨nR_GM, "branch", "(II)V"⟩
abbrev nc_GM_stackWord : ByteArray := prog_11_method_36_code
def ny_GM_stackWord : MethodName := ⟨nR_GM, "stackWord", "(II)V"⟩
abbrev nc_GM_instruction : ByteArray := prog_11_method_37_code
def ny_GM_instruction : MethodName := ⟨nR_GM, "instruction", "(I)V"⟩
abbrev nc_GM_grantAddress : ByteArray := prog_11_method_38_code
def ny_GM_grantAddress : MethodName := ⟨nR_GM, "grantAddress", "(II)I"⟩
abbrev nc_GM_note : ByteArray := prog_11_method_39_code
def ny_GM_note : MethodName := ⟨nR_GM, "note", "(III)I"⟩
abbrev nc_GM_write : ByteArray := prog_11_method_40_code
def ny_GM_write : MethodName := ⟨nR_GM, "write", "(IIII)V"⟩
abbrev nc_GM_ensure : ByteArray := prog_11_method_41_code
def ny_GM_ensure : MethodName := ⟨nR_GM, "ensure", "(II)Z"⟩
abbrev nc_GM_kernel : ByteArray := prog_11_method_42_code
def ny_GM_kernel : MethodName := ⟨nR_GM, "kernel", "(II)V"⟩
abbrev nc_GM_oldest : ByteArray := prog_11_method_43_code
def ny_GM_oldest : MethodName := ⟨nR_GM, "oldest", "(I)I"⟩
abbrev nc_GM_subscribe : ByteArray := prog_11_method_44_code
def ny_GM_subscribe : MethodName := ⟨nR_GM, "subscribe", "(IIII)I"⟩
abbrev nc_GM_allow : ByteArray := prog_11_method_45_code
def ny_GM_allow : MethodName := ⟨nR_GM, "allow", "(IIII)I"⟩
abbrev nc_GM_command : ByteArray := prog_11_method_46_code
def ny_GM_command : MethodName := ⟨nR_GM, "command", "(IIII)I"⟩
abbrev nc_GM_print : ByteArray := prog_11_method_47_code
def ny_GM_print : MethodName := ⟨nR_GM, "print", "(II)I"⟩
abbrev nc_GM_receive : ByteArray := prog_11_method_48_code
def ny_GM_receive : MethodName := ⟨nR_GM, "receive", "(II)V"⟩
abbrev nc_GM_waiting : ByteArray := prog_11_method_49_code
def ny_GM_waiting : MethodName := ⟨nR_GM, "waiting", "(I)I"⟩
abbrev nc_GM_upcall : ByteArray := prog_11_method_50_code
def ny_GM_upcall : MethodName := ⟨nR_GM, "upcall", "(IIII)V"⟩
abbrev nc_GM_deliver : ByteArray := prog_11_method_51_code
def ny_GM_deliver : MethodName := ⟨nR_GM, "deliver", "(IIII)V"⟩
abbrev nc_GM_faulted : ByteArray := prog_11_method_52_code
def ny_GM_faulted : MethodName := ⟨nR_GM, "faulted", "(I)V"⟩
abbrev nc_GM_alarms : ByteArray := prog_11_method_53_code
def ny_GM_alarms : MethodName := ⟨nR_GM, "alarms", "()V"⟩
abbrev nc_GM_choose : ByteArray := prog_11_method_54_code
def ny_GM_choose : MethodName := ⟨nR_GM, "choose", "()Z"⟩
abbrev nc_GM_step : ByteArray := prog_11_method_55_code
def ny_GM_step : MethodName := ⟨nR_GM, "step", "(I)V"⟩
abbrev nc_GM_run : ByteArray := prog_11_method_56_code
def ny_GM_run : MethodName := ⟨nR_GM, "run", "(I)I"⟩
abbrev nc_GM_type : ByteArray := prog_11_method_57_code
def ny_GM_type : MethodName := ⟨nR_GM, "type", "(I)Z"⟩
abbrev nc_GM_sample : ByteArray := prog_11_method_58_code
def ny_GM_sample : MethodName := ⟨nR_GM, "sample", "(I)I"⟩
abbrev nc_GM_outputs : ByteArray := prog_11_method_59_code
def ny_GM_outputs : MethodName := ⟨nR_GM, "outputs", "()I"⟩
abbrev nc_GM_output : ByteArray := prog_11_method_60_code
def ny_GM_output : MethodName := ⟨nR_GM, "output", "(I)I"⟩
abbrev nc_GM_now : ByteArray := prog_11_method_61_code
def ny_GM_now : MethodName := ⟨nR_GM, "now", "()I"⟩
abbrev nc_GM_turn : ByteArray := prog_11_method_62_code
def ny_GM_turn : MethodName := ⟨nR_GM, "turn", "()I"⟩
abbrev nc_GM_state : ByteArray := prog_11_method_63_code
def ny_GM_state : MethodName := ⟨nR_GM, "state", "(I)I"⟩
abbrev nc_GM_register : ByteArray := prog_11_method_64_code
def ny_GM_register : MethodName := ⟨nR_GM, "register", "(II)I"⟩
abbrev nc_GM_word : ByteArray := prog_11_method_65_code
def ny_GM_word : MethodName := ⟨nR_GM, "word", "(I)I"⟩
abbrev nc_GM_block : ByteArray := prog_11_method_66_code
def ny_GM_block : MethodName := ⟨nR_GM, "block", "(I)I"⟩
abbrev nc_GM_open : ByteArray := prog_11_method_67_code
def ny_GM_open : MethodName := ⟨nR_GM, "open", "(I)I"⟩
abbrev nc_GM_grant : ByteArray := prog_11_method_68_code
def ny_GM_grant : MethodName := ⟨nR_GM, "grant", "(II)I"⟩
abbrev nc_GM_queued : ByteArray := prog_11_method_69_code
def ny_GM_queued : MethodName := ⟨nR_GM, "queued", "(I)I"⟩
abbrev nc_GM_fault : ByteArray := prog_11_method_70_code
def ny_GM_fault : MethodName := ⟨nR_GM, "fault", "(I)I"⟩
abbrev nc_GM_faults : ByteArray := prog_11_method_71_code
def ny_GM_faults : MethodName := ⟨nR_GM, "faults", "(I)I"⟩
abbrev nc_GM_restart : ByteArray := prog_11_method_72_code
def ny_GM_restart : MethodName := ⟨nR_GM, "restart", "(I)Z"⟩
abbrev nc_GM_stop : ByteArray := prog_11_method_73_code
def ny_GM_stop : MethodName := ⟨nR_GM, "stop", "(I)Z"⟩
abbrev nc_JI_bitCount : ByteArray := prog_12_method_49_code
def ny_JI_bitCount : MethodName := ⟨nR_JI, "bitCount", "(I)I"⟩
end
section
/-! the pure state: cells by kind and index, slots; the values; a system's layout; the world that a state is -/
abbrev zS : Type := Nat → Nat → Nat → Int32
def zu (σ : zS) (k p i : Nat) (v : Int32) : zS := fun a b => if a = k ∧ b = p then upd (σ k p) i v else σ a b
abbrev zV : Type := Int32 ⊕ Int64 ⊕ Option (Nat × Nat)
abbrev zI (x : Int32) : zV := Sum.inl x
abbrev zJ (x : Int64) : zV := Sum.inr (Sum.inl x)
abbrev zR (k p : Nat) : zV := Sum.inr (Sum.inr (some (k, p)))
abbrev zN : zV := Sum.inr (Sum.inr none)
abbrev zAd : Type := Nat → Nat → Nat
def zv (ad : zAd) : zV → Value
  | .inl x => .int x
  | .inr (.inl x) => .long x
  | .inr (.inr none) => .null
  | .inr (.inr (some q)) => .ref (ad q.1 q.2)
/-- a kind of cell: an object (its number in vwCl; its fields: a number, or a reference to a cell of a kind, with the same index or index 0), or an array (length, type's number; numbers, or references to the cells of a kind) -/
abbrev zC : Type := (Nat × List (Option (Nat × Bool))) ⊕ (Nat × Nat × Option Nat)
abbrev zY : Type := List (Nat × zC)
def zf (ad : zAd) (f : Nat → Int32) (p : Nat) (fl : List (Option (Nat × Bool))) : List Value := fl.mapIdx (fun i t => match t with
  | none => .int (f i)
  | some q => .ref (ad q.1 (if q.2 then p else 0)))
def ze (ad : zAd) (cA : Nat → ClassId) (σ : zS) (k p : Nat) : zC → va_E
  | .inl o => .inr (o.1, zf ad (σ k p) p o.2)
  | .inr (n, t, none) => .inl (cA t, n, .inl (σ k p))
  | .inr (n, t, some k') => .inl (cA t, n, .inr (.inr (.inr (.inr (fun i => some (ad k' i))))))
def zks (Y : zY) : List (Nat × Nat × zC) := (List.range Y.length).flatMap (fun k => match Y[k]? with
  | some q => (List.range q.1).map (fun p => (k, p, q.2))
  | none => [])
def zw (ad : zAd) (cA : Nat → ClassId) (Y : zY) (σ : zS) : va_W := (zks Y).map (fun q => (ad q.1 q.2.1, ze ad cA σ q.1 q.2.1 q.2.2))
def zty (cA : Nat → ClassId) (TY : List FieldType) : List (ClassId × FieldType) := TY.mapIdx (fun i t => (cA i, t))
theorem zks_mem {Y : zY} {k p : Nat} {c : zC} : (k, p, c) ∈ zks Y ↔ ∃ n, Y[k]? = some (n, c) ∧ p < n := by
  unfold zks
  rw [List.mem_flatMap]
  constructor
  · rintro ⟨k1, h1, h2⟩
    cases hY : Y[k1]? with
    | none => rw [hY] at h2; simp at h2
    | some q =>
      rw [hY] at h2
      simp only [List.mem_map, List.mem_range] at h2
      obtain ⟨p1, h3, h4⟩ := h2
      simp only [Prod.mk.injEq] at h4
      obtain ⟨rfl, rfl, rfl⟩ := h4
      exact ⟨q.1, hY, h3⟩
  · rintro ⟨n, hY, hp⟩
    refine ⟨k, List.mem_range.mpr (List.getElem?_eq_some_iff.mp hY).1, ?_⟩
    rw [hY]
    simp only [List.mem_map, List.mem_range]
    exact ⟨p, hp, rfl⟩
theorem zf_at {ad : zAd} {f : Nat → Int32} {p i : Nat} {fl : List (Option (Nat × Bool))} (h : fl[i]? = some none) : (zf ad f p fl)[i]? = some (.int (f i)) := by
  simp [zf, List.getElem?_mapIdx, h]
theorem zf_atR {ad : zAd} {f : Nat → Int32} {p i : Nat} {q : Nat × Bool} {fl : List (Option (Nat × Bool))} (h : fl[i]? = some (some q)) : (zf ad f p fl)[i]? = some (.ref (ad q.1 (if q.2 then p else 0))) := by
  simp [zf, List.getElem?_mapIdx, h]
theorem zf_set {ad : zAd} {f : Nat → Int32} {p i : Nat} {v : Int32} {fl : List (Option (Nat × Bool))} (h : fl[i]? = some none) : (zf ad f p fl).set i (.int v) = zf ad (upd f i v) p fl := by
  refine List.ext_getElem? (fun j => ?_)
  rw [List.getElem?_set]
  by_cases hj : i = j
  · subst hj
    have hl : i < (zf ad f p fl).length := by
      have := (List.getElem?_eq_some_iff.mp h).1
      simpa [zf] using this
    rw [if_pos rfl, if_pos hl, zf_at h]
    simp [upd]
  · rw [if_neg hj]
    unfold zf
    rw [List.getElem?_mapIdx, List.getElem?_mapIdx]
    cases hq : fl[j]? with
    | none => rfl
    | some t =>
      cases t with
      | none => simp [upd, Ne.symm hj]
      | some q => rfl
theorem zw_at {ad : zAd} {cA : Nat → ClassId} {Y : zY} {σ : zS} {k p n : Nat} {c : zC} (hY : Y[k]? = some (n, c)) (hp : p < n) : ∃ i : Nat, (zks Y)[i]? = some (k, p, c) ∧ (zw ad cA Y σ)[i]? = some (ad k p, ze ad cA σ k p c) := by
  obtain ⟨i, hi⟩ := List.mem_iff_getElem?.mp (zks_mem.mpr ⟨n, hY, hp⟩)
  refine ⟨i, hi, ?_⟩
  unfold zw
  rw [List.getElem?_map, hi]
  rfl
def zkey (Y : zY) : List (Nat × Nat) := (zks Y).map (fun q => (q.1, q.2.1))
theorem zks_inj {Y : zY} (hN : (zkey Y).Nodup) {i j k p : Nat} {c c' : zC} (hi : (zks Y)[i]? = some (k, p, c)) (hj : (zks Y)[j]? = some (k, p, c')) : i = j := by
  have h1 : (zkey Y)[i]? = some (k, p) := by unfold zkey; rw [List.getElem?_map, hi]; rfl
  have h2 : (zkey Y)[j]? = some (k, p) := by unfold zkey; rw [List.getElem?_map, hj]; rfl
  have hl := (List.getElem?_eq_some_iff.mp h1).1
  exact (List.getElem?_inj hl hN).mp (h1.trans h2.symm)
theorem zu_o {σ : zS} {k p i a b : Nat} {v : Int32} (h : ¬ (a = k ∧ b = p)) : zu σ k p i v a b = σ a b := by
  unfold zu; rw [if_neg h]
theorem zu_s {σ : zS} {k p i : Nat} {v : Int32} : zu σ k p i v k p = upd (σ k p) i v := by
  unfold zu; rw [if_pos ⟨rfl, rfl⟩]
theorem ze_o {ad : zAd} {cA : Nat → ClassId} {σ τ : zS} {k p : Nat} {c : zC} (h : σ k p = τ k p) : ze ad cA σ k p c = ze ad cA τ k p c := by
  unfold ze; rw [h]
theorem zw_set {ad : zAd} {cA : Nat → ClassId} {Y : zY} {σ : zS} {k p i j : Nat} {c : zC} {v : Int32} (hN : (zkey Y).Nodup) (hi : (zks Y)[i]? = some (k, p, c)) : (zw ad cA Y σ).set i (ad k p, ze ad cA (zu σ k p j v) k p c) = zw ad cA Y (zu σ k p j v) := by
  refine List.ext_getElem? (fun a => ?_)
  rw [List.getElem?_set]
  by_cases ha : i = a
  · subst ha
    have hl : i < (zw ad cA Y σ).length := by
      have := (List.getElem?_eq_some_iff.mp hi).1
      simpa [zw] using this
    rw [if_pos rfl, if_pos hl]
    unfold zw
    rw [List.getElem?_map, hi]
    rfl
  · rw [if_neg ha]
    unfold zw
    rw [List.getElem?_map, List.getElem?_map]
    cases hq : (zks Y)[a]? with
    | none => rfl
    | some q =>
      obtain ⟨k1, p1, c1⟩ := q
      show some (ad k1 p1, ze ad cA σ k1 p1 c1) = some (ad k1 p1, ze ad cA (zu σ k p j v) k1 p1 c1)
      rw [ze_o (zu_o (σ := σ) (i := j) (v := v) (fun h => ha (by obtain ⟨rfl, rfl⟩ := h; exact zks_inj hN hi hq)))]
/-- addresses: D, the arrays' kinds, the cells -/
abbrev zG : Type := va_G × (Nat → ClassId) × zAd
/-- a system: launch, layout, array types, words, addresses -/
abbrev zQS : Type := Launch × zY × List FieldType × List Cond × zG
/-- a method: name, code, locals, answer, room -/
abbrev zMd : Type := MethodName × ByteArray × Nat × Option FieldType × Room
abbrev zX : Type := Program × Env × State × MethodId × Array Value × List Frame × Method × Code
abbrev zAns : Type := zS × Option zV
def zP (S : zQS) (σ : zS) (H : Heap) : Prop := va_P S.2.2.2.2.1 vwCl (zw S.2.2.2.2.2.2 S.2.2.2.2.2.1 S.2.1 σ) H
def zK (S : zQS) (U : State) : Prop := va_K S.2.2.2.2.1 vwCl (zty S.2.2.2.2.2.1 S.2.2.1) U
def zB (S : zQS) (σ : zS) (U : State) : Prop := zP S σ U.heap ∧ zK S U
def zA (S : zQS) : Nat → Prop := fun q => ∃ (k p n : Nat) (c : zC), S.2.1[k]? = some (n, c) ∧ p < n ∧ q = S.2.2.2.2.2.2 k p
/-- the addresses are apart; the layout names no cell twice; the words can go with a call -/
def zJ0 (S : zQS) : Prop := (∀ (k p n : Nat) (c : zC) (k' p' n' : Nat) (c' : zC), S.2.1[k]? = some (n, c) → p < n → S.2.1[k']? = some (n', c') → p' < n' → S.2.2.2.2.2.2 k p = S.2.2.2.2.2.2 k' p' → k = k' ∧ p = p') ∧ (zkey S.2.1).Nodup ∧ GoodIn S.2.2.2.1 S.2.2.2.1
theorem zD {S : zQS} (h : zJ0 S) (σ : zS) : va_D (zA S) (zw S.2.2.2.2.2.2 S.2.2.2.2.2.1 S.2.1 σ) := by
  have at' : ∀ (i : Nat) (q : Nat × va_E), (zw S.2.2.2.2.2.2 S.2.2.2.2.2.1 S.2.1 σ)[i]? = some q → ∃ (k p n : Nat) (c : zC), (zks S.2.1)[i]? = some (k, p, c) ∧ S.2.1[k]? = some (n, c) ∧ p < n ∧ q.1 = S.2.2.2.2.2.2 k p := by
    intro i q hq
    unfold zw at hq
    rw [List.getElem?_map] at hq
    cases hk : (zks S.2.1)[i]? with
    | none => rw [hk] at hq; cases hq
    | some x =>
      obtain ⟨k, p, c⟩ := x
      rw [hk] at hq
      obtain ⟨n, h1, h2⟩ := zks_mem.mp (List.mem_of_getElem? hk)
      refine ⟨k, p, n, c, rfl, h1, h2, ?_⟩
      cases hq
      rfl
  refine ⟨fun i j a b ha hb hab => ?_, fun i q hq => ?_⟩
  · obtain ⟨k, p, n, c, h1, h2, h3, h4⟩ := at' i a ha
    obtain ⟨k', p', n', c', g1, g2, g3, g4⟩ := at' j b hb
    obtain ⟨rfl, rfl⟩ := h.1 k p n c k' p' n' c' h2 h3 g2 g3 (h4.symm.trans (hab.trans g4))
    exact zks_inj h.2.1 h1 g1
  · obtain ⟨k, p, n, c, -, h2, h3, h4⟩ := at' i q hq
    exact ⟨k, p, n, c, h2, h3, h4⟩
def zQ (S : zQS) (r : zAns) : Array Value → State → Outcome → State → Prop := fun _ st oc t => (oc = .returned (r.2.map (zv S.2.2.2.2.2.2)) ∧ zB S r.1 t) ∧ va_F (zA S) st t
/-- the contract of a method: from the state σ, with these arguments, to that answer -/
def zM (S : zQS) (M : zMd) (vs : List zV) (σ : zS) (r : zAns) : Prop := Met S.1 M.1 (.code M.1 M.2.1 M.2.2.1 M.2.2.2.1 :: S.2.2.2.1) M.2.2.2.2 (va_Pc (vs.map (zv S.2.2.2.2.2.2)) (zB S σ)) (zQ S r) 0 0 (zA S)
/-- locals -/
def zL (ad : zAd) (ls : Array Slot) (nL : Nat) (L : List (Option zV)) : Prop := ls.size = nL ∧ lv_wf ls ∧ ∀ (i : Nat) (v : zV), L[i]? = some (some v) → ls[i]? = some (.val (zv ad v))
def zO (S : zQS) (M : zMd) (X : zX) : Prop := zJ0 S ∧ X.1.tables.exec = Jvm.exec ∧ X.2.2.2.2.2.2.2.code = M.2.1 ∧ X.2.2.2.2.2.2.2.maxLocals = M.2.2.1 ∧ X.2.2.1.vm.findClass M.1.cls = some X.2.2.2.1.cls ∧ (∀ w ∈ S.2.2.2.1, w.before X.2.2.2.2.1 X.2.2.1 = true) ∧ zK S X.2.2.1 ∧ X.2.2.2.2.2.2.1.sig.returnType = M.2.2.2.1 ∧ X.2.2.2.2.2.2.1.locks = false
/-- the judgement: from here the method comes to the answer r -/
def ZW (S : zQS) (M : zMd) (r : zAns) (X : zX) (pc : Nat) (L : List (Option zV)) (st : List zV) (σ : zS) : Prop :=
  ∀ (H : Heap) (locs : List Loc) (ls : Array Slot), zP S σ H → va_S (zA S) X.2.2.1.heap H locs → zL S.2.2.2.2.2.2 ls M.2.2.1 L →
    W X.1 S.1 X.2.1 M.2.2.2.2 X.2.2.1 X.2.2.2.1 X.2.2.2.2.1 X.2.2.2.2.2.1 X.2.2.2.2.2.2.1 X.2.2.2.2.2.2.2 H locs 0 0 (MQ X.2.2.2.2.2.1 (zQ S r) X.2.2.2.2.1 X.2.2.1 0 0 (zA S)) (F0 X.2.2.2.1 pc ls (st.map (zv S.2.2.2.2.2.2)))
def zc1 : zV → Bool
  | .inr (.inl _) => false
  | _ => true
theorem zc1_cat {ad : zAd} {v : zV} (h : zc1 v = true) : (zv ad v).category = 1 := by
  rcases v with x | x | x
  · rfl
  · cases h
  · cases x <;> rfl
theorem zargs_mem {ad : zAd} : ∀ (vs : List zV) (j i : Nat) (v : zV), vs.all zc1 = true → vs[i]? = some v → (j + i, zv ad v) ∈ lv_args j (vs.map (zv ad)) := by
  intro vs
  induction vs with
  | nil => intro j i v _ h; simp at h
  | cons a r ih =>
    intro j i v h1 h2
    simp only [List.all_cons, Bool.and_eq_true] at h1
    have hc : ¬ (zv ad a).category = 2 := by rw [zc1_cat h1.1]; decide
    show (j + i, zv ad v) ∈ (j, zv ad a) :: lv_args (if (zv ad a).category = 2 then j + 2 else j + 1) (r.map (zv ad))
    rw [if_neg hc]
    cases i with
    | zero =>
      simp at h2
      subst h2
      exact List.mem_cons_self
    | succ i =>
      have := ih (j + 1) i v h1.2 (by simpa using h2)
      rw [show j + (i + 1) = j + 1 + i by omega]
      exact List.mem_cons_of_mem _ this
theorem zsl_len {ad : zAd} : ∀ (vs : List zV), vs.all zc1 = true → (lg_sl (vs.map (zv ad))).length = vs.length := by
  intro vs
  induction vs with
  | nil => intro _; rfl
  | cons a r ih =>
    intro h1
    simp only [List.all_cons, Bool.and_eq_true] at h1
    have hc : ¬ (zv ad a).category = 2 := by rw [zc1_cat h1.1]; decide
    have := ih h1.2
    simp only [lg_sl, List.map_cons, List.flatMap_cons, if_neg hc, List.length_append, List.length_cons, List.length_nil] at this ⊢
    omega
/-- a method's contract out of a walk in the judgement -/
theorem zMet {S : zQS} {M : zMd} {vs : List zV} {σ : zS} {r : zAns} (L0 : List (Option zV)) (hJ : zJ0 S) (hn : plainName M.1.cls = true) (hc : vs.all zc1 = true) (hl : vs.length ≤ M.2.2.1) (hL : vs.map some ++ List.replicate (M.2.2.1 - vs.length) none = L0)
    (body : ∀ X : zX, zO S M X → ZW S M r X 0 L0 [] σ) : zM S M vs σ r := by
  refine Met.ofW (cc := M.2.1) (maxL := M.2.2.1) (ret := M.2.2.2.1) hn rfl ?_
  intro p e s m args below meth c s₁ B hml hv
  obtain ⟨rfl, hP, hK⟩ := hv
  have hts := atoms_spec (ws := (.code M.1 M.2.1 M.2.2.1 M.2.2.2.1 :: S.2.2.2.1)) B.pre
  have hO : zO S M (p, e, s, m, (vs.map (zv S.2.2.2.2.2.2)).toArray, below, meth, c) := ⟨hJ, B.exec, B.bytes, hml, findClass_of_methodNamed B.named, fun w h => hts w (List.mem_cons_of_mem _ h), hK, B.returns, B.notSynchronized⟩
  have h2 := lv_entry (vs.map (zv S.2.2.2.2.2.2)) (n := M.2.2.1) (by rw [zsl_len vs hc]; exact hl)
  rw [lg_entry_eq]
  refine body _ hO s.heap [] _ hP va_S.rf ⟨h2.1, h2.2.1, fun i v hi => ?_⟩
  have hv : vs[i]? = some v := by
    rw [← hL, List.getElem?_append] at hi
    split at hi
    · rw [List.getElem?_map] at hi
      cases hq : vs[i]? with
      | none => rw [hq] at hi; cases hi
      | some u => rw [hq] at hi; cases hi; rfl
    · rw [List.getElem?_replicate] at hi
      split at hi <;> cases hi
  have h3 := zargs_mem (ad := S.2.2.2.2.2.2) vs 0 i v hc hv
  rw [Nat.zero_add] at h3
  exact h2.2.2 _ h3
end
section
/-! rows of the judgement: an instruction a row -/
def zi (i : Int32) (n : Nat) : Bool := decide (¬ (i < 0 ∨ n ≤ i.toNatClampNeg))
def zn (y : Int32) : Bool := decide (¬ y = 0)
def zb (v : Int32) : Bool := decide (v = 0 ∨ v = 1)
theorem zi_in {i : Int32} {n : Nat} (h : zi i n = true) : vp_in i n := of_decide_eq_true (p := ¬ (i < 0 ∨ n ≤ i.toNatClampNeg)) h
theorem zn_ne {y : Int32} (h : zn y = true) : ¬ y = 0 := of_decide_eq_true h
theorem zb_or {v : Int32} (h : zb v = true) : v = 0 ∨ v = 1 := of_decide_eq_true h
/-- names, checks, calls in the pure functions -/
def lt {α β : Type} (e : α) (k : α → Option β) : Option β := k e
def ck {β : Type} (b : Bool) (x : Option β) : Option β := if b = true then x else none
def bn {α β : Type} (x : Option α) (k : α → Option β) : Option β := match x with
  | none => none
  | some a => k a
theorem lt_use {α β : Type} {e : α} {k : α → Option β} {r : β} (h : lt e k = some r) : ∃ x, x = e ∧ k x = some r := ⟨e, rfl, h⟩
theorem ck_use {β : Type} {b : Bool} {x : Option β} {r : β} (h : ck b x = some r) : b = true ∧ x = some r := by
  unfold ck at h
  by_cases hb : b = true
  · rw [if_pos hb] at h; exact ⟨hb, h⟩
  · rw [if_neg hb] at h; cases h
theorem bn_use {α β : Type} {x : Option α} {k : α → Option β} {r : β} (h : bn x k = some r) : ∃ a, x = some a ∧ k a = some r := by
  cases x with
  | none => cases h
  | some a => exact ⟨a, rfl, h⟩
theorem ite_t {c : Prop} [Decidable c] {β : Type} {a b : Option β} {r : β} (hc : c) (h : (if c then a else b) = some r) : a = some r := by rw [if_pos hc] at h; exact h
theorem ite_f {c : Prop} [Decidable c] {β : Type} {a b : Option β} {r : β} (hc : ¬ c) (h : (if c then a else b) = some r) : b = some r := by rw [if_neg hc] at h; exact h
/-- locals as the kit has them -/
def zps (ad : zAd) (L : List (Option zV)) : List (Nat × Value) := (List.range L.length).filterMap (fun i => match L[i]? with
  | some (some v) => some (i, zv ad v)
  | _ => none)
theorem zps_mem {ad : zAd} {L : List (Option zV)} {i : Nat} {v : zV} (h : L[i]? = some (some v)) : (i, zv ad v) ∈ zps ad L := by
  unfold zps
  rw [List.mem_filterMap]
  exact ⟨i, List.mem_range.mpr (List.getElem?_eq_some_iff.mp h).1, by rw [h]⟩
theorem zps_of {ad : zAd} {L : List (Option zV)} {q : Nat × Value} (h : q ∈ zps ad L) : ∃ v, L[q.1]? = some (some v) ∧ q.2 = zv ad v := by
  unfold zps at h
  rw [List.mem_filterMap] at h
  obtain ⟨i, -, h⟩ := h
  split at h
  · rename_i v hv
    cases h
    exact ⟨v, hv, rfl⟩
  · cases h
theorem zL_has {ad : zAd} {ls : Array Slot} {nL : Nat} {L : List (Option zV)} (h : zL ad ls nL L) : lv_has ls nL (zps ad L) := by
  refine ⟨h.1, h.2.1, fun q hq => ?_⟩
  obtain ⟨v, h1, h2⟩ := zps_of hq
  rw [h2]
  exact h.2.2 _ _ h1
def zset (L : List (Option zV)) (i : Nat) (v : zV) : List (Option zV) := match i with
  | 0 => L.set 0 (some v)
  | j + 1 => match L[j]? with
    | some (some (.inr (.inl _))) => (L.set j none).set (j + 1) (some v)
    | _ => L.set (j + 1) (some v)
theorem set_at {L : List (Option zV)} {i j : Nat} {a : Option zV} {u : zV} (h : (L.set i a)[j]? = some (some u)) : (j = i ∧ a = some u) ∨ (j ≠ i ∧ L[j]? = some (some u)) := by
  rw [List.getElem?_set] at h
  by_cases hj : i = j
  · rw [if_pos hj] at h
    split at h
    · exact Or.inl ⟨hj.symm, Option.some.inj h⟩
    · cases h
  · rw [if_neg hj] at h
    exact Or.inr ⟨fun e => hj e.symm, h⟩
theorem zset_at {L : List (Option zV)} {i j : Nat} {v u : zV} (h : (zset L i v)[j]? = some (some u)) : (j = i ∧ u = v) ∨ (j ≠ i ∧ L[j]? = some (some u) ∧ ¬ (j + 1 = i ∧ zc1 u = false)) := by
  unfold zset at h
  cases i with
  | zero =>
    rcases set_at h with ⟨h1, h2⟩ | ⟨h1, h2⟩
    · exact Or.inl ⟨h1, (Option.some.inj h2).symm⟩
    · exact Or.inr ⟨h1, h2, fun h3 => by omega⟩
  | succ i =>
    dsimp only at h
    split at h
    · rename_i w hw
      rcases set_at h with ⟨h1, h2⟩ | ⟨h1, h2⟩
      · exact Or.inl ⟨h1, (Option.some.inj h2).symm⟩
      · rcases set_at h2 with ⟨h3, h4⟩ | ⟨h3, h4⟩
        · cases h4
        · exact Or.inr ⟨h1, h4, fun h5 => h3 (by omega)⟩
    · rename_i hw
      rcases set_at h with ⟨h1, h2⟩ | ⟨h1, h2⟩
      · exact Or.inl ⟨h1, (Option.some.inj h2).symm⟩
      · refine Or.inr ⟨h1, h2, fun h5 => ?_⟩
        obtain ⟨h6, h7⟩ := h5
        have h8 : j = i := by omega
        subst h8
        rcases u with x | x | x
        · cases h7
        · exact hw x h2
        · cases h7
theorem zc1_ct {ad : zAd} {v : zV} (h : (zv ad v).category = 2) : zc1 v = false := by
  cases hc : zc1 v with
  | false => rfl
  | true => rw [zc1_cat hc] at h; cases h
theorem zL_st1 {ad : zAd} {ls : Array Slot} {nL i : Nat} {L : List (Option zV)} {v : zV} (h : lv_has ls nL ((i, zv ad v) :: (zps ad L).filter (fun q => !(q.1 == i) && !(q.1 + 1 == i && q.2.category == 2)))) : zL ad ls nL (zset L i v) := by
  refine ⟨h.1, h.2.1, fun j u hj => ?_⟩
  rcases zset_at hj with ⟨rfl, rfl⟩ | ⟨h1, h2, h3⟩
  · exact h.2.2 (j, zv ad u) List.mem_cons_self
  · refine h.2.2 (j, zv ad u) (List.mem_cons_of_mem _ (List.mem_filter.mpr ⟨zps_mem h2, ?_⟩))
    simp only [Bool.and_eq_true, Bool.not_eq_true', beq_eq_false_iff_ne, Bool.and_eq_false_iff]
    refine ⟨h1, ?_⟩
    by_cases h4 : j + 1 = i
    · right
      intro h5
      exact h3 ⟨h4, zc1_ct h5⟩
    · left
      exact h4
theorem zL_st2 {ad : zAd} {ls : Array Slot} {nL i : Nat} {L : List (Option zV)} {v : zV} (h : lv_has ls nL ((i, zv ad v) :: (zps ad L).filter (fun q => !(q.1 == i) && (!(q.1 == i + 1) && !(q.1 + 1 == i && q.2.category == 2))))) : zL ad ls nL ((zset L i v).set (i + 1) none) := by
  refine ⟨h.1, h.2.1, fun j u hj => ?_⟩
  rcases set_at hj with ⟨_, h0⟩ | ⟨h0, hj⟩
  · cases h0
  rcases zset_at hj with ⟨rfl, rfl⟩ | ⟨h1, h2, h3⟩
  · exact h.2.2 (j, zv ad u) List.mem_cons_self
  · refine h.2.2 (j, zv ad u) (List.mem_cons_of_mem _ (List.mem_filter.mpr ⟨zps_mem h2, ?_⟩))
    simp only [Bool.and_eq_true, Bool.not_eq_true', beq_eq_false_iff_ne, Bool.and_eq_false_iff]
    refine ⟨h1, h0, ?_⟩
    by_cases h4 : j + 1 = i
    · right
      intro h5
      exact h3 ⟨h4, zc1_ct h5⟩
    · left
      exact h4
/-- fewer locals known -/
def zle : List (Option zV) → List (Option zV) → Prop
  | [], _ => True
  | none :: a, _ :: b => zle a b
  | some v :: a, o :: b => o = some v ∧ zle a b
  | _ :: _, [] => False
theorem zle_at : ∀ (a b : List (Option zV)), zle a b → ∀ (i : Nat) (v : zV), a[i]? = some (some v) → b[i]? = some (some v) := by
  intro a
  induction a with
  | nil => intro b _ i v h; simp at h
  | cons x r ih =>
    intro b hb i v h
    cases b with
    | nil => cases x <;> exact hb.elim
    | cons y q =>
      cases x with
      | none =>
        cases i with
        | zero => simp at h
        | succ i => simpa using ih q hb i v (by simpa using h)
      | some w =>
        cases i with
        | zero =>
          have h1 : w = v := by simpa using h
          simp [hb.1, h1]
        | succ i => simpa using ih q hb.2 i v (by simpa using h)
section ZROWS
variable {S : zQS} {M : zMd} {r : zAns} {X : zX} {pc : Nat} {L : List (Option zV)} {st : List zV} {σ : zS}
theorem zl_weak {L' : List (Option zV)} (h : zle L' L) (k : ZW S M r X pc L' st σ) : ZW S M r X pc L st σ := fun H locs ls hP hS hL => k H locs ls hP hS ⟨hL.1, hL.2.1, fun i v hi => hL.2.2 i v (zle_at _ _ h i v hi)⟩
theorem zl_top {x y : Int32} (e : y = x) (k : ZW S M r X pc L (zI y :: st) σ) : ZW S M r X pc L (zI x :: st) σ := e ▸ k
theorem zl_topJ {x y : Int64} (e : y = x) (k : ZW S M r X pc L (zJ y :: st) σ) : ZW S M r X pc L (zJ x :: st) σ := e ▸ k
theorem zl_sg {τ : zS} (e : τ = σ) (k : ZW S M r X pc L st τ) : ZW S M r X pc L st σ := e ▸ k
theorem zl_iconst (hO : zO S M X) {n : Int} {v : Int32} (hd : decode M.2.1 pc = .ok (.iconst n, 1)) (hv : Int32.ofInt n = v) (k : ZW S M r X (pc + 1) L (zI v :: st) σ) : ZW S M r X pc L (st) σ := fun H locs ls hP hS hL => lv_iconst hO.2.1 hO.2.2.1 hd hv (k H locs ls hP hS hL)
theorem zl_bipush (hO : zO S M X) {n : Int} {v : Int32} (hd : decode M.2.1 pc = .ok (.bipush n, 2)) (hv : (Int8.ofInt n).toInt32 = v) (k : ZW S M r X (pc + 2) L (zI v :: st) σ) : ZW S M r X pc L (st) σ := fun H locs ls hP hS hL => lv_bipush hO.2.1 hO.2.2.1 hd hv (k H locs ls hP hS hL)
theorem zl_sipush (hO : zO S M X) {n : Int} {v : Int32} (hd : decode M.2.1 pc = .ok (.sipush n, 3)) (hv : (Int16.ofInt n).toInt32 = v) (k : ZW S M r X (pc + 3) L (zI v :: st) σ) : ZW S M r X pc L (st) σ := fun H locs ls hP hS hL => lv_sipush hO.2.1 hO.2.2.1 hd hv (k H locs ls hP hS hL)
theorem zl_lconst (hO : zO S M X) {n : Fin 2} {v : Int64} (hd : decode M.2.1 pc = .ok (.lconst n, 1)) (hv : Int64.ofNat (n : Nat) = v) (k : ZW S M r X (pc + 1) L (zJ v :: st) σ) : ZW S M r X pc L (st) σ := fun H locs ls hP hS hL => lv_lconst hO.2.1 hO.2.2.1 hd hv (k H locs ls hP hS hL)
theorem zl_null (hO : zO S M X)  (hd : decode M.2.1 pc = .ok (.aconst_null, 1)) (k : ZW S M r X (pc + 1) L (zN :: st) σ) : ZW S M r X pc L (st) σ := fun H locs ls hP hS hL => lv_null hO.2.1 hO.2.2.1 hd (k H locs ls hP hS hL)
theorem zl_ldc (hO : zO S M X) {idx : Nat} {v : Int32} (hd : decode M.2.1 pc = .ok (.ldc idx, 2)) (hw : Cond.constant M.1.cls idx v ∈ S.2.2.2.1) (k : ZW S M r X (pc + 2) L (zI v :: st) σ) : ZW S M r X pc L (st) σ := fun H locs ls hP hS hL => lv_ldc hO.2.1 hO.2.2.1 hO.2.2.2.2.1 (hO.2.2.2.2.2.1 _ hw) hd (k H locs ls hP hS hL)
theorem zl_ldcw (hO : zO S M X) {idx : Nat} {v : Int32} (hd : decode M.2.1 pc = .ok (.ldc_w idx, 3)) (hw : Cond.constant M.1.cls idx v ∈ S.2.2.2.1) (k : ZW S M r X (pc + 3) L (zI v :: st) σ) : ZW S M r X pc L (st) σ := fun H locs ls hP hS hL => lv_ldcw hO.2.1 hO.2.2.1 hO.2.2.2.2.1 (hO.2.2.2.2.2.1 _ hw) hd (k H locs ls hP hS hL)
theorem zl_ldc2 (hO : zO S M X) {idx : Nat} {v : Int64} (hd : decode M.2.1 pc = .ok (.ldc2_w idx, 3)) (hw : Cond.constantLong M.1.cls idx v ∈ S.2.2.2.1) (k : ZW S M r X (pc + 3) L (zJ v :: st) σ) : ZW S M r X pc L (st) σ := fun H locs ls hP hS hL => lv_ldc2 hO.2.1 hO.2.2.1 hO.2.2.2.2.1 (hO.2.2.2.2.2.1 _ hw) hd (k H locs ls hP hS hL)
theorem zl_iload_n (hO : zO S M X) {k0 : Fin 4} (i : Nat) {x : Int32} (hd : decode M.2.1 pc = .ok (.iload_n k0, 1)) (hi : (k0 : Nat) = i) (hl : L[i]? = some (some (zI x))) (k : ZW S M r X (pc + 1) L (zI x :: st) σ) : ZW S M r X pc L (st) σ := fun H locs ls hP hS hL => lv_iload_n hO.2.1 hO.2.2.1 hd hi (hL.2.2 i _ hl) (k H locs ls hP hS hL)
theorem zl_iload (hO : zO S M X) {i : Nat} {x : Int32} (hd : decode M.2.1 pc = .ok (.iload i, 2)) (hl : L[i]? = some (some (zI x))) (k : ZW S M r X (pc + 2) L (zI x :: st) σ) : ZW S M r X pc L (st) σ := fun H locs ls hP hS hL => lv_iload hO.2.1 hO.2.2.1 hd (hL.2.2 i _ hl) (k H locs ls hP hS hL)
theorem zl_lload_n (hO : zO S M X) {k0 : Fin 4} (i : Nat) {x : Int64} (hd : decode M.2.1 pc = .ok (.lload_n k0, 1)) (hi : (k0 : Nat) = i) (hl : L[i]? = some (some (zJ x))) (k : ZW S M r X (pc + 1) L (zJ x :: st) σ) : ZW S M r X pc L (st) σ := fun H locs ls hP hS hL => lv_lload_n hO.2.1 hO.2.2.1 hd hi (hL.2.2 i _ hl) (k H locs ls hP hS hL)
theorem zl_lload (hO : zO S M X) {i : Nat} {x : Int64} (hd : decode M.2.1 pc = .ok (.lload i, 2)) (hl : L[i]? = some (some (zJ x))) (k : ZW S M r X (pc + 2) L (zJ x :: st) σ) : ZW S M r X pc L (st) σ := fun H locs ls hP hS hL => lv_lload hO.2.1 hO.2.2.1 hd (hL.2.2 i _ hl) (k H locs ls hP hS hL)
theorem zl_aload_n (hO : zO S M X) {k0 : Fin 4} (i : Nat) {o : Option (Nat × Nat)} (hd : decode M.2.1 pc = .ok (.aload_n k0, 1)) (hi : (k0 : Nat) = i) (hl : L[i]? = some (some (Sum.inr (Sum.inr o)))) (k : ZW S M r X (pc + 1) L (Sum.inr (Sum.inr o) :: st) σ) : ZW S M r X pc L st σ := by
  intro H locs ls hP hS hL
  cases o with
  | none => exact lv_aload_nN hO.2.1 hO.2.2.1 hd hi (hL.2.2 i _ hl) (k H locs ls hP hS hL)
  | some x => exact lv_aload_n hO.2.1 hO.2.2.1 hd hi (hL.2.2 i _ hl) (k H locs ls hP hS hL)
theorem zl_aload (hO : zO S M X) {i : Nat} {o : Option (Nat × Nat)} (hd : decode M.2.1 pc = .ok (.aload i, 2)) (hl : L[i]? = some (some (Sum.inr (Sum.inr o)))) (k : ZW S M r X (pc + 2) L (Sum.inr (Sum.inr o) :: st) σ) : ZW S M r X pc L st σ := by
  intro H locs ls hP hS hL
  cases o with
  | none => exact lv_aloadN hO.2.1 hO.2.2.1 hd (hL.2.2 i _ hl) (k H locs ls hP hS hL)
  | some x => exact lv_aload hO.2.1 hO.2.2.1 hd (hL.2.2 i _ hl) (k H locs ls hP hS hL)
theorem zl_istore_n (hO : zO S M X) {k0 : Fin 4} (i : Nat) {x : Int32} {L' : List (Option zV)} (hd : decode M.2.1 pc = .ok (.istore_n k0, 1)) (hi : (k0 : Nat) = i) (hn : i < M.2.2.1) (hl : (zset L i (zI x)) = L') (k : ZW S M r X (pc + 1) L' st σ) : ZW S M r X pc L (zI x :: st) σ := fun H locs ls hP hS hL => lv_istore_n hO.2.1 hO.2.2.1 hd hi (zL_has hL) hn rfl (fun ls' h' => k H locs ls' hP hS (hl ▸ zL_st1 (v := zI x) h'))
theorem zl_istore (hO : zO S M X) {i : Nat} {x : Int32} {L' : List (Option zV)} (hd : decode M.2.1 pc = .ok (.istore i, 2)) (hn : i < M.2.2.1) (hl : (zset L i (zI x)) = L') (k : ZW S M r X (pc + 2) L' st σ) : ZW S M r X pc L (zI x :: st) σ := fun H locs ls hP hS hL => lv_istore hO.2.1 hO.2.2.1 hd (zL_has hL) hn rfl (fun ls' h' => k H locs ls' hP hS (hl ▸ zL_st1 (v := zI x) h'))
theorem zl_astore_n (hO : zO S M X) {k0 : Fin 4} (i : Nat) {o : Option (Nat × Nat)} {L' : List (Option zV)} (hd : decode M.2.1 pc = .ok (.astore_n k0, 1)) (hi : (k0 : Nat) = i) (hn : i < M.2.2.1) (hl : zset L i (Sum.inr (Sum.inr o)) = L') (k : ZW S M r X (pc + 1) L' st σ) : ZW S M r X pc L (Sum.inr (Sum.inr o) :: st) σ := by
  intro H locs ls hP hS hL
  cases o with
  | none => exact lv_astore_nN hO.2.1 hO.2.2.1 hd hi (zL_has hL) hn rfl (fun ls' h' => k H locs ls' hP hS (hl ▸ zL_st1 (v := zN) h'))
  | some x => exact lv_astore_n hO.2.1 hO.2.2.1 hd hi (zL_has hL) hn rfl (fun ls' h' => k H locs ls' hP hS (hl ▸ zL_st1 (v := Sum.inr (Sum.inr (some x))) h'))
theorem zl_astore (hO : zO S M X) {i : Nat} {o : Option (Nat × Nat)} {L' : List (Option zV)} (hd : decode M.2.1 pc = .ok (.astore i, 2)) (hn : i < M.2.2.1) (hl : zset L i (Sum.inr (Sum.inr o)) = L') (k : ZW S M r X (pc + 2) L' st σ) : ZW S M r X pc L (Sum.inr (Sum.inr o) :: st) σ := by
  intro H locs ls hP hS hL
  cases o with
  | none => exact lv_astoreN hO.2.1 hO.2.2.1 hd (zL_has hL) hn rfl (fun ls' h' => k H locs ls' hP hS (hl ▸ zL_st1 (v := zN) h'))
  | some x => exact lv_astore hO.2.1 hO.2.2.1 hd (zL_has hL) hn rfl (fun ls' h' => k H locs ls' hP hS (hl ▸ zL_st1 (v := Sum.inr (Sum.inr (some x))) h'))
theorem zl_lstore_n (hO : zO S M X) {k0 : Fin 4} (i : Nat) {x : Int64} {L' : List (Option zV)} (hd : decode M.2.1 pc = .ok (.lstore_n k0, 1)) (hi : (k0 : Nat) = i) (hn : i + 1 < M.2.2.1) (hl : ((zset L i (zJ x)).set (i + 1) none) = L') (k : ZW S M r X (pc + 1) L' st σ) : ZW S M r X pc L (zJ x :: st) σ := fun H locs ls hP hS hL => lv_lstore_n hO.2.1 hO.2.2.1 hd hi (zL_has hL) hn rfl (fun ls' h' => k H locs ls' hP hS (hl ▸ zL_st2 (v := zJ x) h'))
theorem zl_lstore (hO : zO S M X) {i : Nat} {x : Int64} {L' : List (Option zV)} (hd : decode M.2.1 pc = .ok (.lstore i, 2)) (hn : i + 1 < M.2.2.1) (hl : ((zset L i (zJ x)).set (i + 1) none) = L') (k : ZW S M r X (pc + 2) L' st σ) : ZW S M r X pc L (zJ x :: st) σ := fun H locs ls hP hS hL => lv_lstore hO.2.1 hO.2.2.1 hd (zL_has hL) hn rfl (fun ls' h' => k H locs ls' hP hS (hl ▸ zL_st2 (v := zJ x) h'))
theorem zl_iinc (hO : zO S M X) {i : Nat} {n : Int} {x v : Int32} {L' : List (Option zV)} (hd : decode M.2.1 pc = .ok (.iinc i n, 3)) (hx : L[i]? = some (some (zI x))) (hv : x + Int32.ofInt n = v) (hn : i < M.2.2.1) (hl : zset L i (zI v) = L') (k : ZW S M r X (pc + 3) L' st σ) : ZW S M r X pc L st σ := by
  intro H locs ls hP hS hL
  obtain ⟨j, hj⟩ := List.mem_iff_getElem?.mp (zps_mem (ad := S.2.2.2.2.2.2) hx)
  exact lv_iinc hO.2.1 hO.2.2.1 hd (zL_has hL) hj hv hn rfl (fun ls' h' => k H locs ls' hP hS (hl ▸ zL_st1 (v := zI v) h'))
theorem zl_iadd (hO : zO S M X) {x y : Int32} (hd : decode M.2.1 pc = .ok (.iadd, 1)) (k : ZW S M r X (pc + 1) L (zI (x + y) :: st) σ) : ZW S M r X pc L (zI y :: zI x :: st) σ := fun H locs ls hP hS hL => lv_iadd hO.2.1 hO.2.2.1 hd (k H locs ls hP hS hL)
theorem zl_isub (hO : zO S M X) {x y : Int32} (hd : decode M.2.1 pc = .ok (.isub, 1)) (k : ZW S M r X (pc + 1) L (zI (x - y) :: st) σ) : ZW S M r X pc L (zI y :: zI x :: st) σ := fun H locs ls hP hS hL => lv_isub hO.2.1 hO.2.2.1 hd (k H locs ls hP hS hL)
theorem zl_imul (hO : zO S M X) {x y : Int32} (hd : decode M.2.1 pc = .ok (.imul, 1)) (k : ZW S M r X (pc + 1) L (zI (x * y) :: st) σ) : ZW S M r X pc L (zI y :: zI x :: st) σ := fun H locs ls hP hS hL => lv_imul hO.2.1 hO.2.2.1 hd (k H locs ls hP hS hL)
theorem zl_iand (hO : zO S M X) {x y : Int32} (hd : decode M.2.1 pc = .ok (.iand, 1)) (k : ZW S M r X (pc + 1) L (zI (x &&& y) :: st) σ) : ZW S M r X pc L (zI y :: zI x :: st) σ := fun H locs ls hP hS hL => lv_iand hO.2.1 hO.2.2.1 hd (k H locs ls hP hS hL)
theorem zl_ior (hO : zO S M X) {x y : Int32} (hd : decode M.2.1 pc = .ok (.ior, 1)) (k : ZW S M r X (pc + 1) L (zI (x ||| y) :: st) σ) : ZW S M r X pc L (zI y :: zI x :: st) σ := fun H locs ls hP hS hL => lv_ior hO.2.1 hO.2.2.1 hd (k H locs ls hP hS hL)
theorem zl_ixor (hO : zO S M X) {x y : Int32} (hd : decode M.2.1 pc = .ok (.ixor, 1)) (k : ZW S M r X (pc + 1) L (zI (x ^^^ y) :: st) σ) : ZW S M r X pc L (zI y :: zI x :: st) σ := fun H locs ls hP hS hL => lv_ixor hO.2.1 hO.2.2.1 hd (k H locs ls hP hS hL)
theorem zl_ishl (hO : zO S M X) {x y : Int32} (hd : decode M.2.1 pc = .ok (.ishl, 1)) (k : ZW S M r X (pc + 1) L (zI (x <<< (y &&& 31)) :: st) σ) : ZW S M r X pc L (zI y :: zI x :: st) σ := fun H locs ls hP hS hL => lv_ishl hO.2.1 hO.2.2.1 hd (k H locs ls hP hS hL)
theorem zl_ishr (hO : zO S M X) {x y : Int32} (hd : decode M.2.1 pc = .ok (.ishr, 1)) (k : ZW S M r X (pc + 1) L (zI (x >>> (y &&& 31)) :: st) σ) : ZW S M r X pc L (zI y :: zI x :: st) σ := fun H locs ls hP hS hL => lv_ishr hO.2.1 hO.2.2.1 hd (k H locs ls hP hS hL)
theorem zl_iushr (hO : zO S M X) {x y : Int32} (hd : decode M.2.1 pc = .ok (.iushr, 1)) (k : ZW S M r X (pc + 1) L (zI ((x.toUInt32 >>> (y.toUInt32 &&& Int32.toUInt32 31)).toInt32) :: st) σ) : ZW S M r X pc L (zI y :: zI x :: st) σ := fun H locs ls hP hS hL => lv_iushr hO.2.1 hO.2.2.1 hd rfl (k H locs ls hP hS hL)
theorem zl_idiv (hO : zO S M X) {x y : Int32} (hd : decode M.2.1 pc = .ok (.idiv, 1)) (h0 : zn y = true) (k : ZW S M r X (pc + 1) L (zI (x / y) :: st) σ) : ZW S M r X pc L (zI y :: zI x :: st) σ := fun H locs ls hP hS hL => lv_idiv hO.2.1 hO.2.2.1 hd (zn_ne h0) (k H locs ls hP hS hL)
theorem zl_irem (hO : zO S M X) {x y : Int32} (hd : decode M.2.1 pc = .ok (.irem, 1)) (h0 : zn y = true) (k : ZW S M r X (pc + 1) L (zI (x - x / y * y) :: st) σ) : ZW S M r X pc L (zI y :: zI x :: st) σ := fun H locs ls hP hS hL => lv_irem hO.2.1 hO.2.2.1 hd (zn_ne h0) (k H locs ls hP hS hL)
theorem zl_ineg (hO : zO S M X) {x : Int32} (hd : decode M.2.1 pc = .ok (.ineg, 1)) (k : ZW S M r X (pc + 1) L (zI (-x) :: st) σ) : ZW S M r X pc L (zI x :: st) σ := fun H locs ls hP hS hL => lv_ineg hO.2.1 hO.2.2.1 hd (k H locs ls hP hS hL)
theorem zl_ladd (hO : zO S M X) {x y : Int64} (hd : decode M.2.1 pc = .ok (.ladd, 1)) (k : ZW S M r X (pc + 1) L (zJ (x + y) :: st) σ) : ZW S M r X pc L (zJ y :: zJ x :: st) σ := fun H locs ls hP hS hL => lv_ladd hO.2.1 hO.2.2.1 hd (k H locs ls hP hS hL)
theorem zl_lsub (hO : zO S M X) {x y : Int64} (hd : decode M.2.1 pc = .ok (.lsub, 1)) (k : ZW S M r X (pc + 1) L (zJ (x - y) :: st) σ) : ZW S M r X pc L (zJ y :: zJ x :: st) σ := fun H locs ls hP hS hL => lv_lsub hO.2.1 hO.2.2.1 hd (k H locs ls hP hS hL)
theorem zl_land (hO : zO S M X) {x y : Int64} (hd : decode M.2.1 pc = .ok (.land, 1)) (k : ZW S M r X (pc + 1) L (zJ (x &&& y) :: st) σ) : ZW S M r X pc L (zJ y :: zJ x :: st) σ := fun H locs ls hP hS hL => lv_land hO.2.1 hO.2.2.1 hd (k H locs ls hP hS hL)
theorem zl_lor (hO : zO S M X) {x y : Int64} (hd : decode M.2.1 pc = .ok (.lor, 1)) (k : ZW S M r X (pc + 1) L (zJ (x ||| y) :: st) σ) : ZW S M r X pc L (zJ y :: zJ x :: st) σ := fun H locs ls hP hS hL => lv_lor hO.2.1 hO.2.2.1 hd (k H locs ls hP hS hL)
theorem zl_lshl (hO : zO S M X) {x : Int64} {y : Int32} (hd : decode M.2.1 pc = .ok (.lshl, 1)) (k : ZW S M r X (pc + 1) L (zJ (x <<< (y.toInt64 &&& 63)) :: st) σ) : ZW S M r X pc L (zI y :: zJ x :: st) σ := fun H locs ls hP hS hL => lv_lshl hO.2.1 hO.2.2.1 hd rfl (k H locs ls hP hS hL)
theorem zl_lshr (hO : zO S M X) {x : Int64} {y : Int32} (hd : decode M.2.1 pc = .ok (.lshr, 1)) (k : ZW S M r X (pc + 1) L (zJ (x >>> (y.toInt64 &&& 63)) :: st) σ) : ZW S M r X pc L (zI y :: zJ x :: st) σ := fun H locs ls hP hS hL => lv_lshr hO.2.1 hO.2.2.1 hd rfl (k H locs ls hP hS hL)
theorem zl_lcmp (hO : zO S M X) {x y : Int64} (hd : decode M.2.1 pc = .ok (.lcmp, 1)) (k : ZW S M r X (pc + 1) L (zI (lg_cmp x y) :: st) σ) : ZW S M r X pc L (zJ y :: zJ x :: st) σ := fun H locs ls hP hS hL => W.lcmp hO.2.1 hO.2.2.1 hd (k H locs ls hP hS hL)
theorem zl_i2l (hO : zO S M X) {x : Int32} (hd : decode M.2.1 pc = .ok (.i2l, 1)) (k : ZW S M r X (pc + 1) L (zJ x.toInt64 :: st) σ) : ZW S M r X pc L (zI x :: st) σ := fun H locs ls hP hS hL => lv_i2l hO.2.1 hO.2.2.1 hd rfl (k H locs ls hP hS hL)
theorem zl_l2i (hO : zO S M X) {x : Int64} (hd : decode M.2.1 pc = .ok (.l2i, 1)) (k : ZW S M r X (pc + 1) L (zI x.toInt32 :: st) σ) : ZW S M r X pc L (zJ x :: st) σ := fun H locs ls hP hS hL => lv_l2i hO.2.1 hO.2.2.1 hd rfl (k H locs ls hP hS hL)
theorem zl_dup (hO : zO S M X) {v : zV} (hd : decode M.2.1 pc = .ok (.dup, 1)) (hc : zc1 v = true) (k : ZW S M r X (pc + 1) L (v :: v :: st) σ) : ZW S M r X pc L (v :: st) σ := fun H locs ls hP hS hL => lv_dup hO.2.1 hO.2.2.1 hd (zc1_cat hc) (k H locs ls hP hS hL)
theorem zl_pop (hO : zO S M X) {v : zV} (hd : decode M.2.1 pc = .ok (.pop, 1)) (hc : zc1 v = true) (k : ZW S M r X (pc + 1) L (st) σ) : ZW S M r X pc L (v :: st) σ := fun H locs ls hP hS hL => lv_pop hO.2.1 hO.2.2.1 hd (zc1_cat hc) (k H locs ls hP hS hL)
theorem zl_dup_x1 (hO : zO S M X) {v w : zV} (hd : decode M.2.1 pc = .ok (.dup_x1, 1)) (hc : zc1 v = true) (hc2 : zc1 w = true) (k : ZW S M r X (pc + 1) L (v :: w :: v :: st) σ) : ZW S M r X pc L (v :: w :: st) σ := fun H locs ls hP hS hL => lv_dup_x1 hO.2.1 hO.2.2.1 hd (zc1_cat hc) (zc1_cat hc2) (k H locs ls hP hS hL)
theorem zl_dup2 (hO : zO S M X) {v w : zV} (hd : decode M.2.1 pc = .ok (.dup2, 1)) (hc : zc1 v = true) (hc2 : zc1 w = true) (k : ZW S M r X (pc + 1) L (v :: w :: v :: w :: st) σ) : ZW S M r X pc L (v :: w :: st) σ := fun H locs ls hP hS hL => lv_dup2_11 hO.2.1 hO.2.2.1 hd (zc1_cat hc) (zc1_cat hc2) (k H locs ls hP hS hL)
theorem zl_if_eq (hO : zO S M X) {x : Int32} {off : Int} (tgt : Nat) (hd : decode M.2.1 pc = .ok (.ifCond .eq off, 3)) (ht : (pc : Int) + off = (tgt : Int)) (kt : x = 0 → ZW S M r X tgt L st σ) (kf : ¬ x = 0 → ZW S M r X (pc + 3) L st σ) : ZW S M r X pc L (zI x :: st) σ := fun H locs ls hP hS hL => lv_if_eq hO.2.1 hO.2.2.1 hd ht (fun h => kt h H locs ls hP hS hL) (fun h => kf h H locs ls hP hS hL)
theorem zl_icmp_eq (hO : zO S M X) {x y : Int32} {off : Int} (tgt : Nat) (hd : decode M.2.1 pc = .ok (.if_icmp .eq off, 3)) (ht : (pc : Int) + off = (tgt : Int)) (kt : x = y → ZW S M r X tgt L st σ) (kf : ¬ x = y → ZW S M r X (pc + 3) L st σ) : ZW S M r X pc L (zI y :: zI x :: st) σ := fun H locs ls hP hS hL => lv_icmp_eq hO.2.1 hO.2.2.1 hd ht (fun h => kt h H locs ls hP hS hL) (fun h => kf h H locs ls hP hS hL)
theorem zl_if_ne (hO : zO S M X) {x : Int32} {off : Int} (tgt : Nat) (hd : decode M.2.1 pc = .ok (.ifCond .ne off, 3)) (ht : (pc : Int) + off = (tgt : Int)) (kt : ¬ x = 0 → ZW S M r X tgt L st σ) (kf : x = 0 → ZW S M r X (pc + 3) L st σ) : ZW S M r X pc L (zI x :: st) σ := fun H locs ls hP hS hL => lv_if_ne hO.2.1 hO.2.2.1 hd ht (fun h => kt h H locs ls hP hS hL) (fun h => kf h H locs ls hP hS hL)
theorem zl_icmp_ne (hO : zO S M X) {x y : Int32} {off : Int} (tgt : Nat) (hd : decode M.2.1 pc = .ok (.if_icmp .ne off, 3)) (ht : (pc : Int) + off = (tgt : Int)) (kt : ¬ x = y → ZW S M r X tgt L st σ) (kf : x = y → ZW S M r X (pc + 3) L st σ) : ZW S M r X pc L (zI y :: zI x :: st) σ := fun H locs ls hP hS hL => lv_icmp_ne hO.2.1 hO.2.2.1 hd ht (fun h => kt h H locs ls hP hS hL) (fun h => kf h H locs ls hP hS hL)
theorem zl_if_lt (hO : zO S M X) {x : Int32} {off : Int} (tgt : Nat) (hd : decode M.2.1 pc = .ok (.ifCond .lt off, 3)) (ht : (pc : Int) + off = (tgt : Int)) (kt : x < 0 → ZW S M r X tgt L st σ) (kf : ¬ x < 0 → ZW S M r X (pc + 3) L st σ) : ZW S M r X pc L (zI x :: st) σ := fun H locs ls hP hS hL => lv_if_lt hO.2.1 hO.2.2.1 hd ht (fun h => kt h H locs ls hP hS hL) (fun h => kf h H locs ls hP hS hL)
theorem zl_icmp_lt (hO : zO S M X) {x y : Int32} {off : Int} (tgt : Nat) (hd : decode M.2.1 pc = .ok (.if_icmp .lt off, 3)) (ht : (pc : Int) + off = (tgt : Int)) (kt : x < y → ZW S M r X tgt L st σ) (kf : ¬ x < y → ZW S M r X (pc + 3) L st σ) : ZW S M r X pc L (zI y :: zI x :: st) σ := fun H locs ls hP hS hL => lv_icmp_lt hO.2.1 hO.2.2.1 hd ht (fun h => kt h H locs ls hP hS hL) (fun h => kf h H locs ls hP hS hL)
theorem zl_if_ge (hO : zO S M X) {x : Int32} {off : Int} (tgt : Nat) (hd : decode M.2.1 pc = .ok (.ifCond .ge off, 3)) (ht : (pc : Int) + off = (tgt : Int)) (kt : 0 ≤ x → ZW S M r X tgt L st σ) (kf : ¬ 0 ≤ x → ZW S M r X (pc + 3) L st σ) : ZW S M r X pc L (zI x :: st) σ := fun H locs ls hP hS hL => lv_if_ge hO.2.1 hO.2.2.1 hd ht (fun h => kt h H locs ls hP hS hL) (fun h => kf h H locs ls hP hS hL)
theorem zl_icmp_ge (hO : zO S M X) {x y : Int32} {off : Int} (tgt : Nat) (hd : decode M.2.1 pc = .ok (.if_icmp .ge off, 3)) (ht : (pc : Int) + off = (tgt : Int)) (kt : y ≤ x → ZW S M r X tgt L st σ) (kf : ¬ y ≤ x → ZW S M r X (pc + 3) L st σ) : ZW S M r X pc L (zI y :: zI x :: st) σ := fun H locs ls hP hS hL => lv_icmp_ge hO.2.1 hO.2.2.1 hd ht (fun h => kt h H locs ls hP hS hL) (fun h => kf h H locs ls hP hS hL)
theorem zl_if_gt (hO : zO S M X) {x : Int32} {off : Int} (tgt : Nat) (hd : decode M.2.1 pc = .ok (.ifCond .gt off, 3)) (ht : (pc : Int) + off = (tgt : Int)) (kt : 0 < x → ZW S M r X tgt L st σ) (kf : ¬ 0 < x → ZW S M r X (pc + 3) L st σ) : ZW S M r X pc L (zI x :: st) σ := fun H locs ls hP hS hL => lv_if_gt hO.2.1 hO.2.2.1 hd ht (fun h => kt h H locs ls hP hS hL) (fun h => kf h H locs ls hP hS hL)
theorem zl_icmp_gt (hO : zO S M X) {x y : Int32} {off : Int} (tgt : Nat) (hd : decode M.2.1 pc = .ok (.if_icmp .gt off, 3)) (ht : (pc : Int) + off = (tgt : Int)) (kt : y < x → ZW S M r X tgt L st σ) (kf : ¬ y < x → ZW S M r X (pc + 3) L st σ) : ZW S M r X pc L (zI y :: zI x :: st) σ := fun H locs ls hP hS hL => lv_icmp_gt hO.2.1 hO.2.2.1 hd ht (fun h => kt h H locs ls hP hS hL) (fun h => kf h H locs ls hP hS hL)
theorem zl_if_le (hO : zO S M X) {x : Int32} {off : Int} (tgt : Nat) (hd : decode M.2.1 pc = .ok (.ifCond .le off, 3)) (ht : (pc : Int) + off = (tgt : Int)) (kt : x ≤ 0 → ZW S M r X tgt L st σ) (kf : ¬ x ≤ 0 → ZW S M r X (pc + 3) L st σ) : ZW S M r X pc L (zI x :: st) σ := fun H locs ls hP hS hL => lv_if_le hO.2.1 hO.2.2.1 hd ht (fun h => kt h H locs ls hP hS hL) (fun h => kf h H locs ls hP hS hL)
theorem zl_icmp_le (hO : zO S M X) {x y : Int32} {off : Int} (tgt : Nat) (hd : decode M.2.1 pc = .ok (.if_icmp .le off, 3)) (ht : (pc : Int) + off = (tgt : Int)) (kt : x ≤ y → ZW S M r X tgt L st σ) (kf : ¬ x ≤ y → ZW S M r X (pc + 3) L st σ) : ZW S M r X pc L (zI y :: zI x :: st) σ := fun H locs ls hP hS hL => lv_icmp_le hO.2.1 hO.2.2.1 hd ht (fun h => kt h H locs ls hP hS hL) (fun h => kf h H locs ls hP hS hL)
theorem zl_goto (hO : zO S M X) {off : Int} (tgt : Nat) (hd : decode M.2.1 pc = .ok (.goto off, 3)) (ht : (pc : Int) + off = (tgt : Int)) (k : ZW S M r X tgt L st σ) : ZW S M r X pc L st σ := fun H locs ls hP hS hL => lv_goto hO.2.1 hO.2.2.1 hd ht (k H locs ls hP hS hL)
theorem zl_ifnullN (hO : zO S M X) {off : Int} (tgt : Nat) (hd : decode M.2.1 pc = .ok (.ifnull off, 3)) (ht : (pc : Int) + off = (tgt : Int)) (k : ZW S M r X tgt L st σ) : ZW S M r X pc L (zN :: st) σ := fun H locs ls hP hS hL => lv_ifnullN hO.2.1 hO.2.2.1 hd ht (k H locs ls hP hS hL)
theorem zl_ifnull (hO : zO S M X) {off : Int} {x : Nat × Nat} (hd : decode M.2.1 pc = .ok (.ifnull off, 3)) (k : ZW S M r X (pc + 3) L st σ) : ZW S M r X pc L (Sum.inr (Sum.inr (some x)) :: st) σ := fun H locs ls hP hS hL => lv_ifnull hO.2.1 hO.2.2.1 hd (k H locs ls hP hS hL)
theorem zl_ifnonnull (hO : zO S M X) {off : Int} {x : Nat × Nat} (tgt : Nat) (hd : decode M.2.1 pc = .ok (.ifnonnull off, 3)) (ht : (pc : Int) + off = (tgt : Int)) (k : ZW S M r X tgt L st σ) : ZW S M r X pc L (Sum.inr (Sum.inr (some x)) :: st) σ := fun H locs ls hP hS hL => lv_ifnonnull hO.2.1 hO.2.2.1 hd ht (k H locs ls hP hS hL)
theorem zl_ifnonnullN (hO : zO S M X) {off : Int} (hd : decode M.2.1 pc = .ok (.ifnonnull off, 3)) (k : ZW S M r X (pc + 3) L st σ) : ZW S M r X pc L (zN :: st) σ := fun H locs ls hP hS hL => lv_ifnonnullN hO.2.1 hO.2.2.1 hd (k H locs ls hP hS hL)
theorem zl_tabOut (hO : zO S M X) {dflt lo hi : Int} {offs : Array Int} {len : Nat} {x : Int32} (tgt : Nat) (hd : decode M.2.1 pc = .ok (.tableswitch dflt lo hi offs, len)) (h : x.toInt < lo ∨ hi < x.toInt) (ht : (pc : Int) + dflt = (tgt : Int)) (k : ZW S M r X tgt L st σ) : ZW S M r X pc L (zI x :: st) σ := fun H locs ls hP hS hL => lv_tableOut hO.2.1 hO.2.2.1 hd h ht (k H locs ls hP hS hL)
theorem zl_tabIn (hO : zO S M X) {dflt lo hi : Int} {offs : Array Int} {len : Nat} {x : Int32} (y : Int32) {off : Int} (tgt : Nat) (hx : x = y) (hd : decode M.2.1 pc = .ok (.tableswitch dflt lo hi offs, len)) (h1 : ¬ y.toInt < lo) (h2 : ¬ hi < y.toInt) (ho : offs[(y.toInt - lo).toNat]? = some off) (ht : (pc : Int) + off = (tgt : Int)) (k : ZW S M r X tgt L st σ) : ZW S M r X pc L (zI x :: st) σ := by
  subst hx
  exact fun H locs ls hP hS hL => lv_tableIn hO.2.1 hO.2.2.1 hd h1 h2 ho ht (k H locs ls hP hS hL)
theorem zl_look (hO : zO S M X) {dflt : Int} {ps : Array (Int × Int)} {len : Nat} {x : Int32} {off : Int} (tgt : Nat) (hd : decode M.2.1 pc = .ok (.lookupswitch dflt ps, len)) (hp : (ps.toList.zip (ps.toList.drop 1)).all (fun (a, next) => a.1 < next.1) = true) (ho : Op.lookupswitch.offset ps.toList dflt x.toInt = off) (ht : (pc : Int) + off = (tgt : Int)) (k : ZW S M r X tgt L st σ) : ZW S M r X pc L (zI x :: st) σ := fun H locs ls hP hS hL => lv_lookup hO.2.1 hO.2.2.1 hd hp ho ht (k H locs ls hP hS hL)
/-- what the words say of a field: read, and written -/
def zFl (G : List Cond) (own : String) (idx ci i : Nat) : Prop := ∃ (C : String) (T : u_T) (N : Nat), vwCl[ci]? = some (C, T, N) ∧ (∀ w ∈ u_ws C T N, w ∈ G) ∧ i < N ∧ Cond.fieldLink own idx (T i).1 (T i).2.1 (T i).2.2.1 ∈ G
def zFp (G : List Cond) (own : String) (idx ci i : Nat) (ty : FieldType) : Prop := ∃ (C : String) (T : u_T) (N : Nat) (tf : Nat → FieldType), vwCl[ci]? = some (C, T, N) ∧ (∀ w ∈ u_ws C T N, w ∈ G) ∧ i < N ∧ Cond.fieldLink own idx (T i).1 (T i).2.1 (T i).2.2.1 ∈ G ∧ (∀ k, k < N → parseFieldDescriptor (T k).2.2.1 = some (tf k)) ∧ (∀ a, a < N → ∀ b, b < N → a ≠ b → (T a).2.1 ≠ (T b).2.1) ∧ (T i).2.2.2 = false ∧ parseFieldDescriptor (T i).2.2.1 = some ty
theorem zl_geti (hO : zO S M X) {k p i ci idx n : Nat} {fl : List (Option (Nat × Bool))} (hd : decode M.2.1 pc = .ok (.getfield idx, 3)) (hF : zFl S.2.2.2.1 M.1.cls idx ci i) (hY : S.2.1[k]? = some (n, .inl (ci, fl))) (hp : p < n) (hf : fl[i]? = some none) (kk : ZW S M r X (pc + 3) L (zI (σ k p i) :: st) σ) : ZW S M r X pc L (zR k p :: st) σ := by
  intro H locs ls hP hS hL
  obtain ⟨C, T, N, hc, hin, hi, hlink⟩ := hF
  obtain ⟨q, -, hq⟩ := zw_at (ad := S.2.2.2.2.2.2) (cA := S.2.2.2.2.2.1) (σ := σ) hY hp
  exact va_get (fs := zf S.2.2.2.2.2.2 (σ k p) p fl) (v := .int (σ k p i)) hO.2.1 hO.2.2.1 hO.2.2.2.2.2.1 hin hO.2.2.2.2.1 hO.2.2.2.2.2.2.1 hP q hq hc i hi (hO.2.2.2.2.2.1 _ hlink) (fun _ h => h) (zf_at hf) hd (kk H locs ls hP hS hL)
theorem zl_getr (hO : zO S M X) {k p i ci idx n : Nat} {q : Nat × Bool} {fl : List (Option (Nat × Bool))} (hd : decode M.2.1 pc = .ok (.getfield idx, 3)) (hF : zFl S.2.2.2.1 M.1.cls idx ci i) (hY : S.2.1[k]? = some (n, .inl (ci, fl))) (hp : p < n) (hf : fl[i]? = some (some q)) (kk : ZW S M r X (pc + 3) L (zR q.1 (if q.2 then p else 0) :: st) σ) : ZW S M r X pc L (zR k p :: st) σ := by
  intro H locs ls hP hS hL
  obtain ⟨C, T, N, hc, hin, hi, hlink⟩ := hF
  obtain ⟨q0, -, hq⟩ := zw_at (ad := S.2.2.2.2.2.2) (cA := S.2.2.2.2.2.1) (σ := σ) hY hp
  exact va_get (fs := zf S.2.2.2.2.2.2 (σ k p) p fl) hO.2.1 hO.2.2.1 hO.2.2.2.2.2.1 hin hO.2.2.2.2.1 hO.2.2.2.2.2.2.1 hP q0 hq hc i hi (hO.2.2.2.2.2.1 _ hlink) (fun _ h => h) (zf_atR hf) hd (kk H locs ls hP hS hL)
theorem zl_getS (hO : zO S M X) {k p i ci idx n k' : Nat} {fl : List (Option (Nat × Bool))} (hd : decode M.2.1 pc = .ok (.getfield idx, 3)) (hF : zFl S.2.2.2.1 M.1.cls idx ci i) (hY : S.2.1[k]? = some (n, .inl (ci, fl))) (hp : p < n) (hf : fl[i]? = some (some (k', true))) (kk : ZW S M r X (pc + 3) L (zR k' p :: st) σ) : ZW S M r X pc L (zR k p :: st) σ := zl_getr hO hd hF hY hp hf kk
theorem zl_get0 (hO : zO S M X) {k p i ci idx n k' : Nat} {fl : List (Option (Nat × Bool))} (hd : decode M.2.1 pc = .ok (.getfield idx, 3)) (hF : zFl S.2.2.2.1 M.1.cls idx ci i) (hY : S.2.1[k]? = some (n, .inl (ci, fl))) (hp : p < n) (hf : fl[i]? = some (some (k', false))) (kk : ZW S M r X (pc + 3) L (zR k' 0 :: st) σ) : ZW S M r X pc L (zR k p :: st) σ := zl_getr hO hd hF hY hp hf kk
theorem zl_put {ty : FieldType} (hO : zO S M X) {k p i ci idx n : Nat} {v : Int32} {fl : List (Option (Nat × Bool))} (hd : decode M.2.1 pc = .ok (.putfield idx, 3)) (hF : zFp S.2.2.2.1 M.1.cls idx ci i ty) (hn : narrow ty (.int v) = .int v) (hfit : fits ty (.int v) = true) (hY : S.2.1[k]? = some (n, .inl (ci, fl))) (hp : p < n) (hf : fl[i]? = some none) (kk : ZW S M r X (pc + 3) L st (zu σ k p i v)) : ZW S M r X pc L (zI v :: zR k p :: st) σ := by
  intro H locs ls hP hS hL
  obtain ⟨C, T, N, tf, hc, hin, hi, hlink, hty, hnm, hfin, hd2⟩ := hF
  obtain ⟨q, hq0, hq⟩ := zw_at (ad := S.2.2.2.2.2.2) (cA := S.2.2.2.2.2.1) (σ := σ) hY hp
  have hlen : i < (zf S.2.2.2.2.2.2 (σ k p) p fl).length := by
    have := (List.getElem?_eq_some_iff.mp hf).1
    simpa [zf] using this
  refine va_put (ty := ty) (v := .int v) (fs := zf S.2.2.2.2.2.2 (σ k p) p fl) hO.2.1 hO.2.2.1 hO.2.2.2.2.2.1 hin tf hty hnm hO.2.2.2.2.1 hO.2.2.2.2.2.2.1 hP (zD hO.1 σ) hS q hq hc i hi (hO.2.2.2.2.2.1 _ hlink) (fun _ h => h) hfin hd2 hn hfit hlen hd (fun H1 locs1 hP1 _ hS1 => kk H1 locs1 ls ?_ hS1 hL)
  have e1 := zw_set (ad := S.2.2.2.2.2.2) (cA := S.2.2.2.2.2.1) (σ := σ) (j := i) (v := v) hO.1.2.1 hq0
  show va_P _ _ (zw _ _ _ (zu σ k p i v)) H1
  rw [← e1]
  have e2 : ze S.2.2.2.2.2.2 S.2.2.2.2.2.1 (zu σ k p i v) k p (.inl (ci, fl)) = .inr (ci, (zf S.2.2.2.2.2.2 (σ k p) p fl).set i (.int v)) := by
    rw [zf_set hf]
    show Sum.inr (ci, zf _ (zu σ k p i v k p) p fl) = _
    rw [zu_s]
  rw [e2]
  exact hP1
theorem zl_puti (hO : zO S M X) {k p i ci idx n : Nat} {v : Int32} {fl : List (Option (Nat × Bool))} (hd : decode M.2.1 pc = .ok (.putfield idx, 3)) (hF : zFp S.2.2.2.1 M.1.cls idx ci i .int) (hY : S.2.1[k]? = some (n, .inl (ci, fl))) (hp : p < n) (hf : fl[i]? = some none) (kk : ZW S M r X (pc + 3) L st (zu σ k p i v)) : ZW S M r X pc L (zI v :: zR k p :: st) σ := zl_put hO hd hF rfl rfl hY hp hf kk
theorem zl_putz (hO : zO S M X) {k p i ci idx n : Nat} {v : Int32} {fl : List (Option (Nat × Bool))} (hd : decode M.2.1 pc = .ok (.putfield idx, 3)) (hb : zb v = true) (hF : zFp S.2.2.2.1 M.1.cls idx ci i .boolean) (hY : S.2.1[k]? = some (n, .inl (ci, fl))) (hp : p < n) (hf : fl[i]? = some none) (kk : ZW S M r X (pc + 3) L st (zu σ k p i v)) : ZW S M r X pc L (zI v :: zR k p :: st) σ := by
  rcases zb_or hb with rfl | rfl
  · exact zl_put hO hd hF rfl rfl hY hp hf kk
  · exact zl_put hO hd hF rfl rfl hY hp hf kk
theorem zty_at {cA : Nat → ClassId} {TY : List FieldType} {t : Nat} {ty : FieldType} (h : TY[t]? = some ty) : (zty cA TY)[t]? = some (cA t, ty) := by
  simp [zty, List.getElem?_mapIdx, h]
theorem zl_iald (hO : zO S M X) {k p n t len : Nat} {i : Int32} (hd : decode M.2.1 pc = .ok (.iaload, 1)) (hY : S.2.1[k]? = some (n, .inr (len, t, none))) (hT : S.2.2.1[t]? = some .int) (hp : p < n) (hi : zi i len = true) (kk : ZW S M r X (pc + 1) L (zI (σ k p i.toNatClampNeg) :: st) σ) : ZW S M r X pc L (zI i :: zR k p :: st) σ := by
  intro H locs ls hP hS hL
  obtain ⟨q, -, hq⟩ := zw_at (ad := S.2.2.2.2.2.2) (cA := S.2.2.2.2.2.1) (σ := σ) hY hp
  exact va_iald hO.2.1 hO.2.2.1 hO.2.2.2.2.2.2.1 hP q t hq (zty_at hT) (zi_in hi) hd (kk H locs ls hP hS hL)
theorem zl_zald (hO : zO S M X) {k p n t len : Nat} {i : Int32} (hd : decode M.2.1 pc = .ok (.baload, 1)) (hY : S.2.1[k]? = some (n, .inr (len, t, none))) (hT : S.2.2.1[t]? = some .boolean) (hp : p < n) (hi : zi i len = true) (kk : ZW S M r X (pc + 1) L (zI (σ k p i.toNatClampNeg) :: st) σ) : ZW S M r X pc L (zI i :: zR k p :: st) σ := by
  intro H locs ls hP hS hL
  obtain ⟨q, -, hq⟩ := zw_at (ad := S.2.2.2.2.2.2) (cA := S.2.2.2.2.2.1) (σ := σ) hY hp
  exact va_zald hO.2.1 hO.2.2.1 hO.2.2.2.2.2.2.1 hP q t hq (zty_at hT) (zi_in hi) hd (kk H locs ls hP hS hL)
theorem zl_aald (hO : zO S M X) {k p n t len k' : Nat} {C : String} {i : Int32} (hd : decode M.2.1 pc = .ok (.aaload, 1)) (hY : S.2.1[k]? = some (n, .inr (len, t, some k'))) (hT : S.2.2.1[t]? = some (.object C)) (hp : p < n) (hi : zi i len = true) (kk : ZW S M r X (pc + 1) L (zR k' i.toNatClampNeg :: st) σ) : ZW S M r X pc L (zI i :: zR k p :: st) σ := by
  intro H locs ls hP hS hL
  obtain ⟨q, -, hq⟩ := zw_at (ad := S.2.2.2.2.2.2) (cA := S.2.2.2.2.2.1) (σ := σ) hY hp
  exact va_aldq hO.2.1 hO.2.2.1 hO.2.2.2.2.2.2.1 hP q t hq (zty_at hT) (zi_in hi) hd (kk H locs ls hP hS hL)
theorem zl_alen (hO : zO S M X) {k p n t len : Nat} {o : Option Nat} {ty : FieldType} {v : Int32} (hd : decode M.2.1 pc = .ok (.arraylength, 1)) (hY : S.2.1[k]? = some (n, .inr (len, t, o))) (hT : S.2.2.1[t]? = some ty) (hp : p < n) (hv : Int32.ofNat len = v) (kk : ZW S M r X (pc + 1) L (zI v :: st) σ) : ZW S M r X pc L (zR k p :: st) σ := by
  intro H locs ls hP hS hL
  obtain ⟨q, -, hq⟩ := zw_at (ad := S.2.2.2.2.2.2) (cA := S.2.2.2.2.2.1) (σ := σ) hY hp
  cases o with
  | none => exact va_alen hO.2.1 hO.2.2.1 hO.2.2.2.2.2.2.1 hP q t hq (zty_at hT) hv hd (kk H locs ls hP hS hL)
  | some k' => exact va_alen hO.2.1 hO.2.2.1 hO.2.2.2.2.2.2.1 hP q t hq (zty_at hT) hv hd (kk H locs ls hP hS hL)
theorem zl_iast (hO : zO S M X) {k p n t len : Nat} {i v : Int32} (hd : decode M.2.1 pc = .ok (.iastore, 1)) (hY : S.2.1[k]? = some (n, .inr (len, t, none))) (hT : S.2.2.1[t]? = some .int) (hp : p < n) (hi : zi i len = true) (kk : ZW S M r X (pc + 1) L st (zu σ k p i.toNatClampNeg v)) : ZW S M r X pc L (zI v :: zI i :: zR k p :: st) σ := by
  intro H locs ls hP hS hL
  obtain ⟨q, hq0, hq⟩ := zw_at (ad := S.2.2.2.2.2.2) (cA := S.2.2.2.2.2.1) (σ := σ) hY hp
  refine va_iast hO.2.1 hO.2.2.1 hO.2.2.2.2.2.2.1 hP (zD hO.1 σ) hS q t hq (zty_at hT) (zi_in hi) hd (fun H1 locs1 hP1 _ hS1 => kk H1 locs1 ls ?_ hS1 hL)
  have e1 := zw_set (ad := S.2.2.2.2.2.2) (cA := S.2.2.2.2.2.1) (σ := σ) (j := i.toNatClampNeg) (v := v) hO.1.2.1 hq0
  show va_P _ _ (zw _ _ _ (zu σ k p i.toNatClampNeg v)) H1
  rw [← e1]
  have e2 : ze S.2.2.2.2.2.2 S.2.2.2.2.2.1 (zu σ k p i.toNatClampNeg v) k p (.inr (len, t, none)) = .inl (S.2.2.2.2.2.1 t, len, .inl (upd (σ k p) i.toNatClampNeg v)) := by
    show Sum.inl (S.2.2.2.2.2.1 t, len, Sum.inl (zu σ k p i.toNatClampNeg v k p)) = _
    rw [zu_s]
  rw [e2]
  exact hP1
theorem zb_nar {v : Int32} (h : zb v = true) : vp_nar .boolean v = v := by
  rcases zb_or h with rfl | rfl <;> rfl
theorem zl_zast (hO : zO S M X) {k p n t len : Nat} {i v : Int32} (hd : decode M.2.1 pc = .ok (.bastore, 1)) (hb : zb v = true) (hY : S.2.1[k]? = some (n, .inr (len, t, none))) (hT : S.2.2.1[t]? = some .boolean) (hp : p < n) (hi : zi i len = true) (kk : ZW S M r X (pc + 1) L st (zu σ k p i.toNatClampNeg v)) : ZW S M r X pc L (zI v :: zI i :: zR k p :: st) σ := by
  intro H locs ls hP hS hL
  obtain ⟨q, hq0, hq⟩ := zw_at (ad := S.2.2.2.2.2.2) (cA := S.2.2.2.2.2.1) (σ := σ) hY hp
  refine va_zast hO.2.1 hO.2.2.1 hO.2.2.2.2.2.2.1 hP (zD hO.1 σ) hS q t hq (zty_at hT) (zi_in hi) hd (fun H1 locs1 hP1 _ hS1 => kk H1 locs1 ls ?_ hS1 hL)
  rw [zb_nar hb] at hP1
  have e1 := zw_set (ad := S.2.2.2.2.2.2) (cA := S.2.2.2.2.2.1) (σ := σ) (j := i.toNatClampNeg) (v := v) hO.1.2.1 hq0
  show va_P _ _ (zw _ _ _ (zu σ k p i.toNatClampNeg v)) H1
  rw [← e1]
  have e2 : ze S.2.2.2.2.2.2 S.2.2.2.2.2.1 (zu σ k p i.toNatClampNeg v) k p (.inr (len, t, none)) = .inl (S.2.2.2.2.2.1 t, len, .inl (upd (σ k p) i.toNatClampNeg v)) := by
    show Sum.inl (S.2.2.2.2.2.1 t, len, Sum.inl (zu σ k p i.toNatClampNeg v k p)) = _
    rw [zu_s]
  rw [e2]
  exact hP1
theorem zK_warm {U t : State} (h : zK S U) (hW : U.WarmedH t.vm) : zK S t := va_K.moved hW.alike h
theorem zl_iret (hO : zO S M X) {v : Int32} (hd : decode M.2.1 pc = .ok (.ireturn, 1)) (hr : M.2.2.2.1 = some .int) (h : (σ, some (zI v)) = r) : ZW S M r X pc L [zI v] σ := by
  subst h
  intro H locs ls hP hS hL
  exact W.iret (v := v) hO.2.1 hO.2.2.1 (hO.2.2.2.2.2.2.2.1.trans hr) (fun t ht hW => ⟨⟨rfl, by rw [ht]; exact hP, zK_warm hO.2.2.2.2.2.2.1 hW⟩, hS.F ht⟩) hS.2.2 hd (hlocks := hO.2.2.2.2.2.2.2.2)
theorem zl_zret (hO : zO S M X) {v : Int32} (hd : decode M.2.1 pc = .ok (.ireturn, 1)) (hr : M.2.2.2.1 = some .boolean) (hb : zb v = true) (h : (σ, some (zI v)) = r) : ZW S M r X pc L [zI v] σ := by
  subst h
  intro H locs ls hP hS hL
  exact W.zret (v := v) (ty := .boolean) hO.2.1 hO.2.2.1 (hO.2.2.2.2.2.2.2.1.trans hr) (by rcases zb_or hb with rfl | rfl <;> rfl) (fun t ht hW => ⟨⟨rfl, by rw [ht]; exact hP, zK_warm hO.2.2.2.2.2.2.1 hW⟩, hS.F ht⟩) hS.2.2 hd (hlocks := hO.2.2.2.2.2.2.2.2)
theorem zl_vret (hO : zO S M X) (hd : decode M.2.1 pc = .ok (.return_, 1)) (hr : M.2.2.2.1 = none) (h : (σ, none) = r) : ZW S M r X pc L [] σ := by
  subst h
  intro H locs ls hP hS hL
  exact W.vret hO.2.1 hO.2.2.1 (hO.2.2.2.2.2.2.2.1.trans hr) (fun t ht hW => ⟨⟨rfl, by rw [ht]; exact hP, zK_warm hO.2.2.2.2.2.2.1 hW⟩, hS.F ht⟩) hS.2.2 hd (hlocks := hO.2.2.2.2.2.2.2.2)
theorem zl_aret (hO : zO S M X) {C : String} {o : Option (Nat × Nat)} (hd : decode M.2.1 pc = .ok (.areturn, 1)) (hr : M.2.2.2.1 = some (.object C)) (h : (σ, some (Sum.inr (Sum.inr o))) = r) : ZW S M r X pc L [Sum.inr (Sum.inr o)] σ := by
  subst h
  intro H locs ls hP hS hL
  exact W.aret (v := zv S.2.2.2.2.2.2 (Sum.inr (Sum.inr o))) hO.2.1 hO.2.2.1 (hO.2.2.2.2.2.2.2.1.trans hr) (Or.inl ⟨C, rfl⟩) (by cases o with
    | none => exact Or.inl rfl
    | some q => exact Or.inr ⟨_, rfl⟩) (fun t ht hW => ⟨⟨rfl, by rw [ht]; exact hP, zK_warm hO.2.2.2.2.2.2.1 hW⟩, hS.F ht⟩) hS.2.2 hd (hlocks := hO.2.2.2.2.2.2.2.2)
/-- behind a call -/
theorem zl_run {σ' : zS} {rv : Option zV} {H : Heap} {locs : List Loc} {ls : Array Slot} {st0 rest : List Value} {a : Array Value} (hr : va_Run X.1 S.1 X.2.1 M.2.2.2.2 X.2.2.1 X.2.2.2.1 X.2.2.2.2.1 X.2.2.2.2.2.1 X.2.2.2.2.2.2.1 X.2.2.2.2.2.2.2 H locs 0 0 0 0 (F0 X.2.2.2.1 pc ls st0) rest (zQ S (σ', rv) a) (zA S)) (hS : va_S (zA S) X.2.2.1.heap H locs) {Q : State → Prop}
    (kk : ∀ (H1 : Heap) (locs1 : List Loc), zP S σ' H1 → va_S (zA S) X.2.2.1.heap H1 locs1 → W X.1 S.1 X.2.1 M.2.2.2.2 X.2.2.1 X.2.2.2.1 X.2.2.2.2.1 X.2.2.2.2.2.1 X.2.2.2.2.2.2.1 X.2.2.2.2.2.2.2 H1 locs1 0 0 Q (F0 X.2.2.2.1 (pc + 3) ls ((rv.map (zv S.2.2.2.2.2.2)).toList ++ rest))) : W X.1 S.1 X.2.1 M.2.2.2.2 X.2.2.1 X.2.2.2.1 X.2.2.2.2.1 X.2.2.2.2.2.1 X.2.2.2.2.2.2.1 X.2.2.2.2.2.2.2 H locs 0 0 Q (F0 X.2.2.2.1 pc ls st0) := by
  intro T hT Z
  obtain ⟨v, st₀, t, T', L, h0, X', hL, e1, e2, ⟨⟨hv, hb⟩, hz, hk⟩, gs⟩ := hr T hT Z
  cases hv
  rw [h0] at hz hk
  obtain ⟨t2, a1, b1⟩ := kk T'.heap (locs ++ L) (by rw [e1]; exact hb.1)
    ⟨Nat.le_trans hS.1 (by rw [e1]; exact hz), fun q h1 h2 => by rw [e1, hk q (Nat.lt_of_lt_of_le h1 hS.1) h2]; exact hS.2.1 q h1 h2, fun q hq => by
      rcases List.mem_append.mp hq with h | h
      · exact hS.2.2 q h
      · exact hL q h⟩ T' rfl X'
  exact ⟨t2, gs t2 a1, b1⟩
theorem zB_blind (vs : List Value) (τ : zS) : FrameBlind (va_Pc vs (zB S τ)) := fun a U g mk q => by
  obtain ⟨q0, qP, qK⟩ := q
  exact ⟨q0, qP, va_K.moved (u := U) (U := U.calling g mk a) (Vm.Alike.refl U.vm) qK⟩
/-- what the words say of a call by a receiver, and of one without -/
def zCv (G : List Cond) (own : String) (idx : Nat) (M' : zMd) (n : Nat) : Prop := Cond.methodLink own idx M'.1 ∈ G ∧ Cond.instanceMethod M'.1 ∈ G ∧ Cond.selects M'.1.cls M'.1 M'.1 ∈ G ∧ Cond.initialized M'.1.cls ∈ G ∧ Cond.code M'.1 M'.2.1 M'.2.2.1 M'.2.2.2.1 ∈ G ∧ M'.1.cls ≠ "java/lang/invoke/MethodHandle" ∧ M'.1.cls ≠ "java/lang/invoke/VarHandle" ∧ (parseMethodDescriptor M'.1.desc).map (fun d => d.parameters.length) = some n
def zCs (G : List Cond) (own : String) (idx : Nat) (M' : zMd) (n : Nat) : Prop := Cond.methodLink own idx M'.1 ∈ G ∧ Cond.static M'.1 ∈ G ∧ Cond.initialized M'.1.cls ∈ G ∧ Cond.code M'.1 M'.2.1 M'.2.2.1 M'.2.2.2.1 ∈ G ∧ M'.1.cls ≠ "java/lang/invoke/MethodHandle" ∧ M'.1.cls ≠ "java/lang/invoke/VarHandle" ∧ (parseMethodDescriptor M'.1.desc).map (fun d => d.parameters.length) = some n
/-- the callee's room in the caller's -/
def zRm (M' M : zMd) : Bool := decide (M'.2.2.2.2.cells = 0 ∧ M'.2.2.2.2.slots = 0 ∧ M'.2.2.2.2.frames + 1 ≤ M.2.2.2.2.frames ∧ 8 + (M'.2.2.1 + 11) + M'.2.2.2.2.locals ≤ M.2.2.2.2.locals)
theorem zGood {M' : zMd} (hJ : zJ0 S) (hc : Cond.code M'.1 M'.2.1 M'.2.2.1 M'.2.2.2.1 ∈ S.2.2.2.1) : GoodIn S.2.2.2.1 (.code M'.1 M'.2.1 M'.2.2.1 M'.2.2.2.1 :: S.2.2.2.1) := by
  intro w hw
  rcases List.mem_cons.mp hw with rfl | h
  · exact hJ.2.2 _ hc
  · exact hJ.2.2 _ h
theorem zl_callV (hO : zO S M X) {M' : zMd} (vs : List zV) (st' : List zV) {stk : List zV} {k p n ci idx N : Nat} {T : u_T} {fl : List (Option (Nat × Bool))} {σ' : zS} {rv : Option zV} (hM : zM S M' (zR k p :: vs) σ (σ', rv)) (hd : decode M.2.1 pc = .ok (.invokevirtual idx, 3)) (hC : zCv S.2.2.2.1 M.1.cls idx M' vs.length) (hY : S.2.1[k]? = some (n, .inl (ci, fl))) (hp : p < n) (hcl : vwCl[ci]? = some (M'.1.cls, T, N)) (hR : zRm M' M = true) (hs : stk = vs.reverse ++ zR k p :: st') (hw : ((st'.map (zv S.2.2.2.2.2.2)).map fun v => v.category).sum ≤ 8)
    (kk : ZW S M r X (pc + 3) L (rv.toList ++ st') σ') : ZW S M r X pc L stk σ := by
  subst hs
  intro H locs ls hP hS hL
  obtain ⟨h1, h2, h3, h4, h5, h6, h7, h8⟩ := hC
  obtain ⟨g1, g2, g3, g4⟩ := of_decide_eq_true hR
  obtain ⟨q, -, hq⟩ := zw_at (ad := S.2.2.2.2.2.2) (cA := S.2.2.2.2.2.1) (σ := σ) hY hp
  have hts := hO.2.2.2.2.2.1
  have hG := zGood (M' := M') hO.1 h5
  refine zl_run (σ' := σ') (rv := rv) (rest := st'.map (zv S.2.2.2.2.2.2)) (a := (Value.ref (S.2.2.2.2.2.2 k p) :: vs.map (zv S.2.2.2.2.2.2)).toArray) (va_runV (cc := M.2.1) (nL := M.2.2.1) (Ts := S.2.2.2.1) (own := M.1.cls) (C := M'.1.cls) (b := S.2.2.2.2.2.2 k p) (As := vs.map (zv S.2.2.2.2.2.2)) (n := vs.length) (mc := 0) (ms := 0) (index := idx) ⟨hO.2.1, hO.2.2.1, hO.2.2.2.1, hO.2.2.2.2.1, hts⟩ hM ⟨callB_of vs.length hts hG rfl g1 g2 (hts _ h4) (hts _ h1) ⟨h6, h7, h8⟩ ⟨g3, g4⟩, hts _ h2, hts _ h3⟩ ⟨zB_blind _ _, va_recv hO.2.2.2.2.2.2.1 hP hcl hq, fun U hU hW => ⟨rfl, by rw [hU]; exact hP, zK_warm hO.2.2.2.2.2.2.1 hW⟩⟩ rfl (by simp) hL.1 (by simp [zv]) (lv_room hw) hd ⟨Nat.zero_le _, Nat.zero_le _⟩) hS (fun H1 locs1 hP1 hS1 => ?_)
  have := kk H1 locs1 ls hP1 hS1 hL
  cases rv with
  | none => exact this
  | some v => exact this
theorem zl_callS (hO : zO S M X) {M' : zMd} (vs : List zV) (st' : List zV) {stk : List zV} {idx : Nat} {σ' : zS} {rv : Option zV} (hM : zM S M' vs σ (σ', rv)) (hd : decode M.2.1 pc = .ok (.invokestatic idx, 3)) (hC : zCs S.2.2.2.1 M.1.cls idx M' vs.length) (hR : zRm M' M = true) (hs : stk = vs.reverse ++ st') (hw : ((st'.map (zv S.2.2.2.2.2.2)).map fun v => v.category).sum ≤ 8)
    (kk : ZW S M r X (pc + 3) L (rv.toList ++ st') σ') : ZW S M r X pc L stk σ := by
  subst hs
  intro H locs ls hP hS hL
  obtain ⟨h1, h2, h4, h5, h6, h7, h8⟩ := hC
  obtain ⟨g1, g2, g3, g4⟩ := of_decide_eq_true hR
  have hts := hO.2.2.2.2.2.1
  have hG := zGood (M' := M') hO.1 h5
  refine zl_run (σ' := σ') (rv := rv) (rest := st'.map (zv S.2.2.2.2.2.2)) (a := (vs.map (zv S.2.2.2.2.2.2)).toArray) (va_runS (cc := M.2.1) (nL := M.2.2.1) (Ts := S.2.2.2.1) (own := M.1.cls) (As := vs.map (zv S.2.2.2.2.2.2)) (n := vs.length) (mc := 0) (ms := 0) (index := idx) ⟨hO.2.1, hO.2.2.1, hO.2.2.2.1, hO.2.2.2.2.1, hts⟩ hM ⟨callB_of vs.length hts hG rfl g1 g2 (hts _ h4) (hts _ h1) ⟨h6, h7, h8⟩ ⟨g3, g4⟩, hts _ h2⟩ ⟨zB_blind _ _, fun U hU hW => ⟨rfl, by rw [hU]; exact hP, zK_warm hO.2.2.2.2.2.2.1 hW⟩⟩ rfl (by simp) hL.1 (by simp) (lv_room hw) hd ⟨Nat.zero_le _, Nat.zero_le _⟩) hS (fun H1 locs1 hP1 hS1 => ?_)
  have := kk H1 locs1 ls hP1 hS1 hL
  cases rv with
  | none => exact this
  | some v => exact this
theorem zl_callVi (hO : zO S M X) {M' : zMd} (vs : List zV) (st' : List zV) {stk : List zV} {k p n ci idx N : Nat} {T : u_T} {fl : List (Option (Nat × Bool))} {σ' : zS} {v : zV} (hM : zM S M' (zR k p :: vs) σ (σ', some v)) (hd : decode M.2.1 pc = .ok (.invokevirtual idx, 3)) (hC : zCv S.2.2.2.1 M.1.cls idx M' vs.length) (hY : S.2.1[k]? = some (n, .inl (ci, fl))) (hp : p < n) (hcl : vwCl[ci]? = some (M'.1.cls, T, N)) (hR : zRm M' M = true) (hs : stk = vs.reverse ++ zR k p :: st') (hw : ((st'.map (zv S.2.2.2.2.2.2)).map fun v => v.category).sum ≤ 8)
    (kk : ZW S M r X (pc + 3) L (v :: st') σ') : ZW S M r X pc L stk σ := zl_callV hO vs st' hM hd hC hY hp hcl hR hs hw kk
theorem zl_callVv (hO : zO S M X) {M' : zMd} (vs : List zV) (st' : List zV) {stk : List zV} {k p n ci idx N : Nat} {T : u_T} {fl : List (Option (Nat × Bool))} {σ' : zS} (hM : zM S M' (zR k p :: vs) σ (σ', none)) (hd : decode M.2.1 pc = .ok (.invokevirtual idx, 3)) (hC : zCv S.2.2.2.1 M.1.cls idx M' vs.length) (hY : S.2.1[k]? = some (n, .inl (ci, fl))) (hp : p < n) (hcl : vwCl[ci]? = some (M'.1.cls, T, N)) (hR : zRm M' M = true) (hs : stk = vs.reverse ++ zR k p :: st') (hw : ((st'.map (zv S.2.2.2.2.2.2)).map fun v => v.category).sum ≤ 8)
    (kk : ZW S M r X (pc + 3) L st' σ') : ZW S M r X pc L stk σ := zl_callV hO vs st' hM hd hC hY hp hcl hR hs hw kk
theorem zl_callSi (hO : zO S M X) {M' : zMd} (vs : List zV) (st' : List zV) {stk : List zV} {idx : Nat} {σ' : zS} {v : zV} (hM : zM S M' vs σ (σ', some v)) (hd : decode M.2.1 pc = .ok (.invokestatic idx, 3)) (hC : zCs S.2.2.2.1 M.1.cls idx M' vs.length) (hR : zRm M' M = true) (hs : stk = vs.reverse ++ st') (hw : ((st'.map (zv S.2.2.2.2.2.2)).map fun v => v.category).sum ≤ 8)
    (kk : ZW S M r X (pc + 3) L (v :: st') σ') : ZW S M r X pc L stk σ := zl_callS hO vs st' hM hd hC hR hs hw kk
theorem zr_i {s0 s1 : zS} {e v : Int32} (h : some (s0, e) = some (s1, v)) : (s0, some (zI e)) = (s1, some (zI v)) := by cases h; rfl
theorem zr_v {s0 s1 : zS} (h : some s0 = some s1) : (s0, (none : Option zV)) = (s1, none) := by cases h; rfl
theorem zi_lt {i : Int32} {n : Nat} (h : zi i n = true) : i.toNatClampNeg < n := Nat.not_le.mp fun q => zi_in h (Or.inr q)
def zmax (x y : Int32) : Int32 := if x < y then y else x
def zmin (x y : Int32) : Int32 := if y < x then y else x
theorem zl_mmax (hO : zO S M X) {idx : Nat} {x y : Int32} (hd : decode M.2.1 pc = .ok (.invokestatic idx, 3)) (h1 : Cond.methodLink M.1.cls idx Lib.Math.max.name ∈ S.2.2.2.1) (h2 : Cond.static Lib.Math.max.name ∈ S.2.2.2.1) (h3 : Cond.initialized "java/lang/Math" ∈ S.2.2.2.1) (h4 : Cond.code Lib.Math.max.name Lib.Math.max.code 2 (some .int) ∈ S.2.2.2.1) (hR : 1 ≤ M.2.2.2.2.frames) (hw : ((st.map (zv S.2.2.2.2.2.2)).map fun v => v.category).sum + 13 ≤ M.2.2.2.2.locals)
    (kk : ZW S M r X (pc + 3) L (zI (zmax x y) :: st) σ) : ZW S M r X pc L (zI y :: zI x :: st) σ := fun H locs ls hP hS hL => va_mmax hO.2.1 hO.2.2.1 (hO.2.2.2.1.trans hL.1.symm) hO.2.2.2.2.1 (hO.2.2.2.2.2.1 _ h1) (hO.2.2.2.2.2.1 _ h2) (hO.2.2.2.2.2.1 _ h3) (hO.2.2.2.2.2.1 _ h4) hR hw (Nat.zero_le _) (Nat.zero_le _) hd (kk H locs ls hP hS hL)
theorem zl_mmin (hO : zO S M X) {idx : Nat} {x y : Int32} (hd : decode M.2.1 pc = .ok (.invokestatic idx, 3)) (h1 : Cond.methodLink M.1.cls idx Lib.Math.min.name ∈ S.2.2.2.1) (h2 : Cond.static Lib.Math.min.name ∈ S.2.2.2.1) (h3 : Cond.initialized "java/lang/Math" ∈ S.2.2.2.1) (h4 : Cond.code Lib.Math.min.name Lib.Math.min.code 2 (some .int) ∈ S.2.2.2.1) (hR : 1 ≤ M.2.2.2.2.frames) (hw : ((st.map (zv S.2.2.2.2.2.2)).map fun v => v.category).sum + 13 ≤ M.2.2.2.2.locals)
    (kk : ZW S M r X (pc + 3) L (zI (zmin x y) :: st) σ) : ZW S M r X pc L (zI y :: zI x :: st) σ := fun H locs ls hP hS hL => va_mmin hO.2.1 hO.2.2.1 (hO.2.2.2.1.trans hL.1.symm) hO.2.2.2.2.1 (hO.2.2.2.2.2.1 _ h1) (hO.2.2.2.2.2.1 _ h2) (hO.2.2.2.2.2.1 _ h3) (hO.2.2.2.2.2.1 _ h4) hR hw (Nat.zero_le _) (Nat.zero_le _) hd (kk H locs ls hP hS hL)
end ZROWS
end
