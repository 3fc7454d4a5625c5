section
-- ===== PART A: goes FIRST, ahead of the names: the tables' words, and 'selects' of the private methods out of them =====
/-- a private method of a class that the tables say can be made, by its rows of tables_1 -/
def lw_okq (q : MethodName × Nat) : Prop := (q.1.cls ≠ "java/lang/invoke/MethodHandle" ∧ q.1.cls ≠ "java/lang/invoke/VarHandle") ∧ Cond.instantiable q.1.cls q.2 ∈ tables_1 ∧ Cond.privateMethod q.1 ∈ tables_1 ∧ Cond.instanceMethod q.1 ∈ tables_1
theorem lw_p0 : lw_okq (⟨"TaskComputer$Kernel", "stack", "(LTaskComputer$Task;LTaskComputer$Registers;)V"⟩, 6) := ⟨⟨by decide +kernel, by decide +kernel⟩, List.mem_of_getElem? (i := 116) (by decide +kernel), List.mem_of_getElem? (i := 264) (by decide +kernel), List.mem_of_getElem? (i := 265) (by decide +kernel)⟩
theorem lw_p1 : lw_okq (⟨"TaskComputer$Kernel", "makeReady", "(LTaskComputer$Task;)V"⟩, 6) := ⟨⟨by decide +kernel, by decide +kernel⟩, List.mem_of_getElem? (i := 116) (by decide +kernel), List.mem_of_getElem? (i := 290) (by decide +kernel), List.mem_of_getElem? (i := 291) (by decide +kernel)⟩
theorem lw_p2 : lw_okq (⟨"TaskComputer$Kernel", "resume", "(LTaskComputer$Task;)V"⟩, 6) := ⟨⟨by decide +kernel, by decide +kernel⟩, List.mem_of_getElem? (i := 116) (by decide +kernel), List.mem_of_getElem? (i := 310) (by decide +kernel), List.mem_of_getElem? (i := 311) (by decide +kernel)⟩
theorem lw_p3 : lw_okq (⟨"TaskComputer$Kernel", "take", "(LTaskComputer$Task;LTaskComputer$Registers;)V"⟩, 6) := ⟨⟨by decide +kernel, by decide +kernel⟩, List.mem_of_getElem? (i := 116) (by decide +kernel), List.mem_of_getElem? (i := 314) (by decide +kernel), List.mem_of_getElem? (i := 315) (by decide +kernel)⟩
theorem lw_p4 : lw_okq (⟨"TaskComputer$Processor", "fetch", "(I)I"⟩, 5) := ⟨⟨by decide +kernel, by decide +kernel⟩, List.mem_of_getElem? (i := 83) (by decide +kernel), List.mem_of_getElem? (i := 361) (by decide +kernel), List.mem_of_getElem? (i := 362) (by decide +kernel)⟩
theorem lw_p5 : lw_okq (⟨"TaskComputer$Processor", "skip", "(I)V"⟩, 5) := ⟨⟨by decide +kernel, by decide +kernel⟩, List.mem_of_getElem? (i := 83) (by decide +kernel), List.mem_of_getElem? (i := 366) (by decide +kernel), List.mem_of_getElem? (i := 367) (by decide +kernel)⟩
theorem lw_p6 : lw_okq (⟨"TaskComputer$Processor", "changeMemory", "(II)V"⟩, 5) := ⟨⟨by decide +kernel, by decide +kernel⟩, List.mem_of_getElem? (i := 83) (by decide +kernel), List.mem_of_getElem? (i := 371) (by decide +kernel), List.mem_of_getElem? (i := 372) (by decide +kernel)⟩
theorem lw_p7 : lw_okq (⟨"TaskComputer$Processor", "operandAddress", "(II)I"⟩, 5) := ⟨⟨by decide +kernel, by decide +kernel⟩, List.mem_of_getElem? (i := 83) (by decide +kernel), List.mem_of_getElem? (i := 375) (by decide +kernel), List.mem_of_getElem? (i := 376) (by decide +kernel)⟩
theorem lw_p8 : lw_okq (⟨"TaskComputer$Processor", "indexedAddress", "()I"⟩, 5) := ⟨⟨by decide +kernel, by decide +kernel⟩, List.mem_of_getElem? (i := 83) (by decide +kernel), List.mem_of_getElem? (i := 379) (by decide +kernel), List.mem_of_getElem? (i := 380) (by decide +kernel)⟩
theorem lw_p9 : lw_okq (⟨"TaskComputer$Processor", "load", "(II)I"⟩, 5) := ⟨⟨by decide +kernel, by decide +kernel⟩, List.mem_of_getElem? (i := 83) (by decide +kernel), List.mem_of_getElem? (i := 391) (by decide +kernel), List.mem_of_getElem? (i := 392) (by decide +kernel)⟩
theorem lw_p10 : lw_okq (⟨"TaskComputer$Processor", "changed", "(II)I"⟩, 5) := ⟨⟨by decide +kernel, by decide +kernel⟩, List.mem_of_getElem? (i := 83) (by decide +kernel), List.mem_of_getElem? (i := 398) (by decide +kernel), List.mem_of_getElem? (i := 399) (by decide +kernel)⟩
theorem lw_p11 : lw_okq (⟨"TaskComputer$Processor", "store", "(III)V"⟩, 5) := ⟨⟨by decide +kernel, by decide +kernel⟩, List.mem_of_getElem? (i := 83) (by decide +kernel), List.mem_of_getElem? (i := 446) (by decide +kernel), List.mem_of_getElem? (i := 447) (by decide +kernel)⟩
theorem lw_p12 : lw_okq (⟨"TaskComputer$Processor", "doSecondPage", "(I)V"⟩, 5) := ⟨⟨by decide +kernel, by decide +kernel⟩, List.mem_of_getElem? (i := 83) (by decide +kernel), List.mem_of_getElem? (i := 451) (by decide +kernel), List.mem_of_getElem? (i := 452) (by decide +kernel)⟩
theorem lw_p13 : lw_okq (⟨"TaskComputer$Processor", "operate", "(III)V"⟩, 5) := ⟨⟨by decide +kernel, by decide +kernel⟩, List.mem_of_getElem? (i := 83) (by decide +kernel), List.mem_of_getElem? (i := 455) (by decide +kernel), List.mem_of_getElem? (i := 456) (by decide +kernel)⟩
theorem lw_p14 : lw_okq (⟨"TaskComputer$Processor", "calculate", "(IIII)I"⟩, 5) := ⟨⟨by decide +kernel, by decide +kernel⟩, List.mem_of_getElem? (i := 83) (by decide +kernel), List.mem_of_getElem? (i := 460) (by decide +kernel), List.mem_of_getElem? (i := 461) (by decide +kernel)⟩
theorem lw_p15 : lw_okq (⟨"TaskComputer$Processor", "doGroup1", "(I)V"⟩, 5) := ⟨⟨by decide +kernel, by decide +kernel⟩, List.mem_of_getElem? (i := 83) (by decide +kernel), List.mem_of_getElem? (i := 468) (by decide +kernel), List.mem_of_getElem? (i := 469) (by decide +kernel)⟩
def lw_privs_1 : List (MethodName × Nat) := [(⟨"TaskComputer$Kernel", "stack", "(LTaskComputer$Task;LTaskComputer$Registers;)V"⟩, 6), (⟨"TaskComputer$Kernel", "makeReady", "(LTaskComputer$Task;)V"⟩, 6), (⟨"TaskComputer$Kernel", "resume", "(LTaskComputer$Task;)V"⟩, 6), (⟨"TaskComputer$Kernel", "take", "(LTaskComputer$Task;LTaskComputer$Registers;)V"⟩, 6), (⟨"TaskComputer$Processor", "fetch", "(I)I"⟩, 5), (⟨"TaskComputer$Processor", "skip", "(I)V"⟩, 5), (⟨"TaskComputer$Processor", "changeMemory", "(II)V"⟩, 5), (⟨"TaskComputer$Processor", "operandAddress", "(II)I"⟩, 5), (⟨"TaskComputer$Processor", "indexedAddress", "()I"⟩, 5), (⟨"TaskComputer$Processor", "load", "(II)I"⟩, 5), (⟨"TaskComputer$Processor", "changed", "(II)I"⟩, 5), (⟨"TaskComputer$Processor", "store", "(III)V"⟩, 5), (⟨"TaskComputer$Processor", "doSecondPage", "(I)V"⟩, 5), (⟨"TaskComputer$Processor", "operate", "(III)V"⟩, 5), (⟨"TaskComputer$Processor", "calculate", "(IIII)I"⟩, 5), (⟨"TaskComputer$Processor", "doGroup1", "(I)V"⟩, 5)]
theorem lw_r1 : ∀ q ∈ lw_privs_1, lw_okq q := List.forall_mem_cons.mpr ⟨lw_p0, List.forall_mem_cons.mpr ⟨lw_p1, List.forall_mem_cons.mpr ⟨lw_p2, List.forall_mem_cons.mpr ⟨lw_p3, List.forall_mem_cons.mpr ⟨lw_p4, List.forall_mem_cons.mpr ⟨lw_p5, List.forall_mem_cons.mpr ⟨lw_p6, List.forall_mem_cons.mpr ⟨lw_p7, List.forall_mem_cons.mpr ⟨lw_p8, List.forall_mem_cons.mpr ⟨lw_p9, List.forall_mem_cons.mpr ⟨lw_p10, List.forall_mem_cons.mpr ⟨lw_p11, List.forall_mem_cons.mpr ⟨lw_p12, List.forall_mem_cons.mpr ⟨lw_p13, List.forall_mem_cons.mpr ⟨lw_p14, List.forall_mem_cons.mpr ⟨lw_p15, fun _ h => absurd h List.not_mem_nil⟩⟩⟩⟩⟩⟩⟩⟩⟩⟩⟩⟩⟩⟩⟩⟩
theorem lw_p16 : lw_okq (⟨"TaskComputer$Processor", "moveRegister", "(Z)V"⟩, 5) := ⟨⟨by decide +kernel, by decide +kernel⟩, List.mem_of_getElem? (i := 83) (by decide +kernel), List.mem_of_getElem? (i := 477) (by decide +kernel), List.mem_of_getElem? (i := 478) (by decide +kernel)⟩
theorem lw_p17 : lw_okq (⟨"TaskComputer$Processor", "branch", "(I)V"⟩, 5) := ⟨⟨by decide +kernel, by decide +kernel⟩, List.mem_of_getElem? (i := 83) (by decide +kernel), List.mem_of_getElem? (i := 484) (by decide +kernel), List.mem_of_getElem? (i := 485) (by decide +kernel)⟩
theorem lw_p18 : lw_okq (⟨"TaskComputer$Processor", "holds", "(I)Z"⟩, 5) := ⟨⟨by decide +kernel, by decide +kernel⟩, List.mem_of_getElem? (i := 83) (by decide +kernel), List.mem_of_getElem? (i := 488) (by decide +kernel), List.mem_of_getElem? (i := 489) (by decide +kernel)⟩
theorem lw_p19 : lw_okq (⟨"TaskComputer$Processor", "doGroup3", "(I)V"⟩, 5) := ⟨⟨by decide +kernel, by decide +kernel⟩, List.mem_of_getElem? (i := 83) (by decide +kernel), List.mem_of_getElem? (i := 493) (by decide +kernel), List.mem_of_getElem? (i := 494) (by decide +kernel)⟩
theorem lw_p20 : lw_okq (⟨"TaskComputer$Processor", "loadAddress", "(I)V"⟩, 5) := ⟨⟨by decide +kernel, by decide +kernel⟩, List.mem_of_getElem? (i := 83) (by decide +kernel), List.mem_of_getElem? (i := 497) (by decide +kernel), List.mem_of_getElem? (i := 498) (by decide +kernel)⟩
theorem lw_p21 : lw_okq (⟨"TaskComputer$Processor", "push", "(II)V"⟩, 5) := ⟨⟨by decide +kernel, by decide +kernel⟩, List.mem_of_getElem? (i := 83) (by decide +kernel), List.mem_of_getElem? (i := 502) (by decide +kernel), List.mem_of_getElem? (i := 503) (by decide +kernel)⟩
theorem lw_p22 : lw_okq (⟨"TaskComputer$Processor", "pull", "(II)V"⟩, 5) := ⟨⟨by decide +kernel, by decide +kernel⟩, List.mem_of_getElem? (i := 83) (by decide +kernel), List.mem_of_getElem? (i := 507) (by decide +kernel), List.mem_of_getElem? (i := 508) (by decide +kernel)⟩
theorem lw_p23 : lw_okq (⟨"TaskComputer$Processor", "changeRegister", "(II)V"⟩, 5) := ⟨⟨by decide +kernel, by decide +kernel⟩, List.mem_of_getElem? (i := 83) (by decide +kernel), List.mem_of_getElem? (i := 516) (by decide +kernel), List.mem_of_getElem? (i := 517) (by decide +kernel)⟩
theorem lw_p24 : lw_okq (⟨"TaskComputer$Processor", "doMainPage", "(I)V"⟩, 5) := ⟨⟨by decide +kernel, by decide +kernel⟩, List.mem_of_getElem? (i := 83) (by decide +kernel), List.mem_of_getElem? (i := 520) (by decide +kernel), List.mem_of_getElem? (i := 521) (by decide +kernel)⟩
theorem lw_p25 : lw_okq (⟨"TaskComputer$Processor", "callAt", "(I)V"⟩, 5) := ⟨⟨by decide +kernel, by decide +kernel⟩, List.mem_of_getElem? (i := 83) (by decide +kernel), List.mem_of_getElem? (i := 524) (by decide +kernel), List.mem_of_getElem? (i := 525) (by decide +kernel)⟩
theorem lw_p26 : lw_okq (⟨"TaskComputer$Kernel", "answer", "(LTaskComputer$Task;I)V"⟩, 6) := ⟨⟨by decide +kernel, by decide +kernel⟩, List.mem_of_getElem? (i := 116) (by decide +kernel), List.mem_of_getElem? (i := 533) (by decide +kernel), List.mem_of_getElem? (i := 534) (by decide +kernel)⟩
theorem lw_p27 : lw_okq (⟨"TaskComputer$Kernel", "fork", "(LTaskComputer$Task;II)V"⟩, 6) := ⟨⟨by decide +kernel, by decide +kernel⟩, List.mem_of_getElem? (i := 116) (by decide +kernel), List.mem_of_getElem? (i := 537) (by decide +kernel), List.mem_of_getElem? (i := 538) (by decide +kernel)⟩
theorem lw_p28 : lw_okq (⟨"TaskComputer$Kernel", "leastFree", "()LTaskComputer$Task;"⟩, 6) := ⟨⟨by decide +kernel, by decide +kernel⟩, List.mem_of_getElem? (i := 116) (by decide +kernel), List.mem_of_getElem? (i := 541) (by decide +kernel), List.mem_of_getElem? (i := 542) (by decide +kernel)⟩
theorem lw_p29 : lw_okq (⟨"TaskComputer$Kernel", "fail", "(LTaskComputer$Task;I)V"⟩, 6) := ⟨⟨by decide +kernel, by decide +kernel⟩, List.mem_of_getElem? (i := 116) (by decide +kernel), List.mem_of_getElem? (i := 545) (by decide +kernel), List.mem_of_getElem? (i := 546) (by decide +kernel)⟩
theorem lw_p30 : lw_okq (⟨"TaskComputer$Kernel", "succeed", "(LTaskComputer$Task;I)V"⟩, 6) := ⟨⟨by decide +kernel, by decide +kernel⟩, List.mem_of_getElem? (i := 116) (by decide +kernel), List.mem_of_getElem? (i := 558) (by decide +kernel), List.mem_of_getElem? (i := 559) (by decide +kernel)⟩
theorem lw_p31 : lw_okq (⟨"TaskComputer$Kernel", "putToSleep", "(LTaskComputer$Task;I)V"⟩, 6) := ⟨⟨by decide +kernel, by decide +kernel⟩, List.mem_of_getElem? (i := 116) (by decide +kernel), List.mem_of_getElem? (i := 562) (by decide +kernel), List.mem_of_getElem? (i := 563) (by decide +kernel)⟩
def lw_privs_2 : List (MethodName × Nat) := [(⟨"TaskComputer$Processor", "moveRegister", "(Z)V"⟩, 5), (⟨"TaskComputer$Processor", "branch", "(I)V"⟩, 5), (⟨"TaskComputer$Processor", "holds", "(I)Z"⟩, 5), (⟨"TaskComputer$Processor", "doGroup3", "(I)V"⟩, 5), (⟨"TaskComputer$Processor", "loadAddress", "(I)V"⟩, 5), (⟨"TaskComputer$Processor", "push", "(II)V"⟩, 5), (⟨"TaskComputer$Processor", "pull", "(II)V"⟩, 5), (⟨"TaskComputer$Processor", "changeRegister", "(II)V"⟩, 5), (⟨"TaskComputer$Processor", "doMainPage", "(I)V"⟩, 5), (⟨"TaskComputer$Processor", "callAt", "(I)V"⟩, 5), (⟨"TaskComputer$Kernel", "answer", "(LTaskComputer$Task;I)V"⟩, 6), (⟨"TaskComputer$Kernel", "fork", "(LTaskComputer$Task;II)V"⟩, 6), (⟨"TaskComputer$Kernel", "leastFree", "()LTaskComputer$Task;"⟩, 6), (⟨"TaskComputer$Kernel", "fail", "(LTaskComputer$Task;I)V"⟩, 6), (⟨"TaskComputer$Kernel", "succeed", "(LTaskComputer$Task;I)V"⟩, 6), (⟨"TaskComputer$Kernel", "putToSleep", "(LTaskComputer$Task;I)V"⟩, 6)]
theorem lw_r2 : ∀ q ∈ lw_privs_2, lw_okq q := List.forall_mem_cons.mpr ⟨lw_p16, List.forall_mem_cons.mpr ⟨lw_p17, List.forall_mem_cons.mpr ⟨lw_p18, List.forall_mem_cons.mpr ⟨lw_p19, List.forall_mem_cons.mpr ⟨lw_p20, List.forall_mem_cons.mpr ⟨lw_p21, List.forall_mem_cons.mpr ⟨lw_p22, List.forall_mem_cons.mpr ⟨lw_p23, List.forall_mem_cons.mpr ⟨lw_p24, List.forall_mem_cons.mpr ⟨lw_p25, List.forall_mem_cons.mpr ⟨lw_p26, List.forall_mem_cons.mpr ⟨lw_p27, List.forall_mem_cons.mpr ⟨lw_p28, List.forall_mem_cons.mpr ⟨lw_p29, List.forall_mem_cons.mpr ⟨lw_p30, List.forall_mem_cons.mpr ⟨lw_p31, fun _ h => absurd h List.not_mem_nil⟩⟩⟩⟩⟩⟩⟩⟩⟩⟩⟩⟩⟩⟩⟩⟩
theorem lw_p32 : lw_okq (⟨"TaskComputerModel", "flag", "(I)Z"⟩, 17) := ⟨⟨by decide +kernel, by decide +kernel⟩, List.mem_of_getElem? (i := 617) (by decide +kernel), List.mem_of_getElem? (i := 679) (by decide +kernel), List.mem_of_getElem? (i := 680) (by decide +kernel)⟩
theorem lw_p33 : lw_okq (⟨"TaskComputerModel", "serve", "()V"⟩, 17) := ⟨⟨by decide +kernel, by decide +kernel⟩, List.mem_of_getElem? (i := 617) (by decide +kernel), List.mem_of_getElem? (i := 683) (by decide +kernel), List.mem_of_getElem? (i := 684) (by decide +kernel)⟩
theorem lw_p34 : lw_okq (⟨"TaskComputerModel", "comeLast", "(I)V"⟩, 17) := ⟨⟨by decide +kernel, by decide +kernel⟩, List.mem_of_getElem? (i := 617) (by decide +kernel), List.mem_of_getElem? (i := 687) (by decide +kernel), List.mem_of_getElem? (i := 688) (by decide +kernel)⟩
theorem lw_p35 : lw_okq (⟨"TaskComputerModel", "stack", "()V"⟩, 17) := ⟨⟨by decide +kernel, by decide +kernel⟩, List.mem_of_getElem? (i := 617) (by decide +kernel), List.mem_of_getElem? (i := 691) (by decide +kernel), List.mem_of_getElem? (i := 692) (by decide +kernel)⟩
theorem lw_p36 : lw_okq (⟨"TaskComputerModel", "mark", "(IZ)V"⟩, 17) := ⟨⟨by decide +kernel, by decide +kernel⟩, List.mem_of_getElem? (i := 617) (by decide +kernel), List.mem_of_getElem? (i := 695) (by decide +kernel), List.mem_of_getElem? (i := 696) (by decide +kernel)⟩
theorem lw_p37 : lw_okq (⟨"TaskComputerModel", "push", "(II)V"⟩, 17) := ⟨⟨by decide +kernel, by decide +kernel⟩, List.mem_of_getElem? (i := 617) (by decide +kernel), List.mem_of_getElem? (i := 702) (by decide +kernel), List.mem_of_getElem? (i := 703) (by decide +kernel)⟩
theorem lw_p38 : lw_okq (⟨"TaskComputerModel", "set", "(II)V"⟩, 17) := ⟨⟨by decide +kernel, by decide +kernel⟩, List.mem_of_getElem? (i := 617) (by decide +kernel), List.mem_of_getElem? (i := 706) (by decide +kernel), List.mem_of_getElem? (i := 707) (by decide +kernel)⟩
theorem lw_p39 : lw_okq (⟨"TaskComputerModel", "store", "(IIZ)V"⟩, 17) := ⟨⟨by decide +kernel, by decide +kernel⟩, List.mem_of_getElem? (i := 617) (by decide +kernel), List.mem_of_getElem? (i := 711) (by decide +kernel), List.mem_of_getElem? (i := 712) (by decide +kernel)⟩
theorem lw_p40 : lw_okq (⟨"TaskComputerModel", "put", "(II)V"⟩, 17) := ⟨⟨by decide +kernel, by decide +kernel⟩, List.mem_of_getElem? (i := 617) (by decide +kernel), List.mem_of_getElem? (i := 715) (by decide +kernel), List.mem_of_getElem? (i := 716) (by decide +kernel)⟩
theorem lw_p41 : lw_okq (⟨"TaskComputerModel", "next", "()V"⟩, 17) := ⟨⟨by decide +kernel, by decide +kernel⟩, List.mem_of_getElem? (i := 617) (by decide +kernel), List.mem_of_getElem? (i := 719) (by decide +kernel), List.mem_of_getElem? (i := 720) (by decide +kernel)⟩
theorem lw_p42 : lw_okq (⟨"TaskComputerModel", "leave", "(I)V"⟩, 17) := ⟨⟨by decide +kernel, by decide +kernel⟩, List.mem_of_getElem? (i := 617) (by decide +kernel), List.mem_of_getElem? (i := 723) (by decide +kernel), List.mem_of_getElem? (i := 724) (by decide +kernel)⟩
theorem lw_p43 : lw_okq (⟨"TaskComputerModel", "take", "(I)V"⟩, 17) := ⟨⟨by decide +kernel, by decide +kernel⟩, List.mem_of_getElem? (i := 617) (by decide +kernel), List.mem_of_getElem? (i := 727) (by decide +kernel), List.mem_of_getElem? (i := 728) (by decide +kernel)⟩
theorem lw_p44 : lw_okq (⟨"TaskComputerModel", "pull", "(II)V"⟩, 17) := ⟨⟨by decide +kernel, by decide +kernel⟩, List.mem_of_getElem? (i := 617) (by decide +kernel), List.mem_of_getElem? (i := 731) (by decide +kernel), List.mem_of_getElem? (i := 732) (by decide +kernel)⟩
theorem lw_p45 : lw_okq (⟨"TaskComputerModel", "load", "(IZ)I"⟩, 17) := ⟨⟨by decide +kernel, by decide +kernel⟩, List.mem_of_getElem? (i := 617) (by decide +kernel), List.mem_of_getElem? (i := 735) (by decide +kernel), List.mem_of_getElem? (i := 736) (by decide +kernel)⟩
theorem lw_p46 : lw_okq (⟨"TaskComputerModel", "at", "(I)I"⟩, 17) := ⟨⟨by decide +kernel, by decide +kernel⟩, List.mem_of_getElem? (i := 617) (by decide +kernel), List.mem_of_getElem? (i := 739) (by decide +kernel), List.mem_of_getElem? (i := 740) (by decide +kernel)⟩
theorem lw_p47 : lw_okq (⟨"TaskComputerModel", "instruction", "()V"⟩, 17) := ⟨⟨by decide +kernel, by decide +kernel⟩, List.mem_of_getElem? (i := 617) (by decide +kernel), List.mem_of_getElem? (i := 743) (by decide +kernel), List.mem_of_getElem? (i := 744) (by decide +kernel)⟩
def lw_privs_3 : List (MethodName × Nat) := [(⟨"TaskComputerModel", "flag", "(I)Z"⟩, 17), (⟨"TaskComputerModel", "serve", "()V"⟩, 17), (⟨"TaskComputerModel", "comeLast", "(I)V"⟩, 17), (⟨"TaskComputerModel", "stack", "()V"⟩, 17), (⟨"TaskComputerModel", "mark", "(IZ)V"⟩, 17), (⟨"TaskComputerModel", "push", "(II)V"⟩, 17), (⟨"TaskComputerModel", "set", "(II)V"⟩, 17), (⟨"TaskComputerModel", "store", "(IIZ)V"⟩, 17), (⟨"TaskComputerModel", "put", "(II)V"⟩, 17), (⟨"TaskComputerModel", "next", "()V"⟩, 17), (⟨"TaskComputerModel", "leave", "(I)V"⟩, 17), (⟨"TaskComputerModel", "take", "(I)V"⟩, 17), (⟨"TaskComputerModel", "pull", "(II)V"⟩, 17), (⟨"TaskComputerModel", "load", "(IZ)I"⟩, 17), (⟨"TaskComputerModel", "at", "(I)I"⟩, 17), (⟨"TaskComputerModel", "instruction", "()V"⟩, 17)]
theorem lw_r3 : ∀ q ∈ lw_privs_3, lw_okq q := List.forall_mem_cons.mpr ⟨lw_p32, List.forall_mem_cons.mpr ⟨lw_p33, List.forall_mem_cons.mpr ⟨lw_p34, List.forall_mem_cons.mpr ⟨lw_p35, List.forall_mem_cons.mpr ⟨lw_p36, List.forall_mem_cons.mpr ⟨lw_p37, List.forall_mem_cons.mpr ⟨lw_p38, List.forall_mem_cons.mpr ⟨lw_p39, List.forall_mem_cons.mpr ⟨lw_p40, List.forall_mem_cons.mpr ⟨lw_p41, List.forall_mem_cons.mpr ⟨lw_p42, List.forall_mem_cons.mpr ⟨lw_p43, List.forall_mem_cons.mpr ⟨lw_p44, List.forall_mem_cons.mpr ⟨lw_p45, List.forall_mem_cons.mpr ⟨lw_p46, List.forall_mem_cons.mpr ⟨lw_p47, fun _ h => absurd h List.not_mem_nil⟩⟩⟩⟩⟩⟩⟩⟩⟩⟩⟩⟩⟩⟩⟩⟩
theorem lw_p48 : lw_okq (⟨"TaskComputerModel", "fetch", "()I"⟩, 17) := ⟨⟨by decide +kernel, by decide +kernel⟩, List.mem_of_getElem? (i := 617) (by decide +kernel), List.mem_of_getElem? (i := 747) (by decide +kernel), List.mem_of_getElem? (i := 748) (by decide +kernel)⟩
theorem lw_p49 : lw_okq (⟨"TaskComputerModel", "upper", "(I)V"⟩, 17) := ⟨⟨by decide +kernel, by decide +kernel⟩, List.mem_of_getElem? (i := 617) (by decide +kernel), List.mem_of_getElem? (i := 751) (by decide +kernel), List.mem_of_getElem? (i := 752) (by decide +kernel)⟩
theorem lw_p50 : lw_okq (⟨"TaskComputerModel", "operand", "(IZ)I"⟩, 17) := ⟨⟨by decide +kernel, by decide +kernel⟩, List.mem_of_getElem? (i := 617) (by decide +kernel), List.mem_of_getElem? (i := 755) (by decide +kernel), List.mem_of_getElem? (i := 756) (by decide +kernel)⟩
theorem lw_p51 : lw_okq (⟨"TaskComputerModel", "fetchWord", "()I"⟩, 17) := ⟨⟨by decide +kernel, by decide +kernel⟩, List.mem_of_getElem? (i := 617) (by decide +kernel), List.mem_of_getElem? (i := 759) (by decide +kernel), List.mem_of_getElem? (i := 760) (by decide +kernel)⟩
theorem lw_p52 : lw_okq (⟨"TaskComputerModel", "address", "(I)I"⟩, 17) := ⟨⟨by decide +kernel, by decide +kernel⟩, List.mem_of_getElem? (i := 617) (by decide +kernel), List.mem_of_getElem? (i := 763) (by decide +kernel), List.mem_of_getElem? (i := 764) (by decide +kernel)⟩
theorem lw_p53 : lw_okq (⟨"TaskComputerModel", "stepping", "(II)I"⟩, 17) := ⟨⟨by decide +kernel, by decide +kernel⟩, List.mem_of_getElem? (i := 617) (by decide +kernel), List.mem_of_getElem? (i := 767) (by decide +kernel), List.mem_of_getElem? (i := 768) (by decide +kernel)⟩
theorem lw_p54 : lw_okq (⟨"TaskComputerModel", "offset", "(II)I"⟩, 17) := ⟨⟨by decide +kernel, by decide +kernel⟩, List.mem_of_getElem? (i := 617) (by decide +kernel), List.mem_of_getElem? (i := 771) (by decide +kernel), List.mem_of_getElem? (i := 772) (by decide +kernel)⟩
theorem lw_p55 : lw_okq (⟨"TaskComputerModel", "get", "(I)I"⟩, 17) := ⟨⟨by decide +kernel, by decide +kernel⟩, List.mem_of_getElem? (i := 617) (by decide +kernel), List.mem_of_getElem? (i := 778) (by decide +kernel), List.mem_of_getElem? (i := 779) (by decide +kernel)⟩
theorem lw_p56 : lw_okq (⟨"TaskComputerModel", "difference", "(IIII)I"⟩, 17) := ⟨⟨by decide +kernel, by decide +kernel⟩, List.mem_of_getElem? (i := 617) (by decide +kernel), List.mem_of_getElem? (i := 782) (by decide +kernel), List.mem_of_getElem? (i := 783) (by decide +kernel)⟩
theorem lw_p57 : lw_okq (⟨"TaskComputerModel", "sign", "(II)V"⟩, 17) := ⟨⟨by decide +kernel, by decide +kernel⟩, List.mem_of_getElem? (i := 617) (by decide +kernel), List.mem_of_getElem? (i := 789) (by decide +kernel), List.mem_of_getElem? (i := 790) (by decide +kernel)⟩
theorem lw_p58 : lw_okq (⟨"TaskComputerModel", "sum", "(IIII)I"⟩, 17) := ⟨⟨by decide +kernel, by decide +kernel⟩, List.mem_of_getElem? (i := 617) (by decide +kernel), List.mem_of_getElem? (i := 793) (by decide +kernel), List.mem_of_getElem? (i := 794) (by decide +kernel)⟩
theorem lw_p59 : lw_okq (⟨"TaskComputerModel", "save", "(II)V"⟩, 17) := ⟨⟨by decide +kernel, by decide +kernel⟩, List.mem_of_getElem? (i := 617) (by decide +kernel), List.mem_of_getElem? (i := 797) (by decide +kernel), List.mem_of_getElem? (i := 798) (by decide +kernel)⟩
theorem lw_p60 : lw_okq (⟨"TaskComputerModel", "plain", "(II)I"⟩, 17) := ⟨⟨by decide +kernel, by decide +kernel⟩, List.mem_of_getElem? (i := 617) (by decide +kernel), List.mem_of_getElem? (i := 801) (by decide +kernel), List.mem_of_getElem? (i := 802) (by decide +kernel)⟩
theorem lw_p61 : lw_okq (⟨"TaskComputerModel", "wordOp", "(IIZ)V"⟩, 17) := ⟨⟨by decide +kernel, by decide +kernel⟩, List.mem_of_getElem? (i := 617) (by decide +kernel), List.mem_of_getElem? (i := 805) (by decide +kernel), List.mem_of_getElem? (i := 806) (by decide +kernel)⟩
theorem lw_p62 : lw_okq (⟨"TaskComputerModel", "call", "(I)V"⟩, 17) := ⟨⟨by decide +kernel, by decide +kernel⟩, List.mem_of_getElem? (i := 617) (by decide +kernel), List.mem_of_getElem? (i := 809) (by decide +kernel), List.mem_of_getElem? (i := 810) (by decide +kernel)⟩
theorem lw_p63 : lw_okq (⟨"TaskComputerModel", "byteOp", "(II)V"⟩, 17) := ⟨⟨by decide +kernel, by decide +kernel⟩, List.mem_of_getElem? (i := 617) (by decide +kernel), List.mem_of_getElem? (i := 813) (by decide +kernel), List.mem_of_getElem? (i := 814) (by decide +kernel)⟩
def lw_privs_4 : List (MethodName × Nat) := [(⟨"TaskComputerModel", "fetch", "()I"⟩, 17), (⟨"TaskComputerModel", "upper", "(I)V"⟩, 17), (⟨"TaskComputerModel", "operand", "(IZ)I"⟩, 17), (⟨"TaskComputerModel", "fetchWord", "()I"⟩, 17), (⟨"TaskComputerModel", "address", "(I)I"⟩, 17), (⟨"TaskComputerModel", "stepping", "(II)I"⟩, 17), (⟨"TaskComputerModel", "offset", "(II)I"⟩, 17), (⟨"TaskComputerModel", "get", "(I)I"⟩, 17), (⟨"TaskComputerModel", "difference", "(IIII)I"⟩, 17), (⟨"TaskComputerModel", "sign", "(II)V"⟩, 17), (⟨"TaskComputerModel", "sum", "(IIII)I"⟩, 17), (⟨"TaskComputerModel", "save", "(II)V"⟩, 17), (⟨"TaskComputerModel", "plain", "(II)I"⟩, 17), (⟨"TaskComputerModel", "wordOp", "(IIZ)V"⟩, 17), (⟨"TaskComputerModel", "call", "(I)V"⟩, 17), (⟨"TaskComputerModel", "byteOp", "(II)V"⟩, 17)]
theorem lw_r4 : ∀ q ∈ lw_privs_4, lw_okq q := List.forall_mem_cons.mpr ⟨lw_p48, List.forall_mem_cons.mpr ⟨lw_p49, List.forall_mem_cons.mpr ⟨lw_p50, List.forall_mem_cons.mpr ⟨lw_p51, List.forall_mem_cons.mpr ⟨lw_p52, List.forall_mem_cons.mpr ⟨lw_p53, List.forall_mem_cons.mpr ⟨lw_p54, List.forall_mem_cons.mpr ⟨lw_p55, List.forall_mem_cons.mpr ⟨lw_p56, List.forall_mem_cons.mpr ⟨lw_p57, List.forall_mem_cons.mpr ⟨lw_p58, List.forall_mem_cons.mpr ⟨lw_p59, List.forall_mem_cons.mpr ⟨lw_p60, List.forall_mem_cons.mpr ⟨lw_p61, List.forall_mem_cons.mpr ⟨lw_p62, List.forall_mem_cons.mpr ⟨lw_p63, fun _ h => absurd h List.not_mem_nil⟩⟩⟩⟩⟩⟩⟩⟩⟩⟩⟩⟩⟩⟩⟩⟩
theorem lw_p64 : lw_okq (⟨"TaskComputerModel", "second", "()V"⟩, 17) := ⟨⟨by decide +kernel, by decide +kernel⟩, List.mem_of_getElem? (i := 617) (by decide +kernel), List.mem_of_getElem? (i := 817) (by decide +kernel), List.mem_of_getElem? (i := 818) (by decide +kernel)⟩
theorem lw_p65 : lw_okq (⟨"TaskComputerModel", "branch", "(I)V"⟩, 17) := ⟨⟨by decide +kernel, by decide +kernel⟩, List.mem_of_getElem? (i := 617) (by decide +kernel), List.mem_of_getElem? (i := 821) (by decide +kernel), List.mem_of_getElem? (i := 822) (by decide +kernel)⟩
theorem lw_p66 : lw_okq (⟨"TaskComputerModel", "holds", "(I)Z"⟩, 17) := ⟨⟨by decide +kernel, by decide +kernel⟩, List.mem_of_getElem? (i := 617) (by decide +kernel), List.mem_of_getElem? (i := 825) (by decide +kernel), List.mem_of_getElem? (i := 826) (by decide +kernel)⟩
theorem lw_p67 : lw_okq (⟨"TaskComputerModel", "single", "(I)V"⟩, 17) := ⟨⟨by decide +kernel, by decide +kernel⟩, List.mem_of_getElem? (i := 617) (by decide +kernel), List.mem_of_getElem? (i := 829) (by decide +kernel), List.mem_of_getElem? (i := 830) (by decide +kernel)⟩
theorem lw_p68 : lw_okq (⟨"TaskComputerModel", "trade", "(I)V"⟩, 17) := ⟨⟨by decide +kernel, by decide +kernel⟩, List.mem_of_getElem? (i := 617) (by decide +kernel), List.mem_of_getElem? (i := 833) (by decide +kernel), List.mem_of_getElem? (i := 834) (by decide +kernel)⟩
theorem lw_p69 : lw_okq (⟨"TaskComputerModel", "many", "(I)V"⟩, 17) := ⟨⟨by decide +kernel, by decide +kernel⟩, List.mem_of_getElem? (i := 617) (by decide +kernel), List.mem_of_getElem? (i := 837) (by decide +kernel), List.mem_of_getElem? (i := 838) (by decide +kernel)⟩
theorem lw_p70 : lw_okq (⟨"TaskComputerModel", "kernel", "()V"⟩, 17) := ⟨⟨by decide +kernel, by decide +kernel⟩, List.mem_of_getElem? (i := 617) (by decide +kernel), List.mem_of_getElem? (i := 844) (by decide +kernel), List.mem_of_getElem? (i := 845) (by decide +kernel)⟩
theorem lw_p71 : lw_okq (⟨"TaskComputerModel", "end", "(II)V"⟩, 17) := ⟨⟨by decide +kernel, by decide +kernel⟩, List.mem_of_getElem? (i := 617) (by decide +kernel), List.mem_of_getElem? (i := 848) (by decide +kernel), List.mem_of_getElem? (i := 849) (by decide +kernel)⟩
theorem lw_p72 : lw_okq (⟨"TaskComputerModel", "answer", "(IIIZ)V"⟩, 17) := ⟨⟨by decide +kernel, by decide +kernel⟩, List.mem_of_getElem? (i := 617) (by decide +kernel), List.mem_of_getElem? (i := 852) (by decide +kernel), List.mem_of_getElem? (i := 853) (by decide +kernel)⟩
theorem lw_p73 : lw_okq (⟨"TaskComputerModel", "begin", "(III)V"⟩, 17) := ⟨⟨by decide +kernel, by decide +kernel⟩, List.mem_of_getElem? (i := 617) (by decide +kernel), List.mem_of_getElem? (i := 856) (by decide +kernel), List.mem_of_getElem? (i := 857) (by decide +kernel)⟩
theorem lw_p74 : lw_okq (⟨"TaskComputerModel", "lower", "(I)V"⟩, 17) := ⟨⟨by decide +kernel, by decide +kernel⟩, List.mem_of_getElem? (i := 617) (by decide +kernel), List.mem_of_getElem? (i := 860) (by decide +kernel), List.mem_of_getElem? (i := 861) (by decide +kernel)⟩
theorem lw_p75 : lw_okq (⟨"TaskComputerModel", "changed", "(II)I"⟩, 17) := ⟨⟨by decide +kernel, by decide +kernel⟩, List.mem_of_getElem? (i := 617) (by decide +kernel), List.mem_of_getElem? (i := 864) (by decide +kernel), List.mem_of_getElem? (i := 865) (by decide +kernel)⟩
theorem lw_p76 : lw_okq (⟨"TaskComputerModel", "pass", "(I)V"⟩, 17) := ⟨⟨by decide +kernel, by decide +kernel⟩, List.mem_of_getElem? (i := 617) (by decide +kernel), List.mem_of_getElem? (i := 868) (by decide +kernel), List.mem_of_getElem? (i := 869) (by decide +kernel)⟩
theorem lw_p77 : lw_okq (⟨"TaskComputerModel", "inFrame", "(II)I"⟩, 17) := ⟨⟨by decide +kernel, by decide +kernel⟩, List.mem_of_getElem? (i := 617) (by decide +kernel), List.mem_of_getElem? (i := 903) (by decide +kernel), List.mem_of_getElem? (i := 904) (by decide +kernel)⟩
def lw_privs_5 : List (MethodName × Nat) := [(⟨"TaskComputerModel", "second", "()V"⟩, 17), (⟨"TaskComputerModel", "branch", "(I)V"⟩, 17), (⟨"TaskComputerModel", "holds", "(I)Z"⟩, 17), (⟨"TaskComputerModel", "single", "(I)V"⟩, 17), (⟨"TaskComputerModel", "trade", "(I)V"⟩, 17), (⟨"TaskComputerModel", "many", "(I)V"⟩, 17), (⟨"TaskComputerModel", "kernel", "()V"⟩, 17), (⟨"TaskComputerModel", "end", "(II)V"⟩, 17), (⟨"TaskComputerModel", "answer", "(IIIZ)V"⟩, 17), (⟨"TaskComputerModel", "begin", "(III)V"⟩, 17), (⟨"TaskComputerModel", "lower", "(I)V"⟩, 17), (⟨"TaskComputerModel", "changed", "(II)I"⟩, 17), (⟨"TaskComputerModel", "pass", "(I)V"⟩, 17), (⟨"TaskComputerModel", "inFrame", "(II)I"⟩, 17)]
theorem lw_r5 : ∀ q ∈ lw_privs_5, lw_okq q := List.forall_mem_cons.mpr ⟨lw_p64, List.forall_mem_cons.mpr ⟨lw_p65, List.forall_mem_cons.mpr ⟨lw_p66, List.forall_mem_cons.mpr ⟨lw_p67, List.forall_mem_cons.mpr ⟨lw_p68, List.forall_mem_cons.mpr ⟨lw_p69, List.forall_mem_cons.mpr ⟨lw_p70, List.forall_mem_cons.mpr ⟨lw_p71, List.forall_mem_cons.mpr ⟨lw_p72, List.forall_mem_cons.mpr ⟨lw_p73, List.forall_mem_cons.mpr ⟨lw_p74, List.forall_mem_cons.mpr ⟨lw_p75, List.forall_mem_cons.mpr ⟨lw_p76, List.forall_mem_cons.mpr ⟨lw_p77, fun _ h => absurd h List.not_mem_nil⟩⟩⟩⟩⟩⟩⟩⟩⟩⟩⟩⟩⟩⟩
def lw_privs : List (MethodName × Nat) := lw_privs_1 ++ (lw_privs_2 ++ (lw_privs_3 ++ (lw_privs_4 ++ (lw_privs_5))))
def lw_tbl : List Cond := k2_sels lw_privs ++ tables_1
theorem lw_privs_ok : ∀ q ∈ lw_privs, lw_okq q := by
  show ∀ q ∈ lw_privs_1 ++ (lw_privs_2 ++ (lw_privs_3 ++ (lw_privs_4 ++ (lw_privs_5)))), lw_okq q
  exact List.forall_mem_append.mpr ⟨lw_r1, List.forall_mem_append.mpr ⟨lw_r2, List.forall_mem_append.mpr ⟨lw_r3, List.forall_mem_append.mpr ⟨lw_r4, lw_r5⟩⟩⟩⟩
end
section
def rn_C : String := "TaskComputer$Calculator"
def fn_C : u_T := fun k => match k with
  | _ => ("TaskComputer$Calculator", "registers", "LTaskComputer$Registers;", true)
def ft_C : Nat → FieldType := fun k => match k with
  | _ => .object "TaskComputer$Registers"
theorem fd_C : ∀ a, a < 1 → ∀ b, b < 1 → a ≠ b → (fn_C a).2.1 ≠ (fn_C b).2.1 := by decide +kernel
theorem fk_C : ∀ k, k < 1 → parseFieldDescriptor (fn_C k).2.2.1 = some (ft_C k) := by decide +kernel
def rn_K : String := "TaskComputer$Kernel"
def fn_K : u_T := fun k => match k with
  | 0 => ("TaskComputer$Kernel", "queue", "LTaskComputer$Queue;", true)
  | 1 => ("TaskComputer$Kernel", "running", "LTaskComputer$Task;", false)
  | 2 => ("TaskComputer$Kernel", "memory", "LTaskComputer$Memory;", true)
  | 3 => ("TaskComputer$Kernel", "registers", "LTaskComputer$Registers;", true)
  | 4 => ("TaskComputer$Kernel", "spare", "LTaskComputer$Registers;", true)
  | _ => ("TaskComputer$Kernel", "tasks", "[LTaskComputer$Task;", true)
def ft_K : Nat → FieldType := fun k => match k with
  | 0 => .object "TaskComputer$Queue"
  | 1 => .object "TaskComputer$Task"
  | 2 => .object "TaskComputer$Memory"
  | 3 => .object "TaskComputer$Registers"
  | 4 => .object "TaskComputer$Registers"
  | _ => .array (.object "TaskComputer$Task")
theorem fd_K : ∀ a, a < 6 → ∀ b, b < 6 → a ≠ b → (fn_K a).2.1 ≠ (fn_K b).2.1 := by decide +kernel
theorem fk_K : ∀ k, k < 6 → parseFieldDescriptor (fn_K k).2.2.1 = some (ft_K k) := by decide +kernel
def rn_Y : String := "TaskComputer$Memory"
def fn_Y : u_T := fun k => match k with
  | _ => ("TaskComputer$Memory", "bytes", "[I", true)
def ft_Y : Nat → FieldType := fun k => match k with
  | _ => .array .int
theorem fd_Y : ∀ a, a < 1 → ∀ b, b < 1 → a ≠ b → (fn_Y a).2.1 ≠ (fn_Y b).2.1 := by decide +kernel
theorem fk_Y : ∀ k, k < 1 → parseFieldDescriptor (fn_Y k).2.2.1 = some (ft_Y k) := by decide +kernel
def rn_P : String := "TaskComputer$Processor"
def fn_P : u_T := fun k => match k with
  | 0 => ("TaskComputer$Processor", "cycles", "I", false)
  | 1 => ("TaskComputer$Processor", "memory", "LTaskComputer$Memory;", true)
  | 2 => ("TaskComputer$Processor", "registers", "LTaskComputer$Registers;", true)
  | 3 => ("TaskComputer$Processor", "calculator", "LTaskComputer$Calculator;", true)
  | _ => ("TaskComputer$Processor", "outcome", "I", false)
def ft_P : Nat → FieldType := fun k => match k with
  | 0 => .int
  | 1 => .object "TaskComputer$Memory"
  | 2 => .object "TaskComputer$Registers"
  | 3 => .object "TaskComputer$Calculator"
  | _ => .int
theorem fd_P : ∀ a, a < 5 → ∀ b, b < 5 → a ≠ b → (fn_P a).2.1 ≠ (fn_P b).2.1 := by decide +kernel
theorem fk_P : ∀ k, k < 5 → parseFieldDescriptor (fn_P k).2.2.1 = some (ft_P k) := by decide +kernel
def rn_Q : String := "TaskComputer$Queue"
def fn_Q : u_T := fun k => match k with
  | 0 => ("TaskComputer$Queue", "places", "[LTaskComputer$Task;", true)
  | _ => ("TaskComputer$Queue", "size", "I", false)
def ft_Q : Nat → FieldType := fun k => match k with
  | 0 => .array (.object "TaskComputer$Task")
  | _ => .int
theorem fd_Q : ∀ a, a < 2 → ∀ b, b < 2 → a ≠ b → (fn_Q a).2.1 ≠ (fn_Q b).2.1 := by decide +kernel
theorem fk_Q : ∀ k, k < 2 → parseFieldDescriptor (fn_Q k).2.2.1 = some (ft_Q k) := by decide +kernel
def rn_G : String := "TaskComputer$Registers"
def fn_G : u_T := fun k => match k with
  | 0 => ("TaskComputer$Registers", "a", "I", false)
  | 1 => ("TaskComputer$Registers", "b", "I", false)
  | 2 => ("TaskComputer$Registers", "dp", "I", false)
  | 3 => ("TaskComputer$Registers", "cc", "I", false)
  | 4 => ("TaskComputer$Registers", "x", "I", false)
  | 5 => ("TaskComputer$Registers", "y", "I", false)
  | 6 => ("TaskComputer$Registers", "u", "I", false)
  | 7 => ("TaskComputer$Registers", "s", "I", false)
  | _ => ("TaskComputer$Registers", "pc", "I", false)
def ft_G : Nat → FieldType := fun k => match k with
  | 0 => .int
  | 1 => .int
  | 2 => .int
  | 3 => .int
  | 4 => .int
  | 5 => .int
  | 6 => .int
  | 7 => .int
  | _ => .int
theorem fd_G : ∀ a, a < 9 → ∀ b, b < 9 → a ≠ b → (fn_G a).2.1 ≠ (fn_G b).2.1 := by decide +kernel
theorem fk_G : ∀ k, k < 9 → parseFieldDescriptor (fn_G k).2.2.1 = some (ft_G k) := by decide +kernel
def rn_A : String := "TaskComputer$Task"
def fn_A : u_T := fun k => match k with
  | 0 => ("TaskComputer$Task", "number", "I", true)
  | 1 => ("TaskComputer$Task", "state", "I", false)
  | 2 => ("TaskComputer$Task", "s", "I", false)
  | 3 => ("TaskComputer$Task", "sleep", "I", false)
  | _ => ("TaskComputer$Task", "status", "I", false)
def ft_A : Nat → FieldType := fun k => match k with
  | 0 => .int
  | 1 => .int
  | 2 => .int
  | 3 => .int
  | _ => .int
theorem fd_A : ∀ a, a < 5 → ∀ b, b < 5 → a ≠ b → (fn_A a).2.1 ≠ (fn_A b).2.1 := by decide +kernel
theorem fk_A : ∀ k, k < 5 → parseFieldDescriptor (fn_A k).2.2.1 = some (ft_A k) := by decide +kernel
def rn_I : String := "TaskComputer$Timer"
def fn_I : u_T := fun k => match k with
  | 0 => ("TaskComputer$Timer", "period", "I", false)
  | 1 => ("TaskComputer$Timer", "left", "I", false)
  | 2 => ("TaskComputer$Timer", "passed", "I", false)
  | 3 => ("TaskComputer$Timer", "served", "I", false)
  | 4 => ("TaskComputer$Timer", "missed", "I", false)
  | _ => ("TaskComputer$Timer", "pending", "Z", false)
def ft_I : Nat → FieldType := fun k => match k with
  | 0 => .int
  | 1 => .int
  | 2 => .int
  | 3 => .int
  | 4 => .int
  | _ => .boolean
theorem fd_I : ∀ a, a < 6 → ∀ b, b < 6 → a ≠ b → (fn_I a).2.1 ≠ (fn_I b).2.1 := by decide +kernel
theorem fk_I : ∀ k, k < 6 → parseFieldDescriptor (fn_I k).2.2.1 = some (ft_I k) := by decide +kernel
def rn_T : String := "TaskComputer"
def fn_T : u_T := fun k => match k with
  | 0 => ("TaskComputer", "memory", "LTaskComputer$Memory;", true)
  | 1 => ("TaskComputer", "processor", "LTaskComputer$Processor;", true)
  | 2 => ("TaskComputer", "kernel", "LTaskComputer$Kernel;", true)
  | _ => ("TaskComputer", "timer", "LTaskComputer$Timer;", true)
def ft_T : Nat → FieldType := fun k => match k with
  | 0 => .object "TaskComputer$Memory"
  | 1 => .object "TaskComputer$Processor"
  | 2 => .object "TaskComputer$Kernel"
  | _ => .object "TaskComputer$Timer"
theorem fd_T : ∀ a, a < 4 → ∀ b, b < 4 → a ≠ b → (fn_T a).2.1 ≠ (fn_T b).2.1 := by decide +kernel
theorem fk_T : ∀ k, k < 4 → parseFieldDescriptor (fn_T k).2.2.1 = some (ft_T k) := by decide +kernel
def rn_M : String := "TaskComputerModel"
def fn_M : u_T := fun k => match k with
  | 0 => ("TaskComputerModel", "memory", "[I", false)
  | 1 => ("TaskComputerModel", "reg", "[I", false)
  | 2 => ("TaskComputerModel", "stateOf", "[I", false)
  | 3 => ("TaskComputerModel", "savedS", "[I", false)
  | 4 => ("TaskComputerModel", "toSleep", "[I", false)
  | 5 => ("TaskComputerModel", "statusOf", "[I", false)
  | 6 => ("TaskComputerModel", "queue", "[I", false)
  | 7 => ("TaskComputerModel", "waits", "I", false)
  | 8 => ("TaskComputerModel", "running", "I", false)
  | 9 => ("TaskComputerModel", "period", "I", false)
  | 10 => ("TaskComputerModel", "rest", "I", false)
  | 11 => ("TaskComputerModel", "pending", "Z", false)
  | 12 => ("TaskComputerModel", "lostTicks", "I", false)
  | 13 => ("TaskComputerModel", "served", "I", false)
  | 14 => ("TaskComputerModel", "passed", "I", false)
  | 15 => ("TaskComputerModel", "spent", "I", false)
  | _ => ("TaskComputerModel", "invalid", "Z", false)
def ft_M : Nat → FieldType := fun k => match k with
  | 0 => .array .int
  | 1 => .array .int
  | 2 => .array .int
  | 3 => .array .int
  | 4 => .array .int
  | 5 => .array .int
  | 6 => .array .int
  | 7 => .int
  | 8 => .int
  | 9 => .int
  | 10 => .int
  | 11 => .boolean
  | 12 => .int
  | 13 => .int
  | 14 => .int
  | 15 => .int
  | _ => .boolean
theorem fd_M : ∀ a, a < 17 → ∀ b, b < 17 → a ≠ b → (fn_M a).2.1 ≠ (fn_M b).2.1 := by decide +kernel
theorem fk_M : ∀ k, k < 17 → parseFieldDescriptor (fn_M k).2.2.1 = some (ft_M k) := by decide +kernel
def rn_L : String := "TaskComputerLaw"
abbrev mb_C_init : ByteArray := prog_2_method_1_code
def my_C_init : MethodName := ⟨rn_C, "<init>", "(LTaskComputer$Registers;)V"⟩
abbrev mb_C_signed : ByteArray := prog_2_method_2_code
def my_C_signed : MethodName := ⟨rn_C, "signed", "(II)I"⟩
abbrev mb_C_carry : ByteArray := prog_2_method_3_code
def my_C_carry : MethodName := ⟨rn_C, "carry", "()I"⟩
abbrev mb_C_sum : ByteArray := prog_2_method_4_code
def my_C_sum : MethodName := ⟨rn_C, "sum", "(IIII)I"⟩
abbrev mb_C_difference : ByteArray := prog_2_method_5_code
def my_C_difference : MethodName := ⟨rn_C, "difference", "(IIII)I"⟩
abbrev mb_C_plain : ByteArray := prog_2_method_6_code
def my_C_plain : MethodName := ⟨rn_C, "plain", "(II)I"⟩
abbrev mb_C_plainWithCarry : ByteArray := prog_2_method_7_code
def my_C_plainWithCarry : MethodName := ⟨rn_C, "plainWithCarry", "(II)I"⟩
abbrev mb_C_shiftRight : ByteArray := prog_2_method_8_code
def my_C_shiftRight : MethodName := ⟨rn_C, "shiftRight", "(II)I"⟩
abbrev mb_C_shiftLeft : ByteArray := prog_2_method_9_code
def my_C_shiftLeft : MethodName := ⟨rn_C, "shiftLeft", "(II)I"⟩
abbrev mb_C_decrement : ByteArray := prog_2_method_10_code
def my_C_decrement : MethodName := ⟨rn_C, "decrement", "(I)I"⟩
abbrev mb_C_increment : ByteArray := prog_2_method_11_code
def my_C_increment : MethodName := ⟨rn_C, "increment", "(I)I"⟩
abbrev mb_C_extendB : ByteArray := prog_2_method_12_code
def my_C_extendB : MethodName := ⟨rn_C, "extendB", "()V"⟩
abbrev mb_C_multiply : ByteArray := prog_2_method_13_code
def my_C_multiply : MethodName := ⟨rn_C, "multiply", "()V"⟩
abbrev mb_C_maskOf : ByteArray := prog_2_method_14_code
def my_C_maskOf : MethodName := ⟨rn_C, "maskOf", "(I)I"⟩
abbrev mb_C_signOf : ByteArray := prog_2_method_15_code
def my_C_signOf : MethodName := ⟨rn_C, "signOf", "(II)I"⟩
abbrev mb_K_init : ByteArray := prog_3_method_1_code
def my_K_init : MethodName := ⟨rn_K, "<init>", "(LTaskComputer$Memory;LTaskComputer$Registers;)V"⟩
abbrev mb_K_taskAt : ByteArray := prog_3_method_2_code
def my_K_taskAt : MethodName := ⟨rn_K, "taskAt", "(I)LTaskComputer$Task;"⟩
abbrev mb_K_registersOf : ByteArray := prog_3_method_3_code
def my_K_registersOf : MethodName := ⟨rn_K, "registersOf", "(LTaskComputer$Task;)LTaskComputer$Registers;"⟩
abbrev mb_K_begin : ByteArray := prog_3_method_4_code
def my_K_begin : MethodName := ⟨rn_K, "begin", "(LTaskComputer$Task;II)V"⟩
abbrev mb_K_end : ByteArray := prog_3_method_5_code
def my_K_end : MethodName := ⟨rn_K, "end", "(LTaskComputer$Task;I)V"⟩
abbrev mb_K_takeNext : ByteArray := prog_3_method_6_code
def my_K_takeNext : MethodName := ⟨rn_K, "takeNext", "()V"⟩
abbrev mb_K_canServe : ByteArray := prog_3_method_7_code
def my_K_canServe : MethodName := ⟨rn_K, "canServe", "()Z"⟩
abbrev mb_K_serveTick : ByteArray := prog_3_method_8_code
def my_K_serveTick : MethodName := ⟨rn_K, "serveTick", "()V"⟩
abbrev mb_K_settle : ByteArray := prog_3_method_9_code
def my_K_settle : MethodName := ⟨rn_K, "settle", "(I)V"⟩
abbrev mb_K_answer : ByteArray := prog_3_method_10_code
def my_K_answer : MethodName := ⟨rn_K, "answer", "(LTaskComputer$Task;I)V"⟩
abbrev mb_K_fork : ByteArray := prog_3_method_11_code
def my_K_fork : MethodName := ⟨rn_K, "fork", "(LTaskComputer$Task;II)V"⟩
abbrev mb_K_leastFree : ByteArray := prog_3_method_12_code
def my_K_leastFree : MethodName := ⟨rn_K, "leastFree", "()LTaskComputer$Task;"⟩
abbrev mb_K_putToSleep : ByteArray := prog_3_method_13_code
def my_K_putToSleep : MethodName := ⟨rn_K, "putToSleep", "(LTaskComputer$Task;I)V"⟩
abbrev mb_K_succeed : ByteArray := prog_3_method_14_code
def my_K_succeed : MethodName := ⟨rn_K, "succeed", "(LTaskComputer$Task;I)V"⟩
abbrev mb_K_fail : ByteArray := prog_3_method_15_code
def my_K_fail : MethodName := ⟨rn_K, "fail", "(LTaskComputer$Task;I)V"⟩
abbrev mb_K_makeReady : ByteArray := prog_3_method_16_code
def my_K_makeReady : MethodName := ⟨rn_K, "makeReady", "(LTaskComputer$Task;)V"⟩
abbrev mb_K_resume : ByteArray := prog_3_method_17_code
def my_K_resume : MethodName := ⟨rn_K, "resume", "(LTaskComputer$Task;)V"⟩
abbrev mb_K_stack : ByteArray := prog_3_method_18_code
def my_K_stack : MethodName := ⟨rn_K, "stack", "(LTaskComputer$Task;LTaskComputer$Registers;)V"⟩
abbrev mb_K_take : ByteArray := prog_3_method_19_code
def my_K_take : MethodName := ⟨rn_K, "take", "(LTaskComputer$Task;LTaskComputer$Registers;)V"⟩
abbrev mb_Y_init : ByteArray := prog_4_method_1_code
def my_Y_init : MethodName := ⟨rn_Y, "<init>", "()V"⟩
abbrev mb_Y_holds : ByteArray := prog_4_method_2_code
def my_Y_holds : MethodName := ⟨rn_Y, "holds", "(I)Z"⟩
abbrev mb_Y_load : ByteArray := prog_4_method_3_code
def my_Y_load : MethodName := ⟨rn_Y, "load", "(II)I"⟩
abbrev mb_Y_store : ByteArray := prog_4_method_4_code
def my_Y_store : MethodName := ⟨rn_Y, "store", "(III)V"⟩
abbrev mb_Y_copyBlock : ByteArray := prog_4_method_5_code
def my_Y_copyBlock : MethodName := ⟨rn_Y, "copyBlock", "(II)V"⟩
abbrev mb_P_init : ByteArray := prog_5_method_1_code
def my_P_init : MethodName := ⟨rn_P, "<init>", "(LTaskComputer$Memory;LTaskComputer$Registers;)V"⟩
abbrev mb_P_execute : ByteArray := prog_5_method_2_code
def my_P_execute : MethodName := ⟨rn_P, "execute", "()I"⟩
abbrev mb_P_fetch : ByteArray := prog_5_method_3_code
def my_P_fetch : MethodName := ⟨rn_P, "fetch", "(I)I"⟩
abbrev mb_P_skip : ByteArray := prog_5_method_4_code
def my_P_skip : MethodName := ⟨rn_P, "skip", "(I)V"⟩
abbrev mb_P_load : ByteArray := prog_5_method_5_code
def my_P_load : MethodName := ⟨rn_P, "load", "(II)I"⟩
abbrev mb_P_store : ByteArray := prog_5_method_6_code
def my_P_store : MethodName := ⟨rn_P, "store", "(III)V"⟩
abbrev mb_P_push : ByteArray := prog_5_method_7_code
def my_P_push : MethodName := ⟨rn_P, "push", "(II)V"⟩
abbrev mb_P_pull : ByteArray := prog_5_method_8_code
def my_P_pull : MethodName := ⟨rn_P, "pull", "(II)V"⟩
abbrev mb_P_doMainPage : ByteArray := prog_5_method_9_code
def my_P_doMainPage : MethodName := ⟨rn_P, "doMainPage", "(I)V"⟩
abbrev mb_P_doSecondPage : ByteArray := prog_5_method_10_code
def my_P_doSecondPage : MethodName := ⟨rn_P, "doSecondPage", "(I)V"⟩
abbrev mb_P_operate : ByteArray := prog_5_method_11_code
def my_P_operate : MethodName := ⟨rn_P, "operate", "(III)V"⟩
abbrev mb_P_calculate : ByteArray := prog_5_method_12_code
def my_P_calculate : MethodName := ⟨rn_P, "calculate", "(IIII)I"⟩
abbrev mb_P_operandAddress : ByteArray := prog_5_method_13_code
def my_P_operandAddress : MethodName := ⟨rn_P, "operandAddress", "(II)I"⟩
abbrev mb_P_indexedAddress : ByteArray := prog_5_method_14_code
def my_P_indexedAddress : MethodName := ⟨rn_P, "indexedAddress", "()I"⟩
abbrev mb_P_isIndexedForm : ByteArray := prog_5_method_15_code
def my_P_isIndexedForm : MethodName := ⟨rn_P, "isIndexedForm", "(IZ)Z"⟩
abbrev mb_P_callAt : ByteArray := prog_5_method_16_code
def my_P_callAt : MethodName := ⟨rn_P, "callAt", "(I)V"⟩
abbrev mb_P_changeMemory : ByteArray := prog_5_method_17_code
def my_P_changeMemory : MethodName := ⟨rn_P, "changeMemory", "(II)V"⟩
abbrev mb_P_changeRegister : ByteArray := prog_5_method_18_code
def my_P_changeRegister : MethodName := ⟨rn_P, "changeRegister", "(II)V"⟩
abbrev mb_P_isChange : ByteArray := prog_5_method_19_code
def my_P_isChange : MethodName := ⟨rn_P, "isChange", "(I)Z"⟩
abbrev mb_P_changed : ByteArray := prog_5_method_20_code
def my_P_changed : MethodName := ⟨rn_P, "changed", "(II)I"⟩
abbrev mb_P_branch : ByteArray := prog_5_method_21_code
def my_P_branch : MethodName := ⟨rn_P, "branch", "(I)V"⟩
abbrev mb_P_holds : ByteArray := prog_5_method_22_code
def my_P_holds : MethodName := ⟨rn_P, "holds", "(I)Z"⟩
abbrev mb_P_doGroup1 : ByteArray := prog_5_method_23_code
def my_P_doGroup1 : MethodName := ⟨rn_P, "doGroup1", "(I)V"⟩
abbrev mb_P_moveRegister : ByteArray := prog_5_method_24_code
def my_P_moveRegister : MethodName := ⟨rn_P, "moveRegister", "(Z)V"⟩
abbrev mb_P_doGroup3 : ByteArray := prog_5_method_25_code
def my_P_doGroup3 : MethodName := ⟨rn_P, "doGroup3", "(I)V"⟩
abbrev mb_P_loadAddress : ByteArray := prog_5_method_26_code
def my_P_loadAddress : MethodName := ⟨rn_P, "loadAddress", "(I)V"⟩
abbrev mb_Q_init : ByteArray := prog_6_method_1_code
def my_Q_init : MethodName := ⟨rn_Q, "<init>", "(I)V"⟩
abbrev mb_Q_append : ByteArray := prog_6_method_2_code
def my_Q_append : MethodName := ⟨rn_Q, "append", "(LTaskComputer$Task;)V"⟩
abbrev mb_Q_removeFirst : ByteArray := prog_6_method_3_code
def my_Q_removeFirst : MethodName := ⟨rn_Q, "removeFirst", "()LTaskComputer$Task;"⟩
abbrev mb_Q_remove : ByteArray := prog_6_method_4_code
def my_Q_remove : MethodName := ⟨rn_Q, "remove", "(LTaskComputer$Task;)V"⟩
abbrev mb_Q_numberAt : ByteArray := prog_6_method_5_code
def my_Q_numberAt : MethodName := ⟨rn_Q, "numberAt", "(I)I"⟩
abbrev mb_G_init : ByteArray := prog_7_method_1_code
def my_G_init : MethodName := ⟨rn_G, "<init>", "()V"⟩
abbrev mb_G_exists : ByteArray := prog_7_method_2_code
def my_G_exists : MethodName := ⟨rn_G, "exists", "(I)Z"⟩
abbrev mb_G_sizeOf : ByteArray := prog_7_method_3_code
def my_G_sizeOf : MethodName := ⟨rn_G, "sizeOf", "(I)I"⟩
abbrev mb_G_get : ByteArray := prog_7_method_4_code
def my_G_get : MethodName := ⟨rn_G, "get", "(I)I"⟩
abbrev mb_G_set : ByteArray := prog_7_method_5_code
def my_G_set : MethodName := ⟨rn_G, "set", "(II)V"⟩
abbrev mb_G_has : ByteArray := prog_7_method_6_code
def my_G_has : MethodName := ⟨rn_G, "has", "(I)Z"⟩
abbrev mb_G_setFlags : ByteArray := prog_7_method_7_code
def my_G_setFlags : MethodName := ⟨rn_G, "setFlags", "(II)V"⟩
abbrev mb_G_push : ByteArray := prog_7_method_8_code
def my_G_push : MethodName := ⟨rn_G, "push", "(LTaskComputer$Memory;II)I"⟩
abbrev mb_G_pull : ByteArray := prog_7_method_9_code
def my_G_pull : MethodName := ⟨rn_G, "pull", "(LTaskComputer$Memory;II)I"⟩
abbrev mb_G_pushedAt : ByteArray := prog_7_method_10_code
def my_G_pushedAt : MethodName := ⟨rn_G, "pushedAt", "(II)I"⟩
abbrev mb_A_init : ByteArray := prog_8_method_1_code
def my_A_init : MethodName := ⟨rn_A, "<init>", "(I)V"⟩
abbrev mb_I_init : ByteArray := prog_9_method_1_code
def my_I_init : MethodName := ⟨rn_I, "<init>", "()V"⟩
abbrev mb_I_letPass : ByteArray := prog_9_method_2_code
def my_I_letPass : MethodName := ⟨rn_I, "letPass", "(I)V"⟩
abbrev mb_I_countServed : ByteArray := prog_9_method_3_code
def my_I_countServed : MethodName := ⟨rn_I, "countServed", "()V"⟩
abbrev mb_T_init : ByteArray := prog_1_method_1_code
def my_T_init : MethodName := ⟨rn_T, "<init>", "()V"⟩
abbrev mb_T_poke : ByteArray := prog_1_method_2_code
def my_T_poke : MethodName := ⟨rn_T, "poke", "(II)I"⟩
abbrev mb_T_peek : ByteArray := prog_1_method_3_code
def my_T_peek : MethodName := ⟨rn_T, "peek", "(I)I"⟩
abbrev mb_T_start : ByteArray := prog_1_method_4_code
def my_T_start : MethodName := ⟨rn_T, "start", "(III)Z"⟩
abbrev mb_T_stop : ByteArray := prog_1_method_5_code
def my_T_stop : MethodName := ⟨rn_T, "stop", "(I)Z"⟩
abbrev mb_T_timer : ByteArray := prog_1_method_6_code
def my_T_timer : MethodName := ⟨rn_T, "timer", "(I)Z"⟩
abbrev mb_T_run : ByteArray := prog_1_method_7_code
def my_T_run : MethodName := ⟨rn_T, "run", "(I)I"⟩
abbrev mb_T_state : ByteArray := prog_1_method_8_code
def my_T_state : MethodName := ⟨rn_T, "state", "(I)I"⟩
abbrev mb_T_register : ByteArray := prog_1_method_9_code
def my_T_register : MethodName := ⟨rn_T, "register", "(II)I"⟩
abbrev mb_T_queued : ByteArray := prog_1_method_10_code
def my_T_queued : MethodName := ⟨rn_T, "queued", "(I)I"⟩
abbrev mb_T_sleeps : ByteArray := prog_1_method_11_code
def my_T_sleeps : MethodName := ⟨rn_T, "sleeps", "(I)I"⟩
abbrev mb_T_status : ByteArray := prog_1_method_12_code
def my_T_status : MethodName := ⟨rn_T, "status", "(I)I"⟩
abbrev mb_T_cycles : ByteArray := prog_1_method_13_code
def my_T_cycles : MethodName := ⟨rn_T, "cycles", "()I"⟩
abbrev mb_T_ticks : ByteArray := prog_1_method_14_code
def my_T_ticks : MethodName := ⟨rn_T, "ticks", "()I"⟩
abbrev mb_T_lost : ByteArray := prog_1_method_15_code
def my_T_lost : MethodName := ⟨rn_T, "lost", "()I"⟩
abbrev mb_T_left : ByteArray := prog_1_method_16_code
def my_T_left : MethodName := ⟨rn_T, "left", "()I"⟩
abbrev mb_M_init : ByteArray := prog_11_method_1_code
def my_M_init : MethodName := ⟨rn_M, "<init>", "()V"⟩
abbrev mb_M_signed : ByteArray := prog_11_method_2_code
def my_M_signed : MethodName := ⟨rn_M, "signed", "(I)I"⟩
abbrev mb_M_at : ByteArray := prog_11_method_3_code
def my_M_at : MethodName := ⟨rn_M, "at", "(I)I"⟩
abbrev mb_M_put : ByteArray := prog_11_method_4_code
def my_M_put : MethodName := ⟨rn_M, "put", "(II)V"⟩
abbrev mb_M_get : ByteArray := prog_11_method_5_code
def my_M_get : MethodName := ⟨rn_M, "get", "(I)I"⟩
abbrev mb_M_set : ByteArray := prog_11_method_6_code
def my_M_set : MethodName := ⟨rn_M, "set", "(II)V"⟩
abbrev mb_M_load : ByteArray := prog_11_method_7_code
def my_M_load : MethodName := ⟨rn_M, "load", "(IZ)I"⟩
abbrev mb_M_store : ByteArray := prog_11_method_8_code
def my_M_store : MethodName := ⟨rn_M, "store", "(IIZ)V"⟩
abbrev mb_M_fetch : ByteArray := prog_11_method_9_code
def my_M_fetch : MethodName := ⟨rn_M, "fetch", "()I"⟩
abbrev mb_M_fetchWord : ByteArray := prog_11_method_10_code
def my_M_fetchWord : MethodName := ⟨rn_M, "fetchWord", "()I"⟩
abbrev mb_M_push : ByteArray := prog_11_method_11_code
def my_M_push : MethodName := ⟨rn_M, "push", "(II)V"⟩
abbrev mb_M_pull : ByteArray := prog_11_method_12_code
def my_M_pull : MethodName := ⟨rn_M, "pull", "(II)V"⟩
abbrev mb_M_flag : ByteArray := prog_11_method_13_code
def my_M_flag : MethodName := ⟨rn_M, "flag", "(I)Z"⟩
abbrev mb_M_mark : ByteArray := prog_11_method_14_code
def my_M_mark : MethodName := ⟨rn_M, "mark", "(IZ)V"⟩
abbrev mb_M_sign : ByteArray := prog_11_method_15_code
def my_M_sign : MethodName := ⟨rn_M, "sign", "(II)V"⟩
abbrev mb_M_plain : ByteArray := prog_11_method_16_code
def my_M_plain : MethodName := ⟨rn_M, "plain", "(II)I"⟩
abbrev mb_M_number : ByteArray := prog_11_method_17_code
def my_M_number : MethodName := ⟨rn_M, "number", "(II)I"⟩
abbrev mb_M_sum : ByteArray := prog_11_method_18_code
def my_M_sum : MethodName := ⟨rn_M, "sum", "(IIII)I"⟩
abbrev mb_M_difference : ByteArray := prog_11_method_19_code
def my_M_difference : MethodName := ⟨rn_M, "difference", "(IIII)I"⟩
abbrev mb_M_address : ByteArray := prog_11_method_20_code
def my_M_address : MethodName := ⟨rn_M, "address", "(I)I"⟩
abbrev mb_M_stepping : ByteArray := prog_11_method_21_code
def my_M_stepping : MethodName := ⟨rn_M, "stepping", "(II)I"⟩
abbrev mb_M_offset : ByteArray := prog_11_method_22_code
def my_M_offset : MethodName := ⟨rn_M, "offset", "(II)I"⟩
abbrev mb_M_operand : ByteArray := prog_11_method_23_code
def my_M_operand : MethodName := ⟨rn_M, "operand", "(IZ)I"⟩
abbrev mb_M_save : ByteArray := prog_11_method_24_code
def my_M_save : MethodName := ⟨rn_M, "save", "(II)V"⟩
abbrev mb_M_byteOp : ByteArray := prog_11_method_25_code
def my_M_byteOp : MethodName := ⟨rn_M, "byteOp", "(II)V"⟩
abbrev mb_M_wordOp : ByteArray := prog_11_method_26_code
def my_M_wordOp : MethodName := ⟨rn_M, "wordOp", "(IIZ)V"⟩
abbrev mb_M_call : ByteArray := prog_11_method_27_code
def my_M_call : MethodName := ⟨rn_M, "call", "(I)V"⟩
abbrev mb_M_upper : ByteArray := prog_11_method_28_code
def my_M_upper : MethodName := ⟨rn_M, "upper", "(I)V"⟩
abbrev mb_M_second : ByteArray := prog_11_method_29_code
def my_M_second : MethodName := ⟨rn_M, "second", "()V"⟩
abbrev mb_M_changed : ByteArray := prog_11_method_30_code
def my_M_changed : MethodName := ⟨rn_M, "changed", "(II)I"⟩
abbrev mb_M_lower : ByteArray := prog_11_method_31_code
def my_M_lower : MethodName := ⟨rn_M, "lower", "(I)V"⟩
abbrev mb_M_holds : ByteArray := prog_11_method_32_code
def my_M_holds : MethodName := ⟨rn_M, "holds", "(I)Z"⟩
abbrev mb_M_branch : ByteArray := prog_11_method_33_code
def my_M_branch : MethodName := ⟨rn_M, "branch", "(I)V"⟩
abbrev mb_M_trade : ByteArray := prog_11_method_34_code
def my_M_trade : MethodName := ⟨rn_M, "trade", "(I)V"⟩
abbrev mb_M_listed : ByteArray := prog_11_method_35_code
def my_M_listed : MethodName := ⟨rn_M, "listed", "(II)I"⟩
abbrev mb_M_many : ByteArray := prog_11_method_36_code
def my_M_many : MethodName := ⟨rn_M, "many", "(I)V"⟩
abbrev mb_M_single : ByteArray := prog_11_method_37_code
def my_M_single : MethodName := ⟨rn_M, "single", "(I)V"⟩
abbrev mb_M_instruction : ByteArray := prog_11_method_38_code
def my_M_instruction : MethodName := ⟨rn_M, "instruction", "()V"⟩
abbrev mb_M_framed : ByteArray := prog_11_method_39_code
def my_M_framed : MethodName := ⟨rn_M, "framed", "(I)I"⟩
abbrev mb_M_stack : ByteArray := prog_11_method_40_code
def my_M_stack : MethodName := ⟨rn_M, "stack", "()V"⟩
abbrev mb_M_take : ByteArray := prog_11_method_41_code
def my_M_take : MethodName := ⟨rn_M, "take", "(I)V"⟩
abbrev mb_M_comeLast : ByteArray := prog_11_method_42_code
def my_M_comeLast : MethodName := ⟨rn_M, "comeLast", "(I)V"⟩
abbrev mb_M_next : ByteArray := prog_11_method_43_code
def my_M_next : MethodName := ⟨rn_M, "next", "()V"⟩
abbrev mb_M_leave : ByteArray := prog_11_method_44_code
def my_M_leave : MethodName := ⟨rn_M, "leave", "(I)V"⟩
abbrev mb_M_end : ByteArray := prog_11_method_45_code
def my_M_end : MethodName := ⟨rn_M, "end", "(II)V"⟩
abbrev mb_M_begin : ByteArray := prog_11_method_46_code
def my_M_begin : MethodName := ⟨rn_M, "begin", "(III)V"⟩
abbrev mb_M_answer : ByteArray := prog_11_method_47_code
def my_M_answer : MethodName := ⟨rn_M, "answer", "(IIIZ)V"⟩
abbrev mb_M_kernel : ByteArray := prog_11_method_48_code
def my_M_kernel : MethodName := ⟨rn_M, "kernel", "()V"⟩
abbrev mb_M_pass : ByteArray := prog_11_method_49_code
def my_M_pass : MethodName := ⟨rn_M, "pass", "(I)V"⟩
abbrev mb_M_serve : ByteArray := prog_11_method_50_code
def my_M_serve : MethodName := ⟨rn_M, "serve", "()V"⟩
abbrev mb_M_run : ByteArray := prog_11_method_51_code
def my_M_run : MethodName := ⟨rn_M, "run", "(I)I"⟩
abbrev mb_M_poke : ByteArray := prog_11_method_52_code
def my_M_poke : MethodName := ⟨rn_M, "poke", "(II)I"⟩
abbrev mb_M_peek : ByteArray := prog_11_method_53_code
def my_M_peek : MethodName := ⟨rn_M, "peek", "(I)I"⟩
abbrev mb_M_noTask : ByteArray := prog_11_method_54_code
def my_M_noTask : MethodName := ⟨rn_M, "noTask", "(I)Z"⟩
abbrev mb_M_start : ByteArray := prog_11_method_55_code
def my_M_start : MethodName := ⟨rn_M, "start", "(III)Z"⟩
abbrev mb_M_stop : ByteArray := prog_11_method_56_code
def my_M_stop : MethodName := ⟨rn_M, "stop", "(I)Z"⟩
abbrev mb_M_timer : ByteArray := prog_11_method_57_code
def my_M_timer : MethodName := ⟨rn_M, "timer", "(I)Z"⟩
abbrev mb_M_state : ByteArray := prog_11_method_58_code
def my_M_state : MethodName := ⟨rn_M, "state", "(I)I"⟩
abbrev mb_M_inFrame : ByteArray := prog_11_method_59_code
def my_M_inFrame : MethodName := ⟨rn_M, "inFrame", "(II)I"⟩
abbrev mb_M_register : ByteArray := prog_11_method_60_code
def my_M_register : MethodName := ⟨rn_M, "register", "(II)I"⟩
abbrev mb_M_queued : ByteArray := prog_11_method_61_code
def my_M_queued : MethodName := ⟨rn_M, "queued", "(I)I"⟩
abbrev mb_M_sleeps : ByteArray := prog_11_method_62_code
def my_M_sleeps : MethodName := ⟨rn_M, "sleeps", "(I)I"⟩
abbrev mb_M_status : ByteArray := prog_11_method_63_code
def my_M_status : MethodName := ⟨rn_M, "status", "(I)I"⟩
abbrev mb_M_cycles : ByteArray := prog_11_method_64_code
def my_M_cycles : MethodName := ⟨rn_M, "cycles", "()I"⟩
abbrev mb_M_ticks : ByteArray := prog_11_method_65_code
def my_M_ticks : MethodName := ⟨rn_M, "ticks", "()I"⟩
abbrev mb_M_lost : ByteArray := prog_11_method_66_code
def my_M_lost : MethodName := ⟨rn_M, "lost", "()I"⟩
abbrev mb_M_left : ByteArray := prog_11_method_67_code
def my_M_left : MethodName := ⟨rn_M, "left", "()I"⟩
abbrev cz_all : List vw_C := [(rn_C, fn_C, 1), (rn_K, fn_K, 6), (rn_Y, fn_Y, 1), (rn_P, fn_P, 5), (rn_Q, fn_Q, 2), (rn_G, fn_G, 9), (rn_A, fn_A, 5), (rn_I, fn_I, 6), (rn_T, fn_T, 4), (rn_M, fn_M, 17)]
abbrev ty_ (cI cT : ClassId) : List (ClassId × FieldType) := [(cI, .int), (cT, .object "TaskComputer$Task")]
/-! The base of the decompilation: contracts 'co_i', 'co_v' (from a world w with arguments As the method answers r and leaves the world w'), their rows. -/
def wg_all : List Cond := lw_tbl.filter goodWord
theorem wg_mem {w : Cond} (h : w ∈ lw_tbl) (hg : goodWord w = true) : w ∈ wg_all := List.mem_filter.mpr ⟨h, hg⟩
theorem wg_good {w : Cond} (h : w ∈ wg_all) : (w.onTables && w.keeps) = true ∨ ∃ ty, w = .arrayClass ty := good_of_word (List.mem_filter.mp h).2
theorem wg_in {y' : MethodName} {c' : ByteArray} {n' : Nat} {r' : Option FieldType} (h : Cond.code y' c' n' r' ∈ wg_all) : GoodIn wg_all (Cond.code y' c' n' r' :: wg_all) := by
  intro w hw
  rcases List.mem_cons.mp hw with rfl | hw
  · exact ⟨h, wg_good h⟩
  · exact ⟨hw, wg_good hw⟩
def bz_i : Bool → Int32
  | true => 1
  | false => 0
theorem bz_n (b : Bool) : narrow .boolean (.int (bz_i b)) = .int (bz_i b) := by cases b <;> rfl
theorem bz_f (b : Bool) : fits .boolean (.int (bz_i b)) = true := by cases b <;> rfl
def in_b (i : Int32) (n : Nat) : Bool := decide (0 ≤ i.toInt) && decide (i.toInt < (n : Int))
theorem in_b_vp {i : Int32} {n : Nat} (h : in_b i n = true) : vp_in i n := by
  simp only [in_b, Bool.and_eq_true, decide_eq_true_eq] at h
  exact vp_in_iff.mpr h
theorem op_b {α β : Type} {o : Option α} {k : α → Option β} {z : β} (h : o.bind k = some z) : ∃ x, o = some x ∧ k x = some z := Option.bind_eq_some_iff.mp h
theorem op_c {β : Type} {i : Int32} {n : Nat} {x : Option β} {z : β} (h : (if in_b i n = true then x else none) = some z) : vp_in i n ∧ x = some z := by
  by_cases hb : in_b i n = true
  · rw [if_pos hb] at h
    exact ⟨in_b_vp hb, h⟩
  · rw [if_neg hb] at h
    cases h
theorem op_z {β : Type} {y : Int32} {x : Option β} {z : β} (h : (if y = (0 : Int32) then none else x) = some z) : ¬ y = 0 ∧ x = some z := by
  by_cases hb : y = 0
  · rw [if_pos hb] at h
    cases h
  · rw [if_neg hb] at h
    exact ⟨hb, h⟩
section BASE
variable {p : Program} {l : Launch} {e : Env} {R : Room} {s : State} {m : MethodId} {args : Array Value} {below : List Frame} {meth : Method} {c : Code} {H : Heap} {locs : List Loc} {Q : State → Prop}
variable {cc bytes : ByteArray} {pc nL maxL idx n b : Nat} {ls : Array Slot} {rest st As : List Value} {D : va_G} {tys : List (ClassId × FieldType)} {A : Nat → Prop} {w w' : va_W} {own : String} {y : MethodName} {rt : FieldType} {ret : Option FieldType} {rm : Room} {r : Int32} {lv : List (Nat × Value)}
def qs_i (D : va_G) (tys : List (ClassId × FieldType)) (w' : va_W) (r : Int32) (A : Nat → Prop) : Array Value → State → Outcome → State → Prop := va_Qi (fun r' (_ : Unit) => r' = r) (fun _ t => va_P D cz_all w' t.heap ∧ va_K D cz_all tys t ∧ va_D A w') A
def qs_v (D : va_G) (tys : List (ClassId × FieldType)) (w' : va_W) (A : Nat → Prop) : Array Value → State → Outcome → State → Prop := va_Qv (fun (_ : Unit) => True) (fun _ t => va_P D cz_all w' t.heap ∧ va_K D cz_all tys t ∧ va_D A w') A
def qs_p (D : va_G) (tys : List (ClassId × FieldType)) (As : List Value) (w : va_W) (sz : Nat) : Array Value → State → Prop := va_Pc As (fun U => U.heap.size = sz ∧ va_P D cz_all w U.heap ∧ va_K D cz_all tys U ∧ va_D (fun _ => True) w)
def co_i (l : Launch) (y : MethodName) (cc : ByteArray) (nL : Nat) (rt : FieldType) (rm : Room) (D : va_G) (tys : List (ClassId × FieldType)) (As : List Value) (w w' : va_W) (r : Int32) : Prop := ∀ sz : Nat, Met l y (Cond.code y cc nL (some rt) :: wg_all) rm (qs_p D tys As w sz) (qs_i D tys w' r (va_A w sz)) 0 0 (va_A w sz)
def co_v (l : Launch) (y : MethodName) (cc : ByteArray) (nL : Nat) (rm : Room) (D : va_G) (tys : List (ClassId × FieldType)) (As : List Value) (w w' : va_W) : Prop := ∀ sz : Nat, Met l y (Cond.code y cc nL none :: wg_all) rm (qs_p D tys As w sz) (qs_v D tys w' (va_A w sz)) 0 0 (va_A w sz)
theorem qs_p_blind {As : List Value} {w : va_W} {sz : Nat} : FrameBlind (qs_p D tys As w sz) := fun a U g mk q => by
  obtain ⟨q0, q1, qP, qK, qD⟩ := q
  exact ⟨q0, q1, qP, va_K.moved (u := U) (U := U.calling g mk a) (Vm.Alike.refl U.vm) qK, qD⟩
theorem co_i_of (hy : plainName y.cls = true) (hn : (lg_sl As).length ≤ nL)
    (body : ∀ (p : Program) (e : Env) (s : State) (m : MethodId) (below : List Frame) (meth : Method) (c : Code) (A : Nat → Prop) (ls : Array Slot), CallFix p m c cc nL s As.toArray wg_all y.cls → meth.sig.returnType = some rt → meth.locks = false → va_K D cz_all tys s → va_P D cz_all w s.heap → va_D A w → va_S A s.heap s.heap [] → (∀ q, s.heap.size ≤ q → A q) → lv_has ls nL (lv_args 0 As) →
      W p l e rm s m As.toArray below meth c s.heap [] 0 0 (MQ below (qs_i D tys w' r A) As.toArray s 0 0 A) (F0 m 0 ls [])) : co_i l y cc nL rt rm D tys As w w' r := by
  intro sz
  refine Met.ofW (cc := cc) (maxL := nL) (ret := some rt) hy rfl ?_
  intro p e s m args below meth c s₁ B hml hv
  obtain ⟨rfl, hsz, hP, hK, hD0⟩ := hv
  have hts := atoms_spec (ws := Cond.code y cc nL (some rt) :: wg_all) B.pre
  subst hsz
  rw [lg_entry_eq]
  exact body p e s m below meth c _ _ ⟨B.exec, B.bytes, hml, findClass_of_methodNamed B.named, fun w hw => hts w (List.mem_cons_of_mem _ hw)⟩ B.returns B.notSynchronized hK hP hD0.self va_S.rf (fun q h => Or.inr h) (lv_entry As hn)
theorem co_v_of (hy : plainName y.cls = true) (hn : (lg_sl As).length ≤ nL)
    (body : ∀ (p : Program) (e : Env) (s : State) (m : MethodId) (below : List Frame) (meth : Method) (c : Code) (A : Nat → Prop) (ls : Array Slot), CallFix p m c cc nL s As.toArray wg_all y.cls → meth.sig.returnType = none → meth.locks = false → va_K D cz_all tys s → va_P D cz_all w s.heap → va_D A w → va_S A s.heap s.heap [] → (∀ q, s.heap.size ≤ q → A q) → lv_has ls nL (lv_args 0 As) →
      W p l e rm s m As.toArray below meth c s.heap [] 0 0 (MQ below (qs_v D tys w' A) As.toArray s 0 0 A) (F0 m 0 ls [])) : co_v l y cc nL rm D tys As w w' := by
  intro sz
  refine Met.ofW (cc := cc) (maxL := nL) (ret := none) hy rfl ?_
  intro p e s m args below meth c s₁ B hml hv
  obtain ⟨rfl, hsz, hP, hK, hD0⟩ := hv
  have hts := atoms_spec (ws := Cond.code y cc nL none :: wg_all) B.pre
  subst hsz
  rw [lg_entry_eq]
  exact body p e s m below meth c _ _ ⟨B.exec, B.bytes, hml, findClass_of_methodNamed B.named, fun w hw => hts w (List.mem_cons_of_mem _ hw)⟩ B.returns B.notSynchronized hK hP hD0.self va_S.rf (fun q h => Or.inr h) (lv_entry As hn)
theorem rt_i (X : CallFix p m c cc nL s args wg_all own) (hr : meth.sig.returnType = some rt) (hlk : meth.locks = false) (hK : va_K D cz_all tys s) (hn : narrow rt (.int r) = .int r) (hP : va_P D cz_all w' H) (hD : va_D A w') (hS : va_S A s.heap H locs) (hdg : decode cc pc = .ok (.ireturn, 1)) : W p l e R s m args below meth c H locs 0 0 (MQ below (qs_i D tys w' r A) args s 0 0 A) (F0 m pc ls [.int r]) :=
  W.zret X.1 X.2.1 hr hn (fun t ht hW => ⟨⟨r, (), rfl, rfl, by rw [ht]; exact hP, va_K.moved hW.alike hK, hD⟩, hS.F ht⟩) hS.2.2 hdg hlk
theorem rt_v (X : CallFix p m c cc nL s args wg_all own) (hr : meth.sig.returnType = none) (hlk : meth.locks = false) (hK : va_K D cz_all tys s) (hP : va_P D cz_all w' H) (hD : va_D A w') (hS : va_S A s.heap H locs) (hdg : decode cc pc = .ok (.return_, 1)) : W p l e R s m args below meth c H locs 0 0 (MQ below (qs_v D tys w' A) args s 0 0 A) (F0 m pc ls []) :=
  W.vret X.1 X.2.1 hr (fun t ht hW => ⟨⟨(), rfl, trivial, by rw [ht]; exact hP, va_K.moved hW.alike hK, hD⟩, hS.F ht⟩) hS.2.2 hdg hlk
def cw_V (own : String) (idx : Nat) (y : MethodName) (bytes : ByteArray) (maxL : Nat) (ret : Option FieldType) (n : Nat) : Prop := Cond.methodLink own idx y ∈ wg_all ∧ Cond.instanceMethod y ∈ wg_all ∧ Cond.selects y.cls y y ∈ wg_all ∧ Cond.initialized y.cls ∈ wg_all ∧ Cond.code y bytes maxL ret ∈ wg_all ∧ y.cls ≠ "java/lang/invoke/MethodHandle" ∧ y.cls ≠ "java/lang/invoke/VarHandle" ∧ (parseMethodDescriptor y.desc).map (fun d => d.parameters.length) = some n
def cw_S (own : String) (idx : Nat) (y : MethodName) (bytes : ByteArray) (maxL : Nat) (ret : Option FieldType) (n : Nat) : Prop := Cond.methodLink own idx y ∈ wg_all ∧ Cond.static y ∈ wg_all ∧ Cond.initialized y.cls ∈ wg_all ∧ Cond.code y bytes maxL ret ∈ wg_all ∧ y.cls ≠ "java/lang/invoke/MethodHandle" ∧ y.cls ≠ "java/lang/invoke/VarHandle" ∧ (parseMethodDescriptor y.desc).map (fun d => d.parameters.length) = some n
def rm_in (rm R : Room) (maxL : Nat) : Prop := rm.cells = 0 ∧ rm.slots = 0 ∧ rm.frames + 1 ≤ R.frames ∧ 8 + (maxL + 11) + rm.locals ≤ R.locals
theorem cw_V_use (cw : cw_V own idx y bytes maxL ret n) (X : CallFix p m c cc nL s args wg_all own) (hR : rm_in rm R maxL) : CallW R s args own y.cls idx y bytes maxL ret (Cond.code y bytes maxL ret :: wg_all) rm 0 0 n := by
  obtain ⟨h1, h2, h3, h4, h5, h6⟩ := cw
  have ht := X.2.2.2.2
  exact ⟨callB_of n ht (wg_in h5) rfl hR.1 hR.2.1 (ht _ h4) (ht _ h1) h6 hR.2.2, ht _ h2, ht _ h3⟩
theorem cw_S_use (cw : cw_S own idx y bytes maxL ret n) (X : CallFix p m c cc nL s args wg_all own) (hR : rm_in rm R maxL) : CallB R s args own idx y bytes maxL ret (Cond.code y bytes maxL ret :: wg_all) rm 0 0 n ∧ (Cond.static y).before args s = true := by
  obtain ⟨h1, h2, h4, h5, h6⟩ := cw
  have ht := X.2.2.2.2
  exact ⟨callB_of n ht (wg_in h5) rfl hR.1 hR.2.1 (ht _ h4) (ht _ h1) h6 hR.2.2, ht _ h2⟩
theorem fr_all (hD : va_D A w) (hS : va_S A s.heap H locs) (hA : ∀ q, s.heap.size ≤ q → A q) : ∀ q, va_A w H.size q → A q := by
  intro q h
  rcases h with ⟨k, e, h⟩ | h
  · exact hD.2 k _ h
  · exact hA q (Nat.le_trans hS.1 h)
theorem pre_V (hK : va_K D cz_all tys s) (hP : va_P D cz_all w H) (hD : va_D A w) {C : String} (hcell : ∃ cell : Cell, H[b]? = some cell ∧ cell.vm.isStatics = false ∧ s.vm.findClass C = some cell.cls) : PreV s H C b (qs_p D tys (.ref b :: As) w H.size) As :=
  ⟨qs_p_blind, hcell, fun U hU hW => ⟨rfl, by rw [hU], by rw [hU]; exact hP, va_K.moved hW.alike hK, hD.weaken (fun _ _ _ _ => trivial)⟩⟩
theorem pre_S (hK : va_K D cz_all tys s) (hP : va_P D cz_all w H) (hD : va_D A w) : PreS s H (qs_p D tys As w H.size) As :=
  ⟨qs_p_blind, fun U hU hW => ⟨rfl, by rw [hU], by rw [hU]; exact hP, va_K.moved hW.alike hK, hD.weaken (fun _ _ _ _ => trivial)⟩⟩
/-- a call in the callee's own world: invokevirtual, an int -/
theorem cl_i (X : CallFix p m c cc nL s args wg_all own) (cw : cw_V own idx y bytes maxL (some rt) n) (hK : va_K D cz_all tys s) (hP : va_P D cz_all w H) (hD : va_D A w) (hS : va_S A s.heap H locs) (hA : ∀ q, s.heap.size ≤ q → A q) (hl : lv_has ls nL lv) (hM : co_i l y bytes maxL rt rm D tys (.ref b :: As) w w' r) (hR : rm_in rm R maxL) (q0 : Nat) {ci : Nat} {fs : List Value} {q : vw_C} (he : w[q0]? = some (b, .inr (ci, fs))) (hc : cz_all[ci]? = some q) (hq : q.1 = y.cls) (hst : st = As.reverse ++ .ref b :: rest) (hn : As.length = n) (hW : (rest.map fun v => v.category).sum ≤ 8) (hdg : decode cc pc = .ok (.invokevirtual idx, 3))
    (kk : ∀ (H1 : Heap) (locs1 : List Loc), va_P D cz_all w' H1 → va_D A w' → va_S A s.heap H1 locs1 → W p l e R s m args below meth c H1 locs1 0 0 Q (F0 m (pc + 3) ls (.int r :: rest))) : W p l e R s m args below meth c H locs 0 0 Q (F0 m pc ls st) := by
  subst hst
  have hFc := fr_all hD hS hA
  have hcell := va_recv hK hP hc he
  rw [hq] at hcell
  refine va_calli (va_runV (As := As) (rest := rest) (b := b) X (hM H.size) (cw_V_use cw X hR) (pre_V hK hP hD hcell) rfl hn hl.1 rfl (lv_room hW) hdg ⟨Nat.zero_le _, Nat.zero_le _⟩) hS (fun q _ h => hFc q h) hFc (fun r' u t H1 locs1 ht hvm hpost hB hz1 hk1 hS1 => ?_)
  obtain ⟨hP1, hK1, hD1⟩ := hB
  cases hpost
  exact kk H1 locs1 (by rw [← ht]; exact hP1) (hD1.weaken (fun k q _ h => hFc q.1 h)) hS1
/-- invokevirtual, void -/
theorem cl_v (X : CallFix p m c cc nL s args wg_all own) (cw : cw_V own idx y bytes maxL none n) (hK : va_K D cz_all tys s) (hP : va_P D cz_all w H) (hD : va_D A w) (hS : va_S A s.heap H locs) (hA : ∀ q, s.heap.size ≤ q → A q) (hl : lv_has ls nL lv) (hM : co_v l y bytes maxL rm D tys (.ref b :: As) w w') (hR : rm_in rm R maxL) (q0 : Nat) {ci : Nat} {fs : List Value} {q : vw_C} (he : w[q0]? = some (b, .inr (ci, fs))) (hc : cz_all[ci]? = some q) (hq : q.1 = y.cls) (hst : st = As.reverse ++ .ref b :: rest) (hn : As.length = n) (hW : (rest.map fun v => v.category).sum ≤ 8) (hdg : decode cc pc = .ok (.invokevirtual idx, 3))
    (kk : ∀ (H1 : Heap) (locs1 : List Loc), va_P D cz_all w' H1 → va_D A w' → va_S A s.heap H1 locs1 → W p l e R s m args below meth c H1 locs1 0 0 Q (F0 m (pc + 3) ls rest)) : W p l e R s m args below meth c H locs 0 0 Q (F0 m pc ls st) := by
  subst hst
  have hFc := fr_all hD hS hA
  have hcell := va_recv hK hP hc he
  rw [hq] at hcell
  refine va_callv (va_runV (As := As) (rest := rest) (b := b) X (hM H.size) (cw_V_use cw X hR) (pre_V hK hP hD hcell) rfl hn hl.1 rfl (lv_room hW) hdg ⟨Nat.zero_le _, Nat.zero_le _⟩) hS (fun q _ h => hFc q h) hFc (fun u t H1 locs1 ht hvm hpost hB hz1 hk1 hS1 => ?_)
  obtain ⟨hP1, hK1, hD1⟩ := hB
  exact kk H1 locs1 (by rw [← ht]; exact hP1) (hD1.weaken (fun k q _ h => hFc q.1 h)) hS1
/-- invokestatic, an int -/
theorem cl_si (X : CallFix p m c cc nL s args wg_all own) (cw : cw_S own idx y bytes maxL (some rt) n) (hK : va_K D cz_all tys s) (hP : va_P D cz_all w H) (hD : va_D A w) (hS : va_S A s.heap H locs) (hA : ∀ q, s.heap.size ≤ q → A q) (hl : lv_has ls nL lv) (hM : co_i l y bytes maxL rt rm D tys As w w' r) (hR : rm_in rm R maxL) (hst : st = As.reverse ++ rest) (hn : As.length = n) (hW : (rest.map fun v => v.category).sum ≤ 8) (hdg : decode cc pc = .ok (.invokestatic idx, 3))
    (kk : ∀ (H1 : Heap) (locs1 : List Loc), va_P D cz_all w' H1 → va_D A w' → va_S A s.heap H1 locs1 → W p l e R s m args below meth c H1 locs1 0 0 Q (F0 m (pc + 3) ls (.int r :: rest))) : W p l e R s m args below meth c H locs 0 0 Q (F0 m pc ls st) := by
  subst hst
  have hFc := fr_all hD hS hA
  refine va_calli (va_runS (As := As) (rest := rest) X (hM H.size) (cw_S_use cw X hR) (pre_S hK hP hD) rfl hn hl.1 rfl (lv_room hW) hdg ⟨Nat.zero_le _, Nat.zero_le _⟩) hS (fun q _ h => hFc q h) hFc (fun r' u t H1 locs1 ht hvm hpost hB hz1 hk1 hS1 => ?_)
  obtain ⟨hP1, hK1, hD1⟩ := hB
  cases hpost
  exact kk H1 locs1 (by rw [← ht]; exact hP1) (hD1.weaken (fun k q _ h => hFc q.1 h)) hS1
end BASE
theorem fw_C : ∀ w ∈ u_ws rn_C fn_C 1, w ∈ wg_all := by decide +kernel
theorem fw_K : ∀ w ∈ u_ws rn_K fn_K 6, w ∈ wg_all := by decide +kernel
theorem fw_Y : ∀ w ∈ u_ws rn_Y fn_Y 1, w ∈ wg_all := by decide +kernel
theorem fw_P : ∀ w ∈ u_ws rn_P fn_P 5, w ∈ wg_all := by decide +kernel
theorem fw_Q : ∀ w ∈ u_ws rn_Q fn_Q 2, w ∈ wg_all := by decide +kernel
theorem fw_G : ∀ w ∈ u_ws rn_G fn_G 9, w ∈ wg_all := by decide +kernel
theorem fw_A : ∀ w ∈ u_ws rn_A fn_A 5, w ∈ wg_all := by decide +kernel
theorem fw_I : ∀ w ∈ u_ws rn_I fn_I 6, w ∈ wg_all := by decide +kernel
theorem fw_T : ∀ w ∈ u_ws rn_T fn_T 4, w ∈ wg_all := by decide +kernel
theorem fw_M : ∀ w ∈ u_ws rn_M fn_M 17, w ∈ wg_all := by decide +kernel
end
section
theorem wd_0 : Cond.constant rn_M 35 (65535) ∈ wg_all := wg_mem (List.mem_append_right _ (List.mem_append_right _ (List.mem_append_right _ (List.mem_append_left _ (List.mem_of_getElem? (i := 229) (by decide +kernel)))))) (by decide +kernel)
theorem wd_1 : Cond.constant rn_M 229 (100000) ∈ wg_all := wg_mem (List.mem_append_right _ (List.mem_append_right _ (List.mem_append_right _ (List.mem_append_right _ (List.mem_of_getElem? (i := 210) (by decide +kernel)))))) (by decide +kernel)
theorem wd_2 : Cond.methodLink rn_M 101 my_M_flag ∈ wg_all := wg_mem (List.mem_append_right _ (List.mem_append_right _ (List.mem_append_right _ (List.mem_append_left _ (List.mem_of_getElem? (i := 198) (by decide +kernel)))))) (by decide +kernel)
theorem wd_3 : Cond.initialized rn_M ∈ wg_all := wg_mem (List.mem_append_right _ (List.mem_append_left _ (List.mem_of_getElem? (i := 10) (by decide +kernel)))) (by decide +kernel)
theorem wd_4 : Cond.code my_M_flag mb_M_flag 2 (some .boolean) ∈ wg_all := wg_mem (List.mem_append_right _ (List.mem_append_right _ (List.mem_append_right _ (List.mem_append_left _ (List.mem_of_getElem? (i := 201) (rfl)))))) (by decide +kernel)
theorem wd_5 : Cond.instanceMethod my_M_flag ∈ wg_all := wg_mem (List.mem_append_right _ (List.mem_append_right _ (List.mem_append_right _ (List.mem_append_left _ (List.mem_of_getElem? (i := 200) (by decide +kernel)))))) (by decide +kernel)
theorem wd_6 : Cond.selects rn_M my_M_flag my_M_flag ∈ wg_all := wg_mem (List.mem_append_left _ (List.mem_map.mpr ⟨(my_M_flag, 17), List.mem_append_right _ (List.mem_append_right _ (List.mem_append_left _ (List.mem_of_getElem? (i := 0) (by decide +kernel)))), rfl⟩)) (by decide +kernel)
theorem wd_7 : Cond.methodLink rn_M 105 my_M_difference ∈ wg_all := wg_mem (List.mem_append_right _ (List.mem_append_right _ (List.mem_append_right _ (List.mem_append_right _ (List.mem_of_getElem? (i := 61) (by decide +kernel)))))) (by decide +kernel)
theorem wd_8 : Cond.code my_M_difference mb_M_difference 8 (some .int) ∈ wg_all := wg_mem (List.mem_append_right _ (List.mem_append_right _ (List.mem_append_right _ (List.mem_append_right _ (List.mem_of_getElem? (i := 64) (rfl)))))) (by decide +kernel)
theorem wd_9 : Cond.instanceMethod my_M_difference ∈ wg_all := wg_mem (List.mem_append_right _ (List.mem_append_right _ (List.mem_append_right _ (List.mem_append_right _ (List.mem_of_getElem? (i := 63) (by decide +kernel)))))) (by decide +kernel)
theorem wd_10 : Cond.selects rn_M my_M_difference my_M_difference ∈ wg_all := wg_mem (List.mem_append_left _ (List.mem_map.mpr ⟨(my_M_difference, 17), List.mem_append_right _ (List.mem_append_right _ (List.mem_append_right _ (List.mem_append_left _ (List.mem_of_getElem? (i := 8) (by decide +kernel))))), rfl⟩)) (by decide +kernel)
theorem wd_11 : Cond.methodLink rn_M 109 my_M_sum ∈ wg_all := wg_mem (List.mem_append_right _ (List.mem_append_right _ (List.mem_append_right _ (List.mem_append_right _ (List.mem_of_getElem? (i := 72) (by decide +kernel)))))) (by decide +kernel)
theorem wd_12 : Cond.code my_M_sum mb_M_sum 8 (some .int) ∈ wg_all := wg_mem (List.mem_append_right _ (List.mem_append_right _ (List.mem_append_right _ (List.mem_append_right _ (List.mem_of_getElem? (i := 75) (rfl)))))) (by decide +kernel)
theorem wd_13 : Cond.instanceMethod my_M_sum ∈ wg_all := wg_mem (List.mem_append_right _ (List.mem_append_right _ (List.mem_append_right _ (List.mem_append_right _ (List.mem_of_getElem? (i := 74) (by decide +kernel)))))) (by decide +kernel)
theorem wd_14 : Cond.selects rn_M my_M_sum my_M_sum ∈ wg_all := wg_mem (List.mem_append_left _ (List.mem_map.mpr ⟨(my_M_sum, 17), List.mem_append_right _ (List.mem_append_right _ (List.mem_append_right _ (List.mem_append_left _ (List.mem_of_getElem? (i := 10) (by decide +kernel))))), rfl⟩)) (by decide +kernel)
theorem wd_15 : Cond.methodLink rn_M 112 my_M_push ∈ wg_all := wg_mem (List.mem_append_right _ (List.mem_append_right _ (List.mem_append_right _ (List.mem_append_left _ (List.mem_of_getElem? (i := 221) (by decide +kernel)))))) (by decide +kernel)
theorem wd_16 : Cond.code my_M_push mb_M_push 4 none ∈ wg_all := wg_mem (List.mem_append_right _ (List.mem_append_right _ (List.mem_append_right _ (List.mem_append_left _ (List.mem_of_getElem? (i := 224) (rfl)))))) (by decide +kernel)
theorem wd_17 : Cond.instanceMethod my_M_push ∈ wg_all := wg_mem (List.mem_append_right _ (List.mem_append_right _ (List.mem_append_right _ (List.mem_append_left _ (List.mem_of_getElem? (i := 223) (by decide +kernel)))))) (by decide +kernel)
theorem wd_18 : Cond.selects rn_M my_M_push my_M_push ∈ wg_all := wg_mem (List.mem_append_left _ (List.mem_map.mpr ⟨(my_M_push, 17), List.mem_append_right _ (List.mem_append_right _ (List.mem_append_left _ (List.mem_of_getElem? (i := 5) (by decide +kernel)))), rfl⟩)) (by decide +kernel)
theorem wd_19 : Cond.methodLink rn_M 115 my_M_save ∈ wg_all := wg_mem (List.mem_append_right _ (List.mem_append_right _ (List.mem_append_right _ (List.mem_append_right _ (List.mem_of_getElem? (i := 76) (by decide +kernel)))))) (by decide +kernel)
theorem wd_20 : Cond.code my_M_save mb_M_save 5 none ∈ wg_all := wg_mem (List.mem_append_right _ (List.mem_append_right _ (List.mem_append_right _ (List.mem_append_right _ (List.mem_of_getElem? (i := 79) (rfl)))))) (by decide +kernel)
theorem wd_21 : Cond.instanceMethod my_M_save ∈ wg_all := wg_mem (List.mem_append_right _ (List.mem_append_right _ (List.mem_append_right _ (List.mem_append_right _ (List.mem_of_getElem? (i := 78) (by decide +kernel)))))) (by decide +kernel)
theorem wd_22 : Cond.selects rn_M my_M_save my_M_save ∈ wg_all := wg_mem (List.mem_append_left _ (List.mem_map.mpr ⟨(my_M_save, 17), List.mem_append_right _ (List.mem_append_right _ (List.mem_append_right _ (List.mem_append_left _ (List.mem_of_getElem? (i := 11) (by decide +kernel))))), rfl⟩)) (by decide +kernel)
theorem wd_23 : Cond.methodLink rn_M 118 my_M_wordOp ∈ wg_all := wg_mem (List.mem_append_right _ (List.mem_append_right _ (List.mem_append_right _ (List.mem_append_right _ (List.mem_of_getElem? (i := 84) (by decide +kernel)))))) (by decide +kernel)
theorem wd_24 : Cond.code my_M_wordOp mb_M_wordOp 5 none ∈ wg_all := wg_mem (List.mem_append_right _ (List.mem_append_right _ (List.mem_append_right _ (List.mem_append_right _ (List.mem_of_getElem? (i := 87) (rfl)))))) (by decide +kernel)
theorem wd_25 : Cond.instanceMethod my_M_wordOp ∈ wg_all := wg_mem (List.mem_append_right _ (List.mem_append_right _ (List.mem_append_right _ (List.mem_append_right _ (List.mem_of_getElem? (i := 86) (by decide +kernel)))))) (by decide +kernel)
theorem wd_26 : Cond.selects rn_M my_M_wordOp my_M_wordOp ∈ wg_all := wg_mem (List.mem_append_left _ (List.mem_map.mpr ⟨(my_M_wordOp, 17), List.mem_append_right _ (List.mem_append_right _ (List.mem_append_right _ (List.mem_append_left _ (List.mem_of_getElem? (i := 13) (by decide +kernel))))), rfl⟩)) (by decide +kernel)
theorem wd_27 : Cond.methodLink rn_M 121 my_M_call ∈ wg_all := wg_mem (List.mem_append_right _ (List.mem_append_right _ (List.mem_append_right _ (List.mem_append_right _ (List.mem_of_getElem? (i := 88) (by decide +kernel)))))) (by decide +kernel)
theorem wd_28 : Cond.code my_M_call mb_M_call 4 none ∈ wg_all := wg_mem (List.mem_append_right _ (List.mem_append_right _ (List.mem_append_right _ (List.mem_append_right _ (List.mem_of_getElem? (i := 91) (rfl)))))) (by decide +kernel)
theorem wd_29 : Cond.instanceMethod my_M_call ∈ wg_all := wg_mem (List.mem_append_right _ (List.mem_append_right _ (List.mem_append_right _ (List.mem_append_right _ (List.mem_of_getElem? (i := 90) (by decide +kernel)))))) (by decide +kernel)
theorem wd_30 : Cond.selects rn_M my_M_call my_M_call ∈ wg_all := wg_mem (List.mem_append_left _ (List.mem_map.mpr ⟨(my_M_call, 17), List.mem_append_right _ (List.mem_append_right _ (List.mem_append_right _ (List.mem_append_left _ (List.mem_of_getElem? (i := 14) (by decide +kernel))))), rfl⟩)) (by decide +kernel)
theorem wd_31 : Cond.methodLink rn_M 125 my_M_byteOp ∈ wg_all := wg_mem (List.mem_append_right _ (List.mem_append_right _ (List.mem_append_right _ (List.mem_append_right _ (List.mem_of_getElem? (i := 92) (by decide +kernel)))))) (by decide +kernel)
theorem wd_32 : Cond.code my_M_byteOp mb_M_byteOp 9 none ∈ wg_all := wg_mem (List.mem_append_right _ (List.mem_append_right _ (List.mem_append_right _ (List.mem_append_right _ (List.mem_of_getElem? (i := 95) (rfl)))))) (by decide +kernel)
theorem wd_33 : Cond.instanceMethod my_M_byteOp ∈ wg_all := wg_mem (List.mem_append_right _ (List.mem_append_right _ (List.mem_append_right _ (List.mem_append_right _ (List.mem_of_getElem? (i := 94) (by decide +kernel)))))) (by decide +kernel)
theorem wd_34 : Cond.selects rn_M my_M_byteOp my_M_byteOp ∈ wg_all := wg_mem (List.mem_append_left _ (List.mem_map.mpr ⟨(my_M_byteOp, 17), List.mem_append_right _ (List.mem_append_right _ (List.mem_append_right _ (List.mem_append_left _ (List.mem_of_getElem? (i := 15) (by decide +kernel))))), rfl⟩)) (by decide +kernel)
theorem wd_35 : Cond.methodLink rn_M 128 my_M_changed ∈ wg_all := wg_mem (List.mem_append_right _ (List.mem_append_right _ (List.mem_append_right _ (List.mem_append_right _ (List.mem_of_getElem? (i := 143) (by decide +kernel)))))) (by decide +kernel)
theorem wd_36 : Cond.code my_M_changed mb_M_changed 5 (some .int) ∈ wg_all := wg_mem (List.mem_append_right _ (List.mem_append_right _ (List.mem_append_right _ (List.mem_append_right _ (List.mem_of_getElem? (i := 146) (rfl)))))) (by decide +kernel)
theorem wd_37 : Cond.instanceMethod my_M_changed ∈ wg_all := wg_mem (List.mem_append_right _ (List.mem_append_right _ (List.mem_append_right _ (List.mem_append_right _ (List.mem_of_getElem? (i := 145) (by decide +kernel)))))) (by decide +kernel)
theorem wd_38 : Cond.selects rn_M my_M_changed my_M_changed ∈ wg_all := wg_mem (List.mem_append_left _ (List.mem_map.mpr ⟨(my_M_changed, 17), List.mem_append_right _ (List.mem_append_right _ (List.mem_append_right _ (List.mem_append_right _ (List.mem_of_getElem? (i := 11) (by decide +kernel))))), rfl⟩)) (by decide +kernel)
theorem wd_39 : Cond.methodLink rn_M 131 my_M_holds ∈ wg_all := wg_mem (List.mem_append_right _ (List.mem_append_right _ (List.mem_append_right _ (List.mem_append_right _ (List.mem_of_getElem? (i := 104) (by decide +kernel)))))) (by decide +kernel)
theorem wd_40 : Cond.code my_M_holds mb_M_holds 6 (some .boolean) ∈ wg_all := wg_mem (List.mem_append_right _ (List.mem_append_right _ (List.mem_append_right _ (List.mem_append_right _ (List.mem_of_getElem? (i := 107) (rfl)))))) (by decide +kernel)
theorem wd_41 : Cond.instanceMethod my_M_holds ∈ wg_all := wg_mem (List.mem_append_right _ (List.mem_append_right _ (List.mem_append_right _ (List.mem_append_right _ (List.mem_of_getElem? (i := 106) (by decide +kernel)))))) (by decide +kernel)
theorem wd_42 : Cond.selects rn_M my_M_holds my_M_holds ∈ wg_all := wg_mem (List.mem_append_left _ (List.mem_map.mpr ⟨(my_M_holds, 17), List.mem_append_right _ (List.mem_append_right _ (List.mem_append_right _ (List.mem_append_right _ (List.mem_of_getElem? (i := 2) (by decide +kernel))))), rfl⟩)) (by decide +kernel)
theorem wd_43 : Cond.methodLink rn_M 134 my_M_listed ∈ wg_all := wg_mem (List.mem_append_right _ (List.mem_append_right _ (List.mem_append_right _ (List.mem_append_right _ (List.mem_of_getElem? (i := 120) (by decide +kernel)))))) (by decide +kernel)
theorem wd_44 : Cond.code my_M_listed mb_M_listed 2 (some .int) ∈ wg_all := wg_mem (List.mem_append_right _ (List.mem_append_right _ (List.mem_append_right _ (List.mem_append_right _ (List.mem_of_getElem? (i := 122) (rfl)))))) (by decide +kernel)
theorem wd_45 : Cond.static my_M_listed ∈ wg_all := wg_mem (List.mem_append_right _ (List.mem_append_right _ (List.mem_append_right _ (List.mem_append_right _ (List.mem_of_getElem? (i := 121) (by decide +kernel)))))) (by decide +kernel)
theorem wd_46 : Cond.methodLink rn_M 137 my_M_pull ∈ wg_all := wg_mem (List.mem_append_right _ (List.mem_append_right _ (List.mem_append_right _ (List.mem_append_right _ (List.mem_of_getElem? (i := 10) (by decide +kernel)))))) (by decide +kernel)
theorem wd_47 : Cond.code my_M_pull mb_M_pull 5 none ∈ wg_all := wg_mem (List.mem_append_right _ (List.mem_append_right _ (List.mem_append_right _ (List.mem_append_right _ (List.mem_of_getElem? (i := 13) (rfl)))))) (by decide +kernel)
theorem wd_48 : Cond.instanceMethod my_M_pull ∈ wg_all := wg_mem (List.mem_append_right _ (List.mem_append_right _ (List.mem_append_right _ (List.mem_append_right _ (List.mem_of_getElem? (i := 12) (by decide +kernel)))))) (by decide +kernel)
theorem wd_49 : Cond.selects rn_M my_M_pull my_M_pull ∈ wg_all := wg_mem (List.mem_append_left _ (List.mem_map.mpr ⟨(my_M_pull, 17), List.mem_append_right _ (List.mem_append_right _ (List.mem_append_left _ (List.mem_of_getElem? (i := 12) (by decide +kernel)))), rfl⟩)) (by decide +kernel)
theorem wd_50 : Cond.methodLink rn_M 140 my_M_trade ∈ wg_all := wg_mem (List.mem_append_right _ (List.mem_append_right _ (List.mem_append_right _ (List.mem_append_right _ (List.mem_of_getElem? (i := 112) (by decide +kernel)))))) (by decide +kernel)
theorem wd_51 : Cond.code my_M_trade mb_M_trade 7 none ∈ wg_all := wg_mem (List.mem_append_right _ (List.mem_append_right _ (List.mem_append_right _ (List.mem_append_right _ (List.mem_of_getElem? (i := 115) (rfl)))))) (by decide +kernel)
theorem wd_52 : Cond.instanceMethod my_M_trade ∈ wg_all := wg_mem (List.mem_append_right _ (List.mem_append_right _ (List.mem_append_right _ (List.mem_append_right _ (List.mem_of_getElem? (i := 114) (by decide +kernel)))))) (by decide +kernel)
theorem wd_53 : Cond.selects rn_M my_M_trade my_M_trade ∈ wg_all := wg_mem (List.mem_append_left _ (List.mem_map.mpr ⟨(my_M_trade, 17), List.mem_append_right _ (List.mem_append_right _ (List.mem_append_right _ (List.mem_append_right _ (List.mem_of_getElem? (i := 4) (by decide +kernel))))), rfl⟩)) (by decide +kernel)
theorem wd_54 : Cond.methodLink rn_M 143 my_M_many ∈ wg_all := wg_mem (List.mem_append_right _ (List.mem_append_right _ (List.mem_append_right _ (List.mem_append_right _ (List.mem_of_getElem? (i := 116) (by decide +kernel)))))) (by decide +kernel)
theorem wd_55 : Cond.code my_M_many mb_M_many 5 none ∈ wg_all := wg_mem (List.mem_append_right _ (List.mem_append_right _ (List.mem_append_right _ (List.mem_append_right _ (List.mem_of_getElem? (i := 119) (rfl)))))) (by decide +kernel)
theorem wd_56 : Cond.instanceMethod my_M_many ∈ wg_all := wg_mem (List.mem_append_right _ (List.mem_append_right _ (List.mem_append_right _ (List.mem_append_right _ (List.mem_of_getElem? (i := 118) (by decide +kernel)))))) (by decide +kernel)
theorem wd_57 : Cond.selects rn_M my_M_many my_M_many ∈ wg_all := wg_mem (List.mem_append_left _ (List.mem_map.mpr ⟨(my_M_many, 17), List.mem_append_right _ (List.mem_append_right _ (List.mem_append_right _ (List.mem_append_right _ (List.mem_of_getElem? (i := 5) (by decide +kernel))))), rfl⟩)) (by decide +kernel)
theorem wd_58 : Cond.methodLink rn_M 146 my_M_kernel ∈ wg_all := wg_mem (List.mem_append_right _ (List.mem_append_right _ (List.mem_append_right _ (List.mem_append_right _ (List.mem_of_getElem? (i := 123) (by decide +kernel)))))) (by decide +kernel)
theorem wd_59 : Cond.code my_M_kernel mb_M_kernel 7 none ∈ wg_all := wg_mem (List.mem_append_right _ (List.mem_append_right _ (List.mem_append_right _ (List.mem_append_right _ (List.mem_of_getElem? (i := 126) (rfl)))))) (by decide +kernel)
theorem wd_60 : Cond.instanceMethod my_M_kernel ∈ wg_all := wg_mem (List.mem_append_right _ (List.mem_append_right _ (List.mem_append_right _ (List.mem_append_right _ (List.mem_of_getElem? (i := 125) (by decide +kernel)))))) (by decide +kernel)
theorem wd_61 : Cond.selects rn_M my_M_kernel my_M_kernel ∈ wg_all := wg_mem (List.mem_append_left _ (List.mem_map.mpr ⟨(my_M_kernel, 17), List.mem_append_right _ (List.mem_append_right _ (List.mem_append_right _ (List.mem_append_right _ (List.mem_of_getElem? (i := 6) (by decide +kernel))))), rfl⟩)) (by decide +kernel)
theorem wd_62 : Cond.methodLink rn_M 149 my_M_upper ∈ wg_all := wg_mem (List.mem_append_right _ (List.mem_append_right _ (List.mem_append_right _ (List.mem_append_right _ (List.mem_of_getElem? (i := 30) (by decide +kernel)))))) (by decide +kernel)
theorem wd_63 : Cond.code my_M_upper mb_M_upper 6 none ∈ wg_all := wg_mem (List.mem_append_right _ (List.mem_append_right _ (List.mem_append_right _ (List.mem_append_right _ (List.mem_of_getElem? (i := 33) (rfl)))))) (by decide +kernel)
theorem wd_64 : Cond.instanceMethod my_M_upper ∈ wg_all := wg_mem (List.mem_append_right _ (List.mem_append_right _ (List.mem_append_right _ (List.mem_append_right _ (List.mem_of_getElem? (i := 32) (by decide +kernel)))))) (by decide +kernel)
theorem wd_65 : Cond.selects rn_M my_M_upper my_M_upper ∈ wg_all := wg_mem (List.mem_append_left _ (List.mem_map.mpr ⟨(my_M_upper, 17), List.mem_append_right _ (List.mem_append_right _ (List.mem_append_right _ (List.mem_append_left _ (List.mem_of_getElem? (i := 1) (by decide +kernel))))), rfl⟩)) (by decide +kernel)
theorem wd_66 : Cond.methodLink rn_M 152 my_M_second ∈ wg_all := wg_mem (List.mem_append_right _ (List.mem_append_right _ (List.mem_append_right _ (List.mem_append_right _ (List.mem_of_getElem? (i := 96) (by decide +kernel)))))) (by decide +kernel)
theorem wd_67 : Cond.code my_M_second mb_M_second 5 none ∈ wg_all := wg_mem (List.mem_append_right _ (List.mem_append_right _ (List.mem_append_right _ (List.mem_append_right _ (List.mem_of_getElem? (i := 99) (rfl)))))) (by decide +kernel)
theorem wd_68 : Cond.instanceMethod my_M_second ∈ wg_all := wg_mem (List.mem_append_right _ (List.mem_append_right _ (List.mem_append_right _ (List.mem_append_right _ (List.mem_of_getElem? (i := 98) (by decide +kernel)))))) (by decide +kernel)
theorem wd_69 : Cond.selects rn_M my_M_second my_M_second ∈ wg_all := wg_mem (List.mem_append_left _ (List.mem_map.mpr ⟨(my_M_second, 17), List.mem_append_right _ (List.mem_append_right _ (List.mem_append_right _ (List.mem_append_right _ (List.mem_of_getElem? (i := 0) (by decide +kernel))))), rfl⟩)) (by decide +kernel)
theorem wd_70 : Cond.methodLink rn_M 155 my_M_branch ∈ wg_all := wg_mem (List.mem_append_right _ (List.mem_append_right _ (List.mem_append_right _ (List.mem_append_right _ (List.mem_of_getElem? (i := 100) (by decide +kernel)))))) (by decide +kernel)
theorem wd_71 : Cond.code my_M_branch mb_M_branch 5 none ∈ wg_all := wg_mem (List.mem_append_right _ (List.mem_append_right _ (List.mem_append_right _ (List.mem_append_right _ (List.mem_of_getElem? (i := 103) (rfl)))))) (by decide +kernel)
theorem wd_72 : Cond.instanceMethod my_M_branch ∈ wg_all := wg_mem (List.mem_append_right _ (List.mem_append_right _ (List.mem_append_right _ (List.mem_append_right _ (List.mem_of_getElem? (i := 102) (by decide +kernel)))))) (by decide +kernel)
theorem wd_73 : Cond.selects rn_M my_M_branch my_M_branch ∈ wg_all := wg_mem (List.mem_append_left _ (List.mem_map.mpr ⟨(my_M_branch, 17), List.mem_append_right _ (List.mem_append_right _ (List.mem_append_right _ (List.mem_append_right _ (List.mem_of_getElem? (i := 1) (by decide +kernel))))), rfl⟩)) (by decide +kernel)
theorem wd_74 : Cond.methodLink rn_M 158 my_M_single ∈ wg_all := wg_mem (List.mem_append_right _ (List.mem_append_right _ (List.mem_append_right _ (List.mem_append_right _ (List.mem_of_getElem? (i := 108) (by decide +kernel)))))) (by decide +kernel)
theorem wd_75 : Cond.code my_M_single mb_M_single 4 none ∈ wg_all := wg_mem (List.mem_append_right _ (List.mem_append_right _ (List.mem_append_right _ (List.mem_append_right _ (List.mem_of_getElem? (i := 111) (rfl)))))) (by decide +kernel)
theorem wd_76 : Cond.instanceMethod my_M_single ∈ wg_all := wg_mem (List.mem_append_right _ (List.mem_append_right _ (List.mem_append_right _ (List.mem_append_right _ (List.mem_of_getElem? (i := 110) (by decide +kernel)))))) (by decide +kernel)
theorem wd_77 : Cond.selects rn_M my_M_single my_M_single ∈ wg_all := wg_mem (List.mem_append_left _ (List.mem_map.mpr ⟨(my_M_single, 17), List.mem_append_right _ (List.mem_append_right _ (List.mem_append_right _ (List.mem_append_right _ (List.mem_of_getElem? (i := 3) (by decide +kernel))))), rfl⟩)) (by decide +kernel)
theorem wd_78 : Cond.methodLink rn_M 161 my_M_lower ∈ wg_all := wg_mem (List.mem_append_right _ (List.mem_append_right _ (List.mem_append_right _ (List.mem_append_right _ (List.mem_of_getElem? (i := 139) (by decide +kernel)))))) (by decide +kernel)
theorem wd_79 : Cond.code my_M_lower mb_M_lower 9 none ∈ wg_all := wg_mem (List.mem_append_right _ (List.mem_append_right _ (List.mem_append_right _ (List.mem_append_right _ (List.mem_of_getElem? (i := 142) (rfl)))))) (by decide +kernel)
theorem wd_80 : Cond.instanceMethod my_M_lower ∈ wg_all := wg_mem (List.mem_append_right _ (List.mem_append_right _ (List.mem_append_right _ (List.mem_append_right _ (List.mem_of_getElem? (i := 141) (by decide +kernel)))))) (by decide +kernel)
theorem wd_81 : Cond.selects rn_M my_M_lower my_M_lower ∈ wg_all := wg_mem (List.mem_append_left _ (List.mem_map.mpr ⟨(my_M_lower, 17), List.mem_append_right _ (List.mem_append_right _ (List.mem_append_right _ (List.mem_append_right _ (List.mem_of_getElem? (i := 10) (by decide +kernel))))), rfl⟩)) (by decide +kernel)
theorem wd_82 : Cond.methodLink rn_M 164 my_M_end ∈ wg_all := wg_mem (List.mem_append_right _ (List.mem_append_right _ (List.mem_append_right _ (List.mem_append_right _ (List.mem_of_getElem? (i := 127) (by decide +kernel)))))) (by decide +kernel)
theorem wd_83 : Cond.code my_M_end mb_M_end 3 none ∈ wg_all := wg_mem (List.mem_append_right _ (List.mem_append_right _ (List.mem_append_right _ (List.mem_append_right _ (List.mem_of_getElem? (i := 130) (rfl)))))) (by decide +kernel)
theorem wd_84 : Cond.instanceMethod my_M_end ∈ wg_all := wg_mem (List.mem_append_right _ (List.mem_append_right _ (List.mem_append_right _ (List.mem_append_right _ (List.mem_of_getElem? (i := 129) (by decide +kernel)))))) (by decide +kernel)
theorem wd_85 : Cond.selects rn_M my_M_end my_M_end ∈ wg_all := wg_mem (List.mem_append_left _ (List.mem_map.mpr ⟨(my_M_end, 17), List.mem_append_right _ (List.mem_append_right _ (List.mem_append_right _ (List.mem_append_right _ (List.mem_of_getElem? (i := 7) (by decide +kernel))))), rfl⟩)) (by decide +kernel)
theorem wd_86 : Cond.methodLink rn_M 167 my_M_framed ∈ wg_all := wg_mem (List.mem_append_right _ (List.mem_append_right _ (List.mem_append_right _ (List.mem_append_left _ (List.mem_of_getElem? (i := 218) (by decide +kernel)))))) (by decide +kernel)
theorem wd_87 : Cond.code my_M_framed mb_M_framed 1 (some .int) ∈ wg_all := wg_mem (List.mem_append_right _ (List.mem_append_right _ (List.mem_append_right _ (List.mem_append_left _ (List.mem_of_getElem? (i := 220) (rfl)))))) (by decide +kernel)
theorem wd_88 : Cond.static my_M_framed ∈ wg_all := wg_mem (List.mem_append_right _ (List.mem_append_right _ (List.mem_append_right _ (List.mem_append_left _ (List.mem_of_getElem? (i := 219) (by decide +kernel)))))) (by decide +kernel)
theorem wd_89 : Cond.methodLink rn_M 173 my_M_leave ∈ wg_all := wg_mem (List.mem_append_right _ (List.mem_append_right _ (List.mem_append_right _ (List.mem_append_right _ (List.mem_of_getElem? (i := 2) (by decide +kernel)))))) (by decide +kernel)
theorem wd_90 : Cond.code my_M_leave mb_M_leave 4 none ∈ wg_all := wg_mem (List.mem_append_right _ (List.mem_append_right _ (List.mem_append_right _ (List.mem_append_right _ (List.mem_of_getElem? (i := 5) (rfl)))))) (by decide +kernel)
theorem wd_91 : Cond.instanceMethod my_M_leave ∈ wg_all := wg_mem (List.mem_append_right _ (List.mem_append_right _ (List.mem_append_right _ (List.mem_append_right _ (List.mem_of_getElem? (i := 4) (by decide +kernel)))))) (by decide +kernel)
theorem wd_92 : Cond.selects rn_M my_M_leave my_M_leave ∈ wg_all := wg_mem (List.mem_append_left _ (List.mem_map.mpr ⟨(my_M_leave, 17), List.mem_append_right _ (List.mem_append_right _ (List.mem_append_left _ (List.mem_of_getElem? (i := 10) (by decide +kernel)))), rfl⟩)) (by decide +kernel)
theorem wd_93 : Cond.methodLink rn_M 176 my_M_take ∈ wg_all := wg_mem (List.mem_append_right _ (List.mem_append_right _ (List.mem_append_right _ (List.mem_append_right _ (List.mem_of_getElem? (i := 6) (by decide +kernel)))))) (by decide +kernel)
theorem wd_94 : Cond.code my_M_take mb_M_take 4 none ∈ wg_all := wg_mem (List.mem_append_right _ (List.mem_append_right _ (List.mem_append_right _ (List.mem_append_right _ (List.mem_of_getElem? (i := 9) (rfl)))))) (by decide +kernel)
theorem wd_95 : Cond.instanceMethod my_M_take ∈ wg_all := wg_mem (List.mem_append_right _ (List.mem_append_right _ (List.mem_append_right _ (List.mem_append_right _ (List.mem_of_getElem? (i := 8) (by decide +kernel)))))) (by decide +kernel)
theorem wd_96 : Cond.selects rn_M my_M_take my_M_take ∈ wg_all := wg_mem (List.mem_append_left _ (List.mem_map.mpr ⟨(my_M_take, 17), List.mem_append_right _ (List.mem_append_right _ (List.mem_append_left _ (List.mem_of_getElem? (i := 11) (by decide +kernel)))), rfl⟩)) (by decide +kernel)
theorem wd_97 : Cond.methodLink rn_M 179 my_M_next ∈ wg_all := wg_mem (List.mem_append_right _ (List.mem_append_right _ (List.mem_append_right _ (List.mem_append_left _ (List.mem_of_getElem? (i := 238) (by decide +kernel)))))) (by decide +kernel)
theorem wd_98 : Cond.code my_M_next mb_M_next 2 none ∈ wg_all := wg_mem (List.mem_append_right _ (List.mem_append_right _ (List.mem_append_right _ (List.mem_append_right _ (List.mem_of_getElem? (i := 1) (rfl)))))) (by decide +kernel)
theorem wd_99 : Cond.instanceMethod my_M_next ∈ wg_all := wg_mem (List.mem_append_right _ (List.mem_append_right _ (List.mem_append_right _ (List.mem_append_right _ (List.mem_of_getElem? (i := 0) (by decide +kernel)))))) (by decide +kernel)
theorem wd_100 : Cond.selects rn_M my_M_next my_M_next ∈ wg_all := wg_mem (List.mem_append_left _ (List.mem_map.mpr ⟨(my_M_next, 17), List.mem_append_right _ (List.mem_append_right _ (List.mem_append_left _ (List.mem_of_getElem? (i := 9) (by decide +kernel)))), rfl⟩)) (by decide +kernel)
theorem wd_101 : Cond.methodLink rn_M 182 my_M_comeLast ∈ wg_all := wg_mem (List.mem_append_right _ (List.mem_append_right _ (List.mem_append_right _ (List.mem_append_left _ (List.mem_of_getElem? (i := 206) (by decide +kernel)))))) (by decide +kernel)
theorem wd_102 : Cond.code my_M_comeLast mb_M_comeLast 2 none ∈ wg_all := wg_mem (List.mem_append_right _ (List.mem_append_right _ (List.mem_append_right _ (List.mem_append_left _ (List.mem_of_getElem? (i := 209) (rfl)))))) (by decide +kernel)
theorem wd_103 : Cond.instanceMethod my_M_comeLast ∈ wg_all := wg_mem (List.mem_append_right _ (List.mem_append_right _ (List.mem_append_right _ (List.mem_append_left _ (List.mem_of_getElem? (i := 208) (by decide +kernel)))))) (by decide +kernel)
theorem wd_104 : Cond.selects rn_M my_M_comeLast my_M_comeLast ∈ wg_all := wg_mem (List.mem_append_left _ (List.mem_map.mpr ⟨(my_M_comeLast, 17), List.mem_append_right _ (List.mem_append_right _ (List.mem_append_left _ (List.mem_of_getElem? (i := 2) (by decide +kernel)))), rfl⟩)) (by decide +kernel)
theorem wd_105 : Cond.methodLink rn_M 185 my_M_stack ∈ wg_all := wg_mem (List.mem_append_right _ (List.mem_append_right _ (List.mem_append_right _ (List.mem_append_left _ (List.mem_of_getElem? (i := 210) (by decide +kernel)))))) (by decide +kernel)
theorem wd_106 : Cond.code my_M_stack mb_M_stack 3 none ∈ wg_all := wg_mem (List.mem_append_right _ (List.mem_append_right _ (List.mem_append_right _ (List.mem_append_left _ (List.mem_of_getElem? (i := 213) (rfl)))))) (by decide +kernel)
theorem wd_107 : Cond.instanceMethod my_M_stack ∈ wg_all := wg_mem (List.mem_append_right _ (List.mem_append_right _ (List.mem_append_right _ (List.mem_append_left _ (List.mem_of_getElem? (i := 212) (by decide +kernel)))))) (by decide +kernel)
theorem wd_108 : Cond.selects rn_M my_M_stack my_M_stack ∈ wg_all := wg_mem (List.mem_append_left _ (List.mem_map.mpr ⟨(my_M_stack, 17), List.mem_append_right _ (List.mem_append_right _ (List.mem_append_left _ (List.mem_of_getElem? (i := 3) (by decide +kernel)))), rfl⟩)) (by decide +kernel)
theorem wd_109 : Cond.methodLink rn_M 188 my_M_answer ∈ wg_all := wg_mem (List.mem_append_right _ (List.mem_append_right _ (List.mem_append_right _ (List.mem_append_right _ (List.mem_of_getElem? (i := 131) (by decide +kernel)))))) (by decide +kernel)
theorem wd_110 : Cond.code my_M_answer mb_M_answer 7 none ∈ wg_all := wg_mem (List.mem_append_right _ (List.mem_append_right _ (List.mem_append_right _ (List.mem_append_right _ (List.mem_of_getElem? (i := 134) (rfl)))))) (by decide +kernel)
theorem wd_111 : Cond.instanceMethod my_M_answer ∈ wg_all := wg_mem (List.mem_append_right _ (List.mem_append_right _ (List.mem_append_right _ (List.mem_append_right _ (List.mem_of_getElem? (i := 133) (by decide +kernel)))))) (by decide +kernel)
theorem wd_112 : Cond.selects rn_M my_M_answer my_M_answer ∈ wg_all := wg_mem (List.mem_append_left _ (List.mem_map.mpr ⟨(my_M_answer, 17), List.mem_append_right _ (List.mem_append_right _ (List.mem_append_right _ (List.mem_append_right _ (List.mem_of_getElem? (i := 8) (by decide +kernel))))), rfl⟩)) (by decide +kernel)
theorem wd_113 : Cond.methodLink rn_M 192 my_M_begin ∈ wg_all := wg_mem (List.mem_append_right _ (List.mem_append_right _ (List.mem_append_right _ (List.mem_append_right _ (List.mem_of_getElem? (i := 135) (by decide +kernel)))))) (by decide +kernel)
theorem wd_114 : Cond.code my_M_begin mb_M_begin 6 none ∈ wg_all := wg_mem (List.mem_append_right _ (List.mem_append_right _ (List.mem_append_right _ (List.mem_append_right _ (List.mem_of_getElem? (i := 138) (rfl)))))) (by decide +kernel)
theorem wd_115 : Cond.instanceMethod my_M_begin ∈ wg_all := wg_mem (List.mem_append_right _ (List.mem_append_right _ (List.mem_append_right _ (List.mem_append_right _ (List.mem_of_getElem? (i := 137) (by decide +kernel)))))) (by decide +kernel)
theorem wd_116 : Cond.selects rn_M my_M_begin my_M_begin ∈ wg_all := wg_mem (List.mem_append_left _ (List.mem_map.mpr ⟨(my_M_begin, 17), List.mem_append_right _ (List.mem_append_right _ (List.mem_append_right _ (List.mem_append_right _ (List.mem_of_getElem? (i := 9) (by decide +kernel))))), rfl⟩)) (by decide +kernel)
theorem wd_117 : Cond.methodLink rn_M 214 my_M_serve ∈ wg_all := wg_mem (List.mem_append_right _ (List.mem_append_right _ (List.mem_append_right _ (List.mem_append_left _ (List.mem_of_getElem? (i := 202) (by decide +kernel)))))) (by decide +kernel)
theorem wd_118 : Cond.code my_M_serve mb_M_serve 3 none ∈ wg_all := wg_mem (List.mem_append_right _ (List.mem_append_right _ (List.mem_append_right _ (List.mem_append_left _ (List.mem_of_getElem? (i := 205) (rfl)))))) (by decide +kernel)
theorem wd_119 : Cond.instanceMethod my_M_serve ∈ wg_all := wg_mem (List.mem_append_right _ (List.mem_append_right _ (List.mem_append_right _ (List.mem_append_left _ (List.mem_of_getElem? (i := 204) (by decide +kernel)))))) (by decide +kernel)
theorem wd_120 : Cond.selects rn_M my_M_serve my_M_serve ∈ wg_all := wg_mem (List.mem_append_left _ (List.mem_map.mpr ⟨(my_M_serve, 17), List.mem_append_right _ (List.mem_append_right _ (List.mem_append_left _ (List.mem_of_getElem? (i := 1) (by decide +kernel)))), rfl⟩)) (by decide +kernel)
theorem wd_121 : Cond.methodLink rn_M 217 my_M_instruction ∈ wg_all := wg_mem (List.mem_append_right _ (List.mem_append_right _ (List.mem_append_right _ (List.mem_append_right _ (List.mem_of_getElem? (i := 22) (by decide +kernel)))))) (by decide +kernel)
theorem wd_122 : Cond.code my_M_instruction mb_M_instruction 4 none ∈ wg_all := wg_mem (List.mem_append_right _ (List.mem_append_right _ (List.mem_append_right _ (List.mem_append_right _ (List.mem_of_getElem? (i := 25) (rfl)))))) (by decide +kernel)
theorem wd_123 : Cond.instanceMethod my_M_instruction ∈ wg_all := wg_mem (List.mem_append_right _ (List.mem_append_right _ (List.mem_append_right _ (List.mem_append_right _ (List.mem_of_getElem? (i := 24) (by decide +kernel)))))) (by decide +kernel)
theorem wd_124 : Cond.selects rn_M my_M_instruction my_M_instruction ∈ wg_all := wg_mem (List.mem_append_left _ (List.mem_map.mpr ⟨(my_M_instruction, 17), List.mem_append_right _ (List.mem_append_right _ (List.mem_append_left _ (List.mem_of_getElem? (i := 15) (by decide +kernel)))), rfl⟩)) (by decide +kernel)
theorem wd_125 : Cond.methodLink rn_M 220 my_M_pass ∈ wg_all := wg_mem (List.mem_append_right _ (List.mem_append_right _ (List.mem_append_right _ (List.mem_append_right _ (List.mem_of_getElem? (i := 147) (by decide +kernel)))))) (by decide +kernel)
theorem wd_126 : Cond.code my_M_pass mb_M_pass 2 none ∈ wg_all := wg_mem (List.mem_append_right _ (List.mem_append_right _ (List.mem_append_right _ (List.mem_append_right _ (List.mem_of_getElem? (i := 150) (rfl)))))) (by decide +kernel)
theorem wd_127 : Cond.instanceMethod my_M_pass ∈ wg_all := wg_mem (List.mem_append_right _ (List.mem_append_right _ (List.mem_append_right _ (List.mem_append_right _ (List.mem_of_getElem? (i := 149) (by decide +kernel)))))) (by decide +kernel)
theorem wd_128 : Cond.selects rn_M my_M_pass my_M_pass ∈ wg_all := wg_mem (List.mem_append_left _ (List.mem_map.mpr ⟨(my_M_pass, 17), List.mem_append_right _ (List.mem_append_right _ (List.mem_append_right _ (List.mem_append_right _ (List.mem_of_getElem? (i := 12) (by decide +kernel))))), rfl⟩)) (by decide +kernel)
theorem wd_129 : Cond.methodLink rn_M 223 my_M_noTask ∈ wg_all := wg_mem (List.mem_append_right _ (List.mem_append_right _ (List.mem_append_right _ (List.mem_append_right _ (List.mem_of_getElem? (i := 163) (by decide +kernel)))))) (by decide +kernel)
theorem wd_130 : Cond.code my_M_noTask mb_M_noTask 1 (some .boolean) ∈ wg_all := wg_mem (List.mem_append_right _ (List.mem_append_right _ (List.mem_append_right _ (List.mem_append_right _ (List.mem_of_getElem? (i := 165) (rfl)))))) (by decide +kernel)
theorem wd_131 : Cond.static my_M_noTask ∈ wg_all := wg_mem (List.mem_append_right _ (List.mem_append_right _ (List.mem_append_right _ (List.mem_append_right _ (List.mem_of_getElem? (i := 164) (by decide +kernel)))))) (by decide +kernel)
theorem wd_132 : Cond.methodLink rn_M 226 my_M_inFrame ∈ wg_all := wg_mem (List.mem_append_right _ (List.mem_append_right _ (List.mem_append_right _ (List.mem_append_right _ (List.mem_of_getElem? (i := 182) (by decide +kernel)))))) (by decide +kernel)
theorem wd_133 : Cond.code my_M_inFrame mb_M_inFrame 4 (some .int) ∈ wg_all := wg_mem (List.mem_append_right _ (List.mem_append_right _ (List.mem_append_right _ (List.mem_append_right _ (List.mem_of_getElem? (i := 185) (rfl)))))) (by decide +kernel)
theorem wd_134 : Cond.instanceMethod my_M_inFrame ∈ wg_all := wg_mem (List.mem_append_right _ (List.mem_append_right _ (List.mem_append_right _ (List.mem_append_right _ (List.mem_of_getElem? (i := 184) (by decide +kernel)))))) (by decide +kernel)
theorem wd_135 : Cond.selects rn_M my_M_inFrame my_M_inFrame ∈ wg_all := wg_mem (List.mem_append_left _ (List.mem_map.mpr ⟨(my_M_inFrame, 17), List.mem_append_right _ (List.mem_append_right _ (List.mem_append_right _ (List.mem_append_right _ (List.mem_of_getElem? (i := 13) (by decide +kernel))))), rfl⟩)) (by decide +kernel)
theorem wd_136 : Cond.methodLink rn_M 39 my_M_at ∈ wg_all := wg_mem (List.mem_append_right _ (List.mem_append_right _ (List.mem_append_right _ (List.mem_append_right _ (List.mem_of_getElem? (i := 18) (by decide +kernel)))))) (by decide +kernel)
theorem wd_137 : Cond.code my_M_at mb_M_at 3 (some .int) ∈ wg_all := wg_mem (List.mem_append_right _ (List.mem_append_right _ (List.mem_append_right _ (List.mem_append_right _ (List.mem_of_getElem? (i := 21) (rfl)))))) (by decide +kernel)
theorem wd_138 : Cond.instanceMethod my_M_at ∈ wg_all := wg_mem (List.mem_append_right _ (List.mem_append_right _ (List.mem_append_right _ (List.mem_append_right _ (List.mem_of_getElem? (i := 20) (by decide +kernel)))))) (by decide +kernel)
theorem wd_139 : Cond.selects rn_M my_M_at my_M_at ∈ wg_all := wg_mem (List.mem_append_left _ (List.mem_map.mpr ⟨(my_M_at, 17), List.mem_append_right _ (List.mem_append_right _ (List.mem_append_left _ (List.mem_of_getElem? (i := 14) (by decide +kernel)))), rfl⟩)) (by decide +kernel)
theorem wd_140 : Cond.methodLink rn_M 43 my_M_put ∈ wg_all := wg_mem (List.mem_append_right _ (List.mem_append_right _ (List.mem_append_right _ (List.mem_append_left _ (List.mem_of_getElem? (i := 234) (by decide +kernel)))))) (by decide +kernel)
theorem wd_141 : Cond.code my_M_put mb_M_put 4 none ∈ wg_all := wg_mem (List.mem_append_right _ (List.mem_append_right _ (List.mem_append_right _ (List.mem_append_left _ (List.mem_of_getElem? (i := 237) (rfl)))))) (by decide +kernel)
theorem wd_142 : Cond.instanceMethod my_M_put ∈ wg_all := wg_mem (List.mem_append_right _ (List.mem_append_right _ (List.mem_append_right _ (List.mem_append_left _ (List.mem_of_getElem? (i := 236) (by decide +kernel)))))) (by decide +kernel)
theorem wd_143 : Cond.selects rn_M my_M_put my_M_put ∈ wg_all := wg_mem (List.mem_append_left _ (List.mem_map.mpr ⟨(my_M_put, 17), List.mem_append_right _ (List.mem_append_right _ (List.mem_append_left _ (List.mem_of_getElem? (i := 8) (by decide +kernel)))), rfl⟩)) (by decide +kernel)
theorem wd_144 : Cond.methodLink rn_M 47 my_M_load ∈ wg_all := wg_mem (List.mem_append_right _ (List.mem_append_right _ (List.mem_append_right _ (List.mem_append_right _ (List.mem_of_getElem? (i := 14) (by decide +kernel)))))) (by decide +kernel)
theorem wd_145 : Cond.code my_M_load mb_M_load 3 (some .int) ∈ wg_all := wg_mem (List.mem_append_right _ (List.mem_append_right _ (List.mem_append_right _ (List.mem_append_right _ (List.mem_of_getElem? (i := 17) (rfl)))))) (by decide +kernel)
theorem wd_146 : Cond.instanceMethod my_M_load ∈ wg_all := wg_mem (List.mem_append_right _ (List.mem_append_right _ (List.mem_append_right _ (List.mem_append_right _ (List.mem_of_getElem? (i := 16) (by decide +kernel)))))) (by decide +kernel)
theorem wd_147 : Cond.selects rn_M my_M_load my_M_load ∈ wg_all := wg_mem (List.mem_append_left _ (List.mem_map.mpr ⟨(my_M_load, 17), List.mem_append_right _ (List.mem_append_right _ (List.mem_append_left _ (List.mem_of_getElem? (i := 13) (by decide +kernel)))), rfl⟩)) (by decide +kernel)
theorem wd_148 : Cond.methodLink rn_M 51 my_M_set ∈ wg_all := wg_mem (List.mem_append_right _ (List.mem_append_right _ (List.mem_append_right _ (List.mem_append_left _ (List.mem_of_getElem? (i := 225) (by decide +kernel)))))) (by decide +kernel)
theorem wd_149 : Cond.code my_M_set mb_M_set 3 none ∈ wg_all := wg_mem (List.mem_append_right _ (List.mem_append_right _ (List.mem_append_right _ (List.mem_append_left _ (List.mem_of_getElem? (i := 228) (rfl)))))) (by decide +kernel)
theorem wd_150 : Cond.instanceMethod my_M_set ∈ wg_all := wg_mem (List.mem_append_right _ (List.mem_append_right _ (List.mem_append_right _ (List.mem_append_left _ (List.mem_of_getElem? (i := 227) (by decide +kernel)))))) (by decide +kernel)
theorem wd_151 : Cond.selects rn_M my_M_set my_M_set ∈ wg_all := wg_mem (List.mem_append_left _ (List.mem_map.mpr ⟨(my_M_set, 17), List.mem_append_right _ (List.mem_append_right _ (List.mem_append_left _ (List.mem_of_getElem? (i := 6) (by decide +kernel)))), rfl⟩)) (by decide +kernel)
theorem wd_152 : Cond.methodLink rn_M 54 my_M_fetch ∈ wg_all := wg_mem (List.mem_append_right _ (List.mem_append_right _ (List.mem_append_right _ (List.mem_append_right _ (List.mem_of_getElem? (i := 26) (by decide +kernel)))))) (by decide +kernel)
theorem wd_153 : Cond.code my_M_fetch mb_M_fetch 2 (some .int) ∈ wg_all := wg_mem (List.mem_append_right _ (List.mem_append_right _ (List.mem_append_right _ (List.mem_append_right _ (List.mem_of_getElem? (i := 29) (rfl)))))) (by decide +kernel)
theorem wd_154 : Cond.instanceMethod my_M_fetch ∈ wg_all := wg_mem (List.mem_append_right _ (List.mem_append_right _ (List.mem_append_right _ (List.mem_append_right _ (List.mem_of_getElem? (i := 28) (by decide +kernel)))))) (by decide +kernel)
theorem wd_155 : Cond.selects rn_M my_M_fetch my_M_fetch ∈ wg_all := wg_mem (List.mem_append_left _ (List.mem_map.mpr ⟨(my_M_fetch, 17), List.mem_append_right _ (List.mem_append_right _ (List.mem_append_right _ (List.mem_append_left _ (List.mem_of_getElem? (i := 0) (by decide +kernel))))), rfl⟩)) (by decide +kernel)
theorem wd_156 : Cond.methodLink rn_M 58 my_M_store ∈ wg_all := wg_mem (List.mem_append_right _ (List.mem_append_right _ (List.mem_append_right _ (List.mem_append_left _ (List.mem_of_getElem? (i := 230) (by decide +kernel)))))) (by decide +kernel)
theorem wd_157 : Cond.code my_M_store mb_M_store 4 none ∈ wg_all := wg_mem (List.mem_append_right _ (List.mem_append_right _ (List.mem_append_right _ (List.mem_append_left _ (List.mem_of_getElem? (i := 233) (rfl)))))) (by decide +kernel)
theorem wd_158 : Cond.instanceMethod my_M_store ∈ wg_all := wg_mem (List.mem_append_right _ (List.mem_append_right _ (List.mem_append_right _ (List.mem_append_left _ (List.mem_of_getElem? (i := 232) (by decide +kernel)))))) (by decide +kernel)
theorem wd_159 : Cond.selects rn_M my_M_store my_M_store ∈ wg_all := wg_mem (List.mem_append_left _ (List.mem_map.mpr ⟨(my_M_store, 17), List.mem_append_right _ (List.mem_append_right _ (List.mem_append_left _ (List.mem_of_getElem? (i := 7) (by decide +kernel)))), rfl⟩)) (by decide +kernel)
theorem wd_160 : Cond.methodLink rn_M 62 my_M_mark ∈ wg_all := wg_mem (List.mem_append_right _ (List.mem_append_right _ (List.mem_append_right _ (List.mem_append_left _ (List.mem_of_getElem? (i := 214) (by decide +kernel)))))) (by decide +kernel)
theorem wd_161 : Cond.code my_M_mark mb_M_mark 3 none ∈ wg_all := wg_mem (List.mem_append_right _ (List.mem_append_right _ (List.mem_append_right _ (List.mem_append_left _ (List.mem_of_getElem? (i := 217) (rfl)))))) (by decide +kernel)
theorem wd_162 : Cond.instanceMethod my_M_mark ∈ wg_all := wg_mem (List.mem_append_right _ (List.mem_append_right _ (List.mem_append_right _ (List.mem_append_left _ (List.mem_of_getElem? (i := 216) (by decide +kernel)))))) (by decide +kernel)
theorem wd_163 : Cond.selects rn_M my_M_mark my_M_mark ∈ wg_all := wg_mem (List.mem_append_left _ (List.mem_map.mpr ⟨(my_M_mark, 17), List.mem_append_right _ (List.mem_append_right _ (List.mem_append_left _ (List.mem_of_getElem? (i := 4) (by decide +kernel)))), rfl⟩)) (by decide +kernel)
theorem wd_164 : Cond.methodLink rn_M 66 my_M_sign ∈ wg_all := wg_mem (List.mem_append_right _ (List.mem_append_right _ (List.mem_append_right _ (List.mem_append_right _ (List.mem_of_getElem? (i := 68) (by decide +kernel)))))) (by decide +kernel)
theorem wd_165 : Cond.code my_M_sign mb_M_sign 3 none ∈ wg_all := wg_mem (List.mem_append_right _ (List.mem_append_right _ (List.mem_append_right _ (List.mem_append_right _ (List.mem_of_getElem? (i := 71) (rfl)))))) (by decide +kernel)
theorem wd_166 : Cond.instanceMethod my_M_sign ∈ wg_all := wg_mem (List.mem_append_right _ (List.mem_append_right _ (List.mem_append_right _ (List.mem_append_right _ (List.mem_of_getElem? (i := 70) (by decide +kernel)))))) (by decide +kernel)
theorem wd_167 : Cond.selects rn_M my_M_sign my_M_sign ∈ wg_all := wg_mem (List.mem_append_left _ (List.mem_map.mpr ⟨(my_M_sign, 17), List.mem_append_right _ (List.mem_append_right _ (List.mem_append_right _ (List.mem_append_left _ (List.mem_of_getElem? (i := 9) (by decide +kernel))))), rfl⟩)) (by decide +kernel)
theorem wd_168 : Cond.methodLink rn_M 69 my_M_number ∈ wg_all := wg_mem (List.mem_append_right _ (List.mem_append_right _ (List.mem_append_right _ (List.mem_append_right _ (List.mem_of_getElem? (i := 65) (by decide +kernel)))))) (by decide +kernel)
theorem wd_169 : Cond.code my_M_number mb_M_number 2 (some .int) ∈ wg_all := wg_mem (List.mem_append_right _ (List.mem_append_right _ (List.mem_append_right _ (List.mem_append_right _ (List.mem_of_getElem? (i := 67) (rfl)))))) (by decide +kernel)
theorem wd_170 : Cond.static my_M_number ∈ wg_all := wg_mem (List.mem_append_right _ (List.mem_append_right _ (List.mem_append_right _ (List.mem_append_right _ (List.mem_of_getElem? (i := 66) (by decide +kernel)))))) (by decide +kernel)
theorem wd_171 : Cond.methodLink rn_M 73 my_M_fetchWord ∈ wg_all := wg_mem (List.mem_append_right _ (List.mem_append_right _ (List.mem_append_right _ (List.mem_append_right _ (List.mem_of_getElem? (i := 38) (by decide +kernel)))))) (by decide +kernel)
theorem wd_172 : Cond.code my_M_fetchWord mb_M_fetchWord 2 (some .int) ∈ wg_all := wg_mem (List.mem_append_right _ (List.mem_append_right _ (List.mem_append_right _ (List.mem_append_right _ (List.mem_of_getElem? (i := 41) (rfl)))))) (by decide +kernel)
theorem wd_173 : Cond.instanceMethod my_M_fetchWord ∈ wg_all := wg_mem (List.mem_append_right _ (List.mem_append_right _ (List.mem_append_right _ (List.mem_append_right _ (List.mem_of_getElem? (i := 40) (by decide +kernel)))))) (by decide +kernel)
theorem wd_174 : Cond.selects rn_M my_M_fetchWord my_M_fetchWord ∈ wg_all := wg_mem (List.mem_append_left _ (List.mem_map.mpr ⟨(my_M_fetchWord, 17), List.mem_append_right _ (List.mem_append_right _ (List.mem_append_right _ (List.mem_append_left _ (List.mem_of_getElem? (i := 3) (by decide +kernel))))), rfl⟩)) (by decide +kernel)
theorem wd_175 : Cond.methodLink rn_M 80 my_M_stepping ∈ wg_all := wg_mem (List.mem_append_right _ (List.mem_append_right _ (List.mem_append_right _ (List.mem_append_right _ (List.mem_of_getElem? (i := 46) (by decide +kernel)))))) (by decide +kernel)
theorem wd_176 : Cond.code my_M_stepping mb_M_stepping 5 (some .int) ∈ wg_all := wg_mem (List.mem_append_right _ (List.mem_append_right _ (List.mem_append_right _ (List.mem_append_right _ (List.mem_of_getElem? (i := 49) (rfl)))))) (by decide +kernel)
theorem wd_177 : Cond.instanceMethod my_M_stepping ∈ wg_all := wg_mem (List.mem_append_right _ (List.mem_append_right _ (List.mem_append_right _ (List.mem_append_right _ (List.mem_of_getElem? (i := 48) (by decide +kernel)))))) (by decide +kernel)
theorem wd_178 : Cond.selects rn_M my_M_stepping my_M_stepping ∈ wg_all := wg_mem (List.mem_append_left _ (List.mem_map.mpr ⟨(my_M_stepping, 17), List.mem_append_right _ (List.mem_append_right _ (List.mem_append_right _ (List.mem_append_left _ (List.mem_of_getElem? (i := 5) (by decide +kernel))))), rfl⟩)) (by decide +kernel)
theorem wd_179 : Cond.methodLink rn_M 83 my_M_offset ∈ wg_all := wg_mem (List.mem_append_right _ (List.mem_append_right _ (List.mem_append_right _ (List.mem_append_right _ (List.mem_of_getElem? (i := 50) (by decide +kernel)))))) (by decide +kernel)
theorem wd_180 : Cond.code my_M_offset mb_M_offset 5 (some .int) ∈ wg_all := wg_mem (List.mem_append_right _ (List.mem_append_right _ (List.mem_append_right _ (List.mem_append_right _ (List.mem_of_getElem? (i := 53) (rfl)))))) (by decide +kernel)
theorem wd_181 : Cond.instanceMethod my_M_offset ∈ wg_all := wg_mem (List.mem_append_right _ (List.mem_append_right _ (List.mem_append_right _ (List.mem_append_right _ (List.mem_of_getElem? (i := 52) (by decide +kernel)))))) (by decide +kernel)
theorem wd_182 : Cond.selects rn_M my_M_offset my_M_offset ∈ wg_all := wg_mem (List.mem_append_left _ (List.mem_map.mpr ⟨(my_M_offset, 17), List.mem_append_right _ (List.mem_append_right _ (List.mem_append_right _ (List.mem_append_left _ (List.mem_of_getElem? (i := 6) (by decide +kernel))))), rfl⟩)) (by decide +kernel)
theorem wd_183 : Cond.methodLink rn_M 86 my_M_signed ∈ wg_all := wg_mem (List.mem_append_right _ (List.mem_append_right _ (List.mem_append_right _ (List.mem_append_right _ (List.mem_of_getElem? (i := 54) (by decide +kernel)))))) (by decide +kernel)
theorem wd_184 : Cond.code my_M_signed mb_M_signed 1 (some .int) ∈ wg_all := wg_mem (List.mem_append_right _ (List.mem_append_right _ (List.mem_append_right _ (List.mem_append_right _ (List.mem_of_getElem? (i := 56) (rfl)))))) (by decide +kernel)
theorem wd_185 : Cond.static my_M_signed ∈ wg_all := wg_mem (List.mem_append_right _ (List.mem_append_right _ (List.mem_append_right _ (List.mem_append_right _ (List.mem_of_getElem? (i := 55) (by decide +kernel)))))) (by decide +kernel)
theorem wd_186 : Cond.methodLink rn_M 89 my_M_get ∈ wg_all := wg_mem (List.mem_append_right _ (List.mem_append_right _ (List.mem_append_right _ (List.mem_append_right _ (List.mem_of_getElem? (i := 57) (by decide +kernel)))))) (by decide +kernel)
theorem wd_187 : Cond.code my_M_get mb_M_get 2 (some .int) ∈ wg_all := wg_mem (List.mem_append_right _ (List.mem_append_right _ (List.mem_append_right _ (List.mem_append_right _ (List.mem_of_getElem? (i := 60) (rfl)))))) (by decide +kernel)
theorem wd_188 : Cond.instanceMethod my_M_get ∈ wg_all := wg_mem (List.mem_append_right _ (List.mem_append_right _ (List.mem_append_right _ (List.mem_append_right _ (List.mem_of_getElem? (i := 59) (by decide +kernel)))))) (by decide +kernel)
theorem wd_189 : Cond.selects rn_M my_M_get my_M_get ∈ wg_all := wg_mem (List.mem_append_left _ (List.mem_map.mpr ⟨(my_M_get, 17), List.mem_append_right _ (List.mem_append_right _ (List.mem_append_right _ (List.mem_append_left _ (List.mem_of_getElem? (i := 7) (by decide +kernel))))), rfl⟩)) (by decide +kernel)
theorem wd_190 : Cond.methodLink rn_M 92 my_M_address ∈ wg_all := wg_mem (List.mem_append_right _ (List.mem_append_right _ (List.mem_append_right _ (List.mem_append_right _ (List.mem_of_getElem? (i := 42) (by decide +kernel)))))) (by decide +kernel)
theorem wd_191 : Cond.code my_M_address mb_M_address 7 (some .int) ∈ wg_all := wg_mem (List.mem_append_right _ (List.mem_append_right _ (List.mem_append_right _ (List.mem_append_right _ (List.mem_of_getElem? (i := 45) (rfl)))))) (by decide +kernel)
theorem wd_192 : Cond.instanceMethod my_M_address ∈ wg_all := wg_mem (List.mem_append_right _ (List.mem_append_right _ (List.mem_append_right _ (List.mem_append_right _ (List.mem_of_getElem? (i := 44) (by decide +kernel)))))) (by decide +kernel)
theorem wd_193 : Cond.selects rn_M my_M_address my_M_address ∈ wg_all := wg_mem (List.mem_append_left _ (List.mem_map.mpr ⟨(my_M_address, 17), List.mem_append_right _ (List.mem_append_right _ (List.mem_append_right _ (List.mem_append_left _ (List.mem_of_getElem? (i := 4) (by decide +kernel))))), rfl⟩)) (by decide +kernel)
theorem wd_194 : Cond.methodLink rn_M 95 my_M_plain ∈ wg_all := wg_mem (List.mem_append_right _ (List.mem_append_right _ (List.mem_append_right _ (List.mem_append_right _ (List.mem_of_getElem? (i := 80) (by decide +kernel)))))) (by decide +kernel)
theorem wd_195 : Cond.code my_M_plain mb_M_plain 3 (some .int) ∈ wg_all := wg_mem (List.mem_append_right _ (List.mem_append_right _ (List.mem_append_right _ (List.mem_append_right _ (List.mem_of_getElem? (i := 83) (rfl)))))) (by decide +kernel)
theorem wd_196 : Cond.instanceMethod my_M_plain ∈ wg_all := wg_mem (List.mem_append_right _ (List.mem_append_right _ (List.mem_append_right _ (List.mem_append_right _ (List.mem_of_getElem? (i := 82) (by decide +kernel)))))) (by decide +kernel)
theorem wd_197 : Cond.selects rn_M my_M_plain my_M_plain ∈ wg_all := wg_mem (List.mem_append_left _ (List.mem_map.mpr ⟨(my_M_plain, 17), List.mem_append_right _ (List.mem_append_right _ (List.mem_append_right _ (List.mem_append_left _ (List.mem_of_getElem? (i := 12) (by decide +kernel))))), rfl⟩)) (by decide +kernel)
theorem wd_198 : Cond.methodLink rn_M 98 my_M_operand ∈ wg_all := wg_mem (List.mem_append_right _ (List.mem_append_right _ (List.mem_append_right _ (List.mem_append_right _ (List.mem_of_getElem? (i := 34) (by decide +kernel)))))) (by decide +kernel)
theorem wd_199 : Cond.code my_M_operand mb_M_operand 4 (some .int) ∈ wg_all := wg_mem (List.mem_append_right _ (List.mem_append_right _ (List.mem_append_right _ (List.mem_append_right _ (List.mem_of_getElem? (i := 37) (rfl)))))) (by decide +kernel)
theorem wd_200 : Cond.instanceMethod my_M_operand ∈ wg_all := wg_mem (List.mem_append_right _ (List.mem_append_right _ (List.mem_append_right _ (List.mem_append_right _ (List.mem_of_getElem? (i := 36) (by decide +kernel)))))) (by decide +kernel)
theorem wd_201 : Cond.selects rn_M my_M_operand my_M_operand ∈ wg_all := wg_mem (List.mem_append_left _ (List.mem_map.mpr ⟨(my_M_operand, 17), List.mem_append_right _ (List.mem_append_right _ (List.mem_append_right _ (List.mem_append_left _ (List.mem_of_getElem? (i := 2) (by decide +kernel))))), rfl⟩)) (by decide +kernel)
theorem wd_202 : Cond.fieldLink rn_M 76 "TaskComputerModel" "invalid" "Z" ∈ wg_all := wg_mem (List.mem_append_right _ (List.mem_append_right _ (List.mem_append_right _ (List.mem_append_left _ (List.mem_of_getElem? (i := 158) (by decide +kernel)))))) (by decide +kernel)
theorem wd_203 : Cond.fieldLink rn_M 205 "TaskComputerModel" "lostTicks" "I" ∈ wg_all := wg_mem (List.mem_append_right _ (List.mem_append_right _ (List.mem_append_right _ (List.mem_append_left _ (List.mem_of_getElem? (i := 154) (by decide +kernel)))))) (by decide +kernel)
theorem wd_204 : Cond.fieldLink rn_M 7 "TaskComputerModel" "memory" "[I" ∈ wg_all := wg_mem (List.mem_append_right _ (List.mem_append_right _ (List.mem_append_right _ (List.mem_append_left _ (List.mem_of_getElem? (i := 142) (by decide +kernel)))))) (by decide +kernel)
theorem wd_205 : Cond.fieldLink rn_M 196 "TaskComputerModel" "passed" "I" ∈ wg_all := wg_mem (List.mem_append_right _ (List.mem_append_right _ (List.mem_append_right _ (List.mem_append_left _ (List.mem_of_getElem? (i := 156) (by decide +kernel)))))) (by decide +kernel)
theorem wd_206 : Cond.fieldLink rn_M 208 "TaskComputerModel" "pending" "Z" ∈ wg_all := wg_mem (List.mem_append_right _ (List.mem_append_right _ (List.mem_append_right _ (List.mem_append_left _ (List.mem_of_getElem? (i := 153) (by decide +kernel)))))) (by decide +kernel)
theorem wd_207 : Cond.fieldLink rn_M 199 "TaskComputerModel" "period" "I" ∈ wg_all := wg_mem (List.mem_append_right _ (List.mem_append_right _ (List.mem_append_right _ (List.mem_append_left _ (List.mem_of_getElem? (i := 151) (by decide +kernel)))))) (by decide +kernel)
theorem wd_208 : Cond.fieldLink rn_M 28 "TaskComputerModel" "queue" "[I" ∈ wg_all := wg_mem (List.mem_append_right _ (List.mem_append_right _ (List.mem_append_right _ (List.mem_append_left _ (List.mem_of_getElem? (i := 148) (by decide +kernel)))))) (by decide +kernel)
theorem wd_209 : Cond.fieldLink rn_M 13 "TaskComputerModel" "reg" "[I" ∈ wg_all := wg_mem (List.mem_append_right _ (List.mem_append_right _ (List.mem_append_right _ (List.mem_append_left _ (List.mem_of_getElem? (i := 143) (by decide +kernel)))))) (by decide +kernel)
theorem wd_210 : Cond.fieldLink rn_M 202 "TaskComputerModel" "rest" "I" ∈ wg_all := wg_mem (List.mem_append_right _ (List.mem_append_right _ (List.mem_append_right _ (List.mem_append_left _ (List.mem_of_getElem? (i := 152) (by decide +kernel)))))) (by decide +kernel)
theorem wd_211 : Cond.fieldLink rn_M 31 "TaskComputerModel" "running" "I" ∈ wg_all := wg_mem (List.mem_append_right _ (List.mem_append_right _ (List.mem_append_right _ (List.mem_append_left _ (List.mem_of_getElem? (i := 150) (by decide +kernel)))))) (by decide +kernel)
theorem wd_212 : Cond.fieldLink rn_M 19 "TaskComputerModel" "savedS" "[I" ∈ wg_all := wg_mem (List.mem_append_right _ (List.mem_append_right _ (List.mem_append_right _ (List.mem_append_left _ (List.mem_of_getElem? (i := 145) (by decide +kernel)))))) (by decide +kernel)
theorem wd_213 : Cond.fieldLink rn_M 211 "TaskComputerModel" "served" "I" ∈ wg_all := wg_mem (List.mem_append_right _ (List.mem_append_right _ (List.mem_append_right _ (List.mem_append_left _ (List.mem_of_getElem? (i := 155) (by decide +kernel)))))) (by decide +kernel)
theorem wd_214 : Cond.fieldLink rn_M 36 "TaskComputerModel" "spent" "I" ∈ wg_all := wg_mem (List.mem_append_right _ (List.mem_append_right _ (List.mem_append_right _ (List.mem_append_left _ (List.mem_of_getElem? (i := 157) (by decide +kernel)))))) (by decide +kernel)
theorem wd_215 : Cond.fieldLink rn_M 16 "TaskComputerModel" "stateOf" "[I" ∈ wg_all := wg_mem (List.mem_append_right _ (List.mem_append_right _ (List.mem_append_right _ (List.mem_append_left _ (List.mem_of_getElem? (i := 144) (by decide +kernel)))))) (by decide +kernel)
theorem wd_216 : Cond.fieldLink rn_M 25 "TaskComputerModel" "statusOf" "[I" ∈ wg_all := wg_mem (List.mem_append_right _ (List.mem_append_right _ (List.mem_append_right _ (List.mem_append_left _ (List.mem_of_getElem? (i := 147) (by decide +kernel)))))) (by decide +kernel)
theorem wd_217 : Cond.fieldLink rn_M 22 "TaskComputerModel" "toSleep" "[I" ∈ wg_all := wg_mem (List.mem_append_right _ (List.mem_append_right _ (List.mem_append_right _ (List.mem_append_left _ (List.mem_of_getElem? (i := 146) (by decide +kernel)))))) (by decide +kernel)
theorem wd_218 : Cond.fieldLink rn_M 170 "TaskComputerModel" "waits" "I" ∈ wg_all := wg_mem (List.mem_append_right _ (List.mem_append_right _ (List.mem_append_right _ (List.mem_append_left _ (List.mem_of_getElem? (i := 149) (by decide +kernel)))))) (by decide +kernel)
theorem cw_M_101 : cw_V rn_M 101 my_M_flag mb_M_flag 2 (some .boolean) 1 := ⟨wd_2, wd_5, wd_6, wd_3, wd_4, by decide +kernel, by decide +kernel, by decide +kernel⟩
theorem cw_M_105 : cw_V rn_M 105 my_M_difference mb_M_difference 8 (some .int) 4 := ⟨wd_7, wd_9, wd_10, wd_3, wd_8, by decide +kernel, by decide +kernel, by decide +kernel⟩
theorem cw_M_109 : cw_V rn_M 109 my_M_sum mb_M_sum 8 (some .int) 4 := ⟨wd_11, wd_13, wd_14, wd_3, wd_12, by decide +kernel, by decide +kernel, by decide +kernel⟩
theorem cw_M_112 : cw_V rn_M 112 my_M_push mb_M_push 4 none 2 := ⟨wd_15, wd_17, wd_18, wd_3, wd_16, by decide +kernel, by decide +kernel, by decide +kernel⟩
theorem cw_M_115 : cw_V rn_M 115 my_M_save mb_M_save 5 none 2 := ⟨wd_19, wd_21, wd_22, wd_3, wd_20, by decide +kernel, by decide +kernel, by decide +kernel⟩
theorem cw_M_118 : cw_V rn_M 118 my_M_wordOp mb_M_wordOp 5 none 3 := ⟨wd_23, wd_25, wd_26, wd_3, wd_24, by decide +kernel, by decide +kernel, by decide +kernel⟩
theorem cw_M_121 : cw_V rn_M 121 my_M_call mb_M_call 4 none 1 := ⟨wd_27, wd_29, wd_30, wd_3, wd_28, by decide +kernel, by decide +kernel, by decide +kernel⟩
theorem cw_M_125 : cw_V rn_M 125 my_M_byteOp mb_M_byteOp 9 none 2 := ⟨wd_31, wd_33, wd_34, wd_3, wd_32, by decide +kernel, by decide +kernel, by decide +kernel⟩
theorem cw_M_128 : cw_V rn_M 128 my_M_changed mb_M_changed 5 (some .int) 2 := ⟨wd_35, wd_37, wd_38, wd_3, wd_36, by decide +kernel, by decide +kernel, by decide +kernel⟩
theorem cw_M_131 : cw_V rn_M 131 my_M_holds mb_M_holds 6 (some .boolean) 1 := ⟨wd_39, wd_41, wd_42, wd_3, wd_40, by decide +kernel, by decide +kernel, by decide +kernel⟩
theorem cw_M_134 : cw_S rn_M 134 my_M_listed mb_M_listed 2 (some .int) 2 := ⟨wd_43, wd_45, wd_3, wd_44, by decide +kernel, by decide +kernel, by decide +kernel⟩
theorem cw_M_137 : cw_V rn_M 137 my_M_pull mb_M_pull 5 none 2 := ⟨wd_46, wd_48, wd_49, wd_3, wd_47, by decide +kernel, by decide +kernel, by decide +kernel⟩
theorem cw_M_140 : cw_V rn_M 140 my_M_trade mb_M_trade 7 none 1 := ⟨wd_50, wd_52, wd_53, wd_3, wd_51, by decide +kernel, by decide +kernel, by decide +kernel⟩
theorem cw_M_143 : cw_V rn_M 143 my_M_many mb_M_many 5 none 1 := ⟨wd_54, wd_56, wd_57, wd_3, wd_55, by decide +kernel, by decide +kernel, by decide +kernel⟩
theorem cw_M_146 : cw_V rn_M 146 my_M_kernel mb_M_kernel 7 none 0 := ⟨wd_58, wd_60, wd_61, wd_3, wd_59, by decide +kernel, by decide +kernel, by decide +kernel⟩
theorem cw_M_149 : cw_V rn_M 149 my_M_upper mb_M_upper 6 none 1 := ⟨wd_62, wd_64, wd_65, wd_3, wd_63, by decide +kernel, by decide +kernel, by decide +kernel⟩
theorem cw_M_152 : cw_V rn_M 152 my_M_second mb_M_second 5 none 0 := ⟨wd_66, wd_68, wd_69, wd_3, wd_67, by decide +kernel, by decide +kernel, by decide +kernel⟩
theorem cw_M_155 : cw_V rn_M 155 my_M_branch mb_M_branch 5 none 1 := ⟨wd_70, wd_72, wd_73, wd_3, wd_71, by decide +kernel, by decide +kernel, by decide +kernel⟩
theorem cw_M_158 : cw_V rn_M 158 my_M_single mb_M_single 4 none 1 := ⟨wd_74, wd_76, wd_77, wd_3, wd_75, by decide +kernel, by decide +kernel, by decide +kernel⟩
theorem cw_M_161 : cw_V rn_M 161 my_M_lower mb_M_lower 9 none 1 := ⟨wd_78, wd_80, wd_81, wd_3, wd_79, by decide +kernel, by decide +kernel, by decide +kernel⟩
theorem cw_M_164 : cw_V rn_M 164 my_M_end mb_M_end 3 none 2 := ⟨wd_82, wd_84, wd_85, wd_3, wd_83, by decide +kernel, by decide +kernel, by decide +kernel⟩
theorem cw_M_167 : cw_S rn_M 167 my_M_framed mb_M_framed 1 (some .int) 1 := ⟨wd_86, wd_88, wd_3, wd_87, by decide +kernel, by decide +kernel, by decide +kernel⟩
theorem cw_M_173 : cw_V rn_M 173 my_M_leave mb_M_leave 4 none 1 := ⟨wd_89, wd_91, wd_92, wd_3, wd_90, by decide +kernel, by decide +kernel, by decide +kernel⟩
theorem cw_M_176 : cw_V rn_M 176 my_M_take mb_M_take 4 none 1 := ⟨wd_93, wd_95, wd_96, wd_3, wd_94, by decide +kernel, by decide +kernel, by decide +kernel⟩
theorem cw_M_179 : cw_V rn_M 179 my_M_next mb_M_next 2 none 0 := ⟨wd_97, wd_99, wd_100, wd_3, wd_98, by decide +kernel, by decide +kernel, by decide +kernel⟩
theorem cw_M_182 : cw_V rn_M 182 my_M_comeLast mb_M_comeLast 2 none 1 := ⟨wd_101, wd_103, wd_104, wd_3, wd_102, by decide +kernel, by decide +kernel, by decide +kernel⟩
theorem cw_M_185 : cw_V rn_M 185 my_M_stack mb_M_stack 3 none 0 := ⟨wd_105, wd_107, wd_108, wd_3, wd_106, by decide +kernel, by decide +kernel, by decide +kernel⟩
theorem cw_M_188 : cw_V rn_M 188 my_M_answer mb_M_answer 7 none 4 := ⟨wd_109, wd_111, wd_112, wd_3, wd_110, by decide +kernel, by decide +kernel, by decide +kernel⟩
theorem cw_M_192 : cw_V rn_M 192 my_M_begin mb_M_begin 6 none 3 := ⟨wd_113, wd_115, wd_116, wd_3, wd_114, by decide +kernel, by decide +kernel, by decide +kernel⟩
theorem cw_M_214 : cw_V rn_M 214 my_M_serve mb_M_serve 3 none 0 := ⟨wd_117, wd_119, wd_120, wd_3, wd_118, by decide +kernel, by decide +kernel, by decide +kernel⟩
theorem cw_M_217 : cw_V rn_M 217 my_M_instruction mb_M_instruction 4 none 0 := ⟨wd_121, wd_123, wd_124, wd_3, wd_122, by decide +kernel, by decide +kernel, by decide +kernel⟩
theorem cw_M_220 : cw_V rn_M 220 my_M_pass mb_M_pass 2 none 1 := ⟨wd_125, wd_127, wd_128, wd_3, wd_126, by decide +kernel, by decide +kernel, by decide +kernel⟩
theorem cw_M_223 : cw_S rn_M 223 my_M_noTask mb_M_noTask 1 (some .boolean) 1 := ⟨wd_129, wd_131, wd_3, wd_130, by decide +kernel, by decide +kernel, by decide +kernel⟩
theorem cw_M_226 : cw_V rn_M 226 my_M_inFrame mb_M_inFrame 4 (some .int) 2 := ⟨wd_132, wd_134, wd_135, wd_3, wd_133, by decide +kernel, by decide +kernel, by decide +kernel⟩
theorem cw_M_39 : cw_V rn_M 39 my_M_at mb_M_at 3 (some .int) 1 := ⟨wd_136, wd_138, wd_139, wd_3, wd_137, by decide +kernel, by decide +kernel, by decide +kernel⟩
theorem cw_M_43 : cw_V rn_M 43 my_M_put mb_M_put 4 none 2 := ⟨wd_140, wd_142, wd_143, wd_3, wd_141, by decide +kernel, by decide +kernel, by decide +kernel⟩
theorem cw_M_47 : cw_V rn_M 47 my_M_load mb_M_load 3 (some .int) 2 := ⟨wd_144, wd_146, wd_147, wd_3, wd_145, by decide +kernel, by decide +kernel, by decide +kernel⟩
theorem cw_M_51 : cw_V rn_M 51 my_M_set mb_M_set 3 none 2 := ⟨wd_148, wd_150, wd_151, wd_3, wd_149, by decide +kernel, by decide +kernel, by decide +kernel⟩
theorem cw_M_54 : cw_V rn_M 54 my_M_fetch mb_M_fetch 2 (some .int) 0 := ⟨wd_152, wd_154, wd_155, wd_3, wd_153, by decide +kernel, by decide +kernel, by decide +kernel⟩
theorem cw_M_58 : cw_V rn_M 58 my_M_store mb_M_store 4 none 3 := ⟨wd_156, wd_158, wd_159, wd_3, wd_157, by decide +kernel, by decide +kernel, by decide +kernel⟩
theorem cw_M_62 : cw_V rn_M 62 my_M_mark mb_M_mark 3 none 2 := ⟨wd_160, wd_162, wd_163, wd_3, wd_161, by decide +kernel, by decide +kernel, by decide +kernel⟩
theorem cw_M_66 : cw_V rn_M 66 my_M_sign mb_M_sign 3 none 2 := ⟨wd_164, wd_166, wd_167, wd_3, wd_165, by decide +kernel, by decide +kernel, by decide +kernel⟩
theorem cw_M_69 : cw_S rn_M 69 my_M_number mb_M_number 2 (some .int) 2 := ⟨wd_168, wd_170, wd_3, wd_169, by decide +kernel, by decide +kernel, by decide +kernel⟩
theorem cw_M_73 : cw_V rn_M 73 my_M_fetchWord mb_M_fetchWord 2 (some .int) 0 := ⟨wd_171, wd_173, wd_174, wd_3, wd_172, by decide +kernel, by decide +kernel, by decide +kernel⟩
theorem cw_M_80 : cw_V rn_M 80 my_M_stepping mb_M_stepping 5 (some .int) 2 := ⟨wd_175, wd_177, wd_178, wd_3, wd_176, by decide +kernel, by decide +kernel, by decide +kernel⟩
theorem cw_M_83 : cw_V rn_M 83 my_M_offset mb_M_offset 5 (some .int) 2 := ⟨wd_179, wd_181, wd_182, wd_3, wd_180, by decide +kernel, by decide +kernel, by decide +kernel⟩
theorem cw_M_86 : cw_S rn_M 86 my_M_signed mb_M_signed 1 (some .int) 1 := ⟨wd_183, wd_185, wd_3, wd_184, by decide +kernel, by decide +kernel, by decide +kernel⟩
theorem cw_M_89 : cw_V rn_M 89 my_M_get mb_M_get 2 (some .int) 1 := ⟨wd_186, wd_188, wd_189, wd_3, wd_187, by decide +kernel, by decide +kernel, by decide +kernel⟩
theorem cw_M_92 : cw_V rn_M 92 my_M_address mb_M_address 7 (some .int) 1 := ⟨wd_190, wd_192, wd_193, wd_3, wd_191, by decide +kernel, by decide +kernel, by decide +kernel⟩
theorem cw_M_95 : cw_V rn_M 95 my_M_plain mb_M_plain 3 (some .int) 2 := ⟨wd_194, wd_196, wd_197, wd_3, wd_195, by decide +kernel, by decide +kernel, by decide +kernel⟩
theorem cw_M_98 : cw_V rn_M 98 my_M_operand mb_M_operand 4 (some .int) 2 := ⟨wd_198, wd_200, wd_201, wd_3, wd_199, by decide +kernel, by decide +kernel, by decide +kernel⟩
end
section
abbrev mw_ (h0 h1 h2 h3 h4 h5 h6 h7 : Nat) (cI : ClassId) (me : Nat → Int32) (rg : Nat → Int32) (so : Nat → Int32) (sv : Nat → Int32) (tl : Nat → Int32) (su : Nat → Int32) (qu : Nat → Int32) (wa : Int32) (ru : Int32) (pe : Int32) (re : Int32) (pn : Bool) (lo : Int32) (se : Int32) (pa : Int32) (sp : Int32) (iv : Bool) : va_W := [(h0, .inr (9, [.ref h1, .ref h2, .ref h3, .ref h4, .ref h5, .ref h6, .ref h7, .int wa, .int ru, .int pe, .int re, .int (bz_i pn), .int lo, .int se, .int pa, .int sp, .int (bz_i iv)])), (h1, .inl (cI, 512, .inl me)), (h2, .inl (cI, 12, .inl rg)), (h3, .inl (cI, 4, .inl so)), (h4, .inl (cI, 4, .inl sv)), (h5, .inl (cI, 4, .inl tl)), (h6, .inl (cI, 4, .inl su)), (h7, .inl (cI, 4, .inl qu))]
section MODEL
variable {p : Program} {l : Launch} {e : Env} {R : Room} {s : State} {m : MethodId} {args : Array Value} {below : List Frame} {meth : Method} {c : Code} {H : Heap} {locs : List Loc} {Q : State → Prop}
variable {cc : ByteArray} {pc nL : Nat} {ls : Array Slot} {rest : List Value} {D : va_G} {A : Nat → Prop}
variable {h0 h1 h2 h3 h4 h5 h6 h7 : Nat} {cI cT : ClassId} {me : Nat → Int32} {rg : Nat → Int32} {so : Nat → Int32} {sv : Nat → Int32} {tl : Nat → Int32} {su : Nat → Int32} {qu : Nat → Int32} {wa : Int32} {ru : Int32} {pe : Int32} {re : Int32} {pn : Bool} {lo : Int32} {se : Int32} {pa : Int32} {sp : Int32} {iv : Bool}
theorem ma_me {i : Int32} {k : Nat} (X : CallFix p m c cc nL s args wg_all rn_M) (hK : va_K D cz_all (ty_ cI cT) s) (hP : va_P D cz_all (mw_ h0 h1 h2 h3 h4 h5 h6 h7 cI me rg so sv tl su qu wa ru pe re pn lo se pa sp iv) H) (hin : vp_in i 512) (hk : i.toNatClampNeg = k) (hdg : decode cc pc = .ok (.iaload, 1)) (kk : W p l e R s m args below meth c H locs 0 0 Q (F0 m (pc + 1) ls (.int (me k) :: rest))) : W p l e R s m args below meth c H locs 0 0 Q (F0 m pc ls (.int i :: .ref h1 :: rest)) := by
  subst hk
  exact va_iald X.1 X.2.1 hK hP 1 0 rfl rfl hin hdg kk
theorem ma_qu {i : Int32} {k : Nat} (X : CallFix p m c cc nL s args wg_all rn_M) (hK : va_K D cz_all (ty_ cI cT) s) (hP : va_P D cz_all (mw_ h0 h1 h2 h3 h4 h5 h6 h7 cI me rg so sv tl su qu wa ru pe re pn lo se pa sp iv) H) (hin : vp_in i 4) (hk : i.toNatClampNeg = k) (hdg : decode cc pc = .ok (.iaload, 1)) (kk : W p l e R s m args below meth c H locs 0 0 Q (F0 m (pc + 1) ls (.int (qu k) :: rest))) : W p l e R s m args below meth c H locs 0 0 Q (F0 m pc ls (.int i :: .ref h7 :: rest)) := by
  subst hk
  exact va_iald X.1 X.2.1 hK hP 7 0 rfl rfl hin hdg kk
theorem ma_rg {i : Int32} {k : Nat} (X : CallFix p m c cc nL s args wg_all rn_M) (hK : va_K D cz_all (ty_ cI cT) s) (hP : va_P D cz_all (mw_ h0 h1 h2 h3 h4 h5 h6 h7 cI me rg so sv tl su qu wa ru pe re pn lo se pa sp iv) H) (hin : vp_in i 12) (hk : i.toNatClampNeg = k) (hdg : decode cc pc = .ok (.iaload, 1)) (kk : W p l e R s m args below meth c H locs 0 0 Q (F0 m (pc + 1) ls (.int (rg k) :: rest))) : W p l e R s m args below meth c H locs 0 0 Q (F0 m pc ls (.int i :: .ref h2 :: rest)) := by
  subst hk
  exact va_iald X.1 X.2.1 hK hP 2 0 rfl rfl hin hdg kk
theorem ma_so {i : Int32} {k : Nat} (X : CallFix p m c cc nL s args wg_all rn_M) (hK : va_K D cz_all (ty_ cI cT) s) (hP : va_P D cz_all (mw_ h0 h1 h2 h3 h4 h5 h6 h7 cI me rg so sv tl su qu wa ru pe re pn lo se pa sp iv) H) (hin : vp_in i 4) (hk : i.toNatClampNeg = k) (hdg : decode cc pc = .ok (.iaload, 1)) (kk : W p l e R s m args below meth c H locs 0 0 Q (F0 m (pc + 1) ls (.int (so k) :: rest))) : W p l e R s m args below meth c H locs 0 0 Q (F0 m pc ls (.int i :: .ref h3 :: rest)) := by
  subst hk
  exact va_iald X.1 X.2.1 hK hP 3 0 rfl rfl hin hdg kk
theorem ma_su {i : Int32} {k : Nat} (X : CallFix p m c cc nL s args wg_all rn_M) (hK : va_K D cz_all (ty_ cI cT) s) (hP : va_P D cz_all (mw_ h0 h1 h2 h3 h4 h5 h6 h7 cI me rg so sv tl su qu wa ru pe re pn lo se pa sp iv) H) (hin : vp_in i 4) (hk : i.toNatClampNeg = k) (hdg : decode cc pc = .ok (.iaload, 1)) (kk : W p l e R s m args below meth c H locs 0 0 Q (F0 m (pc + 1) ls (.int (su k) :: rest))) : W p l e R s m args below meth c H locs 0 0 Q (F0 m pc ls (.int i :: .ref h6 :: rest)) := by
  subst hk
  exact va_iald X.1 X.2.1 hK hP 6 0 rfl rfl hin hdg kk
theorem ma_sv {i : Int32} {k : Nat} (X : CallFix p m c cc nL s args wg_all rn_M) (hK : va_K D cz_all (ty_ cI cT) s) (hP : va_P D cz_all (mw_ h0 h1 h2 h3 h4 h5 h6 h7 cI me rg so sv tl su qu wa ru pe re pn lo se pa sp iv) H) (hin : vp_in i 4) (hk : i.toNatClampNeg = k) (hdg : decode cc pc = .ok (.iaload, 1)) (kk : W p l e R s m args below meth c H locs 0 0 Q (F0 m (pc + 1) ls (.int (sv k) :: rest))) : W p l e R s m args below meth c H locs 0 0 Q (F0 m pc ls (.int i :: .ref h4 :: rest)) := by
  subst hk
  exact va_iald X.1 X.2.1 hK hP 4 0 rfl rfl hin hdg kk
theorem ma_tl {i : Int32} {k : Nat} (X : CallFix p m c cc nL s args wg_all rn_M) (hK : va_K D cz_all (ty_ cI cT) s) (hP : va_P D cz_all (mw_ h0 h1 h2 h3 h4 h5 h6 h7 cI me rg so sv tl su qu wa ru pe re pn lo se pa sp iv) H) (hin : vp_in i 4) (hk : i.toNatClampNeg = k) (hdg : decode cc pc = .ok (.iaload, 1)) (kk : W p l e R s m args below meth c H locs 0 0 Q (F0 m (pc + 1) ls (.int (tl k) :: rest))) : W p l e R s m args below meth c H locs 0 0 Q (F0 m pc ls (.int i :: .ref h5 :: rest)) := by
  subst hk
  exact va_iald X.1 X.2.1 hK hP 5 0 rfl rfl hin hdg kk
theorem mg_invalid (X : CallFix p m c cc nL s args wg_all rn_M) (hK : va_K D cz_all (ty_ cI cT) s) (hP : va_P D cz_all (mw_ h0 h1 h2 h3 h4 h5 h6 h7 cI me rg so sv tl su qu wa ru pe re pn lo se pa sp iv) H) (hdg : decode cc pc = .ok (.getfield 76, 3)) (kk : W p l e R s m args below meth c H locs 0 0 Q (F0 m (pc + 3) ls (.int (bz_i iv) :: rest))) : W p l e R s m args below meth c H locs 0 0 Q (F0 m pc ls (.ref h0 :: rest)) :=
  va_get (D := D) (ci := 9) (v := .int (bz_i iv)) (C := rn_M) (T := fn_M) (N := 17) X.1 X.2.1 X.2.2.2.2 fw_M X.2.2.2.1 hK hP 0 rfl rfl 16 (by decide) (X.2.2.2.2 _ wd_202) (fun _ h9 => h9) rfl hdg kk
theorem mg_lostTicks (X : CallFix p m c cc nL s args wg_all rn_M) (hK : va_K D cz_all (ty_ cI cT) s) (hP : va_P D cz_all (mw_ h0 h1 h2 h3 h4 h5 h6 h7 cI me rg so sv tl su qu wa ru pe re pn lo se pa sp iv) H) (hdg : decode cc pc = .ok (.getfield 205, 3)) (kk : W p l e R s m args below meth c H locs 0 0 Q (F0 m (pc + 3) ls (.int lo :: rest))) : W p l e R s m args below meth c H locs 0 0 Q (F0 m pc ls (.ref h0 :: rest)) :=
  va_get (D := D) (ci := 9) (v := .int lo) (C := rn_M) (T := fn_M) (N := 17) X.1 X.2.1 X.2.2.2.2 fw_M X.2.2.2.1 hK hP 0 rfl rfl 12 (by decide) (X.2.2.2.2 _ wd_203) (fun _ h9 => h9) rfl hdg kk
theorem mg_memory (X : CallFix p m c cc nL s args wg_all rn_M) (hK : va_K D cz_all (ty_ cI cT) s) (hP : va_P D cz_all (mw_ h0 h1 h2 h3 h4 h5 h6 h7 cI me rg so sv tl su qu wa ru pe re pn lo se pa sp iv) H) (hdg : decode cc pc = .ok (.getfield 7, 3)) (kk : W p l e R s m args below meth c H locs 0 0 Q (F0 m (pc + 3) ls (.ref h1 :: rest))) : W p l e R s m args below meth c H locs 0 0 Q (F0 m pc ls (.ref h0 :: rest)) :=
  va_get (D := D) (ci := 9) (v := .ref h1) (C := rn_M) (T := fn_M) (N := 17) X.1 X.2.1 X.2.2.2.2 fw_M X.2.2.2.1 hK hP 0 rfl rfl 0 (by decide) (X.2.2.2.2 _ wd_204) (fun _ h9 => h9) rfl hdg kk
theorem mg_passed (X : CallFix p m c cc nL s args wg_all rn_M) (hK : va_K D cz_all (ty_ cI cT) s) (hP : va_P D cz_all (mw_ h0 h1 h2 h3 h4 h5 h6 h7 cI me rg so sv tl su qu wa ru pe re pn lo se pa sp iv) H) (hdg : decode cc pc = .ok (.getfield 196, 3)) (kk : W p l e R s m args below meth c H locs 0 0 Q (F0 m (pc + 3) ls (.int pa :: rest))) : W p l e R s m args below meth c H locs 0 0 Q (F0 m pc ls (.ref h0 :: rest)) :=
  va_get (D := D) (ci := 9) (v := .int pa) (C := rn_M) (T := fn_M) (N := 17) X.1 X.2.1 X.2.2.2.2 fw_M X.2.2.2.1 hK hP 0 rfl rfl 14 (by decide) (X.2.2.2.2 _ wd_205) (fun _ h9 => h9) rfl hdg kk
theorem mg_pending (X : CallFix p m c cc nL s args wg_all rn_M) (hK : va_K D cz_all (ty_ cI cT) s) (hP : va_P D cz_all (mw_ h0 h1 h2 h3 h4 h5 h6 h7 cI me rg so sv tl su qu wa ru pe re pn lo se pa sp iv) H) (hdg : decode cc pc = .ok (.getfield 208, 3)) (kk : W p l e R s m args below meth c H locs 0 0 Q (F0 m (pc + 3) ls (.int (bz_i pn) :: rest))) : W p l e R s m args below meth c H locs 0 0 Q (F0 m pc ls (.ref h0 :: rest)) :=
  va_get (D := D) (ci := 9) (v := .int (bz_i pn)) (C := rn_M) (T := fn_M) (N := 17) X.1 X.2.1 X.2.2.2.2 fw_M X.2.2.2.1 hK hP 0 rfl rfl 11 (by decide) (X.2.2.2.2 _ wd_206) (fun _ h9 => h9) rfl hdg kk
theorem mg_period (X : CallFix p m c cc nL s args wg_all rn_M) (hK : va_K D cz_all (ty_ cI cT) s) (hP : va_P D cz_all (mw_ h0 h1 h2 h3 h4 h5 h6 h7 cI me rg so sv tl su qu wa ru pe re pn lo se pa sp iv) H) (hdg : decode cc pc = .ok (.getfield 199, 3)) (kk : W p l e R s m args below meth c H locs 0 0 Q (F0 m (pc + 3) ls (.int pe :: rest))) : W p l e R s m args below meth c H locs 0 0 Q (F0 m pc ls (.ref h0 :: rest)) :=
  va_get (D := D) (ci := 9) (v := .int pe) (C := rn_M) (T := fn_M) (N := 17) X.1 X.2.1 X.2.2.2.2 fw_M X.2.2.2.1 hK hP 0 rfl rfl 9 (by decide) (X.2.2.2.2 _ wd_207) (fun _ h9 => h9) rfl hdg kk
theorem mg_queue (X : CallFix p m c cc nL s args wg_all rn_M) (hK : va_K D cz_all (ty_ cI cT) s) (hP : va_P D cz_all (mw_ h0 h1 h2 h3 h4 h5 h6 h7 cI me rg so sv tl su qu wa ru pe re pn lo se pa sp iv) H) (hdg : decode cc pc = .ok (.getfield 28, 3)) (kk : W p l e R s m args below meth c H locs 0 0 Q (F0 m (pc + 3) ls (.ref h7 :: rest))) : W p l e R s m args below meth c H locs 0 0 Q (F0 m pc ls (.ref h0 :: rest)) :=
  va_get (D := D) (ci := 9) (v := .ref h7) (C := rn_M) (T := fn_M) (N := 17) X.1 X.2.1 X.2.2.2.2 fw_M X.2.2.2.1 hK hP 0 rfl rfl 6 (by decide) (X.2.2.2.2 _ wd_208) (fun _ h9 => h9) rfl hdg kk
theorem mg_reg (X : CallFix p m c cc nL s args wg_all rn_M) (hK : va_K D cz_all (ty_ cI cT) s) (hP : va_P D cz_all (mw_ h0 h1 h2 h3 h4 h5 h6 h7 cI me rg so sv tl su qu wa ru pe re pn lo se pa sp iv) H) (hdg : decode cc pc = .ok (.getfield 13, 3)) (kk : W p l e R s m args below meth c H locs 0 0 Q (F0 m (pc + 3) ls (.ref h2 :: rest))) : W p l e R s m args below meth c H locs 0 0 Q (F0 m pc ls (.ref h0 :: rest)) :=
  va_get (D := D) (ci := 9) (v := .ref h2) (C := rn_M) (T := fn_M) (N := 17) X.1 X.2.1 X.2.2.2.2 fw_M X.2.2.2.1 hK hP 0 rfl rfl 1 (by decide) (X.2.2.2.2 _ wd_209) (fun _ h9 => h9) rfl hdg kk
theorem mg_rest (X : CallFix p m c cc nL s args wg_all rn_M) (hK : va_K D cz_all (ty_ cI cT) s) (hP : va_P D cz_all (mw_ h0 h1 h2 h3 h4 h5 h6 h7 cI me rg so sv tl su qu wa ru pe re pn lo se pa sp iv) H) (hdg : decode cc pc = .ok (.getfield 202, 3)) (kk : W p l e R s m args below meth c H locs 0 0 Q (F0 m (pc + 3) ls (.int re :: rest))) : W p l e R s m args below meth c H locs 0 0 Q (F0 m pc ls (.ref h0 :: rest)) :=
  va_get (D := D) (ci := 9) (v := .int re) (C := rn_M) (T := fn_M) (N := 17) X.1 X.2.1 X.2.2.2.2 fw_M X.2.2.2.1 hK hP 0 rfl rfl 10 (by decide) (X.2.2.2.2 _ wd_210) (fun _ h9 => h9) rfl hdg kk
theorem mg_running (X : CallFix p m c cc nL s args wg_all rn_M) (hK : va_K D cz_all (ty_ cI cT) s) (hP : va_P D cz_all (mw_ h0 h1 h2 h3 h4 h5 h6 h7 cI me rg so sv tl su qu wa ru pe re pn lo se pa sp iv) H) (hdg : decode cc pc = .ok (.getfield 31, 3)) (kk : W p l e R s m args below meth c H locs 0 0 Q (F0 m (pc + 3) ls (.int ru :: rest))) : W p l e R s m args below meth c H locs 0 0 Q (F0 m pc ls (.ref h0 :: rest)) :=
  va_get (D := D) (ci := 9) (v := .int ru) (C := rn_M) (T := fn_M) (N := 17) X.1 X.2.1 X.2.2.2.2 fw_M X.2.2.2.1 hK hP 0 rfl rfl 8 (by decide) (X.2.2.2.2 _ wd_211) (fun _ h9 => h9) rfl hdg kk
theorem mg_savedS (X : CallFix p m c cc nL s args wg_all rn_M) (hK : va_K D cz_all (ty_ cI cT) s) (hP : va_P D cz_all (mw_ h0 h1 h2 h3 h4 h5 h6 h7 cI me rg so sv tl su qu wa ru pe re pn lo se pa sp iv) H) (hdg : decode cc pc = .ok (.getfield 19, 3)) (kk : W p l e R s m args below meth c H locs 0 0 Q (F0 m (pc + 3) ls (.ref h4 :: rest))) : W p l e R s m args below meth c H locs 0 0 Q (F0 m pc ls (.ref h0 :: rest)) :=
  va_get (D := D) (ci := 9) (v := .ref h4) (C := rn_M) (T := fn_M) (N := 17) X.1 X.2.1 X.2.2.2.2 fw_M X.2.2.2.1 hK hP 0 rfl rfl 3 (by decide) (X.2.2.2.2 _ wd_212) (fun _ h9 => h9) rfl hdg kk
theorem mg_served (X : CallFix p m c cc nL s args wg_all rn_M) (hK : va_K D cz_all (ty_ cI cT) s) (hP : va_P D cz_all (mw_ h0 h1 h2 h3 h4 h5 h6 h7 cI me rg so sv tl su qu wa ru pe re pn lo se pa sp iv) H) (hdg : decode cc pc = .ok (.getfield 211, 3)) (kk : W p l e R s m args below meth c H locs 0 0 Q (F0 m (pc + 3) ls (.int se :: rest))) : W p l e R s m args below meth c H locs 0 0 Q (F0 m pc ls (.ref h0 :: rest)) :=
  va_get (D := D) (ci := 9) (v := .int se) (C := rn_M) (T := fn_M) (N := 17) X.1 X.2.1 X.2.2.2.2 fw_M X.2.2.2.1 hK hP 0 rfl rfl 13 (by decide) (X.2.2.2.2 _ wd_213) (fun _ h9 => h9) rfl hdg kk
theorem mg_spent (X : CallFix p m c cc nL s args wg_all rn_M) (hK : va_K D cz_all (ty_ cI cT) s) (hP : va_P D cz_all (mw_ h0 h1 h2 h3 h4 h5 h6 h7 cI me rg so sv tl su qu wa ru pe re pn lo se pa sp iv) H) (hdg : decode cc pc = .ok (.getfield 36, 3)) (kk : W p l e R s m args below meth c H locs 0 0 Q (F0 m (pc + 3) ls (.int sp :: rest))) : W p l e R s m args below meth c H locs 0 0 Q (F0 m pc ls (.ref h0 :: rest)) :=
  va_get (D := D) (ci := 9) (v := .int sp) (C := rn_M) (T := fn_M) (N := 17) X.1 X.2.1 X.2.2.2.2 fw_M X.2.2.2.1 hK hP 0 rfl rfl 15 (by decide) (X.2.2.2.2 _ wd_214) (fun _ h9 => h9) rfl hdg kk
theorem mg_stateOf (X : CallFix p m c cc nL s args wg_all rn_M) (hK : va_K D cz_all (ty_ cI cT) s) (hP : va_P D cz_all (mw_ h0 h1 h2 h3 h4 h5 h6 h7 cI me rg so sv tl su qu wa ru pe re pn lo se pa sp iv) H) (hdg : decode cc pc = .ok (.getfield 16, 3)) (kk : W p l e R s m args below meth c H locs 0 0 Q (F0 m (pc + 3) ls (.ref h3 :: rest))) : W p l e R s m args below meth c H locs 0 0 Q (F0 m pc ls (.ref h0 :: rest)) :=
  va_get (D := D) (ci := 9) (v := .ref h3) (C := rn_M) (T := fn_M) (N := 17) X.1 X.2.1 X.2.2.2.2 fw_M X.2.2.2.1 hK hP 0 rfl rfl 2 (by decide) (X.2.2.2.2 _ wd_215) (fun _ h9 => h9) rfl hdg kk
theorem mg_statusOf (X : CallFix p m c cc nL s args wg_all rn_M) (hK : va_K D cz_all (ty_ cI cT) s) (hP : va_P D cz_all (mw_ h0 h1 h2 h3 h4 h5 h6 h7 cI me rg so sv tl su qu wa ru pe re pn lo se pa sp iv) H) (hdg : decode cc pc = .ok (.getfield 25, 3)) (kk : W p l e R s m args below meth c H locs 0 0 Q (F0 m (pc + 3) ls (.ref h6 :: rest))) : W p l e R s m args below meth c H locs 0 0 Q (F0 m pc ls (.ref h0 :: rest)) :=
  va_get (D := D) (ci := 9) (v := .ref h6) (C := rn_M) (T := fn_M) (N := 17) X.1 X.2.1 X.2.2.2.2 fw_M X.2.2.2.1 hK hP 0 rfl rfl 5 (by decide) (X.2.2.2.2 _ wd_216) (fun _ h9 => h9) rfl hdg kk
theorem mg_toSleep (X : CallFix p m c cc nL s args wg_all rn_M) (hK : va_K D cz_all (ty_ cI cT) s) (hP : va_P D cz_all (mw_ h0 h1 h2 h3 h4 h5 h6 h7 cI me rg so sv tl su qu wa ru pe re pn lo se pa sp iv) H) (hdg : decode cc pc = .ok (.getfield 22, 3)) (kk : W p l e R s m args below meth c H locs 0 0 Q (F0 m (pc + 3) ls (.ref h5 :: rest))) : W p l e R s m args below meth c H locs 0 0 Q (F0 m pc ls (.ref h0 :: rest)) :=
  va_get (D := D) (ci := 9) (v := .ref h5) (C := rn_M) (T := fn_M) (N := 17) X.1 X.2.1 X.2.2.2.2 fw_M X.2.2.2.1 hK hP 0 rfl rfl 4 (by decide) (X.2.2.2.2 _ wd_217) (fun _ h9 => h9) rfl hdg kk
theorem mg_waits (X : CallFix p m c cc nL s args wg_all rn_M) (hK : va_K D cz_all (ty_ cI cT) s) (hP : va_P D cz_all (mw_ h0 h1 h2 h3 h4 h5 h6 h7 cI me rg so sv tl su qu wa ru pe re pn lo se pa sp iv) H) (hdg : decode cc pc = .ok (.getfield 170, 3)) (kk : W p l e R s m args below meth c H locs 0 0 Q (F0 m (pc + 3) ls (.int wa :: rest))) : W p l e R s m args below meth c H locs 0 0 Q (F0 m pc ls (.ref h0 :: rest)) :=
  va_get (D := D) (ci := 9) (v := .int wa) (C := rn_M) (T := fn_M) (N := 17) X.1 X.2.1 X.2.2.2.2 fw_M X.2.2.2.1 hK hP 0 rfl rfl 7 (by decide) (X.2.2.2.2 _ wd_218) (fun _ h9 => h9) rfl hdg kk
theorem mp_invalid {x : Bool} (X : CallFix p m c cc nL s args wg_all rn_M) (hK : va_K D cz_all (ty_ cI cT) s) (hP : va_P D cz_all (mw_ h0 h1 h2 h3 h4 h5 h6 h7 cI me rg so sv tl su qu wa ru pe re pn lo se pa sp iv) H) (hD : va_D A (mw_ h0 h1 h2 h3 h4 h5 h6 h7 cI me rg so sv tl su qu wa ru pe re pn lo se pa sp iv)) (hS : va_S A s.heap H locs) (hdg : decode cc pc = .ok (.putfield 76, 3)) (kk : ∀ (H1 : Heap) (locs1 : List Loc), va_P D cz_all (mw_ h0 h1 h2 h3 h4 h5 h6 h7 cI me rg so sv tl su qu wa ru pe re pn lo se pa sp x) H1 → va_D A (mw_ h0 h1 h2 h3 h4 h5 h6 h7 cI me rg so sv tl su qu wa ru pe re pn lo se pa sp x) → va_S A s.heap H1 locs1 → W p l e R s m args below meth c H1 locs1 0 0 Q (F0 m (pc + 3) ls rest)) : W p l e R s m args below meth c H locs 0 0 Q (F0 m pc ls (.int (bz_i x) :: .ref h0 :: rest)) :=
  va_put (D := D) (ci := 9) (v := .int (bz_i x)) (ty := .boolean) (C := rn_M) (T := fn_M) (N := 17) X.1 X.2.1 X.2.2.2.2 fw_M ft_M fk_M fd_M X.2.2.2.1 hK hP hD hS 0 rfl rfl 16 (by decide) (X.2.2.2.2 _ wd_202) (fun _ h9 => h9) rfl (by decide +kernel) (bz_n x) (bz_f x) (Nat.le_of_ble_eq_true rfl) hdg kk
theorem mp_lostTicks {x : Int32} (X : CallFix p m c cc nL s args wg_all rn_M) (hK : va_K D cz_all (ty_ cI cT) s) (hP : va_P D cz_all (mw_ h0 h1 h2 h3 h4 h5 h6 h7 cI me rg so sv tl su qu wa ru pe re pn lo se pa sp iv) H) (hD : va_D A (mw_ h0 h1 h2 h3 h4 h5 h6 h7 cI me rg so sv tl su qu wa ru pe re pn lo se pa sp iv)) (hS : va_S A s.heap H locs) (hdg : decode cc pc = .ok (.putfield 205, 3)) (kk : ∀ (H1 : Heap) (locs1 : List Loc), va_P D cz_all (mw_ h0 h1 h2 h3 h4 h5 h6 h7 cI me rg so sv tl su qu wa ru pe re pn x se pa sp iv) H1 → va_D A (mw_ h0 h1 h2 h3 h4 h5 h6 h7 cI me rg so sv tl su qu wa ru pe re pn x se pa sp iv) → va_S A s.heap H1 locs1 → W p l e R s m args below meth c H1 locs1 0 0 Q (F0 m (pc + 3) ls rest)) : W p l e R s m args below meth c H locs 0 0 Q (F0 m pc ls (.int x :: .ref h0 :: rest)) :=
  va_put (D := D) (ci := 9) (v := .int x) (ty := .int) (C := rn_M) (T := fn_M) (N := 17) X.1 X.2.1 X.2.2.2.2 fw_M ft_M fk_M fd_M X.2.2.2.1 hK hP hD hS 0 rfl rfl 12 (by decide) (X.2.2.2.2 _ wd_203) (fun _ h9 => h9) rfl (by decide +kernel) rfl rfl (Nat.le_of_ble_eq_true rfl) hdg kk
theorem mp_passed {x : Int32} (X : CallFix p m c cc nL s args wg_all rn_M) (hK : va_K D cz_all (ty_ cI cT) s) (hP : va_P D cz_all (mw_ h0 h1 h2 h3 h4 h5 h6 h7 cI me rg so sv tl su qu wa ru pe re pn lo se pa sp iv) H) (hD : va_D A (mw_ h0 h1 h2 h3 h4 h5 h6 h7 cI me rg so sv tl su qu wa ru pe re pn lo se pa sp iv)) (hS : va_S A s.heap H locs) (hdg : decode cc pc = .ok (.putfield 196, 3)) (kk : ∀ (H1 : Heap) (locs1 : List Loc), va_P D cz_all (mw_ h0 h1 h2 h3 h4 h5 h6 h7 cI me rg so sv tl su qu wa ru pe re pn lo se x sp iv) H1 → va_D A (mw_ h0 h1 h2 h3 h4 h5 h6 h7 cI me rg so sv tl su qu wa ru pe re pn lo se x sp iv) → va_S A s.heap H1 locs1 → W p l e R s m args below meth c H1 locs1 0 0 Q (F0 m (pc + 3) ls rest)) : W p l e R s m args below meth c H locs 0 0 Q (F0 m pc ls (.int x :: .ref h0 :: rest)) :=
  va_put (D := D) (ci := 9) (v := .int x) (ty := .int) (C := rn_M) (T := fn_M) (N := 17) X.1 X.2.1 X.2.2.2.2 fw_M ft_M fk_M fd_M X.2.2.2.1 hK hP hD hS 0 rfl rfl 14 (by decide) (X.2.2.2.2 _ wd_205) (fun _ h9 => h9) rfl (by decide +kernel) rfl rfl (Nat.le_of_ble_eq_true rfl) hdg kk
theorem mp_pending {x : Bool} (X : CallFix p m c cc nL s args wg_all rn_M) (hK : va_K D cz_all (ty_ cI cT) s) (hP : va_P D cz_all (mw_ h0 h1 h2 h3 h4 h5 h6 h7 cI me rg so sv tl su qu wa ru pe re pn lo se pa sp iv) H) (hD : va_D A (mw_ h0 h1 h2 h3 h4 h5 h6 h7 cI me rg so sv tl su qu wa ru pe re pn lo se pa sp iv)) (hS : va_S A s.heap H locs) (hdg : decode cc pc = .ok (.putfield 208, 3)) (kk : ∀ (H1 : Heap) (locs1 : List Loc), va_P D cz_all (mw_ h0 h1 h2 h3 h4 h5 h6 h7 cI me rg so sv tl su qu wa ru pe re x lo se pa sp iv) H1 → va_D A (mw_ h0 h1 h2 h3 h4 h5 h6 h7 cI me rg so sv tl su qu wa ru pe re x lo se pa sp iv) → va_S A s.heap H1 locs1 → W p l e R s m args below meth c H1 locs1 0 0 Q (F0 m (pc + 3) ls rest)) : W p l e R s m args below meth c H locs 0 0 Q (F0 m pc ls (.int (bz_i x) :: .ref h0 :: rest)) :=
  va_put (D := D) (ci := 9) (v := .int (bz_i x)) (ty := .boolean) (C := rn_M) (T := fn_M) (N := 17) X.1 X.2.1 X.2.2.2.2 fw_M ft_M fk_M fd_M X.2.2.2.1 hK hP hD hS 0 rfl rfl 11 (by decide) (X.2.2.2.2 _ wd_206) (fun _ h9 => h9) rfl (by decide +kernel) (bz_n x) (bz_f x) (Nat.le_of_ble_eq_true rfl) hdg kk
theorem mp_period {x : Int32} (X : CallFix p m c cc nL s args wg_all rn_M) (hK : va_K D cz_all (ty_ cI cT) s) (hP : va_P D cz_all (mw_ h0 h1 h2 h3 h4 h5 h6 h7 cI me rg so sv tl su qu wa ru pe re pn lo se pa sp iv) H) (hD : va_D A (mw_ h0 h1 h2 h3 h4 h5 h6 h7 cI me rg so sv tl su qu wa ru pe re pn lo se pa sp iv)) (hS : va_S A s.heap H locs) (hdg : decode cc pc = .ok (.putfield 199, 3)) (kk : ∀ (H1 : Heap) (locs1 : List Loc), va_P D cz_all (mw_ h0 h1 h2 h3 h4 h5 h6 h7 cI me rg so sv tl su qu wa ru x re pn lo se pa sp iv) H1 → va_D A (mw_ h0 h1 h2 h3 h4 h5 h6 h7 cI me rg so sv tl su qu wa ru x re pn lo se pa sp iv) → va_S A s.heap H1 locs1 → W p l e R s m args below meth c H1 locs1 0 0 Q (F0 m (pc + 3) ls rest)) : W p l e R s m args below meth c H locs 0 0 Q (F0 m pc ls (.int x :: .ref h0 :: rest)) :=
  va_put (D := D) (ci := 9) (v := .int x) (ty := .int) (C := rn_M) (T := fn_M) (N := 17) X.1 X.2.1 X.2.2.2.2 fw_M ft_M fk_M fd_M X.2.2.2.1 hK hP hD hS 0 rfl rfl 9 (by decide) (X.2.2.2.2 _ wd_207) (fun _ h9 => h9) rfl (by decide +kernel) rfl rfl (Nat.le_of_ble_eq_true rfl) hdg kk
theorem mp_rest {x : Int32} (X : CallFix p m c cc nL s args wg_all rn_M) (hK : va_K D cz_all (ty_ cI cT) s) (hP : va_P D cz_all (mw_ h0 h1 h2 h3 h4 h5 h6 h7 cI me rg so sv tl su qu wa ru pe re pn lo se pa sp iv) H) (hD : va_D A (mw_ h0 h1 h2 h3 h4 h5 h6 h7 cI me rg so sv tl su qu wa ru pe re pn lo se pa sp iv)) (hS : va_S A s.heap H locs) (hdg : decode cc pc = .ok (.putfield 202, 3)) (kk : ∀ (H1 : Heap) (locs1 : List Loc), va_P D cz_all (mw_ h0 h1 h2 h3 h4 h5 h6 h7 cI me rg so sv tl su qu wa ru pe x pn lo se pa sp iv) H1 → va_D A (mw_ h0 h1 h2 h3 h4 h5 h6 h7 cI me rg so sv tl su qu wa ru pe x pn lo se pa sp iv) → va_S A s.heap H1 locs1 → W p l e R s m args below meth c H1 locs1 0 0 Q (F0 m (pc + 3) ls rest)) : W p l e R s m args below meth c H locs 0 0 Q (F0 m pc ls (.int x :: .ref h0 :: rest)) :=
  va_put (D := D) (ci := 9) (v := .int x) (ty := .int) (C := rn_M) (T := fn_M) (N := 17) X.1 X.2.1 X.2.2.2.2 fw_M ft_M fk_M fd_M X.2.2.2.1 hK hP hD hS 0 rfl rfl 10 (by decide) (X.2.2.2.2 _ wd_210) (fun _ h9 => h9) rfl (by decide +kernel) rfl rfl (Nat.le_of_ble_eq_true rfl) hdg kk
theorem mp_running {x : Int32} (X : CallFix p m c cc nL s args wg_all rn_M) (hK : va_K D cz_all (ty_ cI cT) s) (hP : va_P D cz_all (mw_ h0 h1 h2 h3 h4 h5 h6 h7 cI me rg so sv tl su qu wa ru pe re pn lo se pa sp iv) H) (hD : va_D A (mw_ h0 h1 h2 h3 h4 h5 h6 h7 cI me rg so sv tl su qu wa ru pe re pn lo se pa sp iv)) (hS : va_S A s.heap H locs) (hdg : decode cc pc = .ok (.putfield 31, 3)) (kk : ∀ (H1 : Heap) (locs1 : List Loc), va_P D cz_all (mw_ h0 h1 h2 h3 h4 h5 h6 h7 cI me rg so sv tl su qu wa x pe re pn lo se pa sp iv) H1 → va_D A (mw_ h0 h1 h2 h3 h4 h5 h6 h7 cI me rg so sv tl su qu wa x pe re pn lo se pa sp iv) → va_S A s.heap H1 locs1 → W p l e R s m args below meth c H1 locs1 0 0 Q (F0 m (pc + 3) ls rest)) : W p l e R s m args below meth c H locs 0 0 Q (F0 m pc ls (.int x :: .ref h0 :: rest)) :=
  va_put (D := D) (ci := 9) (v := .int x) (ty := .int) (C := rn_M) (T := fn_M) (N := 17) X.1 X.2.1 X.2.2.2.2 fw_M ft_M fk_M fd_M X.2.2.2.1 hK hP hD hS 0 rfl rfl 8 (by decide) (X.2.2.2.2 _ wd_211) (fun _ h9 => h9) rfl (by decide +kernel) rfl rfl (Nat.le_of_ble_eq_true rfl) hdg kk
theorem mp_served {x : Int32} (X : CallFix p m c cc nL s args wg_all rn_M) (hK : va_K D cz_all (ty_ cI cT) s) (hP : va_P D cz_all (mw_ h0 h1 h2 h3 h4 h5 h6 h7 cI me rg so sv tl su qu wa ru pe re pn lo se pa sp iv) H) (hD : va_D A (mw_ h0 h1 h2 h3 h4 h5 h6 h7 cI me rg so sv tl su qu wa ru pe re pn lo se pa sp iv)) (hS : va_S A s.heap H locs) (hdg : decode cc pc = .ok (.putfield 211, 3)) (kk : ∀ (H1 : Heap) (locs1 : List Loc), va_P D cz_all (mw_ h0 h1 h2 h3 h4 h5 h6 h7 cI me rg so sv tl su qu wa ru pe re pn lo x pa sp iv) H1 → va_D A (mw_ h0 h1 h2 h3 h4 h5 h6 h7 cI me rg so sv tl su qu wa ru pe re pn lo x pa sp iv) → va_S A s.heap H1 locs1 → W p l e R s m args below meth c H1 locs1 0 0 Q (F0 m (pc + 3) ls rest)) : W p l e R s m args below meth c H locs 0 0 Q (F0 m pc ls (.int x :: .ref h0 :: rest)) :=
  va_put (D := D) (ci := 9) (v := .int x) (ty := .int) (C := rn_M) (T := fn_M) (N := 17) X.1 X.2.1 X.2.2.2.2 fw_M ft_M fk_M fd_M X.2.2.2.1 hK hP hD hS 0 rfl rfl 13 (by decide) (X.2.2.2.2 _ wd_213) (fun _ h9 => h9) rfl (by decide +kernel) rfl rfl (Nat.le_of_ble_eq_true rfl) hdg kk
theorem mp_spent {x : Int32} (X : CallFix p m c cc nL s args wg_all rn_M) (hK : va_K D cz_all (ty_ cI cT) s) (hP : va_P D cz_all (mw_ h0 h1 h2 h3 h4 h5 h6 h7 cI me rg so sv tl su qu wa ru pe re pn lo se pa sp iv) H) (hD : va_D A (mw_ h0 h1 h2 h3 h4 h5 h6 h7 cI me rg so sv tl su qu wa ru pe re pn lo se pa sp iv)) (hS : va_S A s.heap H locs) (hdg : decode cc pc = .ok (.putfield 36, 3)) (kk : ∀ (H1 : Heap) (locs1 : List Loc), va_P D cz_all (mw_ h0 h1 h2 h3 h4 h5 h6 h7 cI me rg so sv tl su qu wa ru pe re pn lo se pa x iv) H1 → va_D A (mw_ h0 h1 h2 h3 h4 h5 h6 h7 cI me rg so sv tl su qu wa ru pe re pn lo se pa x iv) → va_S A s.heap H1 locs1 → W p l e R s m args below meth c H1 locs1 0 0 Q (F0 m (pc + 3) ls rest)) : W p l e R s m args below meth c H locs 0 0 Q (F0 m pc ls (.int x :: .ref h0 :: rest)) :=
  va_put (D := D) (ci := 9) (v := .int x) (ty := .int) (C := rn_M) (T := fn_M) (N := 17) X.1 X.2.1 X.2.2.2.2 fw_M ft_M fk_M fd_M X.2.2.2.1 hK hP hD hS 0 rfl rfl 15 (by decide) (X.2.2.2.2 _ wd_214) (fun _ h9 => h9) rfl (by decide +kernel) rfl rfl (Nat.le_of_ble_eq_true rfl) hdg kk
theorem mp_waits {x : Int32} (X : CallFix p m c cc nL s args wg_all rn_M) (hK : va_K D cz_all (ty_ cI cT) s) (hP : va_P D cz_all (mw_ h0 h1 h2 h3 h4 h5 h6 h7 cI me rg so sv tl su qu wa ru pe re pn lo se pa sp iv) H) (hD : va_D A (mw_ h0 h1 h2 h3 h4 h5 h6 h7 cI me rg so sv tl su qu wa ru pe re pn lo se pa sp iv)) (hS : va_S A s.heap H locs) (hdg : decode cc pc = .ok (.putfield 170, 3)) (kk : ∀ (H1 : Heap) (locs1 : List Loc), va_P D cz_all (mw_ h0 h1 h2 h3 h4 h5 h6 h7 cI me rg so sv tl su qu x ru pe re pn lo se pa sp iv) H1 → va_D A (mw_ h0 h1 h2 h3 h4 h5 h6 h7 cI me rg so sv tl su qu x ru pe re pn lo se pa sp iv) → va_S A s.heap H1 locs1 → W p l e R s m args below meth c H1 locs1 0 0 Q (F0 m (pc + 3) ls rest)) : W p l e R s m args below meth c H locs 0 0 Q (F0 m pc ls (.int x :: .ref h0 :: rest)) :=
  va_put (D := D) (ci := 9) (v := .int x) (ty := .int) (C := rn_M) (T := fn_M) (N := 17) X.1 X.2.1 X.2.2.2.2 fw_M ft_M fk_M fd_M X.2.2.2.1 hK hP hD hS 0 rfl rfl 7 (by decide) (X.2.2.2.2 _ wd_218) (fun _ h9 => h9) rfl (by decide +kernel) rfl rfl (Nat.le_of_ble_eq_true rfl) hdg kk
theorem ms_me {i x : Int32} {k : Nat} (X : CallFix p m c cc nL s args wg_all rn_M) (hK : va_K D cz_all (ty_ cI cT) s) (hP : va_P D cz_all (mw_ h0 h1 h2 h3 h4 h5 h6 h7 cI me rg so sv tl su qu wa ru pe re pn lo se pa sp iv) H) (hD : va_D A (mw_ h0 h1 h2 h3 h4 h5 h6 h7 cI me rg so sv tl su qu wa ru pe re pn lo se pa sp iv)) (hS : va_S A s.heap H locs) (hin : vp_in i 512) (hk : i.toNatClampNeg = k) (hdg : decode cc pc = .ok (.iastore, 1)) (kk : ∀ (H1 : Heap) (locs1 : List Loc), va_P D cz_all (mw_ h0 h1 h2 h3 h4 h5 h6 h7 cI (upd me k x) rg so sv tl su qu wa ru pe re pn lo se pa sp iv) H1 → va_D A (mw_ h0 h1 h2 h3 h4 h5 h6 h7 cI (upd me k x) rg so sv tl su qu wa ru pe re pn lo se pa sp iv) → va_S A s.heap H1 locs1 → W p l e R s m args below meth c H1 locs1 0 0 Q (F0 m (pc + 1) ls rest)) : W p l e R s m args below meth c H locs 0 0 Q (F0 m pc ls (.int x :: .int i :: .ref h1 :: rest)) := by
  subst hk
  exact va_iast X.1 X.2.1 hK hP hD hS 1 0 rfl rfl hin hdg kk
theorem ms_qu {i x : Int32} {k : Nat} (X : CallFix p m c cc nL s args wg_all rn_M) (hK : va_K D cz_all (ty_ cI cT) s) (hP : va_P D cz_all (mw_ h0 h1 h2 h3 h4 h5 h6 h7 cI me rg so sv tl su qu wa ru pe re pn lo se pa sp iv) H) (hD : va_D A (mw_ h0 h1 h2 h3 h4 h5 h6 h7 cI me rg so sv tl su qu wa ru pe re pn lo se pa sp iv)) (hS : va_S A s.heap H locs) (hin : vp_in i 4) (hk : i.toNatClampNeg = k) (hdg : decode cc pc = .ok (.iastore, 1)) (kk : ∀ (H1 : Heap) (locs1 : List Loc), va_P D cz_all (mw_ h0 h1 h2 h3 h4 h5 h6 h7 cI me rg so sv tl su (upd qu k x) wa ru pe re pn lo se pa sp iv) H1 → va_D A (mw_ h0 h1 h2 h3 h4 h5 h6 h7 cI me rg so sv tl su (upd qu k x) wa ru pe re pn lo se pa sp iv) → va_S A s.heap H1 locs1 → W p l e R s m args below meth c H1 locs1 0 0 Q (F0 m (pc + 1) ls rest)) : W p l e R s m args below meth c H locs 0 0 Q (F0 m pc ls (.int x :: .int i :: .ref h7 :: rest)) := by
  subst hk
  exact va_iast X.1 X.2.1 hK hP hD hS 7 0 rfl rfl hin hdg kk
theorem ms_rg {i x : Int32} {k : Nat} (X : CallFix p m c cc nL s args wg_all rn_M) (hK : va_K D cz_all (ty_ cI cT) s) (hP : va_P D cz_all (mw_ h0 h1 h2 h3 h4 h5 h6 h7 cI me rg so sv tl su qu wa ru pe re pn lo se pa sp iv) H) (hD : va_D A (mw_ h0 h1 h2 h3 h4 h5 h6 h7 cI me rg so sv tl su qu wa ru pe re pn lo se pa sp iv)) (hS : va_S A s.heap H locs) (hin : vp_in i 12) (hk : i.toNatClampNeg = k) (hdg : decode cc pc = .ok (.iastore, 1)) (kk : ∀ (H1 : Heap) (locs1 : List Loc), va_P D cz_all (mw_ h0 h1 h2 h3 h4 h5 h6 h7 cI me (upd rg k x) so sv tl su qu wa ru pe re pn lo se pa sp iv) H1 → va_D A (mw_ h0 h1 h2 h3 h4 h5 h6 h7 cI me (upd rg k x) so sv tl su qu wa ru pe re pn lo se pa sp iv) → va_S A s.heap H1 locs1 → W p l e R s m args below meth c H1 locs1 0 0 Q (F0 m (pc + 1) ls rest)) : W p l e R s m args below meth c H locs 0 0 Q (F0 m pc ls (.int x :: .int i :: .ref h2 :: rest)) := by
  subst hk
  exact va_iast X.1 X.2.1 hK hP hD hS 2 0 rfl rfl hin hdg kk
theorem ms_so {i x : Int32} {k : Nat} (X : CallFix p m c cc nL s args wg_all rn_M) (hK : va_K D cz_all (ty_ cI cT) s) (hP : va_P D cz_all (mw_ h0 h1 h2 h3 h4 h5 h6 h7 cI me rg so sv tl su qu wa ru pe re pn lo se pa sp iv) H) (hD : va_D A (mw_ h0 h1 h2 h3 h4 h5 h6 h7 cI me rg so sv tl su qu wa ru pe re pn lo se pa sp iv)) (hS : va_S A s.heap H locs) (hin : vp_in i 4) (hk : i.toNatClampNeg = k) (hdg : decode cc pc = .ok (.iastore, 1)) (kk : ∀ (H1 : Heap) (locs1 : List Loc), va_P D cz_all (mw_ h0 h1 h2 h3 h4 h5 h6 h7 cI me rg (upd so k x) sv tl su qu wa ru pe re pn lo se pa sp iv) H1 → va_D A (mw_ h0 h1 h2 h3 h4 h5 h6 h7 cI me rg (upd so k x) sv tl su qu wa ru pe re pn lo se pa sp iv) → va_S A s.heap H1 locs1 → W p l e R s m args below meth c H1 locs1 0 0 Q (F0 m (pc + 1) ls rest)) : W p l e R s m args below meth c H locs 0 0 Q (F0 m pc ls (.int x :: .int i :: .ref h3 :: rest)) := by
  subst hk
  exact va_iast X.1 X.2.1 hK hP hD hS 3 0 rfl rfl hin hdg kk
theorem ms_su {i x : Int32} {k : Nat} (X : CallFix p m c cc nL s args wg_all rn_M) (hK : va_K D cz_all (ty_ cI cT) s) (hP : va_P D cz_all (mw_ h0 h1 h2 h3 h4 h5 h6 h7 cI me rg so sv tl su qu wa ru pe re pn lo se pa sp iv) H) (hD : va_D A (mw_ h0 h1 h2 h3 h4 h5 h6 h7 cI me rg so sv tl su qu wa ru pe re pn lo se pa sp iv)) (hS : va_S A s.heap H locs) (hin : vp_in i 4) (hk : i.toNatClampNeg = k) (hdg : decode cc pc = .ok (.iastore, 1)) (kk : ∀ (H1 : Heap) (locs1 : List Loc), va_P D cz_all (mw_ h0 h1 h2 h3 h4 h5 h6 h7 cI me rg so sv tl (upd su k x) qu wa ru pe re pn lo se pa sp iv) H1 → va_D A (mw_ h0 h1 h2 h3 h4 h5 h6 h7 cI me rg so sv tl (upd su k x) qu wa ru pe re pn lo se pa sp iv) → va_S A s.heap H1 locs1 → W p l e R s m args below meth c H1 locs1 0 0 Q (F0 m (pc + 1) ls rest)) : W p l e R s m args below meth c H locs 0 0 Q (F0 m pc ls (.int x :: .int i :: .ref h6 :: rest)) := by
  subst hk
  exact va_iast X.1 X.2.1 hK hP hD hS 6 0 rfl rfl hin hdg kk
theorem ms_sv {i x : Int32} {k : Nat} (X : CallFix p m c cc nL s args wg_all rn_M) (hK : va_K D cz_all (ty_ cI cT) s) (hP : va_P D cz_all (mw_ h0 h1 h2 h3 h4 h5 h6 h7 cI me rg so sv tl su qu wa ru pe re pn lo se pa sp iv) H) (hD : va_D A (mw_ h0 h1 h2 h3 h4 h5 h6 h7 cI me rg so sv tl su qu wa ru pe re pn lo se pa sp iv)) (hS : va_S A s.heap H locs) (hin : vp_in i 4) (hk : i.toNatClampNeg = k) (hdg : decode cc pc = .ok (.iastore, 1)) (kk : ∀ (H1 : Heap) (locs1 : List Loc), va_P D cz_all (mw_ h0 h1 h2 h3 h4 h5 h6 h7 cI me rg so (upd sv k x) tl su qu wa ru pe re pn lo se pa sp iv) H1 → va_D A (mw_ h0 h1 h2 h3 h4 h5 h6 h7 cI me rg so (upd sv k x) tl su qu wa ru pe re pn lo se pa sp iv) → va_S A s.heap H1 locs1 → W p l e R s m args below meth c H1 locs1 0 0 Q (F0 m (pc + 1) ls rest)) : W p l e R s m args below meth c H locs 0 0 Q (F0 m pc ls (.int x :: .int i :: .ref h4 :: rest)) := by
  subst hk
  exact va_iast X.1 X.2.1 hK hP hD hS 4 0 rfl rfl hin hdg kk
theorem ms_tl {i x : Int32} {k : Nat} (X : CallFix p m c cc nL s args wg_all rn_M) (hK : va_K D cz_all (ty_ cI cT) s) (hP : va_P D cz_all (mw_ h0 h1 h2 h3 h4 h5 h6 h7 cI me rg so sv tl su qu wa ru pe re pn lo se pa sp iv) H) (hD : va_D A (mw_ h0 h1 h2 h3 h4 h5 h6 h7 cI me rg so sv tl su qu wa ru pe re pn lo se pa sp iv)) (hS : va_S A s.heap H locs) (hin : vp_in i 4) (hk : i.toNatClampNeg = k) (hdg : decode cc pc = .ok (.iastore, 1)) (kk : ∀ (H1 : Heap) (locs1 : List Loc), va_P D cz_all (mw_ h0 h1 h2 h3 h4 h5 h6 h7 cI me rg so sv (upd tl k x) su qu wa ru pe re pn lo se pa sp iv) H1 → va_D A (mw_ h0 h1 h2 h3 h4 h5 h6 h7 cI me rg so sv (upd tl k x) su qu wa ru pe re pn lo se pa sp iv) → va_S A s.heap H1 locs1 → W p l e R s m args below meth c H1 locs1 0 0 Q (F0 m (pc + 1) ls rest)) : W p l e R s m args below meth c H locs 0 0 Q (F0 m pc ls (.int x :: .int i :: .ref h5 :: rest)) := by
  subst hk
  exact va_iast X.1 X.2.1 hK hP hD hS 5 0 rfl rfl hin hdg kk
end MODEL
end
section
abbrev rm_m_signed : Room := { frames := 0, cells := 0, slots := 0, locals := 0 }
abbrev rm_m_at : Room := { frames := 0, cells := 0, slots := 0, locals := 0 }
abbrev rm_m_put : Room := { frames := 0, cells := 0, slots := 0, locals := 0 }
abbrev rm_m_get : Room := { frames := 0, cells := 0, slots := 0, locals := 0 }
abbrev rm_m_set : Room := { frames := 0, cells := 0, slots := 0, locals := 0 }
abbrev rm_m_load : Room := { frames := 1, cells := 0, slots := 0, locals := 22 }
abbrev rm_m_store : Room := { frames := 1, cells := 0, slots := 0, locals := 23 }
abbrev rm_m_fetch : Room := { frames := 2, cells := 0, slots := 0, locals := 44 }
abbrev rm_m_fetchWord : Room := { frames := 3, cells := 0, slots := 0, locals := 65 }
abbrev rm_m_push : Room := { frames := 2, cells := 0, slots := 0, locals := 46 }
abbrev rm_m_pull : Room := { frames := 2, cells := 0, slots := 0, locals := 44 }
abbrev rm_m_flag : Room := { frames := 0, cells := 0, slots := 0, locals := 0 }
abbrev rm_m_mark : Room := { frames := 0, cells := 0, slots := 0, locals := 0 }
abbrev rm_m_sign : Room := { frames := 1, cells := 0, slots := 0, locals := 22 }
abbrev rm_m_plain : Room := { frames := 2, cells := 0, slots := 0, locals := 44 }
abbrev rm_m_number : Room := { frames := 0, cells := 0, slots := 0, locals := 0 }
abbrev rm_m_sum : Room := { frames := 2, cells := 0, slots := 0, locals := 44 }
abbrev rm_m_difference : Room := { frames := 2, cells := 0, slots := 0, locals := 44 }
abbrev rm_m_stepping : Room := { frames := 1, cells := 0, slots := 0, locals := 22 }
abbrev rm_m_offset : Room := { frames := 4, cells := 0, slots := 0, locals := 86 }
abbrev rm_m_address : Room := { frames := 5, cells := 0, slots := 0, locals := 110 }
abbrev rm_m_operand : Room := { frames := 6, cells := 0, slots := 0, locals := 136 }
abbrev rm_m_save : Room := { frames := 6, cells := 0, slots := 0, locals := 136 }
abbrev rm_m_byteOp : Room := { frames := 7, cells := 0, slots := 0, locals := 159 }
abbrev rm_m_wordOp : Room := { frames := 7, cells := 0, slots := 0, locals := 159 }
abbrev rm_m_call : Room := { frames := 6, cells := 0, slots := 0, locals := 136 }
abbrev rm_m_upper : Room := { frames := 8, cells := 0, slots := 0, locals := 187 }
abbrev rm_m_second : Room := { frames := 8, cells := 0, slots := 0, locals := 183 }
abbrev rm_m_changed : Room := { frames := 3, cells := 0, slots := 0, locals := 71 }
abbrev rm_m_lower : Room := { frames := 6, cells := 0, slots := 0, locals := 136 }
abbrev rm_m_holds : Room := { frames := 1, cells := 0, slots := 0, locals := 21 }
abbrev rm_m_branch : Room := { frames := 3, cells := 0, slots := 0, locals := 65 }
abbrev rm_m_trade : Room := { frames := 3, cells := 0, slots := 0, locals := 65 }
abbrev rm_m_listed : Room := { frames := 0, cells := 0, slots := 0, locals := 0 }
abbrev rm_m_many : Room := { frames := 3, cells := 0, slots := 0, locals := 69 }
abbrev rm_m_framed : Room := { frames := 0, cells := 0, slots := 0, locals := 0 }
abbrev rm_m_stack : Room := { frames := 3, cells := 0, slots := 0, locals := 69 }
abbrev rm_m_leave : Room := { frames := 0, cells := 0, slots := 0, locals := 0 }
abbrev rm_m_take : Room := { frames := 3, cells := 0, slots := 0, locals := 68 }
abbrev rm_m_next : Room := { frames := 4, cells := 0, slots := 0, locals := 91 }
abbrev rm_m_end : Room := { frames := 5, cells := 0, slots := 0, locals := 112 }
abbrev rm_m_comeLast : Room := { frames := 0, cells := 0, slots := 0, locals := 0 }
abbrev rm_m_answer : Room := { frames := 1, cells := 0, slots := 0, locals := 23 }
abbrev rm_m_begin : Room := { frames := 1, cells := 0, slots := 0, locals := 23 }
abbrev rm_m_kernel : Room := { frames := 6, cells := 0, slots := 0, locals := 134 }
abbrev rm_m_single : Room := { frames := 7, cells := 0, slots := 0, locals := 160 }
abbrev rm_m_instruction : Room := { frames := 9, cells := 0, slots := 0, locals := 212 }
abbrev rm_m_pass : Room := { frames := 0, cells := 0, slots := 0, locals := 0 }
abbrev rm_m_serve : Room := { frames := 5, cells := 0, slots := 0, locals := 112 }
abbrev rm_m_run : Room := { frames := 10, cells := 0, slots := 0, locals := 235 }
abbrev rm_m_poke : Room := { frames := 0, cells := 0, slots := 0, locals := 0 }
abbrev rm_m_peek : Room := { frames := 0, cells := 0, slots := 0, locals := 0 }
abbrev rm_m_noTask : Room := { frames := 0, cells := 0, slots := 0, locals := 0 }
abbrev rm_m_start : Room := { frames := 5, cells := 0, slots := 0, locals := 112 }
abbrev rm_m_stop : Room := { frames := 6, cells := 0, slots := 0, locals := 134 }
abbrev rm_m_timer : Room := { frames := 0, cells := 0, slots := 0, locals := 0 }
abbrev rm_m_state : Room := { frames := 1, cells := 0, slots := 0, locals := 20 }
abbrev rm_m_inFrame : Room := { frames := 1, cells := 0, slots := 0, locals := 22 }
abbrev rm_m_register : Room := { frames := 2, cells := 0, slots := 0, locals := 45 }
abbrev rm_m_queued : Room := { frames := 0, cells := 0, slots := 0, locals := 0 }
abbrev rm_m_sleeps : Room := { frames := 1, cells := 0, slots := 0, locals := 20 }
abbrev rm_m_status : Room := { frames := 1, cells := 0, slots := 0, locals := 20 }
abbrev rm_m_cycles : Room := { frames := 0, cells := 0, slots := 0, locals := 0 }
abbrev rm_m_ticks : Room := { frames := 0, cells := 0, slots := 0, locals := 0 }
abbrev rm_m_lost : Room := { frames := 0, cells := 0, slots := 0, locals := 0 }
abbrev rm_m_left : Room := { frames := 0, cells := 0, slots := 0, locals := 0 }
def mo_signed (x1 : Int32) : Option (Int32) := if (128 : Int32) ≤ x1 then some (x1 - (256 : Int32)) else some x1
def mo_at (x1 : Int32) (me : Nat → Int32) : Option (Int32) := if (512 : Int32) ≤ (x1 &&& (65535 : Int32)) then some (0 : Int32) else if in_b (x1 &&& (65535 : Int32)) 512 = true then some (me ((x1 &&& (65535 : Int32)).toNatClampNeg)) else none
def mo_put (x1 : Int32) (x2 : Int32) (me : Nat → Int32) : Option ((Nat → Int32)) := if (512 : Int32) ≤ (x1 &&& (65535 : Int32)) then some me else if in_b (x1 &&& (65535 : Int32)) 512 = true then some (upd me ((x1 &&& (65535 : Int32)).toNatClampNeg) (x2 &&& (255 : Int32))) else none
def mo_get (x1 : Int32) (rg : Nat → Int32) : Option (Int32) := if x1 = (0 : Int32) then some (((256 : Int32) * (rg 8)) + (rg 9)) else if in_b x1 12 = true then some (rg (x1.toNatClampNeg)) else none
def mo_set_j57 (s0 : Int32) (s1 : Int32) (rg : Nat → Int32) : Option ((Nat → Int32)) := if in_b s1 12 = true then some (upd rg (s1.toNatClampNeg) s0) else none
def mo_set (x1 : Int32) (x2 : Int32) (rg : Nat → Int32) : Option ((Nat → Int32)) := if x1 = (0 : Int32) then some (upd (upd rg 8 ((x2 >>> ((8 : Int32) &&& 31)) &&& (255 : Int32))) 9 (x2 &&& (255 : Int32))) else if (8 : Int32) ≤ x1 then mo_set_j57 (x2 &&& (255 : Int32)) x1 rg else mo_set_j57 (x2 &&& (65535 : Int32)) x1 rg
def mo_load_j14 (v1 : Int32) (v2 : Bool) (s0 : Int32) (s1 : Int32) (me : Nat → Int32) (sp : Int32) : Option (Int32 × Int32) := if (bz_i v2) = (0 : Int32) then (mo_at v1 me).bind fun z7 => some (z7, (s1 + s0)) else (mo_at v1 me).bind fun z8 => (mo_at (v1 + (1 : Int32)) me).bind fun z9 => some ((((256 : Int32) * z8) + z9), (s1 + s0))
def mo_load (x1 : Int32) (x2 : Bool) (me : Nat → Int32) (sp : Int32) : Option (Int32 × Int32) := if (bz_i x2) = (0 : Int32) then mo_load_j14 x1 x2 (1 : Int32) sp me sp else mo_load_j14 x1 x2 (2 : Int32) sp me sp
def mo_store_j14 (v1 : Int32) (v2 : Int32) (v3 : Bool) (s0 : Int32) (s1 : Int32) (me : Nat → Int32) (sp : Int32) : Option ((Nat → Int32) × Int32) := if (bz_i v3) = (0 : Int32) then (mo_put v1 v2 me).bind fun z7 => some (z7, (s1 + s0)) else (mo_put v1 (v2 >>> ((8 : Int32) &&& 31)) me).bind fun z8 => (mo_put (v1 + (1 : Int32)) v2 z8).bind fun z9 => some (z9, (s1 + s0))
def mo_store (x1 : Int32) (x2 : Int32) (x3 : Bool) (me : Nat → Int32) (sp : Int32) : Option ((Nat → Int32) × Int32) := if (bz_i x3) = (0 : Int32) then mo_store_j14 x1 x2 x3 (1 : Int32) sp me sp else mo_store_j14 x1 x2 x3 (2 : Int32) sp me sp
def mo_fetch (me : Nat → Int32) (rg : Nat → Int32) (sp : Int32) : Option (Int32 × (Nat → Int32) × Int32) := (mo_load (rg 5) false me sp).bind fun z3 => (mo_set (5 : Int32) ((rg 5) + (1 : Int32)) rg).bind fun z4 => some (z3.1, z4, z3.2)
def mo_fetchWord (me : Nat → Int32) (rg : Nat → Int32) (sp : Int32) : Option (Int32 × (Nat → Int32) × Int32) := (mo_fetch me rg sp).bind fun z3 => (mo_fetch me z3.2.1 z3.2.2).bind fun z4 => some ((((256 : Int32) * z3.1) + z4.1), z4.2.1, z4.2.2)
def mo_push_j29 (v1 : Int32) (v2 : Int32) (v3 : Bool) (s0 : Int32) (s1 : Int32) (s2 : Int32) (me : Nat → Int32) (rg : Nat → Int32) (sp : Int32) : Option ((Nat → Int32) × (Nat → Int32) × Int32) := (mo_set s2 (s1 - s0) rg).bind fun z11 => if in_b v1 12 = true then if in_b v2 12 = true then (mo_store (z11 (v1.toNatClampNeg)) (z11 (v2.toNatClampNeg)) v3 me sp).bind fun z14 => some (z14.1, z11, z14.2) else none else none
def mo_push_j11 (v1 : Int32) (v2 : Int32) (s0 : Bool) (me : Nat → Int32) (rg : Nat → Int32) (sp : Int32) : Option ((Nat → Int32) × (Nat → Int32) × Int32) := if in_b v1 12 = true then if (bz_i s0) = (0 : Int32) then mo_push_j29 v1 v2 s0 (1 : Int32) (rg (v1.toNatClampNeg)) v1 me rg sp else mo_push_j29 v1 v2 s0 (2 : Int32) (rg (v1.toNatClampNeg)) v1 me rg sp else none
def mo_push (x1 : Int32) (x2 : Int32) (me : Nat → Int32) (rg : Nat → Int32) (sp : Int32) : Option ((Nat → Int32) × (Nat → Int32) × Int32) := if (8 : Int32) ≤ x2 then mo_push_j11 x1 x2 false me rg sp else mo_push_j11 x1 x2 true me rg sp
def mo_pull_j42 (v2 : Int32) (v4 : Int32) (s0 : Int32) (s1 : Int32) (s2 : Int32) (me : Nat → Int32) (rg : Nat → Int32) (sp : Int32) : Option ((Nat → Int32) × Int32) := (mo_set s2 (s1 + s0) rg).bind fun z9 => (mo_set v2 v4 z9).bind fun z10 => some (z10, sp)
def mo_pull_j11 (v1 : Int32) (v2 : Int32) (s0 : Bool) (me : Nat → Int32) (rg : Nat → Int32) (sp : Int32) : Option ((Nat → Int32) × Int32) := if in_b v1 12 = true then (mo_load (rg (v1.toNatClampNeg)) s0 me sp).bind fun z12 => if (bz_i s0) = (0 : Int32) then mo_pull_j42 v2 z12.1 (1 : Int32) (rg (v1.toNatClampNeg)) v1 me rg z12.2 else mo_pull_j42 v2 z12.1 (2 : Int32) (rg (v1.toNatClampNeg)) v1 me rg z12.2 else none
def mo_pull (x1 : Int32) (x2 : Int32) (me : Nat → Int32) (rg : Nat → Int32) (sp : Int32) : Option ((Nat → Int32) × Int32) := if (8 : Int32) ≤ x2 then mo_pull_j11 x1 x2 false me rg sp else mo_pull_j11 x1 x2 true me rg sp
def mo_flag (x1 : Int32) (rg : Nat → Int32) : Option (Bool) := if ((rg 10) &&& x1) = (0 : Int32) then some false else some true
def mo_mark_j33 (s0 : Int32) (rg : Nat → Int32) : Option ((Nat → Int32)) := some (upd rg 10 s0)
def mo_mark (x1 : Int32) (x2 : Bool) (rg : Nat → Int32) : Option ((Nat → Int32)) := if (bz_i x2) = (0 : Int32) then mo_mark_j33 ((rg 10) &&& (x1 ^^^ (-1 : Int32))) rg else mo_mark_j33 ((rg 10) ||| x1) rg
def mo_sign_j39 (s0 : Bool) (rg : Nat → Int32) : Option ((Nat → Int32)) := (mo_mark (4 : Int32) s0 rg).bind fun z5 => some z5
def mo_sign_j19 (v1 : Int32) (v2 : Int32) (s0 : Bool) (rg : Nat → Int32) : Option ((Nat → Int32)) := (mo_mark (8 : Int32) s0 rg).bind fun z6 => if (v1 &&& (((1 : Int32) <<< (v2 &&& 31)) - (1 : Int32))) = (0 : Int32) then mo_sign_j39 true z6 else mo_sign_j39 false z6
def mo_sign (x1 : Int32) (x2 : Int32) (rg : Nat → Int32) : Option ((Nat → Int32)) := if ((x1 >>> ((x2 - (1 : Int32)) &&& 31)) &&& (1 : Int32)) = (1 : Int32) then mo_sign_j19 x1 x2 true rg else mo_sign_j19 x1 x2 false rg
def mo_plain (x1 : Int32) (x2 : Int32) (rg : Nat → Int32) : Option (Int32 × (Nat → Int32)) := (mo_sign x1 x2 rg).bind fun z3 => (mo_mark (2 : Int32) false z3).bind fun z4 => some (x1, z4)
def mo_number (x1 : Int32) (x2 : Int32) : Option (Int32) := if (x1 >>> ((x2 - (1 : Int32)) &&& 31)) = (0 : Int32) then some x1 else some (x1 - ((1 : Int32) <<< (x2 &&& 31)))
def mo_sum_j87 (v7 : Int32) (s0 : Bool) (rg : Nat → Int32) : Option (Int32 × (Nat → Int32)) := (mo_mark (2 : Int32) s0 rg).bind fun z9 => some (v7, z9)
def mo_sum_j82 (v7 : Int32) (rg : Nat → Int32) : Option (Int32 × (Nat → Int32)) := mo_sum_j87 v7 true rg
def mo_sum_j58 (v5 : Int32) (v6 : Int32) (v7 : Int32) (s0 : Bool) (rg : Nat → Int32) : Option (Int32 × (Nat → Int32)) := (mo_mark (1 : Int32) s0 rg).bind fun z10 => if v6 < ((-v5) / (2 : Int32)) then mo_sum_j82 v7 z10 else if v6 < (v5 / (2 : Int32)) then mo_sum_j87 v7 false z10 else mo_sum_j82 v7 z10
def mo_sum (x1 : Int32) (x2 : Int32) (x3 : Int32) (x4 : Int32) (rg : Nat → Int32) : Option (Int32 × (Nat → Int32)) := (mo_number x1 x4).bind fun z11 => (mo_number x2 x4).bind fun z12 => if ((1 : Int32) <<< (x4 &&& 31)) = (0 : Int32) then none else (mo_sign (((x1 + x2) + x3) - ((x1 + x2) + x3) / ((1 : Int32) <<< (x4 &&& 31)) * ((1 : Int32) <<< (x4 &&& 31))) x4 rg).bind fun z14 => if ((x1 + x2) + x3) < ((1 : Int32) <<< (x4 &&& 31)) then mo_sum_j58 ((1 : Int32) <<< (x4 &&& 31)) ((z11 + z12) + x3) (((x1 + x2) + x3) - ((x1 + x2) + x3) / ((1 : Int32) <<< (x4 &&& 31)) * ((1 : Int32) <<< (x4 &&& 31))) false z14 else mo_sum_j58 ((1 : Int32) <<< (x4 &&& 31)) ((z11 + z12) + x3) (((x1 + x2) + x3) - ((x1 + x2) + x3) / ((1 : Int32) <<< (x4 &&& 31)) * ((1 : Int32) <<< (x4 &&& 31))) true z14
def mo_difference_j89 (v7 : Int32) (s0 : Bool) (rg : Nat → Int32) : Option (Int32 × (Nat → Int32)) := (mo_mark (2 : Int32) s0 rg).bind fun z9 => some (v7, z9)
def mo_difference_j84 (v7 : Int32) (rg : Nat → Int32) : Option (Int32 × (Nat → Int32)) := mo_difference_j89 v7 true rg
def mo_difference_j60 (v5 : Int32) (v6 : Int32) (v7 : Int32) (s0 : Bool) (rg : Nat → Int32) : Option (Int32 × (Nat → Int32)) := (mo_mark (1 : Int32) s0 rg).bind fun z10 => if v6 < ((-v5) / (2 : Int32)) then mo_difference_j84 v7 z10 else if v6 < (v5 / (2 : Int32)) then mo_difference_j89 v7 false z10 else mo_difference_j84 v7 z10
def mo_difference (x1 : Int32) (x2 : Int32) (x3 : Int32) (x4 : Int32) (rg : Nat → Int32) : Option (Int32 × (Nat → Int32)) := (mo_number x1 x4).bind fun z11 => (mo_number x2 x4).bind fun z12 => if ((1 : Int32) <<< (x4 &&& 31)) = (0 : Int32) then none else (mo_sign ((((x1 - x2) - x3) + ((2 : Int32) * ((1 : Int32) <<< (x4 &&& 31)))) - (((x1 - x2) - x3) + ((2 : Int32) * ((1 : Int32) <<< (x4 &&& 31)))) / ((1 : Int32) <<< (x4 &&& 31)) * ((1 : Int32) <<< (x4 &&& 31))) x4 rg).bind fun z14 => if (x2 + x3) ≤ x1 then mo_difference_j60 ((1 : Int32) <<< (x4 &&& 31)) ((z11 - z12) - x3) ((((x1 - x2) - x3) + ((2 : Int32) * ((1 : Int32) <<< (x4 &&& 31)))) - (((x1 - x2) - x3) + ((2 : Int32) * ((1 : Int32) <<< (x4 &&& 31)))) / ((1 : Int32) <<< (x4 &&& 31)) * ((1 : Int32) <<< (x4 &&& 31))) false z14 else mo_difference_j60 ((1 : Int32) <<< (x4 &&& 31)) ((z11 - z12) - x3) ((((x1 - x2) - x3) + ((2 : Int32) * ((1 : Int32) <<< (x4 &&& 31)))) - (((x1 - x2) - x3) + ((2 : Int32) * ((1 : Int32) <<< (x4 &&& 31)))) / ((1 : Int32) <<< (x4 &&& 31)) * ((1 : Int32) <<< (x4 &&& 31))) true z14
def mo_stepping_j32 (v1 : Int32) (v2 : Int32) (v4 : Int32) (s0 : Int32) (s1 : Int32) (rg : Nat → Int32) : Option (Int32 × (Nat → Int32)) := (mo_set s1 s0 rg).bind fun z4 => if (2 : Int32) ≤ v2 then if in_b v1 12 = true then some ((z4 (v1.toNatClampNeg)), z4) else none else some (v4, z4)
def mo_stepping (x1 : Int32) (x2 : Int32) (rg : Nat → Int32) : Option (Int32 × (Nat → Int32)) := if in_b x1 12 = true then if (2 : Int32) ≤ x2 then mo_stepping_j32 x1 x2 (rg (x1.toNatClampNeg)) ((rg (x1.toNatClampNeg)) - ((1 : Int32) + (x2 &&& (1 : Int32)))) x1 rg else mo_stepping_j32 x1 x2 (rg (x1.toNatClampNeg)) ((rg (x1.toNatClampNeg)) + ((1 : Int32) + (x2 &&& (1 : Int32)))) x1 rg else none
def mo_offset (x1 : Int32) (x2 : Int32) (me : Nat → Int32) (rg : Nat → Int32) (sp : Int32) : Option (Int32 × (Nat → Int32) × Int32) := if in_b x1 12 = true then if x2 = (5 : Int32) then (mo_signed (rg 9)).bind fun z14 => some (((rg (x1.toNatClampNeg)) + z14), rg, sp) else if x2 = (6 : Int32) then (mo_signed (rg 8)).bind fun z16 => some (((rg (x1.toNatClampNeg)) + z16), rg, sp) else if x2 = (7 : Int32) then some ((rg (x1.toNatClampNeg)), rg, sp) else if x2 = (8 : Int32) then (mo_fetch me rg sp).bind fun z19 => (mo_signed z19.1).bind fun z20 => some (((rg (x1.toNatClampNeg)) + z20), z19.2.1, z19.2.2) else if x2 = (9 : Int32) then (mo_fetchWord me rg sp).bind fun z22 => some (((rg (x1.toNatClampNeg)) + z22.1), z22.2.1, z22.2.2) else if x2 = (10 : Int32) then some ((rg (x1.toNatClampNeg)), rg, sp) else if x2 = (11 : Int32) then (mo_get (0 : Int32) rg).bind fun z25 => some (((rg (x1.toNatClampNeg)) + z25), rg, sp) else if x2 = (12 : Int32) then (mo_fetch me rg sp).bind fun z27 => (mo_signed z27.1).bind fun z28 => some (((z27.2.1 5) + z28), z27.2.1, z27.2.2) else if x2 = (13 : Int32) then (mo_fetchWord me rg sp).bind fun z30 => some (((z30.2.1 5) + z30.1), z30.2.1, z30.2.2) else if x2 = (14 : Int32) then some ((rg (x1.toNatClampNeg)), rg, sp) else if x2 = (15 : Int32) then (mo_fetchWord me rg sp).bind fun z33 => some (z33.1, z33.2.1, z33.2.2) else some ((rg (x1.toNatClampNeg)), rg, sp) else none
def mo_address_j191 (v5 : Bool) (s0 : Int32) (me : Nat → Int32) (rg : Nat → Int32) (sp : Int32) (iv : Bool) : Option (Int32 × (Nat → Int32) × Int32 × Bool) := if (bz_i v5) = (0 : Int32) then some ((s0 &&& (65535 : Int32)), rg, sp, iv) else (mo_load (s0 &&& (65535 : Int32)) true me sp).bind fun z10 => some (z10.1, rg, z10.2, iv)
def mo_address_j156 (v3 : Int32) (v4 : Int32) (v5 : Bool) (s0 : Bool) (me : Nat → Int32) (rg : Nat → Int32) (sp : Int32) (iv : Bool) : Option (Int32 × (Nat → Int32) × Int32 × Bool) := if (bz_i s0) = (0 : Int32) then if (4 : Int32) ≤ v4 then (mo_offset v3 v4 me rg sp).bind fun z11 => mo_address_j191 v5 z11.1 me z11.2.1 z11.2.2 s0 else (mo_stepping v3 v4 rg).bind fun z12 => mo_address_j191 v5 z12.1 me z12.2 sp s0 else some ((-1 : Int32), rg, sp, s0)
def mo_address_j155 (v3 : Int32) (v4 : Int32) (v5 : Bool) (me : Nat → Int32) (rg : Nat → Int32) (sp : Int32) (iv : Bool) : Option (Int32 × (Nat → Int32) × Int32 × Bool) := mo_address_j156 v3 v4 v5 false me rg sp iv
def mo_address_j151 (v3 : Int32) (v4 : Int32) (v5 : Bool) (me : Nat → Int32) (rg : Nat → Int32) (sp : Int32) (iv : Bool) : Option (Int32 × (Nat → Int32) × Int32 × Bool) := mo_address_j156 v3 v4 v5 true me rg sp iv
def mo_address_j139 (v3 : Int32) (v4 : Int32) (v5 : Bool) (me : Nat → Int32) (rg : Nat → Int32) (sp : Int32) (iv : Bool) : Option (Int32 × (Nat → Int32) × Int32 × Bool) := if (bz_i v5) = (0 : Int32) then if v4 = (15 : Int32) then mo_address_j151 v3 v4 v5 me rg sp iv else mo_address_j155 v3 v4 v5 me rg sp iv else mo_address_j155 v3 v4 v5 me rg sp iv
def mo_address_j99 (v3 : Int32) (v4 : Int32) (s0 : Bool) (me : Nat → Int32) (rg : Nat → Int32) (sp : Int32) (iv : Bool) : Option (Int32 × (Nat → Int32) × Int32 × Bool) := if v4 = (7 : Int32) then mo_address_j151 v3 v4 s0 me rg sp iv else if v4 = (10 : Int32) then mo_address_j151 v3 v4 s0 me rg sp iv else if v4 = (14 : Int32) then mo_address_j151 v3 v4 s0 me rg sp iv else if (bz_i s0) = (0 : Int32) then mo_address_j139 v3 v4 s0 me rg sp iv else if v4 = (0 : Int32) then mo_address_j151 v3 v4 s0 me rg sp iv else if v4 = (2 : Int32) then mo_address_j151 v3 v4 s0 me rg sp iv else mo_address_j139 v3 v4 s0 me rg sp iv
def mo_address (x1 : Int32) (me : Nat → Int32) (rg : Nat → Int32) (sp : Int32) (iv : Bool) : Option (Int32 × (Nat → Int32) × Int32 × Bool) := if x1 = (1 : Int32) then (mo_fetch me rg sp).bind fun z16 => some ((((256 : Int32) * (rg 11)) + z16.1), z16.2.1, z16.2.2, iv) else if x1 = (3 : Int32) then (mo_fetchWord me rg sp).bind fun z15 => some (z15.1, z15.2.1, z15.2.2, iv) else (mo_fetch me rg sp).bind fun z13 => if (128 : Int32) ≤ z13.1 then if (z13.1 &&& (16 : Int32)) = (0 : Int32) then mo_address_j99 ((1 : Int32) + ((z13.1 >>> ((5 : Int32) &&& 31)) &&& (3 : Int32))) (z13.1 &&& (15 : Int32)) false me z13.2.1 z13.2.2 iv else mo_address_j99 ((1 : Int32) + ((z13.1 >>> ((5 : Int32) &&& 31)) &&& (3 : Int32))) (z13.1 &&& (15 : Int32)) true me z13.2.1 z13.2.2 iv else if in_b ((1 : Int32) + ((z13.1 >>> ((5 : Int32) &&& 31)) &&& (3 : Int32))) 12 = true then if (z13.1 &&& (16 : Int32)) = (0 : Int32) then some (((((z13.2.1 (((1 : Int32) + ((z13.1 >>> ((5 : Int32) &&& 31)) &&& (3 : Int32))).toNatClampNeg)) + (z13.1 &&& (31 : Int32))) - (0 : Int32)) &&& (65535 : Int32)), z13.2.1, z13.2.2, iv) else some (((((z13.2.1 (((1 : Int32) + ((z13.1 >>> ((5 : Int32) &&& 31)) &&& (3 : Int32))).toNatClampNeg)) + (z13.1 &&& (31 : Int32))) - (32 : Int32)) &&& (65535 : Int32)), z13.2.1, z13.2.2, iv) else none
def mo_operand (x1 : Int32) (x2 : Bool) (me : Nat → Int32) (rg : Nat → Int32) (sp : Int32) (iv : Bool) : Option (Int32 × (Nat → Int32) × Int32 × Bool) := if x1 = (0 : Int32) then if (bz_i x2) = (0 : Int32) then (mo_fetch me rg sp).bind fun z7 => some (z7.1, z7.2.1, z7.2.2, iv) else (mo_fetchWord me rg sp).bind fun z8 => some (z8.1, z8.2.1, z8.2.2, iv) else (mo_address x1 me rg sp iv).bind fun z5 => if (bz_i z5.2.2.2) = (0 : Int32) then (mo_load z5.1 x2 me z5.2.2.1).bind fun z6 => some (z6.1, z5.2.1, z6.2, z5.2.2.2) else some ((0 : Int32), z5.2.1, z5.2.2.1, z5.2.2.2)
def mo_save_j86 (s0 : Int32) (s1 : Int32) (me : Nat → Int32) (rg : Nat → Int32) (sp : Int32) (iv : Bool) : Option ((Nat → Int32) × (Nat → Int32) × Int32 × Bool) := (mo_plain s1 s0 rg).bind fun z8 => some (me, z8.2, sp, iv)
def mo_save_j67 (v2 : Int32) (v4 : Int32) (s0 : Bool) (s1 : Int32) (s2 : Int32) (me : Nat → Int32) (rg : Nat → Int32) (sp : Int32) (iv : Bool) : Option ((Nat → Int32) × (Nat → Int32) × Int32 × Bool) := (mo_store s2 s1 s0 me sp).bind fun z9 => if (8 : Int32) ≤ v2 then mo_save_j86 (8 : Int32) v4 z9.1 rg z9.2 iv else mo_save_j86 (16 : Int32) v4 z9.1 rg z9.2 iv
def mo_save_j36 (v2 : Int32) (s0 : Int32) (me : Nat → Int32) (rg : Nat → Int32) (sp : Int32) (iv : Bool) : Option ((Nat → Int32) × (Nat → Int32) × Int32 × Bool) := if (bz_i iv) = (0 : Int32) then (mo_get v2 rg).bind fun z10 => if (8 : Int32) ≤ v2 then mo_save_j67 v2 z10 false z10 s0 me rg sp iv else mo_save_j67 v2 z10 true z10 s0 me rg sp iv else some (me, rg, sp, iv)
def mo_save_j17 (v1 : Int32) (v2 : Int32) (s0 : Bool) (me : Nat → Int32) (rg : Nat → Int32) (sp : Int32) (iv : Bool) : Option ((Nat → Int32) × (Nat → Int32) × Int32 × Bool) := if (bz_i s0) = (0 : Int32) then (mo_address v1 me rg sp s0).bind fun z11 => mo_save_j36 v2 z11.1 me z11.2.1 z11.2.2.1 z11.2.2.2 else mo_save_j36 v2 (0 : Int32) me rg sp s0
def mo_save_j12 (v1 : Int32) (v2 : Int32) (me : Nat → Int32) (rg : Nat → Int32) (sp : Int32) (iv : Bool) : Option ((Nat → Int32) × (Nat → Int32) × Int32 × Bool) := mo_save_j17 v1 v2 true me rg sp iv
def mo_save (x1 : Int32) (x2 : Int32) (me : Nat → Int32) (rg : Nat → Int32) (sp : Int32) (iv : Bool) : Option ((Nat → Int32) × (Nat → Int32) × Int32 × Bool) := if (bz_i iv) = (0 : Int32) then if x1 = (0 : Int32) then mo_save_j12 x1 x2 me rg sp iv else mo_save_j17 x1 x2 false me rg sp iv else mo_save_j12 x1 x2 me rg sp iv
def mo_byteOp_j202 (v3 : Int32) (v4 : Int32) (s0 : Int32) (me : Nat → Int32) (rg : Nat → Int32) (sp : Int32) (iv : Bool) : Option ((Nat → Int32) × Int32 × Bool) := if v4 = (1 : Int32) then some (rg, sp, iv) else if v4 = (5 : Int32) then some (rg, sp, iv) else (mo_set v3 s0 rg).bind fun z17 => some (z17, sp, iv)
def mo_byteOp_j197 (v3 : Int32) (v4 : Int32) (s0 : Int32) (me : Nat → Int32) (rg : Nat → Int32) (sp : Int32) (iv : Bool) : Option ((Nat → Int32) × Int32 × Bool) := (mo_plain s0 (8 : Int32) rg).bind fun z18 => mo_byteOp_j202 v3 v4 z18.1 me z18.2 sp iv
def mo_byteOp_j157 (v3 : Int32) (v4 : Int32) (v5 : Int32) (v6 : Int32) (me : Nat → Int32) (rg : Nat → Int32) (sp : Int32) (iv : Bool) : Option ((Nat → Int32) × Int32 × Bool) := mo_byteOp_j197 v3 v4 (v6 &&& v5) me rg sp iv
def mo_byteOp_j58 (v3 : Int32) (v4 : Int32) (v5 : Int32) (v6 : Int32) (s0 : Bool) (me : Nat → Int32) (rg : Nat → Int32) (sp : Int32) (iv : Bool) : Option ((Nat → Int32) × Int32 × Bool) := if (2 : Int32) ≤ v4 then if v4 = (2 : Int32) then (mo_difference v6 v5 (bz_i s0) (8 : Int32) rg).bind fun z21 => mo_byteOp_j202 v3 v4 z21.1 me z21.2 sp iv else if v4 = (9 : Int32) then (mo_sum v6 v5 (bz_i s0) (8 : Int32) rg).bind fun z20 => mo_byteOp_j202 v3 v4 z20.1 me z20.2 sp iv else if v4 = (11 : Int32) then (mo_sum v6 v5 (0 : Int32) (8 : Int32) rg).bind fun z19 => mo_byteOp_j202 v3 v4 z19.1 me z19.2 sp iv else if v4 = (4 : Int32) then mo_byteOp_j157 v3 v4 v5 v6 me rg sp iv else if v4 = (5 : Int32) then mo_byteOp_j157 v3 v4 v5 v6 me rg sp iv else if v4 = (6 : Int32) then mo_byteOp_j197 v3 v4 v5 me rg sp iv else if v4 = (8 : Int32) then mo_byteOp_j197 v3 v4 (v6 ^^^ v5) me rg sp iv else mo_byteOp_j197 v3 v4 (v6 ||| v5) me rg sp iv else (mo_difference v6 v5 (0 : Int32) (8 : Int32) rg).bind fun z22 => mo_byteOp_j202 v3 v4 z22.1 me z22.2 sp iv
def mo_byteOp_j14 (v1 : Int32) (v2 : Int32) (s0 : Int32) (me : Nat → Int32) (rg : Nat → Int32) (sp : Int32) (iv : Bool) : Option ((Nat → Int32) × Int32 × Bool) := (mo_operand v2 false me rg sp iv).bind fun z23 => if (bz_i z23.2.2.2) = (0 : Int32) then if in_b s0 12 = true then (mo_flag (1 : Int32) z23.2.1).bind fun z25 => if (bz_i z25) = (0 : Int32) then mo_byteOp_j58 s0 (v1 &&& (15 : Int32)) z23.1 (z23.2.1 (s0.toNatClampNeg)) false me z23.2.1 z23.2.2.1 z23.2.2.2 else mo_byteOp_j58 s0 (v1 &&& (15 : Int32)) z23.1 (z23.2.1 (s0.toNatClampNeg)) true me z23.2.1 z23.2.2.1 z23.2.2.2 else none else some (z23.2.1, z23.2.2.1, z23.2.2.2)
def mo_byteOp (x1 : Int32) (x2 : Int32) (me : Nat → Int32) (rg : Nat → Int32) (sp : Int32) (iv : Bool) : Option ((Nat → Int32) × Int32 × Bool) := if (192 : Int32) ≤ x1 then mo_byteOp_j14 x1 x2 (9 : Int32) me rg sp iv else mo_byteOp_j14 x1 x2 (8 : Int32) me rg sp iv
def mo_wordOp (x1 : Int32) (x2 : Int32) (x3 : Bool) (me : Nat → Int32) (rg : Nat → Int32) (sp : Int32) (iv : Bool) : Option ((Nat → Int32) × Int32 × Bool) := (mo_operand x2 true me rg sp iv).bind fun z6 => if (bz_i z6.2.2.2) = (0 : Int32) then if (bz_i x3) = (0 : Int32) then (mo_plain z6.1 (16 : Int32) z6.2.1).bind fun z7 => (mo_set x1 z7.1 z7.2).bind fun z8 => some (z8, z6.2.2.1, z6.2.2.2) else (mo_get x1 z6.2.1).bind fun z9 => (mo_difference z9 z6.1 (0 : Int32) (16 : Int32) z6.2.1).bind fun z10 => some (z10.2, z6.2.2.1, z6.2.2.2) else some (z6.2.1, z6.2.2.1, z6.2.2.2)
def mo_call_j32 (v2 : Int32) (me : Nat → Int32) (rg : Nat → Int32) (sp : Int32) (iv : Bool) : Option ((Nat → Int32) × (Nat → Int32) × Int32 × Bool) := if (bz_i iv) = (0 : Int32) then (mo_push (4 : Int32) (5 : Int32) me rg sp).bind fun z6 => (mo_set (5 : Int32) v2 z6.2.1).bind fun z7 => some (z6.1, z7, z6.2.2, iv) else some (me, rg, sp, iv)
def mo_call (x1 : Int32) (me : Nat → Int32) (rg : Nat → Int32) (sp : Int32) (iv : Bool) : Option ((Nat → Int32) × (Nat → Int32) × Int32 × Bool) := if x1 = (0 : Int32) then (mo_fetch me rg sp).bind fun z9 => (mo_signed z9.1).bind fun z10 => mo_call_j32 ((z9.2.1 5) + z10) me z9.2.1 z9.2.2 iv else (mo_address x1 me rg sp iv).bind fun z8 => mo_call_j32 z8.1 me z8.2.1 z8.2.2.1 z8.2.2.2
def mo_upper_j240 (v1 : Int32) (v2 : Int32) (me : Nat → Int32) (rg : Nat → Int32) (sp : Int32) (iv : Bool) : Option ((Nat → Int32) × (Nat → Int32) × Int32 × Bool) := (mo_byteOp v1 v2 me rg sp iv).bind fun z23 => some (me, z23.1, z23.2.1, z23.2.2)
def mo_upper_j234 (s0 : Int32) (s1 : Int32) (me : Nat → Int32) (rg : Nat → Int32) (sp : Int32) (iv : Bool) : Option ((Nat → Int32) × (Nat → Int32) × Int32 × Bool) := (mo_save s1 s0 me rg sp iv).bind fun z24 => some (z24.1, z24.2.1, z24.2.2.1, z24.2.2.2)
def mo_upper_j215 (v2 : Int32) (s0 : Int32) (me : Nat → Int32) (rg : Nat → Int32) (sp : Int32) (iv : Bool) : Option ((Nat → Int32) × (Nat → Int32) × Int32 × Bool) := (mo_wordOp s0 v2 false me rg sp iv).bind fun z25 => some (me, z25.1, z25.2.1, z25.2.2)
def mo_upper_j176 (v2 : Int32) (v3 : Bool) (s0 : Bool) (me : Nat → Int32) (rg : Nat → Int32) (sp : Int32) (iv : Bool) : Option ((Nat → Int32) × (Nat → Int32) × Int32 × Bool) := (mo_wordOp (bz_i s0) v2 v3 me rg sp iv).bind fun z26 => some (me, z26.1, z26.2.1, z26.2.2)
def mo_upper_j160 (s0 : Int32) (s1 : Int32) (me : Nat → Int32) (rg : Nat → Int32) (sp : Int32) (iv : Bool) : Option ((Nat → Int32) × (Nat → Int32) × Int32 × Bool) := (mo_save s1 s0 me rg sp iv).bind fun z27 => some (z27.1, z27.2.1, z27.2.2.1, z27.2.2.2)
def mo_upper_j141 (s0 : Int32) (me : Nat → Int32) (rg : Nat → Int32) (sp : Int32) (iv : Bool) : Option ((Nat → Int32) × (Nat → Int32) × Int32 × Bool) := (mo_set (0 : Int32) s0 rg).bind fun z28 => some (me, z28, sp, iv)
def mo_upper_j18 (v1 : Int32) (v2 : Int32) (s0 : Bool) (me : Nat → Int32) (rg : Nat → Int32) (sp : Int32) (iv : Bool) : Option ((Nat → Int32) × (Nat → Int32) × Int32 × Bool) := if (v1 &&& (15 : Int32)) = (3 : Int32) then (mo_operand v2 true me rg sp iv).bind fun z30 => (mo_get (0 : Int32) z30.2.1).bind fun z31 => if (bz_i z30.2.2.2) = (0 : Int32) then if (bz_i s0) = (0 : Int32) then (mo_sum z31 z30.1 (0 : Int32) (16 : Int32) z30.2.1).bind fun z32 => mo_upper_j141 z32.1 me z32.2 z30.2.2.1 z30.2.2.2 else (mo_difference z31 z30.1 (0 : Int32) (16 : Int32) z30.2.1).bind fun z33 => mo_upper_j141 z33.1 me z33.2 z30.2.2.1 z30.2.2.2 else some (me, z30.2.1, z30.2.2.1, z30.2.2.2) else if (v1 &&& (15 : Int32)) = (4 : Int32) then mo_upper_j240 v1 v2 me rg sp iv else if (v1 &&& (15 : Int32)) = (5 : Int32) then mo_upper_j240 v1 v2 me rg sp iv else if (v1 &&& (15 : Int32)) = (6 : Int32) then mo_upper_j240 v1 v2 me rg sp iv else if (v1 &&& (15 : Int32)) = (7 : Int32) then if (bz_i s0) = (0 : Int32) then mo_upper_j160 (9 : Int32) v2 me rg sp iv else mo_upper_j160 (8 : Int32) v2 me rg sp iv else if (v1 &&& (15 : Int32)) = (8 : Int32) then mo_upper_j240 v1 v2 me rg sp iv else if (v1 &&& (15 : Int32)) = (9 : Int32) then mo_upper_j240 v1 v2 me rg sp iv else if (v1 &&& (15 : Int32)) = (10 : Int32) then mo_upper_j240 v1 v2 me rg sp iv else if (v1 &&& (15 : Int32)) = (11 : Int32) then mo_upper_j240 v1 v2 me rg sp iv else if (v1 &&& (15 : Int32)) = (12 : Int32) then if (bz_i s0) = (0 : Int32) then mo_upper_j176 v2 s0 false me rg sp iv else mo_upper_j176 v2 s0 true me rg sp iv else if (v1 &&& (15 : Int32)) = (13 : Int32) then if (bz_i s0) = (0 : Int32) then (mo_save v2 (0 : Int32) me rg sp iv).bind fun z44 => some (z44.1, z44.2.1, z44.2.2.1, z44.2.2.2) else (mo_call v2 me rg sp iv).bind fun z45 => some (z45.1, z45.2.1, z45.2.2.1, z45.2.2.2) else if (v1 &&& (15 : Int32)) = (14 : Int32) then if (bz_i s0) = (0 : Int32) then mo_upper_j215 v2 (3 : Int32) me rg sp iv else mo_upper_j215 v2 (1 : Int32) me rg sp iv else if (v1 &&& (15 : Int32)) = (15 : Int32) then if (bz_i s0) = (0 : Int32) then mo_upper_j234 (3 : Int32) v2 me rg sp iv else mo_upper_j234 (1 : Int32) v2 me rg sp iv else mo_upper_j240 v1 v2 me rg sp iv
def mo_upper (x1 : Int32) (me : Nat → Int32) (rg : Nat → Int32) (sp : Int32) (iv : Bool) : Option ((Nat → Int32) × (Nat → Int32) × Int32 × Bool) := if (192 : Int32) ≤ x1 then mo_upper_j18 x1 ((x1 >>> ((4 : Int32) &&& 31)) &&& (3 : Int32)) false me rg sp iv else mo_upper_j18 x1 ((x1 >>> ((4 : Int32) &&& 31)) &&& (3 : Int32)) true me rg sp iv
def mo_second_j123 (s0 : Int32) (s1 : Int32) (me : Nat → Int32) (rg : Nat → Int32) (sp : Int32) (iv : Bool) : Option ((Nat → Int32) × (Nat → Int32) × Int32 × Bool) := (mo_save s1 s0 me rg sp iv).bind fun z8 => some (z8.1, z8.2.1, z8.2.2.1, z8.2.2.2)
def mo_second_j97 (v2 : Int32) (s0 : Int32) (me : Nat → Int32) (rg : Nat → Int32) (sp : Int32) (iv : Bool) : Option ((Nat → Int32) × (Nat → Int32) × Int32 × Bool) := (mo_wordOp s0 v2 false me rg sp iv).bind fun z9 => some (me, z9.1, z9.2.1, z9.2.2)
def mo_second_j80 (v2 : Int32) (v3 : Int32) (v4 : Bool) (me : Nat → Int32) (rg : Nat → Int32) (sp : Int32) (iv : Bool) : Option ((Nat → Int32) × (Nat → Int32) × Int32 × Bool) := if v3 = (14 : Int32) then if (bz_i v4) = (0 : Int32) then mo_second_j97 v2 (4 : Int32) me rg sp iv else mo_second_j97 v2 (2 : Int32) me rg sp iv else if v3 = (15 : Int32) then if (bz_i v4) = (0 : Int32) then mo_second_j123 (4 : Int32) v2 me rg sp iv else mo_second_j123 (2 : Int32) v2 me rg sp iv else some (me, rg, sp, true)
def mo_second_j72 (v2 : Int32) (s0 : Int32) (me : Nat → Int32) (rg : Nat → Int32) (sp : Int32) (iv : Bool) : Option ((Nat → Int32) × (Nat → Int32) × Int32 × Bool) := (mo_wordOp s0 v2 true me rg sp iv).bind fun z10 => some (me, z10.1, z10.2.1, z10.2.2)
def mo_second_j61 (v2 : Int32) (v3 : Int32) (me : Nat → Int32) (rg : Nat → Int32) (sp : Int32) (iv : Bool) : Option ((Nat → Int32) × (Nat → Int32) × Int32 × Bool) := if v3 = (3 : Int32) then mo_second_j72 v2 (0 : Int32) me rg sp iv else mo_second_j72 v2 (2 : Int32) me rg sp iv
def mo_second_j28 (v1 : Int32) (v2 : Int32) (v3 : Int32) (s0 : Bool) (me : Nat → Int32) (rg : Nat → Int32) (sp : Int32) (iv : Bool) : Option ((Nat → Int32) × (Nat → Int32) × Int32 × Bool) := if (128 : Int32) ≤ v1 then if (bz_i s0) = (0 : Int32) then mo_second_j80 v2 v3 s0 me rg sp iv else if v3 = (3 : Int32) then mo_second_j61 v2 v3 me rg sp iv else if v3 = (12 : Int32) then mo_second_j61 v2 v3 me rg sp iv else mo_second_j80 v2 v3 s0 me rg sp iv else some (me, rg, sp, true)
def mo_second (me : Nat → Int32) (rg : Nat → Int32) (sp : Int32) (iv : Bool) : Option ((Nat → Int32) × (Nat → Int32) × Int32 × Bool) := (mo_fetch me rg sp).bind fun z11 => if (192 : Int32) ≤ z11.1 then mo_second_j28 z11.1 ((z11.1 >>> ((4 : Int32) &&& 31)) &&& (3 : Int32)) (z11.1 &&& (15 : Int32)) false me z11.2.1 z11.2.2 iv else mo_second_j28 z11.1 ((z11.1 >>> ((4 : Int32) &&& 31)) &&& (3 : Int32)) (z11.1 &&& (15 : Int32)) true me z11.2.1 z11.2.2 iv
def mo_changed_j342 (v4 : Int32) (s0 : Bool) (rg : Nat → Int32) : Option (Int32 × (Nat → Int32)) := (mo_mark (2 : Int32) s0 rg).bind fun z27 => some (v4, z27)
def mo_changed_j323 (v1 : Int32) (v2 : Int32) (v4 : Int32) (rg : Nat → Int32) : Option (Int32 × (Nat → Int32)) := if v1 = (12 : Int32) then if v2 = (127 : Int32) then mo_changed_j342 v4 true rg else mo_changed_j342 v4 false rg else some (v4, rg)
def mo_changed_j320 (v1 : Int32) (v2 : Int32) (v4 : Int32) (s0 : Bool) (rg : Nat → Int32) : Option (Int32 × (Nat → Int32)) := (mo_mark (2 : Int32) s0 rg).bind fun z28 => mo_changed_j323 v1 v2 v4 z28
def mo_changed_j300 (v1 : Int32) (v2 : Int32) (v4 : Int32) (rg : Nat → Int32) : Option (Int32 × (Nat → Int32)) := if v1 = (10 : Int32) then if v2 = (128 : Int32) then mo_changed_j320 v1 v2 v4 true rg else mo_changed_j320 v1 v2 v4 false rg else mo_changed_j323 v1 v2 v4 rg
def mo_changed_j297 (v1 : Int32) (v2 : Int32) (v4 : Int32) (s0 : Bool) (rg : Nat → Int32) : Option (Int32 × (Nat → Int32)) := (mo_mark (2 : Int32) s0 rg).bind fun z29 => mo_changed_j300 v1 v2 v4 z29
def mo_changed_j273 (v1 : Int32) (v2 : Int32) (v4 : Int32) (s0 : Bool) (rg : Nat → Int32) : Option (Int32 × (Nat → Int32)) := (mo_mark (1 : Int32) s0 rg).bind fun z30 => (mo_flag (8 : Int32) z30).bind fun z31 => (mo_flag (1 : Int32) z30).bind fun z32 => if (bz_i z31) = (bz_i z32) then mo_changed_j297 v1 v2 v4 false z30 else mo_changed_j297 v1 v2 v4 true z30
def mo_changed_j260 (v1 : Int32) (v2 : Int32) (v4 : Int32) (rg : Nat → Int32) : Option (Int32 × (Nat → Int32)) := if v2 ≤ (127 : Int32) then mo_changed_j273 v1 v2 v4 false rg else mo_changed_j273 v1 v2 v4 true rg
def mo_changed_j248 (v1 : Int32) (v2 : Int32) (v4 : Int32) (rg : Nat → Int32) : Option (Int32 × (Nat → Int32)) := if v1 = (8 : Int32) then mo_changed_j260 v1 v2 v4 rg else if v1 = (9 : Int32) then mo_changed_j260 v1 v2 v4 rg else mo_changed_j300 v1 v2 v4 rg
def mo_changed_j245 (v1 : Int32) (v2 : Int32) (v4 : Int32) (s0 : Bool) (rg : Nat → Int32) : Option (Int32 × (Nat → Int32)) := (mo_mark (1 : Int32) s0 rg).bind fun z33 => mo_changed_j248 v1 v2 v4 z33
def mo_changed_j220 (v1 : Int32) (v2 : Int32) (v4 : Int32) (rg : Nat → Int32) : Option (Int32 × (Nat → Int32)) := if v1 < (4 : Int32) then mo_changed_j248 v1 v2 v4 rg else if (7 : Int32) < v1 then mo_changed_j248 v1 v2 v4 rg else if (v2 &&& (1 : Int32)) = (1 : Int32) then mo_changed_j245 v1 v2 v4 true rg else mo_changed_j245 v1 v2 v4 false rg
def mo_changed_j208 (v1 : Int32) (v2 : Int32) (v4 : Int32) (rg : Nat → Int32) : Option (Int32 × (Nat → Int32)) := if v1 = (15 : Int32) then (mo_mark (1 : Int32) false rg).bind fun z34 => mo_changed_j220 v1 v2 v4 z34 else mo_changed_j220 v1 v2 v4 rg
def mo_changed_j187 (v1 : Int32) (v2 : Int32) (s0 : Int32) (rg : Nat → Int32) : Option (Int32 × (Nat → Int32)) := (mo_sign s0 (8 : Int32) rg).bind fun z35 => if v1 = (3 : Int32) then (mo_mark (1 : Int32) true z35).bind fun z36 => mo_changed_j208 v1 v2 s0 z36 else mo_changed_j208 v1 v2 s0 z35
def mo_changed_j13 (v1 : Int32) (v2 : Int32) (s0 : Bool) (rg : Nat → Int32) : Option (Int32 × (Nat → Int32)) := if v1 = (0 : Int32) then (mo_difference (0 : Int32) v2 (0 : Int32) (8 : Int32) rg).bind fun z40 => mo_changed_j187 v1 v2 z40.1 z40.2 else if v1 = (3 : Int32) then (mo_plain ((255 : Int32) - v2) (8 : Int32) rg).bind fun z39 => mo_changed_j187 v1 v2 z39.1 z39.2 else if v1 = (4 : Int32) then mo_changed_j187 v1 v2 (v2 / (2 : Int32)) rg else if v1 = (6 : Int32) then mo_changed_j187 v1 v2 ((v2 / (2 : Int32)) + ((128 : Int32) * (bz_i s0))) rg else if v1 = (7 : Int32) then mo_changed_j187 v1 v2 ((v2 / (2 : Int32)) + (v2 &&& (128 : Int32))) rg else if v1 = (8 : Int32) then mo_changed_j187 v1 v2 (((2 : Int32) * v2) &&& (255 : Int32)) rg else if v1 = (9 : Int32) then mo_changed_j187 v1 v2 ((((2 : Int32) * v2) &&& (255 : Int32)) + (bz_i s0)) rg else if v1 = (10 : Int32) then mo_changed_j187 v1 v2 ((v2 + (255 : Int32)) &&& (255 : Int32)) rg else if v1 = (12 : Int32) then mo_changed_j187 v1 v2 ((v2 + (1 : Int32)) &&& (255 : Int32)) rg else if v1 = (13 : Int32) then (mo_plain v2 (8 : Int32) rg).bind fun z38 => mo_changed_j187 v1 v2 z38.1 z38.2 else (mo_plain (0 : Int32) (8 : Int32) rg).bind fun z37 => mo_changed_j187 v1 v2 z37.1 z37.2
def mo_changed (x1 : Int32) (x2 : Int32) (rg : Nat → Int32) : Option (Int32 × (Nat → Int32)) := (mo_flag (1 : Int32) rg).bind fun z41 => if (bz_i z41) = (0 : Int32) then mo_changed_j13 x1 x2 false rg else mo_changed_j13 x1 x2 true rg
def mo_lower_j187 (v2 : Int32) (v6 : Int32) (s0 : Int32) (me : Nat → Int32) (rg : Nat → Int32) (sp : Int32) (iv : Bool) : Option ((Nat → Int32) × (Nat → Int32) × Int32 × Bool) := (mo_changed v2 s0 rg).bind fun z18 => if v2 = (13 : Int32) then some (me, z18.2, sp, iv) else (mo_store v6 z18.1 false me sp).bind fun z19 => some (z19.1, z18.2, z19.2, iv)
def mo_lower_j143 (v2 : Int32) (s0 : Int32) (me : Nat → Int32) (rg : Nat → Int32) (sp : Int32) (iv : Bool) : Option ((Nat → Int32) × (Nat → Int32) × Int32 × Bool) := (mo_address s0 me rg sp iv).bind fun z20 => if (bz_i z20.2.2.2) = (0 : Int32) then if v2 = (14 : Int32) then (mo_set (5 : Int32) z20.1 z20.2.1).bind fun z22 => some (me, z22, z20.2.2.1, z20.2.2.2) else if v2 = (15 : Int32) then mo_lower_j187 v2 z20.1 (0 : Int32) me z20.2.1 z20.2.2.1 z20.2.2.2 else (mo_load z20.1 false me z20.2.2.1).bind fun z21 => mo_lower_j187 v2 z20.1 z21.1 me z20.2.1 z21.2 z20.2.2.2 else some (me, z20.2.1, z20.2.2.1, z20.2.2.2)
def mo_lower_j87 (v2 : Int32) (v3 : Int32) (v4 : Bool) (s0 : Int32) (me : Nat → Int32) (rg : Nat → Int32) (sp : Int32) (iv : Bool) : Option ((Nat → Int32) × (Nat → Int32) × Int32 × Bool) := if (bz_i v4) = (0 : Int32) then if v3 = (0 : Int32) then mo_lower_j143 v2 (1 : Int32) me rg sp iv else if v3 = (6 : Int32) then mo_lower_j143 v2 (2 : Int32) me rg sp iv else mo_lower_j143 v2 (3 : Int32) me rg sp iv else if in_b s0 12 = true then (mo_changed v2 (rg (s0.toNatClampNeg)) rg).bind fun z24 => if v2 = (13 : Int32) then some (me, z24.2, sp, iv) else (mo_set s0 z24.1 z24.2).bind fun z25 => some (me, z25, sp, iv) else none
def mo_lower_j64 (v2 : Int32) (v3 : Int32) (v4 : Bool) (s0 : Bool) (me : Nat → Int32) (rg : Nat → Int32) (sp : Int32) (iv : Bool) : Option ((Nat → Int32) × (Nat → Int32) × Int32 × Bool) := if (bz_i s0) = (0 : Int32) then if v3 = (4 : Int32) then mo_lower_j87 v2 v3 v4 (8 : Int32) me rg sp s0 else mo_lower_j87 v2 v3 v4 (9 : Int32) me rg sp s0 else some (me, rg, sp, s0)
def mo_lower_j63 (v2 : Int32) (v3 : Int32) (v4 : Bool) (me : Nat → Int32) (rg : Nat → Int32) (sp : Int32) (iv : Bool) : Option ((Nat → Int32) × (Nat → Int32) × Int32 × Bool) := mo_lower_j64 v2 v3 v4 false me rg sp iv
def mo_lower_j59 (v2 : Int32) (v3 : Int32) (v4 : Bool) (me : Nat → Int32) (rg : Nat → Int32) (sp : Int32) (iv : Bool) : Option ((Nat → Int32) × (Nat → Int32) × Int32 × Bool) := mo_lower_j64 v2 v3 v4 true me rg sp iv
def mo_lower_j24 (v2 : Int32) (v3 : Int32) (s0 : Bool) (me : Nat → Int32) (rg : Nat → Int32) (sp : Int32) (iv : Bool) : Option ((Nat → Int32) × (Nat → Int32) × Int32 × Bool) := if v2 = (1 : Int32) then mo_lower_j59 v2 v3 s0 me rg sp iv else if v2 = (2 : Int32) then mo_lower_j59 v2 v3 s0 me rg sp iv else if v2 = (5 : Int32) then mo_lower_j59 v2 v3 s0 me rg sp iv else if v2 = (11 : Int32) then mo_lower_j59 v2 v3 s0 me rg sp iv else if v2 = (14 : Int32) then if (bz_i s0) = (0 : Int32) then mo_lower_j63 v2 v3 s0 me rg sp iv else mo_lower_j59 v2 v3 s0 me rg sp iv else mo_lower_j63 v2 v3 s0 me rg sp iv
def mo_lower_j19 (v2 : Int32) (v3 : Int32) (me : Nat → Int32) (rg : Nat → Int32) (sp : Int32) (iv : Bool) : Option ((Nat → Int32) × (Nat → Int32) × Int32 × Bool) := mo_lower_j24 v2 v3 true me rg sp iv
def mo_lower (x1 : Int32) (me : Nat → Int32) (rg : Nat → Int32) (sp : Int32) (iv : Bool) : Option ((Nat → Int32) × (Nat → Int32) × Int32 × Bool) := if (x1 >>> ((4 : Int32) &&& 31)) = (4 : Int32) then mo_lower_j19 (x1 &&& (15 : Int32)) (x1 >>> ((4 : Int32) &&& 31)) me rg sp iv else if (x1 >>> ((4 : Int32) &&& 31)) = (5 : Int32) then mo_lower_j19 (x1 &&& (15 : Int32)) (x1 >>> ((4 : Int32) &&& 31)) me rg sp iv else mo_lower_j24 (x1 &&& (15 : Int32)) (x1 >>> ((4 : Int32) &&& 31)) false me rg sp iv
def mo_holds_j114 (rg : Nat → Int32) : Option (Bool) := some true
def mo_holds_j98 (v1 : Int32) (v2 : Bool) (v3 : Bool) (v4 : Bool) (rg : Nat → Int32) : Option (Bool) := if v1 = (14 : Int32) then if (bz_i v2) = (bz_i v4) then if (bz_i v3) = (0 : Int32) then mo_holds_j114 rg else some false else some false else some false
def mo_holds_j86 (v1 : Int32) (v2 : Bool) (v3 : Bool) (v4 : Bool) (rg : Nat → Int32) : Option (Bool) := if v1 = (12 : Int32) then if (bz_i v2) = (bz_i v4) then mo_holds_j114 rg else mo_holds_j98 v1 v2 v3 v4 rg else mo_holds_j98 v1 v2 v3 v4 rg
def mo_holds_j76 (v1 : Int32) (v2 : Bool) (v3 : Bool) (v4 : Bool) (rg : Nat → Int32) : Option (Bool) := if v1 = (10 : Int32) then if (bz_i v2) = (0 : Int32) then mo_holds_j114 rg else mo_holds_j86 v1 v2 v3 v4 rg else mo_holds_j86 v1 v2 v3 v4 rg
def mo_holds_j65 (v1 : Int32) (v2 : Bool) (v3 : Bool) (v4 : Bool) (rg : Nat → Int32) : Option (Bool) := if v1 = (8 : Int32) then if (bz_i v4) = (0 : Int32) then mo_holds_j114 rg else mo_holds_j76 v1 v2 v3 v4 rg else mo_holds_j76 v1 v2 v3 v4 rg
def mo_holds_j55 (v1 : Int32) (v2 : Bool) (v3 : Bool) (v4 : Bool) (rg : Nat → Int32) : Option (Bool) := if v1 = (6 : Int32) then if (bz_i v3) = (0 : Int32) then mo_holds_j114 rg else mo_holds_j65 v1 v2 v3 v4 rg else mo_holds_j65 v1 v2 v3 v4 rg
def mo_holds_j45 (v1 : Int32) (v2 : Bool) (v3 : Bool) (v4 : Bool) (v5 : Bool) (rg : Nat → Int32) : Option (Bool) := if v1 = (4 : Int32) then if (bz_i v5) = (0 : Int32) then mo_holds_j114 rg else mo_holds_j55 v1 v2 v3 v4 rg else mo_holds_j55 v1 v2 v3 v4 rg
def mo_holds (x1 : Int32) (rg : Nat → Int32) : Option (Bool) := (mo_flag (8 : Int32) rg).bind fun z5 => (mo_flag (4 : Int32) rg).bind fun z6 => (mo_flag (2 : Int32) rg).bind fun z7 => (mo_flag (1 : Int32) rg).bind fun z8 => if x1 = (0 : Int32) then mo_holds_j114 rg else if x1 = (2 : Int32) then if (bz_i z8) = (0 : Int32) then if (bz_i z6) = (0 : Int32) then mo_holds_j114 rg else mo_holds_j45 x1 z5 z6 z7 z8 rg else mo_holds_j45 x1 z5 z6 z7 z8 rg else mo_holds_j45 x1 z5 z6 z7 z8 rg
def mo_branch_j40 (v2 : Int32) (s0 : Bool) (me : Nat → Int32) (rg : Nat → Int32) (sp : Int32) : Option ((Nat → Int32) × Int32) := if (bz_i s0) = (0 : Int32) then some (rg, sp) else (mo_set (5 : Int32) ((rg 5) + v2) rg).bind fun z6 => some (z6, sp)
def mo_branch_j32 (v2 : Int32) (s0 : Bool) (s1 : Bool) (me : Nat → Int32) (rg : Nat → Int32) (sp : Int32) : Option ((Nat → Int32) × Int32) := if (bz_i s1) = (bz_i s0) then mo_branch_j40 v2 true me rg sp else mo_branch_j40 v2 false me rg sp
def mo_branch (x1 : Int32) (me : Nat → Int32) (rg : Nat → Int32) (sp : Int32) : Option ((Nat → Int32) × Int32) := (mo_fetch me rg sp).bind fun z7 => (mo_signed z7.1).bind fun z8 => (mo_holds ((x1 &&& (15 : Int32)) &&& (14 : Int32)) z7.2.1).bind fun z9 => if ((x1 &&& (15 : Int32)) - (x1 &&& (15 : Int32)) / (2 : Int32) * (2 : Int32)) = (0 : Int32) then mo_branch_j32 z8 true z9 me z7.2.1 z7.2.2 else mo_branch_j32 z8 false z9 me z7.2.1 z7.2.2
def mo_trade_j86 (v1 : Int32) (v3 : Int32) (v4 : Int32) (s0 : Bool) (me : Nat → Int32) (rg : Nat → Int32) (sp : Int32) (iv : Bool) : Option ((Nat → Int32) × Int32 × Bool) := if (bz_i s0) = (0 : Int32) then (mo_get v3 rg).bind fun z10 => (mo_get v4 rg).bind fun z11 => (mo_set v4 z10 rg).bind fun z12 => if v1 = (30 : Int32) then (mo_set v3 z11 z12).bind fun z13 => some (z13, sp, s0) else some (z12, sp, s0) else some (rg, sp, s0)
def mo_trade_j81 (v1 : Int32) (v3 : Int32) (v4 : Int32) (me : Nat → Int32) (rg : Nat → Int32) (sp : Int32) (iv : Bool) : Option ((Nat → Int32) × Int32 × Bool) := mo_trade_j86 v1 v3 v4 true me rg sp iv
def mo_trade_j78 (v1 : Int32) (v3 : Int32) (v4 : Int32) (s0 : Bool) (s1 : Bool) (me : Nat → Int32) (rg : Nat → Int32) (sp : Int32) (iv : Bool) : Option ((Nat → Int32) × Int32 × Bool) := if (bz_i s1) = (bz_i s0) then mo_trade_j86 v1 v3 v4 false me rg sp iv else mo_trade_j81 v1 v3 v4 me rg sp iv
def mo_trade_j66 (v1 : Int32) (v3 : Int32) (v4 : Int32) (s0 : Bool) (me : Nat → Int32) (rg : Nat → Int32) (sp : Int32) (iv : Bool) : Option ((Nat → Int32) × Int32 × Bool) := if (8 : Int32) ≤ v4 then mo_trade_j78 v1 v3 v4 false s0 me rg sp iv else mo_trade_j78 v1 v3 v4 true s0 me rg sp iv
def mo_trade (x1 : Int32) (me : Nat → Int32) (rg : Nat → Int32) (sp : Int32) (iv : Bool) : Option ((Nat → Int32) × Int32 × Bool) := (mo_fetch me rg sp).bind fun z14 => if (z14.1 >>> ((4 : Int32) &&& 31)) = (6 : Int32) then mo_trade_j81 x1 (z14.1 >>> ((4 : Int32) &&& 31)) (z14.1 &&& (15 : Int32)) me z14.2.1 z14.2.2 iv else if (z14.1 >>> ((4 : Int32) &&& 31)) = (7 : Int32) then mo_trade_j81 x1 (z14.1 >>> ((4 : Int32) &&& 31)) (z14.1 &&& (15 : Int32)) me z14.2.1 z14.2.2 iv else if (11 : Int32) < (z14.1 >>> ((4 : Int32) &&& 31)) then mo_trade_j81 x1 (z14.1 >>> ((4 : Int32) &&& 31)) (z14.1 &&& (15 : Int32)) me z14.2.1 z14.2.2 iv else if (z14.1 &&& (15 : Int32)) = (6 : Int32) then mo_trade_j81 x1 (z14.1 >>> ((4 : Int32) &&& 31)) (z14.1 &&& (15 : Int32)) me z14.2.1 z14.2.2 iv else if (z14.1 &&& (15 : Int32)) = (7 : Int32) then mo_trade_j81 x1 (z14.1 >>> ((4 : Int32) &&& 31)) (z14.1 &&& (15 : Int32)) me z14.2.1 z14.2.2 iv else if (11 : Int32) < (z14.1 &&& (15 : Int32)) then mo_trade_j81 x1 (z14.1 >>> ((4 : Int32) &&& 31)) (z14.1 &&& (15 : Int32)) me z14.2.1 z14.2.2 iv else if (8 : Int32) ≤ (z14.1 >>> ((4 : Int32) &&& 31)) then mo_trade_j66 x1 (z14.1 >>> ((4 : Int32) &&& 31)) (z14.1 &&& (15 : Int32)) false me z14.2.1 z14.2.2 iv else mo_trade_j66 x1 (z14.1 >>> ((4 : Int32) &&& 31)) (z14.1 &&& (15 : Int32)) true me z14.2.1 z14.2.2 iv
def mo_listed (x1 : Int32) (x2 : Int32) : Option (Int32) := if x1 = (0 : Int32) then some (10 : Int32) else if x1 = (1 : Int32) then some (8 : Int32) else if x1 = (2 : Int32) then some (9 : Int32) else if x1 = (3 : Int32) then some (11 : Int32) else if x1 = (4 : Int32) then some (1 : Int32) else if x1 = (5 : Int32) then some (2 : Int32) else if x1 = (7 : Int32) then some (5 : Int32) else if x2 = (4 : Int32) then some (3 : Int32) else some (4 : Int32)
def mo_many_j97 (rec_ : Int32 → Int32 → Int32 → Int32 → (Nat → Int32) → (Nat → Int32) → Int32 → Option ((Nat → Int32) × (Nat → Int32) × Int32)) (v1 : Int32) (v2 : Int32) (v3 : Int32) (v4 : Int32) (me : Nat → Int32) (rg : Nat → Int32) (sp : Int32) : Option ((Nat → Int32) × (Nat → Int32) × Int32) := rec_ v1 v2 v3 (v4 + Int32.ofInt 1) me rg sp
def mo_many_l62 : Nat → Int32 → Int32 → Int32 → Int32 → (Nat → Int32) → (Nat → Int32) → Int32 → Option ((Nat → Int32) × (Nat → Int32) × Int32)
  | 0, _, _, _, _, _, _, _ => none
  | n_ + 1, v1, v2, v3, v4, me, rg, sp => if (8 : Int32) ≤ v4 then some (me, rg, sp) else if (v1 - v1 / (2 : Int32) * (2 : Int32)) = (1 : Int32) then if ((v2 >>> (v4 &&& 31)) &&& (1 : Int32)) = (1 : Int32) then (mo_listed v4 v3).bind fun z10 => (mo_pull v3 z10 me rg sp).bind fun z11 => mo_many_j97 (mo_many_l62 n_) v1 v2 v3 v4 me z11.1 z11.2 else mo_many_j97 (mo_many_l62 n_) v1 v2 v3 v4 me rg sp else some (me, rg, sp)
theorem mo_many_l62_s (n_ : Nat) (v1 : Int32) (v2 : Int32) (v3 : Int32) (v4 : Int32) (me : Nat → Int32) (rg : Nat → Int32) (sp : Int32) : mo_many_l62 (n_ + 1) v1 v2 v3 v4 me rg sp = (if (8 : Int32) ≤ v4 then some (me, rg, sp) else if (v1 - v1 / (2 : Int32) * (2 : Int32)) = (1 : Int32) then if ((v2 >>> (v4 &&& 31)) &&& (1 : Int32)) = (1 : Int32) then (mo_listed v4 v3).bind fun z10 => (mo_pull v3 z10 me rg sp).bind fun z11 => mo_many_j97 (mo_many_l62 n_) v1 v2 v3 v4 me z11.1 z11.2 else mo_many_j97 (mo_many_l62 n_) v1 v2 v3 v4 me rg sp else some (me, rg, sp)) := rfl
def mo_many_j59 (v1 : Int32) (v2 : Int32) (v3 : Int32) (me : Nat → Int32) (rg : Nat → Int32) (sp : Int32) : Option ((Nat → Int32) × (Nat → Int32) × Int32) := mo_many_l62 9 v1 v2 v3 (0 : Int32) me rg sp
def mo_many_j53 (rec_ : Int32 → Int32 → Int32 → Int32 → (Nat → Int32) → (Nat → Int32) → Int32 → Option ((Nat → Int32) × (Nat → Int32) × Int32)) (v1 : Int32) (v2 : Int32) (v3 : Int32) (v4 : Int32) (me : Nat → Int32) (rg : Nat → Int32) (sp : Int32) : Option ((Nat → Int32) × (Nat → Int32) × Int32) := rec_ v1 v2 v3 (v4 + Int32.ofInt (-1)) me rg sp
def mo_many_l21 : Nat → Int32 → Int32 → Int32 → Int32 → (Nat → Int32) → (Nat → Int32) → Int32 → Option ((Nat → Int32) × (Nat → Int32) × Int32)
  | 0, _, _, _, _, _, _, _ => none
  | n_ + 1, v1, v2, v3, v4, me, rg, sp => if v4 < (0 : Int32) then mo_many_j59 v1 v2 v3 me rg sp else if (v1 - v1 / (2 : Int32) * (2 : Int32)) = (0 : Int32) then if ((v2 >>> (v4 &&& 31)) &&& (1 : Int32)) = (1 : Int32) then (mo_listed v4 v3).bind fun z12 => (mo_push v3 z12 me rg sp).bind fun z13 => mo_many_j53 (mo_many_l21 n_) v1 v2 v3 v4 z13.1 z13.2.1 z13.2.2 else mo_many_j53 (mo_many_l21 n_) v1 v2 v3 v4 me rg sp else mo_many_j59 v1 v2 v3 me rg sp
theorem mo_many_l21_s (n_ : Nat) (v1 : Int32) (v2 : Int32) (v3 : Int32) (v4 : Int32) (me : Nat → Int32) (rg : Nat → Int32) (sp : Int32) : mo_many_l21 (n_ + 1) v1 v2 v3 v4 me rg sp = (if v4 < (0 : Int32) then mo_many_j59 v1 v2 v3 me rg sp else if (v1 - v1 / (2 : Int32) * (2 : Int32)) = (0 : Int32) then if ((v2 >>> (v4 &&& 31)) &&& (1 : Int32)) = (1 : Int32) then (mo_listed v4 v3).bind fun z12 => (mo_push v3 z12 me rg sp).bind fun z13 => mo_many_j53 (mo_many_l21 n_) v1 v2 v3 v4 z13.1 z13.2.1 z13.2.2 else mo_many_j53 (mo_many_l21 n_) v1 v2 v3 v4 me rg sp else mo_many_j59 v1 v2 v3 me rg sp) := rfl
def mo_many_j16 (v1 : Int32) (v2 : Int32) (s0 : Int32) (me : Nat → Int32) (rg : Nat → Int32) (sp : Int32) : Option ((Nat → Int32) × (Nat → Int32) × Int32) := mo_many_l21 9 v1 v2 s0 (7 : Int32) me rg sp
def mo_many (x1 : Int32) (me : Nat → Int32) (rg : Nat → Int32) (sp : Int32) : Option ((Nat → Int32) × (Nat → Int32) × Int32) := (mo_fetch me rg sp).bind fun z14 => if (54 : Int32) ≤ x1 then mo_many_j16 x1 z14.1 (3 : Int32) me z14.2.1 z14.2.2 else mo_many_j16 x1 z14.1 (4 : Int32) me z14.2.1 z14.2.2
def mo_framed (x1 : Int32) : Option (Int32) := if x1 = (0 : Int32) then some (10 : Int32) else if x1 = (1 : Int32) then some (8 : Int32) else if x1 = (2 : Int32) then some (9 : Int32) else if x1 = (3 : Int32) then some (11 : Int32) else if x1 = (4 : Int32) then some (1 : Int32) else if x1 = (5 : Int32) then some (2 : Int32) else if x1 = (6 : Int32) then some (3 : Int32) else some (5 : Int32)
def mo_stack_l16 : Nat → Int32 → Int32 → (Nat → Int32) → (Nat → Int32) → (Nat → Int32) → Int32 → Int32 → Option ((Nat → Int32) × (Nat → Int32) × (Nat → Int32) × Int32 × Int32)
  | 0, _, _, _, _, _, _, _ => none
  | n_ + 1, v1, v2, me, rg, sv, ru, sp => if v2 < (0 : Int32) then if in_b ru 4 = true then some (me, rg, (upd sv (ru.toNatClampNeg) (rg 4)), (-1 : Int32), v1) else none else (mo_framed v2).bind fun z9 => (mo_push (4 : Int32) z9 me rg sp).bind fun z10 => mo_stack_l16 n_ v1 (v2 + Int32.ofInt (-1)) z10.1 z10.2.1 sv ru z10.2.2
theorem mo_stack_l16_s (n_ : Nat) (v1 : Int32) (v2 : Int32) (me : Nat → Int32) (rg : Nat → Int32) (sv : Nat → Int32) (ru : Int32) (sp : Int32) : mo_stack_l16 (n_ + 1) v1 v2 me rg sv ru sp = (if v2 < (0 : Int32) then if in_b ru 4 = true then some (me, rg, (upd sv (ru.toNatClampNeg) (rg 4)), (-1 : Int32), v1) else none else (mo_framed v2).bind fun z9 => (mo_push (4 : Int32) z9 me rg sp).bind fun z10 => mo_stack_l16 n_ v1 (v2 + Int32.ofInt (-1)) z10.1 z10.2.1 sv ru z10.2.2) := rfl
def mo_stack (me : Nat → Int32) (rg : Nat → Int32) (sv : Nat → Int32) (ru : Int32) (sp : Int32) : Option ((Nat → Int32) × (Nat → Int32) × (Nat → Int32) × Int32 × Int32) := (mo_mark (128 : Int32) true rg).bind fun z11 => mo_stack_l16 9 sp (7 : Int32) me z11 sv ru sp
def mo_leave_j37 (rec_ : Int32 → Int32 → Int32 → (Nat → Int32) → Int32 → Option ((Nat → Int32) × Int32)) (v1 : Int32) (v2 : Int32) (v3 : Int32) (qu : Nat → Int32) (wa : Int32) : Option ((Nat → Int32) × Int32) := rec_ v1 v2 (v3 + Int32.ofInt 1) qu wa
def mo_leave_l4 : Nat → Int32 → Int32 → Int32 → (Nat → Int32) → Int32 → Option ((Nat → Int32) × Int32)
  | 0, _, _, _, _, _ => none
  | n_ + 1, v1, v2, v3, qu, wa => if wa ≤ v3 then some (qu, v2) else if in_b v3 4 = true then if (qu (v3.toNatClampNeg)) = v1 then mo_leave_j37 (mo_leave_l4 n_) v1 v2 v3 qu wa else if in_b v2 4 = true then mo_leave_j37 (mo_leave_l4 n_) v1 (v2 + Int32.ofInt 1) v3 (upd qu (v2.toNatClampNeg) (qu (v3.toNatClampNeg))) wa else none else none
theorem mo_leave_l4_s (n_ : Nat) (v1 : Int32) (v2 : Int32) (v3 : Int32) (qu : Nat → Int32) (wa : Int32) : mo_leave_l4 (n_ + 1) v1 v2 v3 qu wa = (if wa ≤ v3 then some (qu, v2) else if in_b v3 4 = true then if (qu (v3.toNatClampNeg)) = v1 then mo_leave_j37 (mo_leave_l4 n_) v1 v2 v3 qu wa else if in_b v2 4 = true then mo_leave_j37 (mo_leave_l4 n_) v1 (v2 + Int32.ofInt 1) v3 (upd qu (v2.toNatClampNeg) (qu (v3.toNatClampNeg))) wa else none else none) := rfl
def mo_leave (x1 : Int32) (qu : Nat → Int32) (wa : Int32) : Option ((Nat → Int32) × Int32) := mo_leave_l4 5 x1 (0 : Int32) (0 : Int32) qu wa
def mo_take_l19 : Nat → Int32 → Int32 → Int32 → (Nat → Int32) → (Nat → Int32) → (Nat → Int32) → (Nat → Int32) → Int32 → Int32 → Option ((Nat → Int32) × (Nat → Int32) × Int32 × Int32)
  | 0, _, _, _, _, _, _, _, _, _ => none
  | n_ + 1, v1, v2, v3, me, rg, so, sv, ru, sp => if (8 : Int32) ≤ v3 then if in_b v1 4 = true then some (rg, (upd so (v1.toNatClampNeg) (1 : Int32)), v1, v2) else none else (mo_framed v3).bind fun z9 => (mo_pull (4 : Int32) z9 me rg sp).bind fun z10 => mo_take_l19 n_ v1 v2 (v3 + Int32.ofInt 1) me z10.1 so sv ru z10.2
theorem mo_take_l19_s (n_ : Nat) (v1 : Int32) (v2 : Int32) (v3 : Int32) (me : Nat → Int32) (rg : Nat → Int32) (so : Nat → Int32) (sv : Nat → Int32) (ru : Int32) (sp : Int32) : mo_take_l19 (n_ + 1) v1 v2 v3 me rg so sv ru sp = (if (8 : Int32) ≤ v3 then if in_b v1 4 = true then some (rg, (upd so (v1.toNatClampNeg) (1 : Int32)), v1, v2) else none else (mo_framed v3).bind fun z9 => (mo_pull (4 : Int32) z9 me rg sp).bind fun z10 => mo_take_l19 n_ v1 v2 (v3 + Int32.ofInt 1) me z10.1 so sv ru z10.2) := rfl
def mo_take (x1 : Int32) (me : Nat → Int32) (rg : Nat → Int32) (so : Nat → Int32) (sv : Nat → Int32) (ru : Int32) (sp : Int32) : Option ((Nat → Int32) × (Nat → Int32) × Int32 × Int32) := if in_b x1 4 = true then mo_take_l19 9 x1 sp (0 : Int32) me (upd rg 4 (sv (x1.toNatClampNeg))) so sv ru sp else none
def mo_next (me : Nat → Int32) (rg : Nat → Int32) (so : Nat → Int32) (sv : Nat → Int32) (qu : Nat → Int32) (wa : Int32) (ru : Int32) (sp : Int32) : Option ((Nat → Int32) × (Nat → Int32) × (Nat → Int32) × Int32 × Int32 × Int32) := if (0 : Int32) ≤ ru then some (rg, so, qu, wa, ru, sp) else if wa = (0 : Int32) then some (rg, so, qu, wa, ru, sp) else (mo_leave (qu 0) qu wa).bind fun z3 => (mo_take (qu 0) me rg so sv ru sp).bind fun z4 => some (z4.1, z4.2.1, z3.1, z3.2, z4.2.2.1, z4.2.2.2)
def mo_end_j43 (s0 : Int32) (me : Nat → Int32) (rg : Nat → Int32) (so : Nat → Int32) (sv : Nat → Int32) (tl : Nat → Int32) (su : Nat → Int32) (qu : Nat → Int32) (wa : Int32) (ru : Int32) (sp : Int32) : Option ((Nat → Int32) × (Nat → Int32) × (Nat → Int32) × (Nat → Int32) × (Nat → Int32) × Int32 × Int32 × Int32) := (mo_next me rg so sv qu wa s0 sp).bind fun z4 => some (z4.1, z4.2.1, tl, su, z4.2.2.1, z4.2.2.2.1, z4.2.2.2.2.1, z4.2.2.2.2.2)
def mo_end (x1 : Int32) (x2 : Int32) (me : Nat → Int32) (rg : Nat → Int32) (so : Nat → Int32) (sv : Nat → Int32) (tl : Nat → Int32) (su : Nat → Int32) (qu : Nat → Int32) (wa : Int32) (ru : Int32) (sp : Int32) : Option ((Nat → Int32) × (Nat → Int32) × (Nat → Int32) × (Nat → Int32) × (Nat → Int32) × Int32 × Int32 × Int32) := (mo_leave x1 qu wa).bind fun z5 => if in_b x1 4 = true then if ru = x1 then mo_end_j43 (-1 : Int32) me rg (upd so (x1.toNatClampNeg) (0 : Int32)) sv (upd tl (x1.toNatClampNeg) (0 : Int32)) (upd su (x1.toNatClampNeg) x2) z5.1 z5.2 ru sp else mo_end_j43 ru me rg (upd so (x1.toNatClampNeg) (0 : Int32)) sv (upd tl (x1.toNatClampNeg) (0 : Int32)) (upd su (x1.toNatClampNeg) x2) z5.1 z5.2 ru sp else none
def mo_comeLast (x1 : Int32) (so : Nat → Int32) (qu : Nat → Int32) (wa : Int32) : Option ((Nat → Int32) × (Nat → Int32) × Int32) := if in_b x1 4 = true then if in_b wa 4 = true then some ((upd so (x1.toNatClampNeg) (2 : Int32)), (upd qu (wa.toNatClampNeg) x1), (wa + (1 : Int32))) else none else none
def mo_answer_j56 (s0 : Int32) (s1 : Int32) (me : Nat → Int32) (sv : Nat → Int32) : Option ((Nat → Int32)) := (mo_put s1 s0 me).bind fun z7 => some z7
def mo_answer_j22 (v3 : Int32) (v4 : Bool) (v5 : Int32) (s0 : Int32) (s1 : Int32) (me : Nat → Int32) (sv : Nat → Int32) : Option ((Nat → Int32)) := (mo_put (s1 + s0) v3 me).bind fun z8 => (mo_at v5 z8).bind fun z9 => if (bz_i v4) = (0 : Int32) then mo_answer_j56 (z9 &&& (254 : Int32)) v5 z8 sv else mo_answer_j56 (z9 ||| (1 : Int32)) v5 z8 sv
def mo_answer (x1 : Int32) (x2 : Int32) (x3 : Int32) (x4 : Bool) (me : Nat → Int32) (sv : Nat → Int32) : Option ((Nat → Int32)) := if in_b x1 4 = true then if x2 = (8 : Int32) then mo_answer_j22 x3 x4 (sv (x1.toNatClampNeg)) (1 : Int32) (sv (x1.toNatClampNeg)) me sv else mo_answer_j22 x3 x4 (sv (x1.toNatClampNeg)) (2 : Int32) (sv (x1.toNatClampNeg)) me sv else none
def mo_begin_l13 : Nat → Int32 → Int32 → Int32 → Int32 → Int32 → (Nat → Int32) → (Nat → Int32) → (Nat → Int32) → (Nat → Int32) → Int32 → Option ((Nat → Int32) × (Nat → Int32) × (Nat → Int32) × (Nat → Int32) × Int32)
  | 0, _, _, _, _, _, _, _, _, _, _ => none
  | n_ + 1, v1, v2, v3, v4, v5, me, so, sv, qu, wa => if (12 : Int32) ≤ v5 then (mo_put v4 (128 : Int32) me).bind fun z15 => (mo_put (v4 + (1 : Int32)) v3 z15).bind fun z16 => (mo_put (v4 + (10 : Int32)) (v2 >>> ((8 : Int32) &&& 31)) z16).bind fun z17 => (mo_put (v4 + (11 : Int32)) v2 z17).bind fun z18 => if in_b v1 4 = true then (mo_comeLast v1 so qu wa).bind fun z20 => some (z18, z20.1, (upd sv (v1.toNatClampNeg) v4), z20.2.1, z20.2.2) else none else (mo_put (v4 + v5) (0 : Int32) me).bind fun z21 => mo_begin_l13 n_ v1 v2 v3 v4 (v5 + Int32.ofInt 1) z21 so sv qu wa
theorem mo_begin_l13_s (n_ : Nat) (v1 : Int32) (v2 : Int32) (v3 : Int32) (v4 : Int32) (v5 : Int32) (me : Nat → Int32) (so : Nat → Int32) (sv : Nat → Int32) (qu : Nat → Int32) (wa : Int32) : mo_begin_l13 (n_ + 1) v1 v2 v3 v4 v5 me so sv qu wa = (if (12 : Int32) ≤ v5 then (mo_put v4 (128 : Int32) me).bind fun z15 => (mo_put (v4 + (1 : Int32)) v3 z15).bind fun z16 => (mo_put (v4 + (10 : Int32)) (v2 >>> ((8 : Int32) &&& 31)) z16).bind fun z17 => (mo_put (v4 + (11 : Int32)) v2 z17).bind fun z18 => if in_b v1 4 = true then (mo_comeLast v1 so qu wa).bind fun z20 => some (z18, z20.1, (upd sv (v1.toNatClampNeg) v4), z20.2.1, z20.2.2) else none else (mo_put (v4 + v5) (0 : Int32) me).bind fun z21 => mo_begin_l13 n_ v1 v2 v3 v4 (v5 + Int32.ofInt 1) z21 so sv qu wa) := rfl
def mo_begin (x1 : Int32) (x2 : Int32) (x3 : Int32) (me : Nat → Int32) (so : Nat → Int32) (sv : Nat → Int32) (qu : Nat → Int32) (wa : Int32) : Option ((Nat → Int32) × (Nat → Int32) × (Nat → Int32) × (Nat → Int32) × Int32) := mo_begin_l13 13 x1 x2 x3 (((128 : Int32) * x1) + (116 : Int32)) (0 : Int32) me so sv qu wa
def mo_kernel_j228 (v2 : Int32) (me : Nat → Int32) (rg : Nat → Int32) (so : Nat → Int32) (sv : Nat → Int32) (tl : Nat → Int32) (su : Nat → Int32) (qu : Nat → Int32) (wa : Int32) (ru : Int32) (sp : Int32) : Option ((Nat → Int32) × (Nat → Int32) × (Nat → Int32) × (Nat → Int32) × (Nat → Int32) × (Nat → Int32) × (Nat → Int32) × Int32 × Int32 × Int32) := (mo_take v2 me rg so sv ru sp).bind fun z21 => some (me, z21.1, z21.2.1, sv, tl, su, qu, wa, z21.2.2.1, z21.2.2.2)
def mo_kernel_j224 (v2 : Int32) (s0 : Int32) (s2 : Int32) (me : Nat → Int32) (rg : Nat → Int32) (so : Nat → Int32) (sv : Nat → Int32) (tl : Nat → Int32) (su : Nat → Int32) (qu : Nat → Int32) (wa : Int32) (ru : Int32) (sp : Int32) : Option ((Nat → Int32) × (Nat → Int32) × (Nat → Int32) × (Nat → Int32) × (Nat → Int32) × (Nat → Int32) × (Nat → Int32) × Int32 × Int32 × Int32) := (mo_answer s2 (9 : Int32) s0 true me sv).bind fun z22 => mo_kernel_j228 v2 z22 rg so sv tl su qu wa ru sp
def mo_kernel_j210 (v1 : Int32) (v2 : Int32) (me : Nat → Int32) (rg : Nat → Int32) (so : Nat → Int32) (sv : Nat → Int32) (tl : Nat → Int32) (su : Nat → Int32) (qu : Nat → Int32) (wa : Int32) (ru : Int32) (sp : Int32) : Option ((Nat → Int32) × (Nat → Int32) × (Nat → Int32) × (Nat → Int32) × (Nat → Int32) × (Nat → Int32) × (Nat → Int32) × Int32 × Int32 × Int32) := if v1 = (1 : Int32) then mo_kernel_j224 v2 (1 : Int32) v2 me rg so sv tl su qu wa ru sp else mo_kernel_j224 v2 (2 : Int32) v2 me rg so sv tl su qu wa ru sp
def mo_kernel_l142 : Nat → Int32 → Int32 → Int32 → Int32 → Int32 → (Nat → Int32) → (Nat → Int32) → (Nat → Int32) → (Nat → Int32) → (Nat → Int32) → (Nat → Int32) → (Nat → Int32) → Int32 → Int32 → Int32 → Option ((Nat → Int32) × (Nat → Int32) × (Nat → Int32) × (Nat → Int32) × (Nat → Int32) × (Nat → Int32) × (Nat → Int32) × Int32 × Int32 × Int32)
  | 0, _, _, _, _, _, _, _, _, _, _, _, _, _, _, _ => none
  | n_ + 1, v2, v3, v4, v5, v6, me, rg, so, sv, tl, su, qu, wa, ru, sp => if (128 : Int32) ≤ v6 then (mo_begin v5 (((128 : Int32) * v5) + v3) v4 me so sv qu wa).bind fun z23 => (mo_answer v2 (8 : Int32) v5 false z23.1 z23.2.2.1).bind fun z24 => mo_kernel_j228 v2 z24 rg z23.2.1 z23.2.2.1 tl su z23.2.2.2.1 z23.2.2.2.2 ru sp else (mo_at (((128 : Int32) * v2) + v6) me).bind fun z25 => (mo_put (((128 : Int32) * v5) + v6) z25 me).bind fun z26 => mo_kernel_l142 n_ v2 v3 v4 v5 (v6 + Int32.ofInt 1) z26 rg so sv tl su qu wa ru sp
theorem mo_kernel_l142_s (n_ : Nat) (v2 : Int32) (v3 : Int32) (v4 : Int32) (v5 : Int32) (v6 : Int32) (me : Nat → Int32) (rg : Nat → Int32) (so : Nat → Int32) (sv : Nat → Int32) (tl : Nat → Int32) (su : Nat → Int32) (qu : Nat → Int32) (wa : Int32) (ru : Int32) (sp : Int32) : mo_kernel_l142 (n_ + 1) v2 v3 v4 v5 v6 me rg so sv tl su qu wa ru sp = (if (128 : Int32) ≤ v6 then (mo_begin v5 (((128 : Int32) * v5) + v3) v4 me so sv qu wa).bind fun z23 => (mo_answer v2 (8 : Int32) v5 false z23.1 z23.2.2.1).bind fun z24 => mo_kernel_j228 v2 z24 rg z23.2.1 z23.2.2.1 tl su z23.2.2.2.1 z23.2.2.2.2 ru sp else (mo_at (((128 : Int32) * v2) + v6) me).bind fun z25 => (mo_put (((128 : Int32) * v5) + v6) z25 me).bind fun z26 => mo_kernel_l142 n_ v2 v3 v4 v5 (v6 + Int32.ofInt 1) z26 rg so sv tl su qu wa ru sp) := rfl
def mo_kernel_j104 (v1 : Int32) (v2 : Int32) (v3 : Int32) (v4 : Int32) (v5 : Int32) (me : Nat → Int32) (rg : Nat → Int32) (so : Nat → Int32) (sv : Nat → Int32) (tl : Nat → Int32) (su : Nat → Int32) (qu : Nat → Int32) (wa : Int32) (ru : Int32) (sp : Int32) : Option ((Nat → Int32) × (Nat → Int32) × (Nat → Int32) × (Nat → Int32) × (Nat → Int32) × (Nat → Int32) × (Nat → Int32) × Int32 × Int32 × Int32) := if v1 = (4 : Int32) then (mo_answer v2 (8 : Int32) v2 false me sv).bind fun z27 => mo_kernel_j228 v2 z27 rg so sv tl su qu wa ru sp else if v1 = (1 : Int32) then if (4 : Int32) ≤ v5 then mo_kernel_j210 v1 v2 me rg so sv tl su qu wa ru sp else if (128 : Int32) ≤ v3 then mo_kernel_j210 v1 v2 me rg so sv tl su qu wa ru sp else mo_kernel_l142 129 v2 v3 v4 v5 (0 : Int32) me rg so sv tl su qu wa ru sp else mo_kernel_j210 v1 v2 me rg so sv tl su qu wa ru sp
def mo_kernel_l82 : Nat → Int32 → Int32 → Int32 → Int32 → Int32 → (Nat → Int32) → (Nat → Int32) → (Nat → Int32) → (Nat → Int32) → (Nat → Int32) → (Nat → Int32) → (Nat → Int32) → Int32 → Int32 → Int32 → Option ((Nat → Int32) × (Nat → Int32) × (Nat → Int32) × (Nat → Int32) × (Nat → Int32) × (Nat → Int32) × (Nat → Int32) × Int32 × Int32 × Int32)
  | 0, _, _, _, _, _, _, _, _, _, _, _, _, _, _, _ => none
  | n_ + 1, v1, v2, v3, v4, v5, me, rg, so, sv, tl, su, qu, wa, ru, sp => if (4 : Int32) ≤ v5 then mo_kernel_j104 v1 v2 v3 v4 v5 me rg so sv tl su qu wa ru sp else if in_b v5 4 = true then if (so (v5.toNatClampNeg)) = (0 : Int32) then mo_kernel_j104 v1 v2 v3 v4 v5 me rg so sv tl su qu wa ru sp else mo_kernel_l82 n_ v1 v2 v3 v4 (v5 + Int32.ofInt 1) me rg so sv tl su qu wa ru sp else none
theorem mo_kernel_l82_s (n_ : Nat) (v1 : Int32) (v2 : Int32) (v3 : Int32) (v4 : Int32) (v5 : Int32) (me : Nat → Int32) (rg : Nat → Int32) (so : Nat → Int32) (sv : Nat → Int32) (tl : Nat → Int32) (su : Nat → Int32) (qu : Nat → Int32) (wa : Int32) (ru : Int32) (sp : Int32) : mo_kernel_l82 (n_ + 1) v1 v2 v3 v4 v5 me rg so sv tl su qu wa ru sp = (if (4 : Int32) ≤ v5 then mo_kernel_j104 v1 v2 v3 v4 v5 me rg so sv tl su qu wa ru sp else if in_b v5 4 = true then if (so (v5.toNatClampNeg)) = (0 : Int32) then mo_kernel_j104 v1 v2 v3 v4 v5 me rg so sv tl su qu wa ru sp else mo_kernel_l82 n_ v1 v2 v3 v4 (v5 + Int32.ofInt 1) me rg so sv tl su qu wa ru sp else none) := rfl
def mo_kernel_j74 (me : Nat → Int32) (rg : Nat → Int32) (so : Nat → Int32) (sv : Nat → Int32) (tl : Nat → Int32) (su : Nat → Int32) (qu : Nat → Int32) (wa : Int32) (ru : Int32) (sp : Int32) : Option ((Nat → Int32) × (Nat → Int32) × (Nat → Int32) × (Nat → Int32) × (Nat → Int32) × (Nat → Int32) × (Nat → Int32) × Int32 × Int32 × Int32) := (mo_next me rg so sv qu wa ru sp).bind fun z29 => some (me, z29.1, z29.2.1, sv, tl, su, z29.2.2.1, z29.2.2.2.1, z29.2.2.2.2.1, z29.2.2.2.2.2)
def mo_kernel (me : Nat → Int32) (rg : Nat → Int32) (so : Nat → Int32) (sv : Nat → Int32) (tl : Nat → Int32) (su : Nat → Int32) (qu : Nat → Int32) (wa : Int32) (ru : Int32) (sp : Int32) : Option ((Nat → Int32) × (Nat → Int32) × (Nat → Int32) × (Nat → Int32) × (Nat → Int32) × (Nat → Int32) × (Nat → Int32) × Int32 × Int32 × Int32) := (mo_fetch me rg sp).bind fun z30 => (mo_stack me z30.2.1 sv ru z30.2.2).bind fun z31 => if z30.1 = (3 : Int32) then (mo_end ru (z30.2.1 8) z31.1 z31.2.1 so z31.2.2.1 tl su qu wa z31.2.2.2.1 z31.2.2.2.2).bind fun z34 => some (z31.1, z34.1, z34.2.1, z31.2.2.1, z34.2.2.1, z34.2.2.2.1, z34.2.2.2.2.1, z34.2.2.2.2.2.1, z34.2.2.2.2.2.2.1, z34.2.2.2.2.2.2.2) else if z30.1 = (2 : Int32) then if in_b ru 4 = true then if (z30.2.1 1) = (0 : Int32) then (mo_comeLast ru so qu wa).bind fun z33 => mo_kernel_j74 z31.1 z31.2.1 z33.1 z31.2.2.1 (upd tl (ru.toNatClampNeg) (z30.2.1 1)) su z33.2.1 z33.2.2 z31.2.2.2.1 z31.2.2.2.2 else mo_kernel_j74 z31.1 z31.2.1 (upd so (ru.toNatClampNeg) (3 : Int32)) z31.2.2.1 (upd tl (ru.toNatClampNeg) (z30.2.1 1)) su qu wa z31.2.2.2.1 z31.2.2.2.2 else none else mo_kernel_l82 5 z30.1 ru (z30.2.1 1) (z30.2.1 8) (0 : Int32) z31.1 z31.2.1 so z31.2.2.1 tl su qu wa z31.2.2.2.1 z31.2.2.2.2
def mo_single_j329 (s0 : Bool) (me : Nat → Int32) (rg : Nat → Int32) (so : Nat → Int32) (sv : Nat → Int32) (tl : Nat → Int32) (su : Nat → Int32) (qu : Nat → Int32) (wa : Int32) (ru : Int32) (sp : Int32) (iv : Bool) : Option ((Nat → Int32) × (Nat → Int32) × (Nat → Int32) × (Nat → Int32) × (Nat → Int32) × (Nat → Int32) × (Nat → Int32) × Int32 × Int32 × Int32 × Bool) := (mo_mark (1 : Int32) s0 rg).bind fun z25 => some (me, z25, so, sv, tl, su, qu, wa, ru, sp, iv)
def mo_single_j307 (s0 : Bool) (me : Nat → Int32) (rg : Nat → Int32) (so : Nat → Int32) (sv : Nat → Int32) (tl : Nat → Int32) (su : Nat → Int32) (qu : Nat → Int32) (wa : Int32) (ru : Int32) (sp : Int32) (iv : Bool) : Option ((Nat → Int32) × (Nat → Int32) × (Nat → Int32) × (Nat → Int32) × (Nat → Int32) × (Nat → Int32) × (Nat → Int32) × Int32 × Int32 × Int32 × Bool) := (mo_mark (4 : Int32) s0 rg).bind fun z26 => if (z26 9) ≤ (127 : Int32) then mo_single_j329 false me z26 so sv tl su qu wa ru sp iv else mo_single_j329 true me z26 so sv tl su qu wa ru sp iv
def mo_single_j223 (v1 : Int32) (me : Nat → Int32) (rg : Nat → Int32) (so : Nat → Int32) (sv : Nat → Int32) (tl : Nat → Int32) (su : Nat → Int32) (qu : Nat → Int32) (wa : Int32) (ru : Int32) (sp : Int32) (iv : Bool) : Option ((Nat → Int32) × (Nat → Int32) × (Nat → Int32) × (Nat → Int32) × (Nat → Int32) × (Nat → Int32) × (Nat → Int32) × Int32 × Int32 × Int32 × Bool) := if v1 = (57 : Int32) then (mo_pull (4 : Int32) (5 : Int32) me rg sp).bind fun z31 => some (me, z31.1, so, sv, tl, su, qu, wa, ru, z31.2, iv) else if v1 = (58 : Int32) then (mo_set (1 : Int32) ((rg 1) + (rg 9)) rg).bind fun z30 => some (me, z30, so, sv, tl, su, qu, wa, ru, sp, iv) else if v1 = (61 : Int32) then (mo_set (0 : Int32) ((rg 8) * (rg 9)) rg).bind fun z28 => (mo_get (0 : Int32) z28).bind fun z29 => if z29 = (0 : Int32) then mo_single_j307 true me z28 so sv tl su qu wa ru sp iv else mo_single_j307 false me z28 so sv tl su qu wa ru sp iv else if v1 = (63 : Int32) then (mo_kernel me rg so sv tl su qu wa ru sp).bind fun z27 => some (z27.1, z27.2.1, z27.2.2.1, z27.2.2.2.1, z27.2.2.2.2.1, z27.2.2.2.2.2.1, z27.2.2.2.2.2.2.1, z27.2.2.2.2.2.2.2.1, z27.2.2.2.2.2.2.2.2.1, z27.2.2.2.2.2.2.2.2.2, iv) else some (me, rg, so, sv, tl, su, qu, wa, ru, sp, true)
def mo_single_j203 (v1 : Int32) (me : Nat → Int32) (rg : Nat → Int32) (so : Nat → Int32) (sv : Nat → Int32) (tl : Nat → Int32) (su : Nat → Int32) (qu : Nat → Int32) (wa : Int32) (ru : Int32) (sp : Int32) (iv : Bool) : Option ((Nat → Int32) × (Nat → Int32) × (Nat → Int32) × (Nat → Int32) × (Nat → Int32) × (Nat → Int32) × (Nat → Int32) × Int32 × Int32 × Int32 × Bool) := if v1 < (52 : Int32) then mo_single_j223 v1 me rg so sv tl su qu wa ru sp iv else if (55 : Int32) < v1 then mo_single_j223 v1 me rg so sv tl su qu wa ru sp iv else (mo_many v1 me rg sp).bind fun z32 => some (z32.1, z32.2.1, so, sv, tl, su, qu, wa, ru, z32.2.2, iv)
def mo_single_j200 (me : Nat → Int32) (rg : Nat → Int32) (so : Nat → Int32) (sv : Nat → Int32) (tl : Nat → Int32) (su : Nat → Int32) (qu : Nat → Int32) (wa : Int32) (ru : Int32) (sp : Int32) (iv : Bool) : Option ((Nat → Int32) × (Nat → Int32) × (Nat → Int32) × (Nat → Int32) × (Nat → Int32) × (Nat → Int32) × (Nat → Int32) × Int32 × Int32 × Int32 × Bool) := some (me, rg, so, sv, tl, su, qu, wa, ru, sp, iv)
def mo_single_j197 (s0 : Bool) (me : Nat → Int32) (rg : Nat → Int32) (so : Nat → Int32) (sv : Nat → Int32) (tl : Nat → Int32) (su : Nat → Int32) (qu : Nat → Int32) (wa : Int32) (ru : Int32) (sp : Int32) (iv : Bool) : Option ((Nat → Int32) × (Nat → Int32) × (Nat → Int32) × (Nat → Int32) × (Nat → Int32) × (Nat → Int32) × (Nat → Int32) × Int32 × Int32 × Int32 × Bool) := (mo_mark (4 : Int32) s0 rg).bind fun z33 => mo_single_j200 me z33 so sv tl su qu wa ru sp iv
def mo_single_j165 (v1 : Int32) (v2 : Int32) (s0 : Int32) (me : Nat → Int32) (rg : Nat → Int32) (so : Nat → Int32) (sv : Nat → Int32) (tl : Nat → Int32) (su : Nat → Int32) (qu : Nat → Int32) (wa : Int32) (ru : Int32) (sp : Int32) (iv : Bool) : Option ((Nat → Int32) × (Nat → Int32) × (Nat → Int32) × (Nat → Int32) × (Nat → Int32) × (Nat → Int32) × (Nat → Int32) × Int32 × Int32 × Int32 × Bool) := if (bz_i iv) = (0 : Int32) then (mo_set s0 v2 rg).bind fun z34 => if (50 : Int32) ≤ v1 then mo_single_j200 me z34 so sv tl su qu wa ru sp iv else if v2 = (0 : Int32) then mo_single_j197 true me z34 so sv tl su qu wa ru sp iv else mo_single_j197 false me z34 so sv tl su qu wa ru sp iv else some (me, rg, so, sv, tl, su, qu, wa, ru, sp, iv)
def mo_single_j108 (v1 : Int32) (me : Nat → Int32) (rg : Nat → Int32) (so : Nat → Int32) (sv : Nat → Int32) (tl : Nat → Int32) (su : Nat → Int32) (qu : Nat → Int32) (wa : Int32) (ru : Int32) (sp : Int32) (iv : Bool) : Option ((Nat → Int32) × (Nat → Int32) × (Nat → Int32) × (Nat → Int32) × (Nat → Int32) × (Nat → Int32) × (Nat → Int32) × Int32 × Int32 × Int32 × Bool) := (mo_trade v1 me rg sp iv).bind fun z35 => some (me, z35.1, so, sv, tl, su, qu, wa, ru, z35.2.1, z35.2.2)
def mo_single (x1 : Int32) (me : Nat → Int32) (rg : Nat → Int32) (so : Nat → Int32) (sv : Nat → Int32) (tl : Nat → Int32) (su : Nat → Int32) (qu : Nat → Int32) (wa : Int32) (ru : Int32) (sp : Int32) (iv : Bool) : Option ((Nat → Int32) × (Nat → Int32) × (Nat → Int32) × (Nat → Int32) × (Nat → Int32) × (Nat → Int32) × (Nat → Int32) × Int32 × Int32 × Int32 × Bool) := if x1 = (18 : Int32) then some (me, rg, so, sv, tl, su, qu, wa, ru, sp, iv) else if x1 = (26 : Int32) then (mo_fetch me rg sp).bind fun z43 => (mo_set (10 : Int32) ((rg 10) ||| z43.1) z43.2.1).bind fun z44 => some (me, z44, so, sv, tl, su, qu, wa, ru, z43.2.2, iv) else if x1 = (28 : Int32) then (mo_fetch me rg sp).bind fun z41 => (mo_set (10 : Int32) ((rg 10) &&& z41.1) z41.2.1).bind fun z42 => some (me, z42, so, sv, tl, su, qu, wa, ru, z41.2.2, iv) else if x1 = (29 : Int32) then (mo_signed (rg 9)).bind fun z37 => (mo_set (0 : Int32) z37 rg).bind fun z38 => (mo_get (0 : Int32) z38).bind fun z39 => (mo_sign z39 (16 : Int32) z38).bind fun z40 => some (me, z40, so, sv, tl, su, qu, wa, ru, sp, iv) else if x1 = (30 : Int32) then mo_single_j108 x1 me rg so sv tl su qu wa ru sp iv else if x1 = (31 : Int32) then mo_single_j108 x1 me rg so sv tl su qu wa ru sp iv else if x1 < (48 : Int32) then mo_single_j203 x1 me rg so sv tl su qu wa ru sp iv else if (51 : Int32) < x1 then mo_single_j203 x1 me rg so sv tl su qu wa ru sp iv else (mo_address (2 : Int32) me rg sp iv).bind fun z36 => if x1 = (48 : Int32) then mo_single_j165 x1 z36.1 (1 : Int32) me z36.2.1 so sv tl su qu wa ru z36.2.2.1 z36.2.2.2 else if x1 = (49 : Int32) then mo_single_j165 x1 z36.1 (2 : Int32) me z36.2.1 so sv tl su qu wa ru z36.2.2.1 z36.2.2.2 else if x1 = (50 : Int32) then mo_single_j165 x1 z36.1 (4 : Int32) me z36.2.1 so sv tl su qu wa ru z36.2.2.1 z36.2.2.2 else mo_single_j165 x1 z36.1 (3 : Int32) me z36.2.1 so sv tl su qu wa ru z36.2.2.1 z36.2.2.2
def mo_instruction_j88 (v1 : Int32) (me : Nat → Int32) (rg : Nat → Int32) (so : Nat → Int32) (sv : Nat → Int32) (tl : Nat → Int32) (su : Nat → Int32) (qu : Nat → Int32) (wa : Int32) (ru : Int32) (sp : Int32) (iv : Bool) : Option ((Nat → Int32) × (Nat → Int32) × (Nat → Int32) × (Nat → Int32) × (Nat → Int32) × (Nat → Int32) × (Nat → Int32) × Int32 × Int32 × Int32 × Bool) := if (bz_i iv) = (0 : Int32) then some (me, rg, so, sv, tl, su, qu, wa, ru, sp, iv) else (mo_end v1 (255 : Int32) me rg so sv tl su qu wa ru (1 : Int32)).bind fun z8 => some (me, z8.1, z8.2.1, sv, z8.2.2.1, z8.2.2.2.1, z8.2.2.2.2.1, z8.2.2.2.2.2.1, z8.2.2.2.2.2.2.1, z8.2.2.2.2.2.2.2, iv)
def mo_instruction_j75 (v1 : Int32) (v2 : Int32) (me : Nat → Int32) (rg : Nat → Int32) (so : Nat → Int32) (sv : Nat → Int32) (tl : Nat → Int32) (su : Nat → Int32) (qu : Nat → Int32) (wa : Int32) (ru : Int32) (sp : Int32) (iv : Bool) : Option ((Nat → Int32) × (Nat → Int32) × (Nat → Int32) × (Nat → Int32) × (Nat → Int32) × (Nat → Int32) × (Nat → Int32) × Int32 × Int32 × Int32 × Bool) := (mo_single v2 me rg so sv tl su qu wa ru sp iv).bind fun z9 => mo_instruction_j88 v1 z9.1 z9.2.1 z9.2.2.1 z9.2.2.2.1 z9.2.2.2.2.1 z9.2.2.2.2.2.1 z9.2.2.2.2.2.2.1 z9.2.2.2.2.2.2.2.1 z9.2.2.2.2.2.2.2.2.1 z9.2.2.2.2.2.2.2.2.2.1 z9.2.2.2.2.2.2.2.2.2.2
def mo_instruction (me : Nat → Int32) (rg : Nat → Int32) (so : Nat → Int32) (sv : Nat → Int32) (tl : Nat → Int32) (su : Nat → Int32) (qu : Nat → Int32) (wa : Int32) (ru : Int32) (sp : Int32) (iv : Bool) : Option ((Nat → Int32) × (Nat → Int32) × (Nat → Int32) × (Nat → Int32) × (Nat → Int32) × (Nat → Int32) × (Nat → Int32) × Int32 × Int32 × Int32 × Bool) := (mo_fetch me rg (0 : Int32)).bind fun z10 => if z10.1 < (128 : Int32) then if z10.1 = (16 : Int32) then (mo_second me z10.2.1 z10.2.2 false).bind fun z13 => mo_instruction_j88 ru z13.1 z13.2.1 so sv tl su qu wa ru z13.2.2.1 z13.2.2.2 else if (z10.1 >>> ((4 : Int32) &&& 31)) = (2 : Int32) then (mo_branch z10.1 me z10.2.1 z10.2.2).bind fun z12 => mo_instruction_j88 ru me z12.1 so sv tl su qu wa ru z12.2 false else if (z10.1 >>> ((4 : Int32) &&& 31)) = (1 : Int32) then mo_instruction_j75 ru z10.1 me z10.2.1 so sv tl su qu wa ru z10.2.2 false else if (z10.1 >>> ((4 : Int32) &&& 31)) = (3 : Int32) then mo_instruction_j75 ru z10.1 me z10.2.1 so sv tl su qu wa ru z10.2.2 false else (mo_lower z10.1 me z10.2.1 z10.2.2 false).bind fun z11 => mo_instruction_j88 ru z11.1 z11.2.1 so sv tl su qu wa ru z11.2.2.1 z11.2.2.2 else (mo_upper z10.1 me z10.2.1 z10.2.2 false).bind fun z14 => mo_instruction_j88 ru z14.1 z14.2.1 so sv tl su qu wa ru z14.2.2.1 z14.2.2.2
def mo_pass_j66 (s0 : Bool) (s1 : Int32) (pe : Int32) (re : Int32) (pn : Bool) (lo : Int32) (pa : Int32) : Option (Int32 × Bool × Int32 × Int32) := some (re, true, (s1 + (bz_i s0)), pa)
def mo_pass (x1 : Int32) (pe : Int32) (re : Int32) (pn : Bool) (lo : Int32) (pa : Int32) : Option (Int32 × Bool × Int32 × Int32) := if pe = (0 : Int32) then some (re, pn, lo, (pa + x1)) else if (re - x1) ≤ (0 : Int32) then if (bz_i pn) = (0 : Int32) then mo_pass_j66 false lo pe ((re - x1) + pe) pn lo (pa + x1) else mo_pass_j66 true lo pe ((re - x1) + pe) pn lo (pa + x1) else some ((re - x1), pn, lo, (pa + x1))
def mo_serve_j80 (me : Nat → Int32) (rg : Nat → Int32) (so : Nat → Int32) (sv : Nat → Int32) (tl : Nat → Int32) (qu : Nat → Int32) (wa : Int32) (ru : Int32) (pn : Bool) (se : Int32) (sp : Int32) : Option ((Nat → Int32) × (Nat → Int32) × (Nat → Int32) × (Nat → Int32) × (Nat → Int32) × (Nat → Int32) × Int32 × Int32 × Bool × Int32 × Int32) := (mo_next me rg so sv qu wa ru sp).bind fun z9 => some (me, z9.1, z9.2.1, sv, tl, z9.2.2.1, z9.2.2.2.1, z9.2.2.2.2.1, pn, se, z9.2.2.2.2.2)
def mo_serve_j61 (rec_ : Int32 → Int32 → (Nat → Int32) → (Nat → Int32) → (Nat → Int32) → (Nat → Int32) → (Nat → Int32) → (Nat → Int32) → Int32 → Int32 → Bool → Int32 → Int32 → Option ((Nat → Int32) × (Nat → Int32) × (Nat → Int32) × (Nat → Int32) × (Nat → Int32) × (Nat → Int32) × Int32 × Int32 × Bool × Int32 × Int32)) (v1 : Int32) (v2 : Int32) (me : Nat → Int32) (rg : Nat → Int32) (so : Nat → Int32) (sv : Nat → Int32) (tl : Nat → Int32) (qu : Nat → Int32) (wa : Int32) (ru : Int32) (pn : Bool) (se : Int32) (sp : Int32) : Option ((Nat → Int32) × (Nat → Int32) × (Nat → Int32) × (Nat → Int32) × (Nat → Int32) × (Nat → Int32) × Int32 × Int32 × Bool × Int32 × Int32) := rec_ v1 (v2 + Int32.ofInt 1) me rg so sv tl qu wa ru pn se sp
def mo_serve_l22 : Nat → Int32 → Int32 → (Nat → Int32) → (Nat → Int32) → (Nat → Int32) → (Nat → Int32) → (Nat → Int32) → (Nat → Int32) → Int32 → Int32 → Bool → Int32 → Int32 → Option ((Nat → Int32) × (Nat → Int32) × (Nat → Int32) × (Nat → Int32) × (Nat → Int32) × (Nat → Int32) × Int32 × Int32 × Bool × Int32 × Int32)
  | 0, _, _, _, _, _, _, _, _, _, _, _, _, _ => none
  | n_ + 1, v1, v2, me, rg, so, sv, tl, qu, wa, ru, pn, se, sp => if (4 : Int32) ≤ v2 then if v1 < (0 : Int32) then mo_serve_j80 me rg so sv tl qu wa ru pn se sp else (mo_stack me rg sv ru sp).bind fun z10 => (mo_comeLast v1 so qu wa).bind fun z11 => mo_serve_j80 z10.1 z10.2.1 z11.1 z10.2.2.1 tl z11.2.1 z11.2.2 z10.2.2.2.1 pn se z10.2.2.2.2 else if in_b v2 4 = true then if (so (v2.toNatClampNeg)) = (3 : Int32) then if ((upd tl (v2.toNatClampNeg) ((tl (v2.toNatClampNeg)) - (1 : Int32))) (v2.toNatClampNeg)) = (0 : Int32) then (mo_comeLast v2 so qu wa).bind fun z13 => mo_serve_j61 (mo_serve_l22 n_) v1 v2 me rg z13.1 sv (upd tl (v2.toNatClampNeg) ((tl (v2.toNatClampNeg)) - (1 : Int32))) z13.2.1 z13.2.2 ru pn se sp else mo_serve_j61 (mo_serve_l22 n_) v1 v2 me rg so sv (upd tl (v2.toNatClampNeg) ((tl (v2.toNatClampNeg)) - (1 : Int32))) qu wa ru pn se sp else mo_serve_j61 (mo_serve_l22 n_) v1 v2 me rg so sv tl qu wa ru pn se sp else none
theorem mo_serve_l22_s (n_ : Nat) (v1 : Int32) (v2 : Int32) (me : Nat → Int32) (rg : Nat → Int32) (so : Nat → Int32) (sv : Nat → Int32) (tl : Nat → Int32) (qu : Nat → Int32) (wa : Int32) (ru : Int32) (pn : Bool) (se : Int32) (sp : Int32) : mo_serve_l22 (n_ + 1) v1 v2 me rg so sv tl qu wa ru pn se sp = (if (4 : Int32) ≤ v2 then if v1 < (0 : Int32) then mo_serve_j80 me rg so sv tl qu wa ru pn se sp else (mo_stack me rg sv ru sp).bind fun z10 => (mo_comeLast v1 so qu wa).bind fun z11 => mo_serve_j80 z10.1 z10.2.1 z11.1 z10.2.2.1 tl z11.2.1 z11.2.2 z10.2.2.2.1 pn se z10.2.2.2.2 else if in_b v2 4 = true then if (so (v2.toNatClampNeg)) = (3 : Int32) then if ((upd tl (v2.toNatClampNeg) ((tl (v2.toNatClampNeg)) - (1 : Int32))) (v2.toNatClampNeg)) = (0 : Int32) then (mo_comeLast v2 so qu wa).bind fun z13 => mo_serve_j61 (mo_serve_l22 n_) v1 v2 me rg z13.1 sv (upd tl (v2.toNatClampNeg) ((tl (v2.toNatClampNeg)) - (1 : Int32))) z13.2.1 z13.2.2 ru pn se sp else mo_serve_j61 (mo_serve_l22 n_) v1 v2 me rg so sv (upd tl (v2.toNatClampNeg) ((tl (v2.toNatClampNeg)) - (1 : Int32))) qu wa ru pn se sp else mo_serve_j61 (mo_serve_l22 n_) v1 v2 me rg so sv tl qu wa ru pn se sp else none) := rfl
def mo_serve (me : Nat → Int32) (rg : Nat → Int32) (so : Nat → Int32) (sv : Nat → Int32) (tl : Nat → Int32) (qu : Nat → Int32) (wa : Int32) (ru : Int32) (pn : Bool) (se : Int32) (sp : Int32) : Option ((Nat → Int32) × (Nat → Int32) × (Nat → Int32) × (Nat → Int32) × (Nat → Int32) × (Nat → Int32) × Int32 × Int32 × Bool × Int32 × Int32) := mo_serve_l22 5 ru (0 : Int32) me rg so sv tl qu wa ru false (se + (1 : Int32)) sp
def mo_run_j105 (rec_ : Int32 → Int32 → Bool → (Nat → Int32) → (Nat → Int32) → (Nat → Int32) → (Nat → Int32) → (Nat → Int32) → (Nat → Int32) → (Nat → Int32) → Int32 → Int32 → Int32 → Int32 → Bool → Int32 → Int32 → Int32 → Int32 → Bool → Option (Int32 × (Nat → Int32) × (Nat → Int32) × (Nat → Int32) × (Nat → Int32) × (Nat → Int32) × (Nat → Int32) × (Nat → Int32) × Int32 × Int32 × Int32 × Bool × Int32 × Int32 × Int32 × Int32 × Bool)) (v1 : Int32) (v3 : Bool) (s0 : Bool) (s1 : Int32) (me : Nat → Int32) (rg : Nat → Int32) (so : Nat → Int32) (sv : Nat → Int32) (tl : Nat → Int32) (su : Nat → Int32) (qu : Nat → Int32) (wa : Int32) (ru : Int32) (pe : Int32) (re : Int32) (pn : Bool) (lo : Int32) (se : Int32) (pa : Int32) (sp : Int32) (iv : Bool) : Option (Int32 × (Nat → Int32) × (Nat → Int32) × (Nat → Int32) × (Nat → Int32) × (Nat → Int32) × (Nat → Int32) × (Nat → Int32) × Int32 × Int32 × Int32 × Bool × Int32 × Int32 × Int32 × Int32 × Bool) := rec_ v1 (s1 + (bz_i s0)) v3 me rg so sv tl su qu wa ru pe re pn lo se pa sp iv
def mo_run_j95 (rec_ : Int32 → Int32 → Bool → (Nat → Int32) → (Nat → Int32) → (Nat → Int32) → (Nat → Int32) → (Nat → Int32) → (Nat → Int32) → (Nat → Int32) → Int32 → Int32 → Int32 → Int32 → Bool → Int32 → Int32 → Int32 → Int32 → Bool → Option (Int32 × (Nat → Int32) × (Nat → Int32) × (Nat → Int32) × (Nat → Int32) × (Nat → Int32) × (Nat → Int32) × (Nat → Int32) × Int32 × Int32 × Int32 × Bool × Int32 × Int32 × Int32 × Int32 × Bool)) (v1 : Int32) (v2 : Int32) (v3 : Bool) (me : Nat → Int32) (rg : Nat → Int32) (so : Nat → Int32) (sv : Nat → Int32) (tl : Nat → Int32) (su : Nat → Int32) (qu : Nat → Int32) (wa : Int32) (ru : Int32) (pe : Int32) (re : Int32) (pn : Bool) (lo : Int32) (se : Int32) (pa : Int32) (sp : Int32) (iv : Bool) : Option (Int32 × (Nat → Int32) × (Nat → Int32) × (Nat → Int32) × (Nat → Int32) × (Nat → Int32) × (Nat → Int32) × (Nat → Int32) × Int32 × Int32 × Int32 × Bool × Int32 × Int32 × Int32 × Int32 × Bool) := if (bz_i v3) = (0 : Int32) then mo_run_j105 rec_ v1 v3 false v2 me rg so sv tl su qu wa ru pe re pn lo se pa sp iv else mo_run_j105 rec_ v1 v3 true v2 me rg so sv tl su qu wa ru pe re pn lo se pa sp iv
def mo_run_j53 (rec_ : Int32 → Int32 → Bool → (Nat → Int32) → (Nat → Int32) → (Nat → Int32) → (Nat → Int32) → (Nat → Int32) → (Nat → Int32) → (Nat → Int32) → Int32 → Int32 → Int32 → Int32 → Bool → Int32 → Int32 → Int32 → Int32 → Bool → Option (Int32 × (Nat → Int32) × (Nat → Int32) × (Nat → Int32) × (Nat → Int32) × (Nat → Int32) × (Nat → Int32) × (Nat → Int32) × Int32 × Int32 × Int32 × Bool × Int32 × Int32 × Int32 × Int32 × Bool)) (v1 : Int32) (v2 : Int32) (v3 : Bool) (me : Nat → Int32) (rg : Nat → Int32) (so : Nat → Int32) (sv : Nat → Int32) (tl : Nat → Int32) (su : Nat → Int32) (qu : Nat → Int32) (wa : Int32) (ru : Int32) (pe : Int32) (re : Int32) (pn : Bool) (lo : Int32) (se : Int32) (pa : Int32) (sp : Int32) (iv : Bool) : Option (Int32 × (Nat → Int32) × (Nat → Int32) × (Nat → Int32) × (Nat → Int32) × (Nat → Int32) × (Nat → Int32) × (Nat → Int32) × Int32 × Int32 × Int32 × Bool × Int32 × Int32 × Int32 × Int32 × Bool) := if ru < (0 : Int32) then if pe ≤ (0 : Int32) then mo_run_j95 rec_ v1 v2 false me rg so sv tl su qu wa ru pe re pn lo se pa sp iv else (mo_pass re pe re pn lo pa).bind fun z11 => mo_run_j95 rec_ v1 v2 v3 me rg so sv tl su qu wa ru pe z11.1 z11.2.1 z11.2.2.1 se z11.2.2.2 sp iv else (mo_instruction me rg so sv tl su qu wa ru sp iv).bind fun z12 => (mo_pass z12.2.2.2.2.2.2.2.2.2.1 pe re pn lo pa).bind fun z13 => mo_run_j95 rec_ v1 v2 v3 z12.1 z12.2.1 z12.2.2.1 z12.2.2.2.1 z12.2.2.2.2.1 z12.2.2.2.2.2.1 z12.2.2.2.2.2.2.1 z12.2.2.2.2.2.2.2.1 z12.2.2.2.2.2.2.2.2.1 pe z13.1 z13.2.1 z13.2.2.1 se z13.2.2.2 z12.2.2.2.2.2.2.2.2.2.1 z12.2.2.2.2.2.2.2.2.2.2
def mo_run_j49 (rec_ : Int32 → Int32 → Bool → (Nat → Int32) → (Nat → Int32) → (Nat → Int32) → (Nat → Int32) → (Nat → Int32) → (Nat → Int32) → (Nat → Int32) → Int32 → Int32 → Int32 → Int32 → Bool → Int32 → Int32 → Int32 → Int32 → Bool → Option (Int32 × (Nat → Int32) × (Nat → Int32) × (Nat → Int32) × (Nat → Int32) × (Nat → Int32) × (Nat → Int32) × (Nat → Int32) × Int32 × Int32 × Int32 × Bool × Int32 × Int32 × Int32 × Int32 × Bool)) (v1 : Int32) (v2 : Int32) (v3 : Bool) (me : Nat → Int32) (rg : Nat → Int32) (so : Nat → Int32) (sv : Nat → Int32) (tl : Nat → Int32) (su : Nat → Int32) (qu : Nat → Int32) (wa : Int32) (ru : Int32) (pe : Int32) (re : Int32) (pn : Bool) (lo : Int32) (se : Int32) (pa : Int32) (sp : Int32) (iv : Bool) : Option (Int32 × (Nat → Int32) × (Nat → Int32) × (Nat → Int32) × (Nat → Int32) × (Nat → Int32) × (Nat → Int32) × (Nat → Int32) × Int32 × Int32 × Int32 × Bool × Int32 × Int32 × Int32 × Int32 × Bool) := (mo_serve me rg so sv tl qu wa ru pn se sp).bind fun z14 => mo_run_j53 rec_ v1 v2 v3 z14.1 z14.2.1 z14.2.2.1 z14.2.2.2.1 z14.2.2.2.2.1 su z14.2.2.2.2.2.1 z14.2.2.2.2.2.2.1 z14.2.2.2.2.2.2.2.1 pe re z14.2.2.2.2.2.2.2.2.1 lo z14.2.2.2.2.2.2.2.2.2.1 pa z14.2.2.2.2.2.2.2.2.2.2 iv
def mo_run_l17 : Nat → Int32 → Int32 → Bool → (Nat → Int32) → (Nat → Int32) → (Nat → Int32) → (Nat → Int32) → (Nat → Int32) → (Nat → Int32) → (Nat → Int32) → Int32 → Int32 → Int32 → Int32 → Bool → Int32 → Int32 → Int32 → Int32 → Bool → Option (Int32 × (Nat → Int32) × (Nat → Int32) × (Nat → Int32) × (Nat → Int32) × (Nat → Int32) × (Nat → Int32) × (Nat → Int32) × Int32 × Int32 × Int32 × Bool × Int32 × Int32 × Int32 × Int32 × Bool)
  | 0, _, _, _, _, _, _, _, _, _, _, _, _, _, _, _, _, _, _, _, _ => none
  | n_ + 1, v1, v2, v3, me, rg, so, sv, tl, su, qu, wa, ru, pe, re, pn, lo, se, pa, sp, iv => if v1 ≤ v2 then some (v2, me, rg, so, sv, tl, su, qu, wa, ru, re, pn, lo, se, pa, sp, iv) else if (bz_i v3) = (0 : Int32) then some (v2, me, rg, so, sv, tl, su, qu, wa, ru, re, pn, lo, se, pa, sp, iv) else if (bz_i pn) = (0 : Int32) then mo_run_j53 (mo_run_l17 n_) v1 v2 v3 me rg so sv tl su qu wa ru pe re pn lo se pa sp iv else if ru < (0 : Int32) then mo_run_j49 (mo_run_l17 n_) v1 v2 v3 me rg so sv tl su qu wa ru pe re pn lo se pa sp iv else (mo_flag (16 : Int32) rg).bind fun z15 => if (bz_i z15) = (0 : Int32) then mo_run_j49 (mo_run_l17 n_) v1 v2 v3 me rg so sv tl su qu wa ru pe re pn lo se pa sp iv else mo_run_j53 (mo_run_l17 n_) v1 v2 v3 me rg so sv tl su qu wa ru pe re pn lo se pa sp iv
theorem mo_run_l17_s (n_ : Nat) (v1 : Int32) (v2 : Int32) (v3 : Bool) (me : Nat → Int32) (rg : Nat → Int32) (so : Nat → Int32) (sv : Nat → Int32) (tl : Nat → Int32) (su : Nat → Int32) (qu : Nat → Int32) (wa : Int32) (ru : Int32) (pe : Int32) (re : Int32) (pn : Bool) (lo : Int32) (se : Int32) (pa : Int32) (sp : Int32) (iv : Bool) : mo_run_l17 (n_ + 1) v1 v2 v3 me rg so sv tl su qu wa ru pe re pn lo se pa sp iv = (if v1 ≤ v2 then some (v2, me, rg, so, sv, tl, su, qu, wa, ru, re, pn, lo, se, pa, sp, iv) else if (bz_i v3) = (0 : Int32) then some (v2, me, rg, so, sv, tl, su, qu, wa, ru, re, pn, lo, se, pa, sp, iv) else if (bz_i pn) = (0 : Int32) then mo_run_j53 (mo_run_l17 n_) v1 v2 v3 me rg so sv tl su qu wa ru pe re pn lo se pa sp iv else if ru < (0 : Int32) then mo_run_j49 (mo_run_l17 n_) v1 v2 v3 me rg so sv tl su qu wa ru pe re pn lo se pa sp iv else (mo_flag (16 : Int32) rg).bind fun z15 => if (bz_i z15) = (0 : Int32) then mo_run_j49 (mo_run_l17 n_) v1 v2 v3 me rg so sv tl su qu wa ru pe re pn lo se pa sp iv else mo_run_j53 (mo_run_l17 n_) v1 v2 v3 me rg so sv tl su qu wa ru pe re pn lo se pa sp iv) := rfl
def mo_run (x1 : Int32) (me : Nat → Int32) (rg : Nat → Int32) (so : Nat → Int32) (sv : Nat → Int32) (tl : Nat → Int32) (su : Nat → Int32) (qu : Nat → Int32) (wa : Int32) (ru : Int32) (pe : Int32) (re : Int32) (pn : Bool) (lo : Int32) (se : Int32) (pa : Int32) (sp : Int32) (iv : Bool) : Option (Int32 × (Nat → Int32) × (Nat → Int32) × (Nat → Int32) × (Nat → Int32) × (Nat → Int32) × (Nat → Int32) × (Nat → Int32) × Int32 × Int32 × Int32 × Bool × Int32 × Int32 × Int32 × Int32 × Bool) := if x1 < (0 : Int32) then some ((-1 : Int32), me, rg, so, sv, tl, su, qu, wa, ru, re, pn, lo, se, pa, sp, iv) else if x1 ≤ (400 : Int32) then mo_run_l17 401 x1 (0 : Int32) true me rg so sv tl su qu wa ru pe re pn lo se pa sp iv else some ((-1 : Int32), me, rg, so, sv, tl, su, qu, wa, ru, re, pn, lo, se, pa, sp, iv)
def mo_poke (x1 : Int32) (x2 : Int32) (me : Nat → Int32) : Option (Int32 × (Nat → Int32)) := if x1 < (0 : Int32) then some ((-1 : Int32), me) else if (511 : Int32) < x1 then some ((-1 : Int32), me) else if x2 < (0 : Int32) then some ((-1 : Int32), me) else if x2 ≤ (255 : Int32) then if in_b x1 512 = true then some ((me (x1.toNatClampNeg)), (upd me (x1.toNatClampNeg) x2)) else none else some ((-1 : Int32), me)
def mo_peek_j11 (me : Nat → Int32) : Option (Int32) := some (-1 : Int32)
def mo_peek (x1 : Int32) (me : Nat → Int32) : Option (Int32) := if x1 < (0 : Int32) then mo_peek_j11 me else if x1 ≤ (511 : Int32) then if in_b x1 512 = true then some (me (x1.toNatClampNeg)) else none else mo_peek_j11 me
def mo_noTask_j9  : Option (Bool) := some true
def mo_noTask (x1 : Int32) : Option (Bool) := if x1 < (0 : Int32) then mo_noTask_j9 else if x1 ≤ (3 : Int32) then some false else mo_noTask_j9
def mo_start (x1 : Int32) (x2 : Int32) (x3 : Int32) (me : Nat → Int32) (rg : Nat → Int32) (so : Nat → Int32) (sv : Nat → Int32) (qu : Nat → Int32) (wa : Int32) (ru : Int32) (sp : Int32) : Option (Bool × (Nat → Int32) × (Nat → Int32) × (Nat → Int32) × (Nat → Int32) × (Nat → Int32) × Int32 × Int32 × Int32) := (mo_noTask x1).bind fun z5 => if (bz_i z5) = (0 : Int32) then if in_b x1 4 = true then if (so (x1.toNatClampNeg)) = (0 : Int32) then if x2 < (0 : Int32) then some (false, me, rg, so, sv, qu, wa, ru, sp) else if (65535 : Int32) < x2 then some (false, me, rg, so, sv, qu, wa, ru, sp) else if x3 < (0 : Int32) then some (false, me, rg, so, sv, qu, wa, ru, sp) else if x3 ≤ (255 : Int32) then (mo_begin x1 x2 x3 me so sv qu wa).bind fun z7 => (mo_next z7.1 rg z7.2.1 z7.2.2.1 z7.2.2.2.1 z7.2.2.2.2 ru sp).bind fun z8 => some (true, z7.1, z8.1, z8.2.1, z7.2.2.1, z8.2.2.1, z8.2.2.2.1, z8.2.2.2.2.1, z8.2.2.2.2.2) else some (false, me, rg, so, sv, qu, wa, ru, sp) else some (false, me, rg, so, sv, qu, wa, ru, sp) else none else some (false, me, rg, so, sv, qu, wa, ru, sp)
def mo_stop (x1 : Int32) (me : Nat → Int32) (rg : Nat → Int32) (so : Nat → Int32) (sv : Nat → Int32) (tl : Nat → Int32) (su : Nat → Int32) (qu : Nat → Int32) (wa : Int32) (ru : Int32) (sp : Int32) : Option (Bool × (Nat → Int32) × (Nat → Int32) × (Nat → Int32) × (Nat → Int32) × (Nat → Int32) × Int32 × Int32 × Int32) := (mo_noTask x1).bind fun z4 => if (bz_i z4) = (0 : Int32) then if in_b x1 4 = true then if (so (x1.toNatClampNeg)) = (0 : Int32) then some (false, rg, so, tl, su, qu, wa, ru, sp) else (mo_end x1 (254 : Int32) me rg so sv tl su qu wa ru sp).bind fun z6 => some (true, z6.1, z6.2.1, z6.2.2.1, z6.2.2.2.1, z6.2.2.2.2.1, z6.2.2.2.2.2.1, z6.2.2.2.2.2.2.1, z6.2.2.2.2.2.2.2) else none else some (false, rg, so, tl, su, qu, wa, ru, sp)
def mo_timer_j19 (v1 : Int32) (pe : Int32) (re : Int32) : Option (Bool × Int32 × Int32) := some (true, v1, v1)
def mo_timer (x1 : Int32) (pe : Int32) (re : Int32) : Option (Bool × Int32 × Int32) := if x1 = (0 : Int32) then mo_timer_j19 x1 pe re else if x1 < (16 : Int32) then some (false, pe, re) else if x1 ≤ (1000 : Int32) then mo_timer_j19 x1 pe re else some (false, pe, re)
def mo_state (x1 : Int32) (so : Nat → Int32) : Option (Int32) := (mo_noTask x1).bind fun z3 => if (bz_i z3) = (0 : Int32) then if in_b x1 4 = true then some (so (x1.toNatClampNeg)) else none else some (-1 : Int32)
def mo_inFrame_j75 (v1 : Int32) (v2 : Int32) (s0 : Int32) (me : Nat → Int32) : Option (Int32) := if (8 : Int32) ≤ v2 then (mo_at (v1 + s0) me).bind fun z7 => some z7 else (mo_at (v1 + s0) me).bind fun z8 => (mo_at ((v1 + s0) + (1 : Int32)) me).bind fun z9 => some (((256 : Int32) * z8) + z9)
def mo_inFrame_j20 (v1 : Int32) (v2 : Int32) (me : Nat → Int32) : Option (Int32) := mo_inFrame_j75 v1 v2 (1 : Int32) me
def mo_inFrame (x1 : Int32) (x2 : Int32) (me : Nat → Int32) : Option (Int32) := if x2 = (10 : Int32) then mo_inFrame_j75 x1 x2 (0 : Int32) me else if x2 = (8 : Int32) then mo_inFrame_j20 x1 x2 me else if x2 = (0 : Int32) then mo_inFrame_j20 x1 x2 me else if x2 = (9 : Int32) then mo_inFrame_j75 x1 x2 (2 : Int32) me else if x2 = (11 : Int32) then mo_inFrame_j75 x1 x2 (3 : Int32) me else if x2 = (1 : Int32) then mo_inFrame_j75 x1 x2 (4 : Int32) me else if x2 = (2 : Int32) then mo_inFrame_j75 x1 x2 (6 : Int32) me else if x2 = (3 : Int32) then mo_inFrame_j75 x1 x2 (8 : Int32) me else mo_inFrame_j75 x1 x2 (10 : Int32) me
def mo_register (x1 : Int32) (x2 : Int32) (me : Nat → Int32) (rg : Nat → Int32) (so : Nat → Int32) (sv : Nat → Int32) : Option (Int32) := (mo_noTask x1).bind fun z5 => if (bz_i z5) = (0 : Int32) then if in_b x1 4 = true then if (so (x1.toNatClampNeg)) = (0 : Int32) then some (-1 : Int32) else if x2 < (0 : Int32) then some (-1 : Int32) else if (11 : Int32) < x2 then some (-1 : Int32) else if x2 = (6 : Int32) then some (-1 : Int32) else if x2 = (7 : Int32) then some (-1 : Int32) else if (so (x1.toNatClampNeg)) = (1 : Int32) then (mo_get x2 rg).bind fun z8 => some z8 else if x2 = (4 : Int32) then some (((sv (x1.toNatClampNeg)) + (12 : Int32)) &&& (65535 : Int32)) else (mo_inFrame (sv (x1.toNatClampNeg)) x2 me).bind fun z7 => some z7 else none else some (-1 : Int32)
def mo_queued_j12 (qu : Nat → Int32) (wa : Int32) : Option (Int32) := some (-1 : Int32)
def mo_queued (x1 : Int32) (qu : Nat → Int32) (wa : Int32) : Option (Int32) := if x1 < (0 : Int32) then mo_queued_j12 qu wa else if x1 < wa then if in_b x1 4 = true then some (qu (x1.toNatClampNeg)) else none else mo_queued_j12 qu wa
def mo_sleeps_j17 (so : Nat → Int32) (tl : Nat → Int32) : Option (Int32) := some (0 : Int32)
def mo_sleeps (x1 : Int32) (so : Nat → Int32) (tl : Nat → Int32) : Option (Int32) := (mo_noTask x1).bind fun z3 => if (bz_i z3) = (0 : Int32) then if in_b x1 4 = true then if (so (x1.toNatClampNeg)) = (3 : Int32) then some (tl (x1.toNatClampNeg)) else mo_sleeps_j17 so tl else none else mo_sleeps_j17 so tl
def mo_status (x1 : Int32) (su : Nat → Int32) : Option (Int32) := (mo_noTask x1).bind fun z3 => if (bz_i z3) = (0 : Int32) then if in_b x1 4 = true then some (su (x1.toNatClampNeg)) else none else some (-1 : Int32)
def mo_cycles (pa : Int32) : Option (Int32) := some pa
def mo_ticks (se : Int32) : Option (Int32) := some se
def mo_lost (pn : Bool) (lo : Int32) : Option (Int32) := if (bz_i pn) = (0 : Int32) then some (lo + (0 : Int32)) else some (lo + (100000 : Int32))
def mo_left (pe : Int32) (re : Int32) : Option (Int32) := if pe = (0 : Int32) then some (0 : Int32) else some re
end
section
theorem d_M_signed_0 : decode mb_M_signed 0 = .ok (.iload_n 0, 1) := by decide +kernel
theorem d_M_signed_1 : decode mb_M_signed 1 = .ok (.sipush 128, 3) := by decide +kernel
theorem d_M_signed_4 : decode mb_M_signed 4 = .ok (.if_icmp .ge 7, 3) := by decide +kernel
theorem d_M_signed_7 : decode mb_M_signed 7 = .ok (.iload_n 0, 1) := by decide +kernel
theorem d_M_signed_8 : decode mb_M_signed 8 = .ok (.goto 8, 3) := by decide +kernel
theorem d_M_signed_11 : decode mb_M_signed 11 = .ok (.iload_n 0, 1) := by decide +kernel
theorem d_M_signed_12 : decode mb_M_signed 12 = .ok (.sipush 256, 3) := by decide +kernel
theorem d_M_signed_15 : decode mb_M_signed 15 = .ok (.isub, 1) := by decide +kernel
theorem d_M_signed_16 : decode mb_M_signed 16 = .ok (.ireturn, 1) := by decide +kernel
theorem d_M_at_0 : decode mb_M_at 0 = .ok (.iload_n 1, 1) := by decide +kernel
theorem d_M_at_1 : decode mb_M_at 1 = .ok (.ldc 35, 2) := by decide +kernel
theorem d_M_at_3 : decode mb_M_at 3 = .ok (.iand, 1) := by decide +kernel
theorem d_M_at_4 : decode mb_M_at 4 = .ok (.istore_n 2, 1) := by decide +kernel
theorem d_M_at_5 : decode mb_M_at 5 = .ok (.iload_n 2, 1) := by decide +kernel
theorem d_M_at_6 : decode mb_M_at 6 = .ok (.sipush 512, 3) := by decide +kernel
theorem d_M_at_9 : decode mb_M_at 9 = .ok (.if_icmp .ge 12, 3) := by decide +kernel
theorem d_M_at_12 : decode mb_M_at 12 = .ok (.aload_n 0, 1) := by decide +kernel
theorem d_M_at_13 : decode mb_M_at 13 = .ok (.getfield 7, 3) := by decide +kernel
theorem d_M_at_16 : decode mb_M_at 16 = .ok (.iload_n 2, 1) := by decide +kernel
theorem d_M_at_17 : decode mb_M_at 17 = .ok (.iaload, 1) := by decide +kernel
theorem d_M_at_18 : decode mb_M_at 18 = .ok (.goto 4, 3) := by decide +kernel
theorem d_M_at_21 : decode mb_M_at 21 = .ok (.iconst 0, 1) := by decide +kernel
theorem d_M_at_22 : decode mb_M_at 22 = .ok (.ireturn, 1) := by decide +kernel
theorem d_M_put_0 : decode mb_M_put 0 = .ok (.iload_n 1, 1) := by decide +kernel
theorem d_M_put_1 : decode mb_M_put 1 = .ok (.ldc 35, 2) := by decide +kernel
theorem d_M_put_3 : decode mb_M_put 3 = .ok (.iand, 1) := by decide +kernel
theorem d_M_put_4 : decode mb_M_put 4 = .ok (.istore_n 3, 1) := by decide +kernel
theorem d_M_put_5 : decode mb_M_put 5 = .ok (.iload_n 3, 1) := by decide +kernel
theorem d_M_put_6 : decode mb_M_put 6 = .ok (.sipush 512, 3) := by decide +kernel
theorem d_M_put_9 : decode mb_M_put 9 = .ok (.if_icmp .ge 14, 3) := by decide +kernel
theorem d_M_put_12 : decode mb_M_put 12 = .ok (.aload_n 0, 1) := by decide +kernel
theorem d_M_put_13 : decode mb_M_put 13 = .ok (.getfield 7, 3) := by decide +kernel
theorem d_M_put_16 : decode mb_M_put 16 = .ok (.iload_n 3, 1) := by decide +kernel
theorem d_M_put_17 : decode mb_M_put 17 = .ok (.iload_n 2, 1) := by decide +kernel
theorem d_M_put_18 : decode mb_M_put 18 = .ok (.sipush 255, 3) := by decide +kernel
theorem d_M_put_21 : decode mb_M_put 21 = .ok (.iand, 1) := by decide +kernel
theorem d_M_put_22 : decode mb_M_put 22 = .ok (.iastore, 1) := by decide +kernel
theorem d_M_put_23 : decode mb_M_put 23 = .ok (.return_, 1) := by decide +kernel
theorem d_M_get_0 : decode mb_M_get 0 = .ok (.iload_n 1, 1) := by decide +kernel
theorem d_M_get_1 : decode mb_M_get 1 = .ok (.ifCond .ne 25, 3) := by decide +kernel
theorem d_M_get_4 : decode mb_M_get 4 = .ok (.sipush 256, 3) := by decide +kernel
theorem d_M_get_7 : decode mb_M_get 7 = .ok (.aload_n 0, 1) := by decide +kernel
theorem d_M_get_8 : decode mb_M_get 8 = .ok (.getfield 13, 3) := by decide +kernel
theorem d_M_get_11 : decode mb_M_get 11 = .ok (.bipush 8, 2) := by decide +kernel
theorem d_M_get_13 : decode mb_M_get 13 = .ok (.iaload, 1) := by decide +kernel
theorem d_M_get_14 : decode mb_M_get 14 = .ok (.imul, 1) := by decide +kernel
theorem d_M_get_15 : decode mb_M_get 15 = .ok (.aload_n 0, 1) := by decide +kernel
theorem d_M_get_16 : decode mb_M_get 16 = .ok (.getfield 13, 3) := by decide +kernel
theorem d_M_get_19 : decode mb_M_get 19 = .ok (.bipush 9, 2) := by decide +kernel
theorem d_M_get_21 : decode mb_M_get 21 = .ok (.iaload, 1) := by decide +kernel
theorem d_M_get_22 : decode mb_M_get 22 = .ok (.iadd, 1) := by decide +kernel
theorem d_M_get_23 : decode mb_M_get 23 = .ok (.goto 9, 3) := by decide +kernel
theorem d_M_get_26 : decode mb_M_get 26 = .ok (.aload_n 0, 1) := by decide +kernel
theorem d_M_get_27 : decode mb_M_get 27 = .ok (.getfield 13, 3) := by decide +kernel
theorem d_M_get_30 : decode mb_M_get 30 = .ok (.iload_n 1, 1) := by decide +kernel
theorem d_M_get_31 : decode mb_M_get 31 = .ok (.iaload, 1) := by decide +kernel
theorem d_M_get_32 : decode mb_M_get 32 = .ok (.ireturn, 1) := by decide +kernel
theorem d_M_set_0 : decode mb_M_set 0 = .ok (.iload_n 1, 1) := by decide +kernel
theorem d_M_set_1 : decode mb_M_set 1 = .ok (.ifCond .ne 33, 3) := by decide +kernel
theorem d_M_set_4 : decode mb_M_set 4 = .ok (.aload_n 0, 1) := by decide +kernel
theorem d_M_set_5 : decode mb_M_set 5 = .ok (.getfield 13, 3) := by decide +kernel
theorem d_M_set_8 : decode mb_M_set 8 = .ok (.bipush 8, 2) := by decide +kernel
theorem d_M_set_10 : decode mb_M_set 10 = .ok (.iload_n 2, 1) := by decide +kernel
theorem d_M_set_11 : decode mb_M_set 11 = .ok (.bipush 8, 2) := by decide +kernel
theorem d_M_set_13 : decode mb_M_set 13 = .ok (.ishr, 1) := by decide +kernel
theorem d_M_set_14 : decode mb_M_set 14 = .ok (.sipush 255, 3) := by decide +kernel
theorem d_M_set_17 : decode mb_M_set 17 = .ok (.iand, 1) := by decide +kernel
theorem d_M_set_18 : decode mb_M_set 18 = .ok (.iastore, 1) := by decide +kernel
theorem d_M_set_19 : decode mb_M_set 19 = .ok (.aload_n 0, 1) := by decide +kernel
theorem d_M_set_20 : decode mb_M_set 20 = .ok (.getfield 13, 3) := by decide +kernel
theorem d_M_set_23 : decode mb_M_set 23 = .ok (.bipush 9, 2) := by decide +kernel
theorem d_M_set_25 : decode mb_M_set 25 = .ok (.iload_n 2, 1) := by decide +kernel
theorem d_M_set_26 : decode mb_M_set 26 = .ok (.sipush 255, 3) := by decide +kernel
theorem d_M_set_29 : decode mb_M_set 29 = .ok (.iand, 1) := by decide +kernel
theorem d_M_set_30 : decode mb_M_set 30 = .ok (.iastore, 1) := by decide +kernel
theorem d_M_set_31 : decode mb_M_set 31 = .ok (.goto 27, 3) := by decide +kernel
theorem d_M_set_34 : decode mb_M_set 34 = .ok (.aload_n 0, 1) := by decide +kernel
theorem d_M_set_35 : decode mb_M_set 35 = .ok (.getfield 13, 3) := by decide +kernel
theorem d_M_set_38 : decode mb_M_set 38 = .ok (.iload_n 1, 1) := by decide +kernel
theorem d_M_set_39 : decode mb_M_set 39 = .ok (.iload_n 1, 1) := by decide +kernel
theorem d_M_set_40 : decode mb_M_set 40 = .ok (.bipush 8, 2) := by decide +kernel
theorem d_M_set_42 : decode mb_M_set 42 = .ok (.if_icmp .ge 10, 3) := by decide +kernel
theorem d_M_set_45 : decode mb_M_set 45 = .ok (.iload_n 2, 1) := by decide +kernel
theorem d_M_set_46 : decode mb_M_set 46 = .ok (.ldc 35, 2) := by decide +kernel
theorem d_M_set_48 : decode mb_M_set 48 = .ok (.iand, 1) := by decide +kernel
theorem d_M_set_49 : decode mb_M_set 49 = .ok (.goto 8, 3) := by decide +kernel
theorem d_M_set_52 : decode mb_M_set 52 = .ok (.iload_n 2, 1) := by decide +kernel
theorem d_M_set_53 : decode mb_M_set 53 = .ok (.sipush 255, 3) := by decide +kernel
theorem d_M_set_56 : decode mb_M_set 56 = .ok (.iand, 1) := by decide +kernel
theorem d_M_set_57 : decode mb_M_set 57 = .ok (.iastore, 1) := by decide +kernel
theorem d_M_set_58 : decode mb_M_set 58 = .ok (.return_, 1) := by decide +kernel
theorem d_M_load_0 : decode mb_M_load 0 = .ok (.aload_n 0, 1) := by decide +kernel
theorem d_M_load_1 : decode mb_M_load 1 = .ok (.dup, 1) := by decide +kernel
theorem d_M_load_2 : decode mb_M_load 2 = .ok (.getfield 36, 3) := by decide +kernel
theorem d_M_load_5 : decode mb_M_load 5 = .ok (.iload_n 2, 1) := by decide +kernel
theorem d_M_load_6 : decode mb_M_load 6 = .ok (.ifCond .eq 7, 3) := by decide +kernel
theorem d_M_load_9 : decode mb_M_load 9 = .ok (.iconst 2, 1) := by decide +kernel
theorem d_M_load_10 : decode mb_M_load 10 = .ok (.goto 4, 3) := by decide +kernel
theorem d_M_load_13 : decode mb_M_load 13 = .ok (.iconst 1, 1) := by decide +kernel
theorem d_M_load_14 : decode mb_M_load 14 = .ok (.iadd, 1) := by decide +kernel
theorem d_M_load_15 : decode mb_M_load 15 = .ok (.putfield 36, 3) := by decide +kernel
theorem d_M_load_18 : decode mb_M_load 18 = .ok (.iload_n 2, 1) := by decide +kernel
theorem d_M_load_19 : decode mb_M_load 19 = .ok (.ifCond .eq 23, 3) := by decide +kernel
theorem d_M_load_22 : decode mb_M_load 22 = .ok (.sipush 256, 3) := by decide +kernel
theorem d_M_load_25 : decode mb_M_load 25 = .ok (.aload_n 0, 1) := by decide +kernel
theorem d_M_load_26 : decode mb_M_load 26 = .ok (.iload_n 1, 1) := by decide +kernel
theorem d_M_load_27 : decode mb_M_load 27 = .ok (.invokevirtual 39, 3) := by decide +kernel
theorem d_M_load_30 : decode mb_M_load 30 = .ok (.imul, 1) := by decide +kernel
theorem d_M_load_31 : decode mb_M_load 31 = .ok (.aload_n 0, 1) := by decide +kernel
theorem d_M_load_32 : decode mb_M_load 32 = .ok (.iload_n 1, 1) := by decide +kernel
theorem d_M_load_33 : decode mb_M_load 33 = .ok (.iconst 1, 1) := by decide +kernel
theorem d_M_load_34 : decode mb_M_load 34 = .ok (.iadd, 1) := by decide +kernel
theorem d_M_load_35 : decode mb_M_load 35 = .ok (.invokevirtual 39, 3) := by decide +kernel
theorem d_M_load_38 : decode mb_M_load 38 = .ok (.iadd, 1) := by decide +kernel
theorem d_M_load_39 : decode mb_M_load 39 = .ok (.goto 8, 3) := by decide +kernel
theorem d_M_load_42 : decode mb_M_load 42 = .ok (.aload_n 0, 1) := by decide +kernel
theorem d_M_load_43 : decode mb_M_load 43 = .ok (.iload_n 1, 1) := by decide +kernel
theorem d_M_load_44 : decode mb_M_load 44 = .ok (.invokevirtual 39, 3) := by decide +kernel
theorem d_M_load_47 : decode mb_M_load 47 = .ok (.ireturn, 1) := by decide +kernel
theorem d_M_store_0 : decode mb_M_store 0 = .ok (.aload_n 0, 1) := by decide +kernel
theorem d_M_store_1 : decode mb_M_store 1 = .ok (.dup, 1) := by decide +kernel
theorem d_M_store_2 : decode mb_M_store 2 = .ok (.getfield 36, 3) := by decide +kernel
theorem d_M_store_5 : decode mb_M_store 5 = .ok (.iload_n 3, 1) := by decide +kernel
theorem d_M_store_6 : decode mb_M_store 6 = .ok (.ifCond .eq 7, 3) := by decide +kernel
theorem d_M_store_9 : decode mb_M_store 9 = .ok (.iconst 2, 1) := by decide +kernel
theorem d_M_store_10 : decode mb_M_store 10 = .ok (.goto 4, 3) := by decide +kernel
theorem d_M_store_13 : decode mb_M_store 13 = .ok (.iconst 1, 1) := by decide +kernel
theorem d_M_store_14 : decode mb_M_store 14 = .ok (.iadd, 1) := by decide +kernel
theorem d_M_store_15 : decode mb_M_store 15 = .ok (.putfield 36, 3) := by decide +kernel
theorem d_M_store_18 : decode mb_M_store 18 = .ok (.iload_n 3, 1) := by decide +kernel
theorem d_M_store_19 : decode mb_M_store 19 = .ok (.ifCond .eq 23, 3) := by decide +kernel
theorem d_M_store_22 : decode mb_M_store 22 = .ok (.aload_n 0, 1) := by decide +kernel
theorem d_M_store_23 : decode mb_M_store 23 = .ok (.iload_n 1, 1) := by decide +kernel
theorem d_M_store_24 : decode mb_M_store 24 = .ok (.iload_n 2, 1) := by decide +kernel
theorem d_M_store_25 : decode mb_M_store 25 = .ok (.bipush 8, 2) := by decide +kernel
theorem d_M_store_27 : decode mb_M_store 27 = .ok (.ishr, 1) := by decide +kernel
theorem d_M_store_28 : decode mb_M_store 28 = .ok (.invokevirtual 43, 3) := by decide +kernel
theorem d_M_store_31 : decode mb_M_store 31 = .ok (.aload_n 0, 1) := by decide +kernel
theorem d_M_store_32 : decode mb_M_store 32 = .ok (.iload_n 1, 1) := by decide +kernel
theorem d_M_store_33 : decode mb_M_store 33 = .ok (.iconst 1, 1) := by decide +kernel
theorem d_M_store_34 : decode mb_M_store 34 = .ok (.iadd, 1) := by decide +kernel
theorem d_M_store_35 : decode mb_M_store 35 = .ok (.iload_n 2, 1) := by decide +kernel
theorem d_M_store_36 : decode mb_M_store 36 = .ok (.invokevirtual 43, 3) := by decide +kernel
theorem d_M_store_39 : decode mb_M_store 39 = .ok (.goto 9, 3) := by decide +kernel
theorem d_M_store_42 : decode mb_M_store 42 = .ok (.aload_n 0, 1) := by decide +kernel
theorem d_M_store_43 : decode mb_M_store 43 = .ok (.iload_n 1, 1) := by decide +kernel
theorem d_M_store_44 : decode mb_M_store 44 = .ok (.iload_n 2, 1) := by decide +kernel
theorem d_M_store_45 : decode mb_M_store 45 = .ok (.invokevirtual 43, 3) := by decide +kernel
theorem d_M_store_48 : decode mb_M_store 48 = .ok (.return_, 1) := by decide +kernel
theorem d_M_fetch_0 : decode mb_M_fetch 0 = .ok (.aload_n 0, 1) := by decide +kernel
theorem d_M_fetch_1 : decode mb_M_fetch 1 = .ok (.aload_n 0, 1) := by decide +kernel
theorem d_M_fetch_2 : decode mb_M_fetch 2 = .ok (.getfield 13, 3) := by decide +kernel
theorem d_M_fetch_5 : decode mb_M_fetch 5 = .ok (.iconst 5, 1) := by decide +kernel
theorem d_M_fetch_6 : decode mb_M_fetch 6 = .ok (.iaload, 1) := by decide +kernel
theorem d_M_fetch_7 : decode mb_M_fetch 7 = .ok (.iconst 0, 1) := by decide +kernel
theorem d_M_fetch_8 : decode mb_M_fetch 8 = .ok (.invokevirtual 47, 3) := by decide +kernel
theorem d_M_fetch_11 : decode mb_M_fetch 11 = .ok (.istore_n 1, 1) := by decide +kernel
theorem d_M_fetch_12 : decode mb_M_fetch 12 = .ok (.aload_n 0, 1) := by decide +kernel
theorem d_M_fetch_13 : decode mb_M_fetch 13 = .ok (.iconst 5, 1) := by decide +kernel
theorem d_M_fetch_14 : decode mb_M_fetch 14 = .ok (.aload_n 0, 1) := by decide +kernel
theorem d_M_fetch_15 : decode mb_M_fetch 15 = .ok (.getfield 13, 3) := by decide +kernel
theorem d_M_fetch_18 : decode mb_M_fetch 18 = .ok (.iconst 5, 1) := by decide +kernel
theorem d_M_fetch_19 : decode mb_M_fetch 19 = .ok (.iaload, 1) := by decide +kernel
theorem d_M_fetch_20 : decode mb_M_fetch 20 = .ok (.iconst 1, 1) := by decide +kernel
theorem d_M_fetch_21 : decode mb_M_fetch 21 = .ok (.iadd, 1) := by decide +kernel
theorem d_M_fetch_22 : decode mb_M_fetch 22 = .ok (.invokevirtual 51, 3) := by decide +kernel
theorem d_M_fetch_25 : decode mb_M_fetch 25 = .ok (.iload_n 1, 1) := by decide +kernel
theorem d_M_fetch_26 : decode mb_M_fetch 26 = .ok (.ireturn, 1) := by decide +kernel
theorem d_M_fetchWord_0 : decode mb_M_fetchWord 0 = .ok (.aload_n 0, 1) := by decide +kernel
theorem d_M_fetchWord_1 : decode mb_M_fetchWord 1 = .ok (.invokevirtual 54, 3) := by decide +kernel
theorem d_M_fetchWord_4 : decode mb_M_fetchWord 4 = .ok (.istore_n 1, 1) := by decide +kernel
theorem d_M_fetchWord_5 : decode mb_M_fetchWord 5 = .ok (.sipush 256, 3) := by decide +kernel
theorem d_M_fetchWord_8 : decode mb_M_fetchWord 8 = .ok (.iload_n 1, 1) := by decide +kernel
theorem d_M_fetchWord_9 : decode mb_M_fetchWord 9 = .ok (.imul, 1) := by decide +kernel
theorem d_M_fetchWord_10 : decode mb_M_fetchWord 10 = .ok (.aload_n 0, 1) := by decide +kernel
theorem d_M_fetchWord_11 : decode mb_M_fetchWord 11 = .ok (.invokevirtual 54, 3) := by decide +kernel
theorem d_M_fetchWord_14 : decode mb_M_fetchWord 14 = .ok (.iadd, 1) := by decide +kernel
theorem d_M_fetchWord_15 : decode mb_M_fetchWord 15 = .ok (.ireturn, 1) := by decide +kernel
theorem d_M_push_0 : decode mb_M_push 0 = .ok (.iload_n 2, 1) := by decide +kernel
theorem d_M_push_1 : decode mb_M_push 1 = .ok (.bipush 8, 2) := by decide +kernel
theorem d_M_push_3 : decode mb_M_push 3 = .ok (.if_icmp .ge 7, 3) := by decide +kernel
theorem d_M_push_6 : decode mb_M_push 6 = .ok (.iconst 1, 1) := by decide +kernel
theorem d_M_push_7 : decode mb_M_push 7 = .ok (.goto 4, 3) := by decide +kernel
theorem d_M_push_10 : decode mb_M_push 10 = .ok (.iconst 0, 1) := by decide +kernel
theorem d_M_push_11 : decode mb_M_push 11 = .ok (.istore_n 3, 1) := by decide +kernel
theorem d_M_push_12 : decode mb_M_push 12 = .ok (.aload_n 0, 1) := by decide +kernel
theorem d_M_push_13 : decode mb_M_push 13 = .ok (.iload_n 1, 1) := by decide +kernel
theorem d_M_push_14 : decode mb_M_push 14 = .ok (.aload_n 0, 1) := by decide +kernel
theorem d_M_push_15 : decode mb_M_push 15 = .ok (.getfield 13, 3) := by decide +kernel
theorem d_M_push_18 : decode mb_M_push 18 = .ok (.iload_n 1, 1) := by decide +kernel
theorem d_M_push_19 : decode mb_M_push 19 = .ok (.iaload, 1) := by decide +kernel
theorem d_M_push_20 : decode mb_M_push 20 = .ok (.iload_n 3, 1) := by decide +kernel
theorem d_M_push_21 : decode mb_M_push 21 = .ok (.ifCond .eq 7, 3) := by decide +kernel
theorem d_M_push_24 : decode mb_M_push 24 = .ok (.iconst 2, 1) := by decide +kernel
theorem d_M_push_25 : decode mb_M_push 25 = .ok (.goto 4, 3) := by decide +kernel
theorem d_M_push_28 : decode mb_M_push 28 = .ok (.iconst 1, 1) := by decide +kernel
theorem d_M_push_29 : decode mb_M_push 29 = .ok (.isub, 1) := by decide +kernel
theorem d_M_push_30 : decode mb_M_push 30 = .ok (.invokevirtual 51, 3) := by decide +kernel
theorem d_M_push_33 : decode mb_M_push 33 = .ok (.aload_n 0, 1) := by decide +kernel
theorem d_M_push_34 : decode mb_M_push 34 = .ok (.aload_n 0, 1) := by decide +kernel
theorem d_M_push_35 : decode mb_M_push 35 = .ok (.getfield 13, 3) := by decide +kernel
theorem d_M_push_38 : decode mb_M_push 38 = .ok (.iload_n 1, 1) := by decide +kernel
theorem d_M_push_39 : decode mb_M_push 39 = .ok (.iaload, 1) := by decide +kernel
theorem d_M_push_40 : decode mb_M_push 40 = .ok (.aload_n 0, 1) := by decide +kernel
theorem d_M_push_41 : decode mb_M_push 41 = .ok (.getfield 13, 3) := by decide +kernel
theorem d_M_push_44 : decode mb_M_push 44 = .ok (.iload_n 2, 1) := by decide +kernel
theorem d_M_push_45 : decode mb_M_push 45 = .ok (.iaload, 1) := by decide +kernel
theorem d_M_push_46 : decode mb_M_push 46 = .ok (.iload_n 3, 1) := by decide +kernel
theorem d_M_push_47 : decode mb_M_push 47 = .ok (.invokevirtual 58, 3) := by decide +kernel
theorem d_M_push_50 : decode mb_M_push 50 = .ok (.return_, 1) := by decide +kernel
theorem d_M_pull_0 : decode mb_M_pull 0 = .ok (.iload_n 2, 1) := by decide +kernel
theorem d_M_pull_1 : decode mb_M_pull 1 = .ok (.bipush 8, 2) := by decide +kernel
theorem d_M_pull_3 : decode mb_M_pull 3 = .ok (.if_icmp .ge 7, 3) := by decide +kernel
theorem d_M_pull_6 : decode mb_M_pull 6 = .ok (.iconst 1, 1) := by decide +kernel
theorem d_M_pull_7 : decode mb_M_pull 7 = .ok (.goto 4, 3) := by decide +kernel
theorem d_M_pull_10 : decode mb_M_pull 10 = .ok (.iconst 0, 1) := by decide +kernel
theorem d_M_pull_11 : decode mb_M_pull 11 = .ok (.istore_n 3, 1) := by decide +kernel
theorem d_M_pull_12 : decode mb_M_pull 12 = .ok (.aload_n 0, 1) := by decide +kernel
theorem d_M_pull_13 : decode mb_M_pull 13 = .ok (.aload_n 0, 1) := by decide +kernel
theorem d_M_pull_14 : decode mb_M_pull 14 = .ok (.getfield 13, 3) := by decide +kernel
theorem d_M_pull_17 : decode mb_M_pull 17 = .ok (.iload_n 1, 1) := by decide +kernel
theorem d_M_pull_18 : decode mb_M_pull 18 = .ok (.iaload, 1) := by decide +kernel
theorem d_M_pull_19 : decode mb_M_pull 19 = .ok (.iload_n 3, 1) := by decide +kernel
theorem d_M_pull_20 : decode mb_M_pull 20 = .ok (.invokevirtual 47, 3) := by decide +kernel
theorem d_M_pull_23 : decode mb_M_pull 23 = .ok (.istore 4, 2) := by decide +kernel
theorem d_M_pull_25 : decode mb_M_pull 25 = .ok (.aload_n 0, 1) := by decide +kernel
theorem d_M_pull_26 : decode mb_M_pull 26 = .ok (.iload_n 1, 1) := by decide +kernel
theorem d_M_pull_27 : decode mb_M_pull 27 = .ok (.aload_n 0, 1) := by decide +kernel
theorem d_M_pull_28 : decode mb_M_pull 28 = .ok (.getfield 13, 3) := by decide +kernel
theorem d_M_pull_31 : decode mb_M_pull 31 = .ok (.iload_n 1, 1) := by decide +kernel
theorem d_M_pull_32 : decode mb_M_pull 32 = .ok (.iaload, 1) := by decide +kernel
theorem d_M_pull_33 : decode mb_M_pull 33 = .ok (.iload_n 3, 1) := by decide +kernel
theorem d_M_pull_34 : decode mb_M_pull 34 = .ok (.ifCond .eq 7, 3) := by decide +kernel
theorem d_M_pull_37 : decode mb_M_pull 37 = .ok (.iconst 2, 1) := by decide +kernel
theorem d_M_pull_38 : decode mb_M_pull 38 = .ok (.goto 4, 3) := by decide +kernel
theorem d_M_pull_41 : decode mb_M_pull 41 = .ok (.iconst 1, 1) := by decide +kernel
theorem d_M_pull_42 : decode mb_M_pull 42 = .ok (.iadd, 1) := by decide +kernel
theorem d_M_pull_43 : decode mb_M_pull 43 = .ok (.invokevirtual 51, 3) := by decide +kernel
theorem d_M_pull_46 : decode mb_M_pull 46 = .ok (.aload_n 0, 1) := by decide +kernel
theorem d_M_pull_47 : decode mb_M_pull 47 = .ok (.iload_n 2, 1) := by decide +kernel
theorem d_M_pull_48 : decode mb_M_pull 48 = .ok (.iload 4, 2) := by decide +kernel
theorem d_M_pull_50 : decode mb_M_pull 50 = .ok (.invokevirtual 51, 3) := by decide +kernel
theorem d_M_pull_53 : decode mb_M_pull 53 = .ok (.return_, 1) := by decide +kernel
theorem d_M_flag_0 : decode mb_M_flag 0 = .ok (.aload_n 0, 1) := by decide +kernel
theorem d_M_flag_1 : decode mb_M_flag 1 = .ok (.getfield 13, 3) := by decide +kernel
theorem d_M_flag_4 : decode mb_M_flag 4 = .ok (.bipush 10, 2) := by decide +kernel
theorem d_M_flag_6 : decode mb_M_flag 6 = .ok (.iaload, 1) := by decide +kernel
theorem d_M_flag_7 : decode mb_M_flag 7 = .ok (.iload_n 1, 1) := by decide +kernel
theorem d_M_flag_8 : decode mb_M_flag 8 = .ok (.iand, 1) := by decide +kernel
theorem d_M_flag_9 : decode mb_M_flag 9 = .ok (.ifCond .eq 7, 3) := by decide +kernel
theorem d_M_flag_12 : decode mb_M_flag 12 = .ok (.iconst 1, 1) := by decide +kernel
theorem d_M_flag_13 : decode mb_M_flag 13 = .ok (.goto 4, 3) := by decide +kernel
theorem d_M_flag_16 : decode mb_M_flag 16 = .ok (.iconst 0, 1) := by decide +kernel
theorem d_M_flag_17 : decode mb_M_flag 17 = .ok (.ireturn, 1) := by decide +kernel
theorem d_M_mark_0 : decode mb_M_mark 0 = .ok (.aload_n 0, 1) := by decide +kernel
theorem d_M_mark_1 : decode mb_M_mark 1 = .ok (.getfield 13, 3) := by decide +kernel
theorem d_M_mark_4 : decode mb_M_mark 4 = .ok (.bipush 10, 2) := by decide +kernel
theorem d_M_mark_6 : decode mb_M_mark 6 = .ok (.iload_n 2, 1) := by decide +kernel
theorem d_M_mark_7 : decode mb_M_mark 7 = .ok (.ifCond .eq 15, 3) := by decide +kernel
theorem d_M_mark_10 : decode mb_M_mark 10 = .ok (.aload_n 0, 1) := by decide +kernel
theorem d_M_mark_11 : decode mb_M_mark 11 = .ok (.getfield 13, 3) := by decide +kernel
theorem d_M_mark_14 : decode mb_M_mark 14 = .ok (.bipush 10, 2) := by decide +kernel
theorem d_M_mark_16 : decode mb_M_mark 16 = .ok (.iaload, 1) := by decide +kernel
theorem d_M_mark_17 : decode mb_M_mark 17 = .ok (.iload_n 1, 1) := by decide +kernel
theorem d_M_mark_18 : decode mb_M_mark 18 = .ok (.ior, 1) := by decide +kernel
theorem d_M_mark_19 : decode mb_M_mark 19 = .ok (.goto 14, 3) := by decide +kernel
theorem d_M_mark_22 : decode mb_M_mark 22 = .ok (.aload_n 0, 1) := by decide +kernel
theorem d_M_mark_23 : decode mb_M_mark 23 = .ok (.getfield 13, 3) := by decide +kernel
theorem d_M_mark_26 : decode mb_M_mark 26 = .ok (.bipush 10, 2) := by decide +kernel
theorem d_M_mark_28 : decode mb_M_mark 28 = .ok (.iaload, 1) := by decide +kernel
theorem d_M_mark_29 : decode mb_M_mark 29 = .ok (.iload_n 1, 1) := by decide +kernel
theorem d_M_mark_30 : decode mb_M_mark 30 = .ok (.iconst (-1), 1) := by decide +kernel
theorem d_M_mark_31 : decode mb_M_mark 31 = .ok (.ixor, 1) := by decide +kernel
theorem d_M_mark_32 : decode mb_M_mark 32 = .ok (.iand, 1) := by decide +kernel
theorem d_M_mark_33 : decode mb_M_mark 33 = .ok (.iastore, 1) := by decide +kernel
theorem d_M_mark_34 : decode mb_M_mark 34 = .ok (.return_, 1) := by decide +kernel
theorem d_M_sign_0 : decode mb_M_sign 0 = .ok (.aload_n 0, 1) := by decide +kernel
theorem d_M_sign_1 : decode mb_M_sign 1 = .ok (.bipush 8, 2) := by decide +kernel
theorem d_M_sign_3 : decode mb_M_sign 3 = .ok (.iload_n 1, 1) := by decide +kernel
theorem d_M_sign_4 : decode mb_M_sign 4 = .ok (.iload_n 2, 1) := by decide +kernel
theorem d_M_sign_5 : decode mb_M_sign 5 = .ok (.iconst 1, 1) := by decide +kernel
theorem d_M_sign_6 : decode mb_M_sign 6 = .ok (.isub, 1) := by decide +kernel
theorem d_M_sign_7 : decode mb_M_sign 7 = .ok (.ishr, 1) := by decide +kernel
theorem d_M_sign_8 : decode mb_M_sign 8 = .ok (.iconst 1, 1) := by decide +kernel
theorem d_M_sign_9 : decode mb_M_sign 9 = .ok (.iand, 1) := by decide +kernel
theorem d_M_sign_10 : decode mb_M_sign 10 = .ok (.iconst 1, 1) := by decide +kernel
theorem d_M_sign_11 : decode mb_M_sign 11 = .ok (.if_icmp .ne 7, 3) := by decide +kernel
theorem d_M_sign_14 : decode mb_M_sign 14 = .ok (.iconst 1, 1) := by decide +kernel
theorem d_M_sign_15 : decode mb_M_sign 15 = .ok (.goto 4, 3) := by decide +kernel
theorem d_M_sign_18 : decode mb_M_sign 18 = .ok (.iconst 0, 1) := by decide +kernel
theorem d_M_sign_19 : decode mb_M_sign 19 = .ok (.invokevirtual 62, 3) := by decide +kernel
theorem d_M_sign_22 : decode mb_M_sign 22 = .ok (.aload_n 0, 1) := by decide +kernel
theorem d_M_sign_23 : decode mb_M_sign 23 = .ok (.iconst 4, 1) := by decide +kernel
theorem d_M_sign_24 : decode mb_M_sign 24 = .ok (.iload_n 1, 1) := by decide +kernel
theorem d_M_sign_25 : decode mb_M_sign 25 = .ok (.iconst 1, 1) := by decide +kernel
theorem d_M_sign_26 : decode mb_M_sign 26 = .ok (.iload_n 2, 1) := by decide +kernel
theorem d_M_sign_27 : decode mb_M_sign 27 = .ok (.ishl, 1) := by decide +kernel
theorem d_M_sign_28 : decode mb_M_sign 28 = .ok (.iconst 1, 1) := by decide +kernel
theorem d_M_sign_29 : decode mb_M_sign 29 = .ok (.isub, 1) := by decide +kernel
theorem d_M_sign_30 : decode mb_M_sign 30 = .ok (.iand, 1) := by decide +kernel
theorem d_M_sign_31 : decode mb_M_sign 31 = .ok (.ifCond .ne 7, 3) := by decide +kernel
theorem d_M_sign_34 : decode mb_M_sign 34 = .ok (.iconst 1, 1) := by decide +kernel
theorem d_M_sign_35 : decode mb_M_sign 35 = .ok (.goto 4, 3) := by decide +kernel
theorem d_M_sign_38 : decode mb_M_sign 38 = .ok (.iconst 0, 1) := by decide +kernel
theorem d_M_sign_39 : decode mb_M_sign 39 = .ok (.invokevirtual 62, 3) := by decide +kernel
theorem d_M_sign_42 : decode mb_M_sign 42 = .ok (.return_, 1) := by decide +kernel
theorem d_M_plain_0 : decode mb_M_plain 0 = .ok (.aload_n 0, 1) := by decide +kernel
theorem d_M_plain_1 : decode mb_M_plain 1 = .ok (.iload_n 1, 1) := by decide +kernel
theorem d_M_plain_2 : decode mb_M_plain 2 = .ok (.iload_n 2, 1) := by decide +kernel
theorem d_M_plain_3 : decode mb_M_plain 3 = .ok (.invokevirtual 66, 3) := by decide +kernel
theorem d_M_plain_6 : decode mb_M_plain 6 = .ok (.aload_n 0, 1) := by decide +kernel
theorem d_M_plain_7 : decode mb_M_plain 7 = .ok (.iconst 2, 1) := by decide +kernel
theorem d_M_plain_8 : decode mb_M_plain 8 = .ok (.iconst 0, 1) := by decide +kernel
theorem d_M_plain_9 : decode mb_M_plain 9 = .ok (.invokevirtual 62, 3) := by decide +kernel
theorem d_M_plain_12 : decode mb_M_plain 12 = .ok (.iload_n 1, 1) := by decide +kernel
theorem d_M_plain_13 : decode mb_M_plain 13 = .ok (.ireturn, 1) := by decide +kernel
theorem d_M_number_0 : decode mb_M_number 0 = .ok (.iload_n 0, 1) := by decide +kernel
theorem d_M_number_1 : decode mb_M_number 1 = .ok (.iload_n 1, 1) := by decide +kernel
theorem d_M_number_2 : decode mb_M_number 2 = .ok (.iconst 1, 1) := by decide +kernel
theorem d_M_number_3 : decode mb_M_number 3 = .ok (.isub, 1) := by decide +kernel
theorem d_M_number_4 : decode mb_M_number 4 = .ok (.ishr, 1) := by decide +kernel
theorem d_M_number_5 : decode mb_M_number 5 = .ok (.ifCond .ne 7, 3) := by decide +kernel
theorem d_M_number_8 : decode mb_M_number 8 = .ok (.iload_n 0, 1) := by decide +kernel
theorem d_M_number_9 : decode mb_M_number 9 = .ok (.goto 8, 3) := by decide +kernel
theorem d_M_number_12 : decode mb_M_number 12 = .ok (.iload_n 0, 1) := by decide +kernel
theorem d_M_number_13 : decode mb_M_number 13 = .ok (.iconst 1, 1) := by decide +kernel
theorem d_M_number_14 : decode mb_M_number 14 = .ok (.iload_n 1, 1) := by decide +kernel
theorem d_M_number_15 : decode mb_M_number 15 = .ok (.ishl, 1) := by decide +kernel
theorem d_M_number_16 : decode mb_M_number 16 = .ok (.isub, 1) := by decide +kernel
theorem d_M_number_17 : decode mb_M_number 17 = .ok (.ireturn, 1) := by decide +kernel
theorem d_M_sum_0 : decode mb_M_sum 0 = .ok (.iconst 1, 1) := by decide +kernel
theorem d_M_sum_1 : decode mb_M_sum 1 = .ok (.iload 4, 2) := by decide +kernel
theorem d_M_sum_3 : decode mb_M_sum 3 = .ok (.ishl, 1) := by decide +kernel
theorem d_M_sum_4 : decode mb_M_sum 4 = .ok (.istore 5, 2) := by decide +kernel
theorem d_M_sum_6 : decode mb_M_sum 6 = .ok (.iload_n 1, 1) := by decide +kernel
theorem d_M_sum_7 : decode mb_M_sum 7 = .ok (.iload 4, 2) := by decide +kernel
theorem d_M_sum_9 : decode mb_M_sum 9 = .ok (.invokestatic 69, 3) := by decide +kernel
theorem d_M_sum_12 : decode mb_M_sum 12 = .ok (.iload_n 2, 1) := by decide +kernel
theorem d_M_sum_13 : decode mb_M_sum 13 = .ok (.iload 4, 2) := by decide +kernel
theorem d_M_sum_15 : decode mb_M_sum 15 = .ok (.invokestatic 69, 3) := by decide +kernel
theorem d_M_sum_18 : decode mb_M_sum 18 = .ok (.iadd, 1) := by decide +kernel
theorem d_M_sum_19 : decode mb_M_sum 19 = .ok (.iload_n 3, 1) := by decide +kernel
theorem d_M_sum_20 : decode mb_M_sum 20 = .ok (.iadd, 1) := by decide +kernel
theorem d_M_sum_21 : decode mb_M_sum 21 = .ok (.istore 6, 2) := by decide +kernel
theorem d_M_sum_23 : decode mb_M_sum 23 = .ok (.iload_n 1, 1) := by decide +kernel
theorem d_M_sum_24 : decode mb_M_sum 24 = .ok (.iload_n 2, 1) := by decide +kernel
theorem d_M_sum_25 : decode mb_M_sum 25 = .ok (.iadd, 1) := by decide +kernel
theorem d_M_sum_26 : decode mb_M_sum 26 = .ok (.iload_n 3, 1) := by decide +kernel
theorem d_M_sum_27 : decode mb_M_sum 27 = .ok (.iadd, 1) := by decide +kernel
theorem d_M_sum_28 : decode mb_M_sum 28 = .ok (.iload 5, 2) := by decide +kernel
theorem d_M_sum_30 : decode mb_M_sum 30 = .ok (.irem, 1) := by decide +kernel
theorem d_M_sum_31 : decode mb_M_sum 31 = .ok (.istore 7, 2) := by decide +kernel
theorem d_M_sum_33 : decode mb_M_sum 33 = .ok (.aload_n 0, 1) := by decide +kernel
theorem d_M_sum_34 : decode mb_M_sum 34 = .ok (.iload 7, 2) := by decide +kernel
theorem d_M_sum_36 : decode mb_M_sum 36 = .ok (.iload 4, 2) := by decide +kernel
theorem d_M_sum_38 : decode mb_M_sum 38 = .ok (.invokevirtual 66, 3) := by decide +kernel
theorem d_M_sum_41 : decode mb_M_sum 41 = .ok (.aload_n 0, 1) := by decide +kernel
theorem d_M_sum_42 : decode mb_M_sum 42 = .ok (.iconst 1, 1) := by decide +kernel
theorem d_M_sum_43 : decode mb_M_sum 43 = .ok (.iload_n 1, 1) := by decide +kernel
theorem d_M_sum_44 : decode mb_M_sum 44 = .ok (.iload_n 2, 1) := by decide +kernel
theorem d_M_sum_45 : decode mb_M_sum 45 = .ok (.iadd, 1) := by decide +kernel
theorem d_M_sum_46 : decode mb_M_sum 46 = .ok (.iload_n 3, 1) := by decide +kernel
theorem d_M_sum_47 : decode mb_M_sum 47 = .ok (.iadd, 1) := by decide +kernel
theorem d_M_sum_48 : decode mb_M_sum 48 = .ok (.iload 5, 2) := by decide +kernel
theorem d_M_sum_50 : decode mb_M_sum 50 = .ok (.if_icmp .lt 7, 3) := by decide +kernel
theorem d_M_sum_53 : decode mb_M_sum 53 = .ok (.iconst 1, 1) := by decide +kernel
theorem d_M_sum_54 : decode mb_M_sum 54 = .ok (.goto 4, 3) := by decide +kernel
theorem d_M_sum_57 : decode mb_M_sum 57 = .ok (.iconst 0, 1) := by decide +kernel
theorem d_M_sum_58 : decode mb_M_sum 58 = .ok (.invokevirtual 62, 3) := by decide +kernel
theorem d_M_sum_61 : decode mb_M_sum 61 = .ok (.aload_n 0, 1) := by decide +kernel
theorem d_M_sum_62 : decode mb_M_sum 62 = .ok (.iconst 2, 1) := by decide +kernel
theorem d_M_sum_63 : decode mb_M_sum 63 = .ok (.iload 6, 2) := by decide +kernel
theorem d_M_sum_65 : decode mb_M_sum 65 = .ok (.iload 5, 2) := by decide +kernel
theorem d_M_sum_67 : decode mb_M_sum 67 = .ok (.ineg, 1) := by decide +kernel
theorem d_M_sum_68 : decode mb_M_sum 68 = .ok (.iconst 2, 1) := by decide +kernel
theorem d_M_sum_69 : decode mb_M_sum 69 = .ok (.idiv, 1) := by decide +kernel
theorem d_M_sum_70 : decode mb_M_sum 70 = .ok (.if_icmp .lt 12, 3) := by decide +kernel
theorem d_M_sum_73 : decode mb_M_sum 73 = .ok (.iload 6, 2) := by decide +kernel
theorem d_M_sum_75 : decode mb_M_sum 75 = .ok (.iload 5, 2) := by decide +kernel
theorem d_M_sum_77 : decode mb_M_sum 77 = .ok (.iconst 2, 1) := by decide +kernel
theorem d_M_sum_78 : decode mb_M_sum 78 = .ok (.idiv, 1) := by decide +kernel
theorem d_M_sum_79 : decode mb_M_sum 79 = .ok (.if_icmp .lt 7, 3) := by decide +kernel
theorem d_M_sum_82 : decode mb_M_sum 82 = .ok (.iconst 1, 1) := by decide +kernel
theorem d_M_sum_83 : decode mb_M_sum 83 = .ok (.goto 4, 3) := by decide +kernel
theorem d_M_sum_86 : decode mb_M_sum 86 = .ok (.iconst 0, 1) := by decide +kernel
theorem d_M_sum_87 : decode mb_M_sum 87 = .ok (.invokevirtual 62, 3) := by decide +kernel
theorem d_M_sum_90 : decode mb_M_sum 90 = .ok (.iload 7, 2) := by decide +kernel
theorem d_M_sum_92 : decode mb_M_sum 92 = .ok (.ireturn, 1) := by decide +kernel
section MODEL
variable {l : Launch} {D : va_G}
variable {h0 h1 h2 h3 h4 h5 h6 h7 : Nat} {cI cT : ClassId} {me : Nat → Int32} {rg : Nat → Int32} {so : Nat → Int32} {sv : Nat → Int32} {tl : Nat → Int32} {su : Nat → Int32} {qu : Nat → Int32} {wa : Int32} {ru : Int32} {pe : Int32} {re : Int32} {pn : Bool} {lo : Int32} {se : Int32} {pa : Int32} {sp : Int32} {iv : Bool}
set_option maxHeartbeats 4000000 in
set_option maxRecDepth 100000 in
theorem c_mo_signed {x1 : Int32} {z : Int32} (hf : mo_signed x1 = some z) : co_i l my_M_signed mb_M_signed 1 .int rm_m_signed D (ty_ cI cT) [.int x1] (mw_ h0 h1 h2 h3 h4 h5 h6 h7 cI me rg so sv tl su qu wa ru pe re pn lo se pa sp iv) (mw_ h0 h1 h2 h3 h4 h5 h6 h7 cI me rg so sv tl su qu wa ru pe re pn lo se pa sp iv) z := by
  refine co_i_of (by decide) (Nat.le_of_ble_eq_true rfl) ?_
  intro p e s m below meth c A ls X hr hlk hK hP hD hS hA hl
  have hx := X.1
  have hb := X.2.1
  have hl : lv_has ls 1 [(0, .int x1)] := hl
  unfold mo_signed at hf
  refine lv_iload_n hx hb d_M_signed_0 rfl (lv_at hl 0 rfl) ?_
  refine lv_sipush (v := (128 : Int32)) hx hb d_M_signed_1 (by decide) ?_
  refine lv_icmp_ge (tgt := 11) hx hb d_M_signed_4 (by decide) (fun hc => ?_) (fun hc => ?_)
  · replace hf := (if_pos hc).symm.trans hf
    refine lv_iload_n hx hb d_M_signed_11 rfl (lv_at hl 0 rfl) ?_
    refine lv_sipush (v := (256 : Int32)) hx hb d_M_signed_12 (by decide) ?_
    refine lv_isub hx hb d_M_signed_15 ?_
    cases hf
    exact rt_i (r := (x1 - (256 : Int32))) X hr hlk hK rfl hP hD hS d_M_signed_16
  · replace hf := (if_neg hc).symm.trans hf
    refine lv_iload_n hx hb d_M_signed_7 rfl (lv_at hl 0 rfl) ?_
    refine lv_goto (tgt := 16) hx hb d_M_signed_8 (by decide) ?_
    cases hf
    exact rt_i (r := x1) X hr hlk hK rfl hP hD hS d_M_signed_16
set_option maxHeartbeats 4000000 in
set_option maxRecDepth 100000 in
theorem c_mo_at {x1 : Int32} {z : Int32} (hf : mo_at x1 me = some z) : co_i l my_M_at mb_M_at 3 .int rm_m_at D (ty_ cI cT) [.ref h0, .int x1] (mw_ h0 h1 h2 h3 h4 h5 h6 h7 cI me rg so sv tl su qu wa ru pe re pn lo se pa sp iv) (mw_ h0 h1 h2 h3 h4 h5 h6 h7 cI me rg so sv tl su qu wa ru pe re pn lo se pa sp iv) z := by
  refine co_i_of (by decide) (Nat.le_of_ble_eq_true rfl) ?_
  intro p e s m below meth c A ls X hr hlk hK hP hD hS hA hl
  have hx := X.1
  have hb := X.2.1
  have hl : lv_has ls 3 [(0, .ref h0), (1, .int x1)] := hl
  unfold mo_at at hf
  refine lv_iload_n hx hb d_M_at_0 rfl (lv_at hl 1 rfl) ?_
  refine lv_ldc (v := (65535 : Int32)) hx hb X.2.2.2.1 (X.2.2.2.2 _ wd_0) d_M_at_1 ?_
  refine lv_iand hx hb d_M_at_3 ?_
  refine lv_istore_n hx hb d_M_at_4 rfl hl (by decide) rfl (fun ls hl => ?_)
  have hl : lv_has ls 3 [(2, .int (x1 &&& (65535 : Int32))), (0, .ref h0), (1, .int x1)] := hl
  refine lv_iload_n hx hb d_M_at_5 rfl (lv_at hl 0 rfl) ?_
  refine lv_sipush (v := (512 : Int32)) hx hb d_M_at_6 (by decide) ?_
  refine lv_icmp_ge (tgt := 21) hx hb d_M_at_9 (by decide) (fun hc => ?_) (fun hc => ?_)
  · replace hf := (if_pos hc).symm.trans hf
    refine lv_iconst (v := (0 : Int32)) hx hb d_M_at_21 (by decide) ?_
    cases hf
    exact rt_i (r := (0 : Int32)) X hr hlk hK rfl hP hD hS d_M_at_22
  · replace hf := (if_neg hc).symm.trans hf
    refine lv_aload_n hx hb d_M_at_12 rfl (lv_at hl 1 rfl) ?_
    refine mg_memory X hK hP d_M_at_13 ?_
    refine lv_iload_n hx hb d_M_at_16 rfl (lv_at hl 0 rfl) ?_
    obtain ⟨hi2, hf⟩ := op_c hf
    refine ma_me (k := ((x1 &&& (65535 : Int32)).toNatClampNeg)) X hK hP hi2 rfl d_M_at_17 ?_
    refine lv_goto (tgt := 22) hx hb d_M_at_18 (by decide) ?_
    cases hf
    exact rt_i (r := (me ((x1 &&& (65535 : Int32)).toNatClampNeg))) X hr hlk hK rfl hP hD hS d_M_at_22
set_option maxHeartbeats 4000000 in
set_option maxRecDepth 100000 in
theorem c_mo_put {x1 : Int32} {x2 : Int32} {z : (Nat → Int32)} (hf : mo_put x1 x2 me = some z) : co_v l my_M_put mb_M_put 4 rm_m_put D (ty_ cI cT) [.ref h0, .int x1, .int x2] (mw_ h0 h1 h2 h3 h4 h5 h6 h7 cI me rg so sv tl su qu wa ru pe re pn lo se pa sp iv) (mw_ h0 h1 h2 h3 h4 h5 h6 h7 cI z rg so sv tl su qu wa ru pe re pn lo se pa sp iv) := by
  refine co_v_of (by decide) (Nat.le_of_ble_eq_true rfl) ?_
  intro p e s m below meth c A ls X hr hlk hK hP hD hS hA hl
  have hx := X.1
  have hb := X.2.1
  have hl : lv_has ls 4 [(0, .ref h0), (1, .int x1), (2, .int x2)] := hl
  unfold mo_put at hf
  refine lv_iload_n hx hb d_M_put_0 rfl (lv_at hl 1 rfl) ?_
  refine lv_ldc (v := (65535 : Int32)) hx hb X.2.2.2.1 (X.2.2.2.2 _ wd_0) d_M_put_1 ?_
  refine lv_iand hx hb d_M_put_3 ?_
  refine lv_istore_n hx hb d_M_put_4 rfl hl (by decide) rfl (fun ls hl => ?_)
  have hl : lv_has ls 4 [(3, .int (x1 &&& (65535 : Int32))), (0, .ref h0), (1, .int x1), (2, .int x2)] := hl
  refine lv_iload_n hx hb d_M_put_5 rfl (lv_at hl 0 rfl) ?_
  refine lv_sipush (v := (512 : Int32)) hx hb d_M_put_6 (by decide) ?_
  refine lv_icmp_ge (tgt := 23) hx hb d_M_put_9 (by decide) (fun hc => ?_) (fun hc => ?_)
  · replace hf := (if_pos hc).symm.trans hf
    cases hf
    exact rt_v X hr hlk hK hP hD hS d_M_put_23
  · replace hf := (if_neg hc).symm.trans hf
    refine lv_aload_n hx hb d_M_put_12 rfl (lv_at hl 1 rfl) ?_
    refine mg_memory X hK hP d_M_put_13 ?_
    refine lv_iload_n hx hb d_M_put_16 rfl (lv_at hl 0 rfl) ?_
    refine lv_iload_n hx hb d_M_put_17 rfl (lv_at hl 3 rfl) ?_
    refine lv_sipush (v := (255 : Int32)) hx hb d_M_put_18 (by decide) ?_
    refine lv_iand hx hb d_M_put_21 ?_
    obtain ⟨hi2, hf⟩ := op_c hf
    refine ms_me (k := ((x1 &&& (65535 : Int32)).toNatClampNeg)) X hK hP hD hS hi2 rfl d_M_put_22 (fun H locs hP hD hS => ?_)
    cases hf
    exact rt_v X hr hlk hK hP hD hS d_M_put_23
set_option maxHeartbeats 4000000 in
set_option maxRecDepth 100000 in
theorem c_mo_get {x1 : Int32} {z : Int32} (hf : mo_get x1 rg = some z) : co_i l my_M_get mb_M_get 2 .int rm_m_get D (ty_ cI cT) [.ref h0, .int x1] (mw_ h0 h1 h2 h3 h4 h5 h6 h7 cI me rg so sv tl su qu wa ru pe re pn lo se pa sp iv) (mw_ h0 h1 h2 h3 h4 h5 h6 h7 cI me rg so sv tl su qu wa ru pe re pn lo se pa sp iv) z := by
  refine co_i_of (by decide) (Nat.le_of_ble_eq_true rfl) ?_
  intro p e s m below meth c A ls X hr hlk hK hP hD hS hA hl
  have hx := X.1
  have hb := X.2.1
  have hl : lv_has ls 2 [(0, .ref h0), (1, .int x1)] := hl
  unfold mo_get at hf
  refine lv_iload_n hx hb d_M_get_0 rfl (lv_at hl 1 rfl) ?_
  refine lv_if_ne (tgt := 26) hx hb d_M_get_1 (by decide) (fun hc => ?_) (fun hc => ?_)
  · replace hf := (if_neg hc).symm.trans hf
    refine lv_aload_n hx hb d_M_get_26 rfl (lv_at hl 0 rfl) ?_
    refine mg_reg X hK hP d_M_get_27 ?_
    refine lv_iload_n hx hb d_M_get_30 rfl (lv_at hl 1 rfl) ?_
    obtain ⟨hi2, hf⟩ := op_c hf
    refine ma_rg (k := (x1.toNatClampNeg)) X hK hP hi2 rfl d_M_get_31 ?_
    cases hf
    exact rt_i (r := (rg (x1.toNatClampNeg))) X hr hlk hK rfl hP hD hS d_M_get_32
  · replace hf := (if_pos hc).symm.trans hf
    refine lv_sipush (v := (256 : Int32)) hx hb d_M_get_4 (by decide) ?_
    refine lv_aload_n hx hb d_M_get_7 rfl (lv_at hl 0 rfl) ?_
    refine mg_reg X hK hP d_M_get_8 ?_
    refine lv_bipush (v := (8 : Int32)) hx hb d_M_get_11 (by decide) ?_
    refine ma_rg (k := 8) X hK hP (in_b_vp (by decide)) (by decide) d_M_get_13 ?_
    refine lv_imul hx hb d_M_get_14 ?_
    refine lv_aload_n hx hb d_M_get_15 rfl (lv_at hl 0 rfl) ?_
    refine mg_reg X hK hP d_M_get_16 ?_
    refine lv_bipush (v := (9 : Int32)) hx hb d_M_get_19 (by decide) ?_
    refine ma_rg (k := 9) X hK hP (in_b_vp (by decide)) (by decide) d_M_get_21 ?_
    refine lv_iadd hx hb d_M_get_22 ?_
    refine lv_goto (tgt := 32) hx hb d_M_get_23 (by decide) ?_
    cases hf
    exact rt_i (r := (((256 : Int32) * (rg 8)) + (rg 9))) X hr hlk hK rfl hP hD hS d_M_get_32
set_option maxHeartbeats 4000000 in
set_option maxRecDepth 100000 in
theorem c_mo_set {x1 : Int32} {x2 : Int32} {z : (Nat → Int32)} (hf : mo_set x1 x2 rg = some z) : co_v l my_M_set mb_M_set 3 rm_m_set D (ty_ cI cT) [.ref h0, .int x1, .int x2] (mw_ h0 h1 h2 h3 h4 h5 h6 h7 cI me rg so sv tl su qu wa ru pe re pn lo se pa sp iv) (mw_ h0 h1 h2 h3 h4 h5 h6 h7 cI me z so sv tl su qu wa ru pe re pn lo se pa sp iv) := by
  refine co_v_of (by decide) (Nat.le_of_ble_eq_true rfl) ?_
  intro p e s m below meth c A ls X hr hlk hK hP hD hS hA hl
  have hx := X.1
  have hb := X.2.1
  have hl : lv_has ls 3 [(0, .ref h0), (1, .int x1), (2, .int x2)] := hl
  have J57 : ∀ (s0 : Int32) (s1 : Int32) (rg : Nat → Int32), mo_set_j57 s0 s1 rg = some z → ∀ (H : Heap) (locs : List Loc) (ls : Array Slot), lv_has ls 3 [] → va_P D cz_all (mw_ h0 h1 h2 h3 h4 h5 h6 h7 cI me rg so sv tl su qu wa ru pe re pn lo se pa sp iv) H → va_D A (mw_ h0 h1 h2 h3 h4 h5 h6 h7 cI me rg so sv tl su qu wa ru pe re pn lo se pa sp iv) → va_S A s.heap H locs → W p l e rm_m_set s m ([.ref h0, .int x1, .int x2] : List Value).toArray below meth c H locs 0 0 (MQ below (qs_v D (ty_ cI cT) (mw_ h0 h1 h2 h3 h4 h5 h6 h7 cI me z so sv tl su qu wa ru pe re pn lo se pa sp iv) A) ([.ref h0, .int x1, .int x2] : List Value).toArray s 0 0 A) (F0 m 57 ls [.int s0, .int s1, .ref h2]) := by
    intro s0 s1 rg hf H locs ls hl hP hD hS
    unfold mo_set_j57 at hf
    obtain ⟨hi2, hf⟩ := op_c hf
    refine ms_rg (k := (s1.toNatClampNeg)) X hK hP hD hS hi2 rfl d_M_set_57 (fun H locs hP hD hS => ?_)
    cases hf
    exact rt_v X hr hlk hK hP hD hS d_M_set_58
  unfold mo_set at hf
  refine lv_iload_n hx hb d_M_set_0 rfl (lv_at hl 1 rfl) ?_
  refine lv_if_ne (tgt := 34) hx hb d_M_set_1 (by decide) (fun hc => ?_) (fun hc => ?_)
  · replace hf := (if_neg hc).symm.trans hf
    refine lv_aload_n hx hb d_M_set_34 rfl (lv_at hl 0 rfl) ?_
    refine mg_reg X hK hP d_M_set_35 ?_
    refine lv_iload_n hx hb d_M_set_38 rfl (lv_at hl 1 rfl) ?_
    refine lv_iload_n hx hb d_M_set_39 rfl (lv_at hl 1 rfl) ?_
    refine lv_bipush (v := (8 : Int32)) hx hb d_M_set_40 (by decide) ?_
    refine lv_icmp_ge (tgt := 52) hx hb d_M_set_42 (by decide) (fun hc => ?_) (fun hc => ?_)
    · replace hf := (if_pos hc).symm.trans hf
      refine lv_iload_n hx hb d_M_set_52 rfl (lv_at hl 2 rfl) ?_
      refine lv_sipush (v := (255 : Int32)) hx hb d_M_set_53 (by decide) ?_
      refine lv_iand hx hb d_M_set_56 ?_
      exact J57 (x2 &&& (255 : Int32)) x1 rg hf _ _ _ (lv_sub hl [] rfl) hP hD hS
    · replace hf := (if_neg hc).symm.trans hf
      refine lv_iload_n hx hb d_M_set_45 rfl (lv_at hl 2 rfl) ?_
      refine lv_ldc (v := (65535 : Int32)) hx hb X.2.2.2.1 (X.2.2.2.2 _ wd_0) d_M_set_46 ?_
      refine lv_iand hx hb d_M_set_48 ?_
      refine lv_goto (tgt := 57) hx hb d_M_set_49 (by decide) ?_
      exact J57 (x2 &&& (65535 : Int32)) x1 rg hf _ _ _ (lv_sub hl [] rfl) hP hD hS
  · replace hf := (if_pos hc).symm.trans hf
    refine lv_aload_n hx hb d_M_set_4 rfl (lv_at hl 0 rfl) ?_
    refine mg_reg X hK hP d_M_set_5 ?_
    refine lv_bipush (v := (8 : Int32)) hx hb d_M_set_8 (by decide) ?_
    refine lv_iload_n hx hb d_M_set_10 rfl (lv_at hl 2 rfl) ?_
    refine lv_bipush (v := (8 : Int32)) hx hb d_M_set_11 (by decide) ?_
    refine lv_ishr hx hb d_M_set_13 ?_
    refine lv_sipush (v := (255 : Int32)) hx hb d_M_set_14 (by decide) ?_
    refine lv_iand hx hb d_M_set_17 ?_
    refine ms_rg (k := 8) X hK hP hD hS (in_b_vp (by decide)) (by decide) d_M_set_18 (fun H locs hP hD hS => ?_)
    refine lv_aload_n hx hb d_M_set_19 rfl (lv_at hl 0 rfl) ?_
    refine mg_reg X hK hP d_M_set_20 ?_
    refine lv_bipush (v := (9 : Int32)) hx hb d_M_set_23 (by decide) ?_
    refine lv_iload_n hx hb d_M_set_25 rfl (lv_at hl 2 rfl) ?_
    refine lv_sipush (v := (255 : Int32)) hx hb d_M_set_26 (by decide) ?_
    refine lv_iand hx hb d_M_set_29 ?_
    refine ms_rg (k := 9) X hK hP hD hS (in_b_vp (by decide)) (by decide) d_M_set_30 (fun H locs hP hD hS => ?_)
    refine lv_goto (tgt := 58) hx hb d_M_set_31 (by decide) ?_
    cases hf
    exact rt_v X hr hlk hK hP hD hS d_M_set_58
set_option maxHeartbeats 4000000 in
set_option maxRecDepth 100000 in
theorem c_mo_load {x1 : Int32} {x2 : Bool} {z : Int32 × Int32} (hf : mo_load x1 x2 me sp = some z) : co_i l my_M_load mb_M_load 3 .int rm_m_load D (ty_ cI cT) [.ref h0, .int x1, .int (bz_i x2)] (mw_ h0 h1 h2 h3 h4 h5 h6 h7 cI me rg so sv tl su qu wa ru pe re pn lo se pa sp iv) (mw_ h0 h1 h2 h3 h4 h5 h6 h7 cI me rg so sv tl su qu wa ru pe re pn lo se pa z.2 iv) z.1 := by
  refine co_i_of (by decide) (Nat.le_of_ble_eq_true rfl) ?_
  intro p e s m below meth c A ls X hr hlk hK hP hD hS hA hl
  have hx := X.1
  have hb := X.2.1
  have hl : lv_has ls 3 [(0, .ref h0), (1, .int x1), (2, .int (bz_i x2))] := hl
  have J14 : ∀ (v1 : Int32) (v2 : Bool) (s0 : Int32) (s1 : Int32) (me : Nat → Int32) (sp : Int32), mo_load_j14 v1 v2 s0 s1 me sp = some z → ∀ (H : Heap) (locs : List Loc) (ls : Array Slot), lv_has ls 3 [(0, .ref h0), (1, .int v1), (2, .int (bz_i v2))] → va_P D cz_all (mw_ h0 h1 h2 h3 h4 h5 h6 h7 cI me rg so sv tl su qu wa ru pe re pn lo se pa sp iv) H → va_D A (mw_ h0 h1 h2 h3 h4 h5 h6 h7 cI me rg so sv tl su qu wa ru pe re pn lo se pa sp iv) → va_S A s.heap H locs → W p l e rm_m_load s m ([.ref h0, .int x1, .int (bz_i x2)] : List Value).toArray below meth c H locs 0 0 (MQ below (qs_i D (ty_ cI cT) (mw_ h0 h1 h2 h3 h4 h5 h6 h7 cI me rg so sv tl su qu wa ru pe re pn lo se pa z.2 iv) z.1 A) ([.ref h0, .int x1, .int (bz_i x2)] : List Value).toArray s 0 0 A) (F0 m 14 ls [.int s0, .int s1, .ref h0]) := by
    intro v1 v2 s0 s1 me sp hf H locs ls hl hP hD hS
    unfold mo_load_j14 at hf
    refine lv_iadd hx hb d_M_load_14 ?_
    refine mp_spent (x := (s1 + s0)) X hK hP hD hS d_M_load_15 (fun H locs hP hD hS => ?_)
    refine lv_iload_n hx hb d_M_load_18 rfl (lv_at hl 2 rfl) ?_
    refine lv_if_eq (tgt := 42) hx hb d_M_load_19 (by decide) (fun hc => ?_) (fun hc => ?_)
    · replace hf := (if_pos hc).symm.trans hf
      refine lv_aload_n hx hb d_M_load_42 rfl (lv_at hl 0 rfl) ?_
      refine lv_iload_n hx hb d_M_load_43 rfl (lv_at hl 1 rfl) ?_
      obtain ⟨z7, hz7, hf⟩ := op_b hf
      refine cl_i X cw_M_39 hK hP hD hS hA hl (c_mo_at hz7) ⟨rfl, rfl, Nat.le_of_ble_eq_true rfl, Nat.le_of_ble_eq_true rfl⟩ 0 rfl rfl rfl rfl rfl (Nat.le_of_ble_eq_true rfl) d_M_load_44 (fun H locs hP hD hS => ?_)
      cases hf
      exact rt_i (r := z7) X hr hlk hK rfl hP hD hS d_M_load_47
    · replace hf := (if_neg hc).symm.trans hf
      refine lv_sipush (v := (256 : Int32)) hx hb d_M_load_22 (by decide) ?_
      refine lv_aload_n hx hb d_M_load_25 rfl (lv_at hl 0 rfl) ?_
      refine lv_iload_n hx hb d_M_load_26 rfl (lv_at hl 1 rfl) ?_
      obtain ⟨z8, hz8, hf⟩ := op_b hf
      refine cl_i X cw_M_39 hK hP hD hS hA hl (c_mo_at hz8) ⟨rfl, rfl, Nat.le_of_ble_eq_true rfl, Nat.le_of_ble_eq_true rfl⟩ 0 rfl rfl rfl rfl rfl (Nat.le_of_ble_eq_true rfl) d_M_load_27 (fun H locs hP hD hS => ?_)
      refine lv_imul hx hb d_M_load_30 ?_
      refine lv_aload_n hx hb d_M_load_31 rfl (lv_at hl 0 rfl) ?_
      refine lv_iload_n hx hb d_M_load_32 rfl (lv_at hl 1 rfl) ?_
      refine lv_iconst (v := (1 : Int32)) hx hb d_M_load_33 (by decide) ?_
      refine lv_iadd hx hb d_M_load_34 ?_
      obtain ⟨z9, hz9, hf⟩ := op_b hf
      refine cl_i X cw_M_39 hK hP hD hS hA hl (c_mo_at hz9) ⟨rfl, rfl, Nat.le_of_ble_eq_true rfl, Nat.le_of_ble_eq_true rfl⟩ 0 rfl rfl rfl rfl rfl (Nat.le_of_ble_eq_true rfl) d_M_load_35 (fun H locs hP hD hS => ?_)
      refine lv_iadd hx hb d_M_load_38 ?_
      refine lv_goto (tgt := 47) hx hb d_M_load_39 (by decide) ?_
      cases hf
      exact rt_i (r := (((256 : Int32) * z8) + z9)) X hr hlk hK rfl hP hD hS d_M_load_47
  unfold mo_load at hf
  refine lv_aload_n hx hb d_M_load_0 rfl (lv_at hl 0 rfl) ?_
  refine lv_dup hx hb d_M_load_1 rfl ?_
  refine mg_spent X hK hP d_M_load_2 ?_
  refine lv_iload_n hx hb d_M_load_5 rfl (lv_at hl 2 rfl) ?_
  refine lv_if_eq (tgt := 13) hx hb d_M_load_6 (by decide) (fun hc => ?_) (fun hc => ?_)
  · replace hf := (if_pos hc).symm.trans hf
    refine lv_iconst (v := (1 : Int32)) hx hb d_M_load_13 (by decide) ?_
    exact J14 x1 x2 (1 : Int32) sp me sp hf _ _ _ hl hP hD hS
  · replace hf := (if_neg hc).symm.trans hf
    refine lv_iconst (v := (2 : Int32)) hx hb d_M_load_9 (by decide) ?_
    refine lv_goto (tgt := 14) hx hb d_M_load_10 (by decide) ?_
    exact J14 x1 x2 (2 : Int32) sp me sp hf _ _ _ hl hP hD hS
set_option maxHeartbeats 4000000 in
set_option maxRecDepth 100000 in
theorem c_mo_store {x1 : Int32} {x2 : Int32} {x3 : Bool} {z : (Nat → Int32) × Int32} (hf : mo_store x1 x2 x3 me sp = some z) : co_v l my_M_store mb_M_store 4 rm_m_store D (ty_ cI cT) [.ref h0, .int x1, .int x2, .int (bz_i x3)] (mw_ h0 h1 h2 h3 h4 h5 h6 h7 cI me rg so sv tl su qu wa ru pe re pn lo se pa sp iv) (mw_ h0 h1 h2 h3 h4 h5 h6 h7 cI z.1 rg so sv tl su qu wa ru pe re pn lo se pa z.2 iv) := by
  refine co_v_of (by decide) (Nat.le_of_ble_eq_true rfl) ?_
  intro p e s m below meth c A ls X hr hlk hK hP hD hS hA hl
  have hx := X.1
  have hb := X.2.1
  have hl : lv_has ls 4 [(0, .ref h0), (1, .int x1), (2, .int x2), (3, .int (bz_i x3))] := hl
  have J14 : ∀ (v1 : Int32) (v2 : Int32) (v3 : Bool) (s0 : Int32) (s1 : Int32) (me : Nat → Int32) (sp : Int32), mo_store_j14 v1 v2 v3 s0 s1 me sp = some z → ∀ (H : Heap) (locs : List Loc) (ls : Array Slot), lv_has ls 4 [(0, .ref h0), (1, .int v1), (2, .int v2), (3, .int (bz_i v3))] → va_P D cz_all (mw_ h0 h1 h2 h3 h4 h5 h6 h7 cI me rg so sv tl su qu wa ru pe re pn lo se pa sp iv) H → va_D A (mw_ h0 h1 h2 h3 h4 h5 h6 h7 cI me rg so sv tl su qu wa ru pe re pn lo se pa sp iv) → va_S A s.heap H locs → W p l e rm_m_store s m ([.ref h0, .int x1, .int x2, .int (bz_i x3)] : List Value).toArray below meth c H locs 0 0 (MQ below (qs_v D (ty_ cI cT) (mw_ h0 h1 h2 h3 h4 h5 h6 h7 cI z.1 rg so sv tl su qu wa ru pe re pn lo se pa z.2 iv) A) ([.ref h0, .int x1, .int x2, .int (bz_i x3)] : List Value).toArray s 0 0 A) (F0 m 14 ls [.int s0, .int s1, .ref h0]) := by
    intro v1 v2 v3 s0 s1 me sp hf H locs ls hl hP hD hS
    unfold mo_store_j14 at hf
    refine lv_iadd hx hb d_M_store_14 ?_
    refine mp_spent (x := (s1 + s0)) X hK hP hD hS d_M_store_15 (fun H locs hP hD hS => ?_)
    refine lv_iload_n hx hb d_M_store_18 rfl (lv_at hl 3 rfl) ?_
    refine lv_if_eq (tgt := 42) hx hb d_M_store_19 (by decide) (fun hc => ?_) (fun hc => ?_)
    · replace hf := (if_pos hc).symm.trans hf
      refine lv_aload_n hx hb d_M_store_42 rfl (lv_at hl 0 rfl) ?_
      refine lv_iload_n hx hb d_M_store_43 rfl (lv_at hl 1 rfl) ?_
      refine lv_iload_n hx hb d_M_store_44 rfl (lv_at hl 2 rfl) ?_
      obtain ⟨z7, hz7, hf⟩ := op_b hf
      refine cl_v X cw_M_43 hK hP hD hS hA hl (c_mo_put hz7) ⟨rfl, rfl, Nat.le_of_ble_eq_true rfl, Nat.le_of_ble_eq_true rfl⟩ 0 rfl rfl rfl rfl rfl (Nat.le_of_ble_eq_true rfl) d_M_store_45 (fun H locs hP hD hS => ?_)
      cases hf
      exact rt_v X hr hlk hK hP hD hS d_M_store_48
    · replace hf := (if_neg hc).symm.trans hf
      refine lv_aload_n hx hb d_M_store_22 rfl (lv_at hl 0 rfl) ?_
      refine lv_iload_n hx hb d_M_store_23 rfl (lv_at hl 1 rfl) ?_
      refine lv_iload_n hx hb d_M_store_24 rfl (lv_at hl 2 rfl) ?_
      refine lv_bipush (v := (8 : Int32)) hx hb d_M_store_25 (by decide) ?_
      refine lv_ishr hx hb d_M_store_27 ?_
      obtain ⟨z8, hz8, hf⟩ := op_b hf
      refine cl_v X cw_M_43 hK hP hD hS hA hl (c_mo_put hz8) ⟨rfl, rfl, Nat.le_of_ble_eq_true rfl, Nat.le_of_ble_eq_true rfl⟩ 0 rfl rfl rfl rfl rfl (Nat.le_of_ble_eq_true rfl) d_M_store_28 (fun H locs hP hD hS => ?_)
      refine lv_aload_n hx hb d_M_store_31 rfl (lv_at hl 0 rfl) ?_
      refine lv_iload_n hx hb d_M_store_32 rfl (lv_at hl 1 rfl) ?_
      refine lv_iconst (v := (1 : Int32)) hx hb d_M_store_33 (by decide) ?_
      refine lv_iadd hx hb d_M_store_34 ?_
      refine lv_iload_n hx hb d_M_store_35 rfl (lv_at hl 2 rfl) ?_
      obtain ⟨z9, hz9, hf⟩ := op_b hf
      refine cl_v X cw_M_43 hK hP hD hS hA hl (c_mo_put hz9) ⟨rfl, rfl, Nat.le_of_ble_eq_true rfl, Nat.le_of_ble_eq_true rfl⟩ 0 rfl rfl rfl rfl rfl (Nat.le_of_ble_eq_true rfl) d_M_store_36 (fun H locs hP hD hS => ?_)
      refine lv_goto (tgt := 48) hx hb d_M_store_39 (by decide) ?_
      cases hf
      exact rt_v X hr hlk hK hP hD hS d_M_store_48
  unfold mo_store at hf
  refine lv_aload_n hx hb d_M_store_0 rfl (lv_at hl 0 rfl) ?_
  refine lv_dup hx hb d_M_store_1 rfl ?_
  refine mg_spent X hK hP d_M_store_2 ?_
  refine lv_iload_n hx hb d_M_store_5 rfl (lv_at hl 3 rfl) ?_
  refine lv_if_eq (tgt := 13) hx hb d_M_store_6 (by decide) (fun hc => ?_) (fun hc => ?_)
  · replace hf := (if_pos hc).symm.trans hf
    refine lv_iconst (v := (1 : Int32)) hx hb d_M_store_13 (by decide) ?_
    exact J14 x1 x2 x3 (1 : Int32) sp me sp hf _ _ _ hl hP hD hS
  · replace hf := (if_neg hc).symm.trans hf
    refine lv_iconst (v := (2 : Int32)) hx hb d_M_store_9 (by decide) ?_
    refine lv_goto (tgt := 14) hx hb d_M_store_10 (by decide) ?_
    exact J14 x1 x2 x3 (2 : Int32) sp me sp hf _ _ _ hl hP hD hS
set_option maxHeartbeats 4000000 in
set_option maxRecDepth 100000 in
theorem c_mo_fetch  {z : Int32 × (Nat → Int32) × Int32} (hf : mo_fetch me rg sp = some z) : co_i l my_M_fetch mb_M_fetch 2 .int rm_m_fetch D (ty_ cI cT) [.ref h0] (mw_ h0 h1 h2 h3 h4 h5 h6 h7 cI me rg so sv tl su qu wa ru pe re pn lo se pa sp iv) (mw_ h0 h1 h2 h3 h4 h5 h6 h7 cI me z.2.1 so sv tl su qu wa ru pe re pn lo se pa z.2.2 iv) z.1 := by
  refine co_i_of (by decide) (Nat.le_of_ble_eq_true rfl) ?_
  intro p e s m below meth c A ls X hr hlk hK hP hD hS hA hl
  have hx := X.1
  have hb := X.2.1
  have hl : lv_has ls 2 [(0, .ref h0)] := hl
  unfold mo_fetch at hf
  refine lv_aload_n hx hb d_M_fetch_0 rfl (lv_at hl 0 rfl) ?_
  refine lv_aload_n hx hb d_M_fetch_1 rfl (lv_at hl 0 rfl) ?_
  refine mg_reg X hK hP d_M_fetch_2 ?_
  refine lv_iconst (v := (5 : Int32)) hx hb d_M_fetch_5 (by decide) ?_
  refine ma_rg (k := 5) X hK hP (in_b_vp (by decide)) (by decide) d_M_fetch_6 ?_
  refine lv_iconst (v := (0 : Int32)) hx hb d_M_fetch_7 (by decide) ?_
  obtain ⟨z3, hz3, hf⟩ := op_b hf
  refine cl_i X cw_M_47 hK hP hD hS hA hl (c_mo_load hz3) ⟨rfl, rfl, Nat.le_of_ble_eq_true rfl, Nat.le_of_ble_eq_true rfl⟩ 0 rfl rfl rfl rfl rfl (Nat.le_of_ble_eq_true rfl) d_M_fetch_8 (fun H locs hP hD hS => ?_)
  refine lv_istore_n hx hb d_M_fetch_11 rfl hl (by decide) rfl (fun ls hl => ?_)
  have hl : lv_has ls 2 [(1, .int z3.1), (0, .ref h0)] := hl
  refine lv_aload_n hx hb d_M_fetch_12 rfl (lv_at hl 1 rfl) ?_
  refine lv_iconst (v := (5 : Int32)) hx hb d_M_fetch_13 (by decide) ?_
  refine lv_aload_n hx hb d_M_fetch_14 rfl (lv_at hl 1 rfl) ?_
  refine mg_reg X hK hP d_M_fetch_15 ?_
  refine lv_iconst (v := (5 : Int32)) hx hb d_M_fetch_18 (by decide) ?_
  refine ma_rg (k := 5) X hK hP (in_b_vp (by decide)) (by decide) d_M_fetch_19 ?_
  refine lv_iconst (v := (1 : Int32)) hx hb d_M_fetch_20 (by decide) ?_
  refine lv_iadd hx hb d_M_fetch_21 ?_
  obtain ⟨z4, hz4, hf⟩ := op_b hf
  refine cl_v X cw_M_51 hK hP hD hS hA hl (c_mo_set hz4) ⟨rfl, rfl, Nat.le_of_ble_eq_true rfl, Nat.le_of_ble_eq_true rfl⟩ 0 rfl rfl rfl rfl rfl (Nat.le_of_ble_eq_true rfl) d_M_fetch_22 (fun H locs hP hD hS => ?_)
  refine lv_iload_n hx hb d_M_fetch_25 rfl (lv_at hl 0 rfl) ?_
  cases hf
  exact rt_i (r := z3.1) X hr hlk hK rfl hP hD hS d_M_fetch_26
set_option maxHeartbeats 4000000 in
set_option maxRecDepth 100000 in
theorem c_mo_fetchWord  {z : Int32 × (Nat → Int32) × Int32} (hf : mo_fetchWord me rg sp = some z) : co_i l my_M_fetchWord mb_M_fetchWord 2 .int rm_m_fetchWord D (ty_ cI cT) [.ref h0] (mw_ h0 h1 h2 h3 h4 h5 h6 h7 cI me rg so sv tl su qu wa ru pe re pn lo se pa sp iv) (mw_ h0 h1 h2 h3 h4 h5 h6 h7 cI me z.2.1 so sv tl su qu wa ru pe re pn lo se pa z.2.2 iv) z.1 := by
  refine co_i_of (by decide) (Nat.le_of_ble_eq_true rfl) ?_
  intro p e s m below meth c A ls X hr hlk hK hP hD hS hA hl
  have hx := X.1
  have hb := X.2.1
  have hl : lv_has ls 2 [(0, .ref h0)] := hl
  unfold mo_fetchWord at hf
  refine lv_aload_n hx hb d_M_fetchWord_0 rfl (lv_at hl 0 rfl) ?_
  obtain ⟨z3, hz3, hf⟩ := op_b hf
  refine cl_i X cw_M_54 hK hP hD hS hA hl (c_mo_fetch hz3) ⟨rfl, rfl, Nat.le_of_ble_eq_true rfl, Nat.le_of_ble_eq_true rfl⟩ 0 rfl rfl rfl rfl rfl (Nat.le_of_ble_eq_true rfl) d_M_fetchWord_1 (fun H locs hP hD hS => ?_)
  refine lv_istore_n hx hb d_M_fetchWord_4 rfl hl (by decide) rfl (fun ls hl => ?_)
  have hl : lv_has ls 2 [(1, .int z3.1), (0, .ref h0)] := hl
  refine lv_sipush (v := (256 : Int32)) hx hb d_M_fetchWord_5 (by decide) ?_
  refine lv_iload_n hx hb d_M_fetchWord_8 rfl (lv_at hl 0 rfl) ?_
  refine lv_imul hx hb d_M_fetchWord_9 ?_
  refine lv_aload_n hx hb d_M_fetchWord_10 rfl (lv_at hl 1 rfl) ?_
  obtain ⟨z4, hz4, hf⟩ := op_b hf
  refine cl_i X cw_M_54 hK hP hD hS hA hl (c_mo_fetch hz4) ⟨rfl, rfl, Nat.le_of_ble_eq_true rfl, Nat.le_of_ble_eq_true rfl⟩ 0 rfl rfl rfl rfl rfl (Nat.le_of_ble_eq_true rfl) d_M_fetchWord_11 (fun H locs hP hD hS => ?_)
  refine lv_iadd hx hb d_M_fetchWord_14 ?_
  cases hf
  exact rt_i (r := (((256 : Int32) * z3.1) + z4.1)) X hr hlk hK rfl hP hD hS d_M_fetchWord_15
set_option maxHeartbeats 4000000 in
set_option maxRecDepth 100000 in
theorem c_mo_push {x1 : Int32} {x2 : Int32} {z : (Nat → Int32) × (Nat → Int32) × Int32} (hf : mo_push x1 x2 me rg sp = some z) : co_v l my_M_push mb_M_push 4 rm_m_push D (ty_ cI cT) [.ref h0, .int x1, .int x2] (mw_ h0 h1 h2 h3 h4 h5 h6 h7 cI me rg so sv tl su qu wa ru pe re pn lo se pa sp iv) (mw_ h0 h1 h2 h3 h4 h5 h6 h7 cI z.1 z.2.1 so sv tl su qu wa ru pe re pn lo se pa z.2.2 iv) := by
  refine co_v_of (by decide) (Nat.le_of_ble_eq_true rfl) ?_
  intro p e s m below meth c A ls X hr hlk hK hP hD hS hA hl
  have hx := X.1
  have hb := X.2.1
  have hl : lv_has ls 4 [(0, .ref h0), (1, .int x1), (2, .int x2)] := hl
  have J29 : ∀ (v1 : Int32) (v2 : Int32) (v3 : Bool) (s0 : Int32) (s1 : Int32) (s2 : Int32) (me : Nat → Int32) (rg : Nat → Int32) (sp : Int32), mo_push_j29 v1 v2 v3 s0 s1 s2 me rg sp = some z → ∀ (H : Heap) (locs : List Loc) (ls : Array Slot), lv_has ls 4 [(0, .ref h0), (1, .int v1), (2, .int v2), (3, .int (bz_i v3))] → va_P D cz_all (mw_ h0 h1 h2 h3 h4 h5 h6 h7 cI me rg so sv tl su qu wa ru pe re pn lo se pa sp iv) H → va_D A (mw_ h0 h1 h2 h3 h4 h5 h6 h7 cI me rg so sv tl su qu wa ru pe re pn lo se pa sp iv) → va_S A s.heap H locs → W p l e rm_m_push s m ([.ref h0, .int x1, .int x2] : List Value).toArray below meth c H locs 0 0 (MQ below (qs_v D (ty_ cI cT) (mw_ h0 h1 h2 h3 h4 h5 h6 h7 cI z.1 z.2.1 so sv tl su qu wa ru pe re pn lo se pa z.2.2 iv) A) ([.ref h0, .int x1, .int x2] : List Value).toArray s 0 0 A) (F0 m 29 ls [.int s0, .int s1, .int s2, .ref h0]) := by
    intro v1 v2 v3 s0 s1 s2 me rg sp hf H locs ls hl hP hD hS
    unfold mo_push_j29 at hf
    refine lv_isub hx hb d_M_push_29 ?_
    obtain ⟨z11, hz11, hf⟩ := op_b hf
    refine cl_v X cw_M_51 hK hP hD hS hA hl (c_mo_set hz11) ⟨rfl, rfl, Nat.le_of_ble_eq_true rfl, Nat.le_of_ble_eq_true rfl⟩ 0 rfl rfl rfl rfl rfl (Nat.le_of_ble_eq_true rfl) d_M_push_30 (fun H locs hP hD hS => ?_)
    refine lv_aload_n hx hb d_M_push_33 rfl (lv_at hl 0 rfl) ?_
    refine lv_aload_n hx hb d_M_push_34 rfl (lv_at hl 0 rfl) ?_
    refine mg_reg X hK hP d_M_push_35 ?_
    refine lv_iload_n hx hb d_M_push_38 rfl (lv_at hl 1 rfl) ?_
    obtain ⟨hi12, hf⟩ := op_c hf
    refine ma_rg (k := (v1.toNatClampNeg)) X hK hP hi12 rfl d_M_push_39 ?_
    refine lv_aload_n hx hb d_M_push_40 rfl (lv_at hl 0 rfl) ?_
    refine mg_reg X hK hP d_M_push_41 ?_
    refine lv_iload_n hx hb d_M_push_44 rfl (lv_at hl 2 rfl) ?_
    obtain ⟨hi13, hf⟩ := op_c hf
    refine ma_rg (k := (v2.toNatClampNeg)) X hK hP hi13 rfl d_M_push_45 ?_
    refine lv_iload_n hx hb d_M_push_46 rfl (lv_at hl 3 rfl) ?_
    obtain ⟨z14, hz14, hf⟩ := op_b hf
    refine cl_v X cw_M_58 hK hP hD hS hA hl (c_mo_store hz14) ⟨rfl, rfl, Nat.le_of_ble_eq_true rfl, Nat.le_of_ble_eq_true rfl⟩ 0 rfl rfl rfl rfl rfl (Nat.le_of_ble_eq_true rfl) d_M_push_47 (fun H locs hP hD hS => ?_)
    cases hf
    exact rt_v X hr hlk hK hP hD hS d_M_push_50
  have J11 : ∀ (v1 : Int32) (v2 : Int32) (s0 : Bool) (me : Nat → Int32) (rg : Nat → Int32) (sp : Int32), mo_push_j11 v1 v2 s0 me rg sp = some z → ∀ (H : Heap) (locs : List Loc) (ls : Array Slot), lv_has ls 4 [(0, .ref h0), (1, .int v1), (2, .int v2)] → va_P D cz_all (mw_ h0 h1 h2 h3 h4 h5 h6 h7 cI me rg so sv tl su qu wa ru pe re pn lo se pa sp iv) H → va_D A (mw_ h0 h1 h2 h3 h4 h5 h6 h7 cI me rg so sv tl su qu wa ru pe re pn lo se pa sp iv) → va_S A s.heap H locs → W p l e rm_m_push s m ([.ref h0, .int x1, .int x2] : List Value).toArray below meth c H locs 0 0 (MQ below (qs_v D (ty_ cI cT) (mw_ h0 h1 h2 h3 h4 h5 h6 h7 cI z.1 z.2.1 so sv tl su qu wa ru pe re pn lo se pa z.2.2 iv) A) ([.ref h0, .int x1, .int x2] : List Value).toArray s 0 0 A) (F0 m 11 ls [.int (bz_i s0)]) := by
    intro v1 v2 s0 me rg sp hf H locs ls hl hP hD hS
    unfold mo_push_j11 at hf
    refine lv_istore_n hx hb d_M_push_11 rfl hl (by decide) rfl (fun ls hl => ?_)
    have hl : lv_has ls 4 [(3, .int (bz_i s0)), (0, .ref h0), (1, .int v1), (2, .int v2)] := hl
    refine lv_aload_n hx hb d_M_push_12 rfl (lv_at hl 1 rfl) ?_
    refine lv_iload_n hx hb d_M_push_13 rfl (lv_at hl 2 rfl) ?_
    refine lv_aload_n hx hb d_M_push_14 rfl (lv_at hl 1 rfl) ?_
    refine mg_reg X hK hP d_M_push_15 ?_
    refine lv_iload_n hx hb d_M_push_18 rfl (lv_at hl 2 rfl) ?_
    obtain ⟨hi15, hf⟩ := op_c hf
    refine ma_rg (k := (v1.toNatClampNeg)) X hK hP hi15 rfl d_M_push_19 ?_
    refine lv_iload_n hx hb d_M_push_20 rfl (lv_at hl 0 rfl) ?_
    refine lv_if_eq (tgt := 28) hx hb d_M_push_21 (by decide) (fun hc => ?_) (fun hc => ?_)
    · replace hf := (if_pos hc).symm.trans hf
      refine lv_iconst (v := (1 : Int32)) hx hb d_M_push_28 (by decide) ?_
      exact J29 v1 v2 s0 (1 : Int32) (rg (v1.toNatClampNeg)) v1 me rg sp hf _ _ _ (lv_sub hl [1, 2, 3, 0] rfl) hP hD hS
    · replace hf := (if_neg hc).symm.trans hf
      refine lv_iconst (v := (2 : Int32)) hx hb d_M_push_24 (by decide) ?_
      refine lv_goto (tgt := 29) hx hb d_M_push_25 (by decide) ?_
      exact J29 v1 v2 s0 (2 : Int32) (rg (v1.toNatClampNeg)) v1 me rg sp hf _ _ _ (lv_sub hl [1, 2, 3, 0] rfl) hP hD hS
  unfold mo_push at hf
  refine lv_iload_n hx hb d_M_push_0 rfl (lv_at hl 2 rfl) ?_
  refine lv_bipush (v := (8 : Int32)) hx hb d_M_push_1 (by decide) ?_
  refine lv_icmp_ge (tgt := 10) hx hb d_M_push_3 (by decide) (fun hc => ?_) (fun hc => ?_)
  · replace hf := (if_pos hc).symm.trans hf
    refine lv_iconst (v := (0 : Int32)) hx hb d_M_push_10 (by decide) ?_
    exact J11 x1 x2 false me rg sp hf _ _ _ hl hP hD hS
  · replace hf := (if_neg hc).symm.trans hf
    refine lv_iconst (v := (1 : Int32)) hx hb d_M_push_6 (by decide) ?_
    refine lv_goto (tgt := 11) hx hb d_M_push_7 (by decide) ?_
    exact J11 x1 x2 true me rg sp hf _ _ _ hl hP hD hS
set_option maxHeartbeats 4000000 in
set_option maxRecDepth 100000 in
theorem c_mo_pull {x1 : Int32} {x2 : Int32} {z : (Nat → Int32) × Int32} (hf : mo_pull x1 x2 me rg sp = some z) : co_v l my_M_pull mb_M_pull 5 rm_m_pull D (ty_ cI cT) [.ref h0, .int x1, .int x2] (mw_ h0 h1 h2 h3 h4 h5 h6 h7 cI me rg so sv tl su qu wa ru pe re pn lo se pa sp iv) (mw_ h0 h1 h2 h3 h4 h5 h6 h7 cI me z.1 so sv tl su qu wa ru pe re pn lo se pa z.2 iv) := by
  refine co_v_of (by decide) (Nat.le_of_ble_eq_true rfl) ?_
  intro p e s m below meth c A ls X hr hlk hK hP hD hS hA hl
  have hx := X.1
  have hb := X.2.1
  have hl : lv_has ls 5 [(0, .ref h0), (1, .int x1), (2, .int x2)] := hl
  have J42 : ∀ (v2 : Int32) (v4 : Int32) (s0 : Int32) (s1 : Int32) (s2 : Int32) (me : Nat → Int32) (rg : Nat → Int32) (sp : Int32), mo_pull_j42 v2 v4 s0 s1 s2 me rg sp = some z → ∀ (H : Heap) (locs : List Loc) (ls : Array Slot), lv_has ls 5 [(0, .ref h0), (2, .int v2), (4, .int v4)] → va_P D cz_all (mw_ h0 h1 h2 h3 h4 h5 h6 h7 cI me rg so sv tl su qu wa ru pe re pn lo se pa sp iv) H → va_D A (mw_ h0 h1 h2 h3 h4 h5 h6 h7 cI me rg so sv tl su qu wa ru pe re pn lo se pa sp iv) → va_S A s.heap H locs → W p l e rm_m_pull s m ([.ref h0, .int x1, .int x2] : List Value).toArray below meth c H locs 0 0 (MQ below (qs_v D (ty_ cI cT) (mw_ h0 h1 h2 h3 h4 h5 h6 h7 cI me z.1 so sv tl su qu wa ru pe re pn lo se pa z.2 iv) A) ([.ref h0, .int x1, .int x2] : List Value).toArray s 0 0 A) (F0 m 42 ls [.int s0, .int s1, .int s2, .ref h0]) := by
    intro v2 v4 s0 s1 s2 me rg sp hf H locs ls hl hP hD hS
    unfold mo_pull_j42 at hf
    refine lv_iadd hx hb d_M_pull_42 ?_
    obtain ⟨z9, hz9, hf⟩ := op_b hf
    refine cl_v X cw_M_51 hK hP hD hS hA hl (c_mo_set hz9) ⟨rfl, rfl, Nat.le_of_ble_eq_true rfl, Nat.le_of_ble_eq_true rfl⟩ 0 rfl rfl rfl rfl rfl (Nat.le_of_ble_eq_true rfl) d_M_pull_43 (fun H locs hP hD hS => ?_)
    refine lv_aload_n hx hb d_M_pull_46 rfl (lv_at hl 0 rfl) ?_
    refine lv_iload_n hx hb d_M_pull_47 rfl (lv_at hl 1 rfl) ?_
    refine lv_iload hx hb d_M_pull_48 (lv_at hl 2 rfl) ?_
    obtain ⟨z10, hz10, hf⟩ := op_b hf
    refine cl_v X cw_M_51 hK hP hD hS hA hl (c_mo_set hz10) ⟨rfl, rfl, Nat.le_of_ble_eq_true rfl, Nat.le_of_ble_eq_true rfl⟩ 0 rfl rfl rfl rfl rfl (Nat.le_of_ble_eq_true rfl) d_M_pull_50 (fun H locs hP hD hS => ?_)
    cases hf
    exact rt_v X hr hlk hK hP hD hS d_M_pull_53
  have J11 : ∀ (v1 : Int32) (v2 : Int32) (s0 : Bool) (me : Nat → Int32) (rg : Nat → Int32) (sp : Int32), mo_pull_j11 v1 v2 s0 me rg sp = some z → ∀ (H : Heap) (locs : List Loc) (ls : Array Slot), lv_has ls 5 [(0, .ref h0), (1, .int v1), (2, .int v2)] → va_P D cz_all (mw_ h0 h1 h2 h3 h4 h5 h6 h7 cI me rg so sv tl su qu wa ru pe re pn lo se pa sp iv) H → va_D A (mw_ h0 h1 h2 h3 h4 h5 h6 h7 cI me rg so sv tl su qu wa ru pe re pn lo se pa sp iv) → va_S A s.heap H locs → W p l e rm_m_pull s m ([.ref h0, .int x1, .int x2] : List Value).toArray below meth c H locs 0 0 (MQ below (qs_v D (ty_ cI cT) (mw_ h0 h1 h2 h3 h4 h5 h6 h7 cI me z.1 so sv tl su qu wa ru pe re pn lo se pa z.2 iv) A) ([.ref h0, .int x1, .int x2] : List Value).toArray s 0 0 A) (F0 m 11 ls [.int (bz_i s0)]) := by
    intro v1 v2 s0 me rg sp hf H locs ls hl hP hD hS
    unfold mo_pull_j11 at hf
    refine lv_istore_n hx hb d_M_pull_11 rfl hl (by decide) rfl (fun ls hl => ?_)
    have hl : lv_has ls 5 [(3, .int (bz_i s0)), (0, .ref h0), (1, .int v1), (2, .int v2)] := hl
    refine lv_aload_n hx hb d_M_pull_12 rfl (lv_at hl 1 rfl) ?_
    refine lv_aload_n hx hb d_M_pull_13 rfl (lv_at hl 1 rfl) ?_
    refine mg_reg X hK hP d_M_pull_14 ?_
    refine lv_iload_n hx hb d_M_pull_17 rfl (lv_at hl 2 rfl) ?_
    obtain ⟨hi11, hf⟩ := op_c hf
    refine ma_rg (k := (v1.toNatClampNeg)) X hK hP hi11 rfl d_M_pull_18 ?_
    refine lv_iload_n hx hb d_M_pull_19 rfl (lv_at hl 0 rfl) ?_
    obtain ⟨z12, hz12, hf⟩ := op_b hf
    refine cl_i X cw_M_47 hK hP hD hS hA hl (c_mo_load hz12) ⟨rfl, rfl, Nat.le_of_ble_eq_true rfl, Nat.le_of_ble_eq_true rfl⟩ 0 rfl rfl rfl rfl rfl (Nat.le_of_ble_eq_true rfl) d_M_pull_20 (fun H locs hP hD hS => ?_)
    refine lv_istore hx hb d_M_pull_23 hl (by decide) rfl (fun ls hl => ?_)
    have hl : lv_has ls 5 [(4, .int z12.1), (3, .int (bz_i s0)), (0, .ref h0), (1, .int v1), (2, .int v2)] := hl
    refine lv_aload_n hx hb d_M_pull_25 rfl (lv_at hl 2 rfl) ?_
    refine lv_iload_n hx hb d_M_pull_26 rfl (lv_at hl 3 rfl) ?_
    refine lv_aload_n hx hb d_M_pull_27 rfl (lv_at hl 2 rfl) ?_
    refine mg_reg X hK hP d_M_pull_28 ?_
    refine lv_iload_n hx hb d_M_pull_31 rfl (lv_at hl 3 rfl) ?_
    refine ma_rg (k := (v1.toNatClampNeg)) X hK hP hi11 rfl d_M_pull_32 ?_
    refine lv_iload_n hx hb d_M_pull_33 rfl (lv_at hl 1 rfl) ?_
    refine lv_if_eq (tgt := 41) hx hb d_M_pull_34 (by decide) (fun hc => ?_) (fun hc => ?_)
    · replace hf := (if_pos hc).symm.trans hf
      refine lv_iconst (v := (1 : Int32)) hx hb d_M_pull_41 (by decide) ?_
      exact J42 v2 z12.1 (1 : Int32) (rg (v1.toNatClampNeg)) v1 me rg z12.2 hf _ _ _ (lv_sub hl [2, 4, 0] rfl) hP hD hS
    · replace hf := (if_neg hc).symm.trans hf
      refine lv_iconst (v := (2 : Int32)) hx hb d_M_pull_37 (by decide) ?_
      refine lv_goto (tgt := 42) hx hb d_M_pull_38 (by decide) ?_
      exact J42 v2 z12.1 (2 : Int32) (rg (v1.toNatClampNeg)) v1 me rg z12.2 hf _ _ _ (lv_sub hl [2, 4, 0] rfl) hP hD hS
  unfold mo_pull at hf
  refine lv_iload_n hx hb d_M_pull_0 rfl (lv_at hl 2 rfl) ?_
  refine lv_bipush (v := (8 : Int32)) hx hb d_M_pull_1 (by decide) ?_
  refine lv_icmp_ge (tgt := 10) hx hb d_M_pull_3 (by decide) (fun hc => ?_) (fun hc => ?_)
  · replace hf := (if_pos hc).symm.trans hf
    refine lv_iconst (v := (0 : Int32)) hx hb d_M_pull_10 (by decide) ?_
    exact J11 x1 x2 false me rg sp hf _ _ _ hl hP hD hS
  · replace hf := (if_neg hc).symm.trans hf
    refine lv_iconst (v := (1 : Int32)) hx hb d_M_pull_6 (by decide) ?_
    refine lv_goto (tgt := 11) hx hb d_M_pull_7 (by decide) ?_
    exact J11 x1 x2 true me rg sp hf _ _ _ hl hP hD hS
set_option maxHeartbeats 4000000 in
set_option maxRecDepth 100000 in
theorem c_mo_flag {x1 : Int32} {z : Bool} (hf : mo_flag x1 rg = some z) : co_i l my_M_flag mb_M_flag 2 .boolean rm_m_flag D (ty_ cI cT) [.ref h0, .int x1] (mw_ h0 h1 h2 h3 h4 h5 h6 h7 cI me rg so sv tl su qu wa ru pe re pn lo se pa sp iv) (mw_ h0 h1 h2 h3 h4 h5 h6 h7 cI me rg so sv tl su qu wa ru pe re pn lo se pa sp iv) (bz_i z) := by
  refine co_i_of (by decide) (Nat.le_of_ble_eq_true rfl) ?_
  intro p e s m below meth c A ls X hr hlk hK hP hD hS hA hl
  have hx := X.1
  have hb := X.2.1
  have hl : lv_has ls 2 [(0, .ref h0), (1, .int x1)] := hl
  unfold mo_flag at hf
  refine lv_aload_n hx hb d_M_flag_0 rfl (lv_at hl 0 rfl) ?_
  refine mg_reg X hK hP d_M_flag_1 ?_
  refine lv_bipush (v := (10 : Int32)) hx hb d_M_flag_4 (by decide) ?_
  refine ma_rg (k := 10) X hK hP (in_b_vp (by decide)) (by decide) d_M_flag_6 ?_
  refine lv_iload_n hx hb d_M_flag_7 rfl (lv_at hl 1 rfl) ?_
  refine lv_iand hx hb d_M_flag_8 ?_
  refine lv_if_eq (tgt := 16) hx hb d_M_flag_9 (by decide) (fun hc => ?_) (fun hc => ?_)
  · replace hf := (if_pos hc).symm.trans hf
    refine lv_iconst (v := (0 : Int32)) hx hb d_M_flag_16 (by decide) ?_
    cases hf
    exact rt_i (r := bz_i false) X hr hlk hK (bz_n _) hP hD hS d_M_flag_17
  · replace hf := (if_neg hc).symm.trans hf
    refine lv_iconst (v := (1 : Int32)) hx hb d_M_flag_12 (by decide) ?_
    refine lv_goto (tgt := 17) hx hb d_M_flag_13 (by decide) ?_
    cases hf
    exact rt_i (r := bz_i true) X hr hlk hK (bz_n _) hP hD hS d_M_flag_17
set_option maxHeartbeats 4000000 in
set_option maxRecDepth 100000 in
theorem c_mo_mark {x1 : Int32} {x2 : Bool} {z : (Nat → Int32)} (hf : mo_mark x1 x2 rg = some z) : co_v l my_M_mark mb_M_mark 3 rm_m_mark D (ty_ cI cT) [.ref h0, .int x1, .int (bz_i x2)] (mw_ h0 h1 h2 h3 h4 h5 h6 h7 cI me rg so sv tl su qu wa ru pe re pn lo se pa sp iv) (mw_ h0 h1 h2 h3 h4 h5 h6 h7 cI me z so sv tl su qu wa ru pe re pn lo se pa sp iv) := by
  refine co_v_of (by decide) (Nat.le_of_ble_eq_true rfl) ?_
  intro p e s m below meth c A ls X hr hlk hK hP hD hS hA hl
  have hx := X.1
  have hb := X.2.1
  have hl : lv_has ls 3 [(0, .ref h0), (1, .int x1), (2, .int (bz_i x2))] := hl
  have J33 : ∀ (s0 : Int32) (rg : Nat → Int32), mo_mark_j33 s0 rg = some z → ∀ (H : Heap) (locs : List Loc) (ls : Array Slot), lv_has ls 3 [] → va_P D cz_all (mw_ h0 h1 h2 h3 h4 h5 h6 h7 cI me rg so sv tl su qu wa ru pe re pn lo se pa sp iv) H → va_D A (mw_ h0 h1 h2 h3 h4 h5 h6 h7 cI me rg so sv tl su qu wa ru pe re pn lo se pa sp iv) → va_S A s.heap H locs → W p l e rm_m_mark s m ([.ref h0, .int x1, .int (bz_i x2)] : List Value).toArray below meth c H locs 0 0 (MQ below (qs_v D (ty_ cI cT) (mw_ h0 h1 h2 h3 h4 h5 h6 h7 cI me z so sv tl su qu wa ru pe re pn lo se pa sp iv) A) ([.ref h0, .int x1, .int (bz_i x2)] : List Value).toArray s 0 0 A) (F0 m 33 ls [.int s0, .int (10 : Int32), .ref h2]) := by
    intro s0 rg hf H locs ls hl hP hD hS
    unfold mo_mark_j33 at hf
    refine ms_rg (k := 10) X hK hP hD hS (in_b_vp (by decide)) (by decide) d_M_mark_33 (fun H locs hP hD hS => ?_)
    cases hf
    exact rt_v X hr hlk hK hP hD hS d_M_mark_34
  unfold mo_mark at hf
  refine lv_aload_n hx hb d_M_mark_0 rfl (lv_at hl 0 rfl) ?_
  refine mg_reg X hK hP d_M_mark_1 ?_
  refine lv_bipush (v := (10 : Int32)) hx hb d_M_mark_4 (by decide) ?_
  refine lv_iload_n hx hb d_M_mark_6 rfl (lv_at hl 2 rfl) ?_
  refine lv_if_eq (tgt := 22) hx hb d_M_mark_7 (by decide) (fun hc => ?_) (fun hc => ?_)
  · replace hf := (if_pos hc).symm.trans hf
    refine lv_aload_n hx hb d_M_mark_22 rfl (lv_at hl 0 rfl) ?_
    refine mg_reg X hK hP d_M_mark_23 ?_
    refine lv_bipush (v := (10 : Int32)) hx hb d_M_mark_26 (by decide) ?_
    refine ma_rg (k := 10) X hK hP (in_b_vp (by decide)) (by decide) d_M_mark_28 ?_
    refine lv_iload_n hx hb d_M_mark_29 rfl (lv_at hl 1 rfl) ?_
    refine lv_iconst (v := (-1 : Int32)) hx hb d_M_mark_30 (by decide) ?_
    refine lv_ixor hx hb d_M_mark_31 ?_
    refine lv_iand hx hb d_M_mark_32 ?_
    exact J33 ((rg 10) &&& (x1 ^^^ (-1 : Int32))) rg hf _ _ _ (lv_sub hl [] rfl) hP hD hS
  · replace hf := (if_neg hc).symm.trans hf
    refine lv_aload_n hx hb d_M_mark_10 rfl (lv_at hl 0 rfl) ?_
    refine mg_reg X hK hP d_M_mark_11 ?_
    refine lv_bipush (v := (10 : Int32)) hx hb d_M_mark_14 (by decide) ?_
    refine ma_rg (k := 10) X hK hP (in_b_vp (by decide)) (by decide) d_M_mark_16 ?_
    refine lv_iload_n hx hb d_M_mark_17 rfl (lv_at hl 1 rfl) ?_
    refine lv_ior hx hb d_M_mark_18 ?_
    refine lv_goto (tgt := 33) hx hb d_M_mark_19 (by decide) ?_
    exact J33 ((rg 10) ||| x1) rg hf _ _ _ (lv_sub hl [] rfl) hP hD hS
set_option maxHeartbeats 4000000 in
set_option maxRecDepth 100000 in
theorem c_mo_sign {x1 : Int32} {x2 : Int32} {z : (Nat → Int32)} (hf : mo_sign x1 x2 rg = some z) : co_v l my_M_sign mb_M_sign 3 rm_m_sign D (ty_ cI cT) [.ref h0, .int x1, .int x2] (mw_ h0 h1 h2 h3 h4 h5 h6 h7 cI me rg so sv tl su qu wa ru pe re pn lo se pa sp iv) (mw_ h0 h1 h2 h3 h4 h5 h6 h7 cI me z so sv tl su qu wa ru pe re pn lo se pa sp iv) := by
  refine co_v_of (by decide) (Nat.le_of_ble_eq_true rfl) ?_
  intro p e s m below meth c A ls X hr hlk hK hP hD hS hA hl
  have hx := X.1
  have hb := X.2.1
  have hl : lv_has ls 3 [(0, .ref h0), (1, .int x1), (2, .int x2)] := hl
  have J39 : ∀ (s0 : Bool) (rg : Nat → Int32), mo_sign_j39 s0 rg = some z → ∀ (H : Heap) (locs : List Loc) (ls : Array Slot), lv_has ls 3 [] → va_P D cz_all (mw_ h0 h1 h2 h3 h4 h5 h6 h7 cI me rg so sv tl su qu wa ru pe re pn lo se pa sp iv) H → va_D A (mw_ h0 h1 h2 h3 h4 h5 h6 h7 cI me rg so sv tl su qu wa ru pe re pn lo se pa sp iv) → va_S A s.heap H locs → W p l e rm_m_sign s m ([.ref h0, .int x1, .int x2] : List Value).toArray below meth c H locs 0 0 (MQ below (qs_v D (ty_ cI cT) (mw_ h0 h1 h2 h3 h4 h5 h6 h7 cI me z so sv tl su qu wa ru pe re pn lo se pa sp iv) A) ([.ref h0, .int x1, .int x2] : List Value).toArray s 0 0 A) (F0 m 39 ls [.int (bz_i s0), .int (4 : Int32), .ref h0]) := by
    intro s0 rg hf H locs ls hl hP hD hS
    unfold mo_sign_j39 at hf
    obtain ⟨z5, hz5, hf⟩ := op_b hf
    refine cl_v X cw_M_62 hK hP hD hS hA hl (c_mo_mark hz5) ⟨rfl, rfl, Nat.le_of_ble_eq_true rfl, Nat.le_of_ble_eq_true rfl⟩ 0 rfl rfl rfl rfl rfl (Nat.le_of_ble_eq_true rfl) d_M_sign_39 (fun H locs hP hD hS => ?_)
    cases hf
    exact rt_v X hr hlk hK hP hD hS d_M_sign_42
  have J19 : ∀ (v1 : Int32) (v2 : Int32) (s0 : Bool) (rg : Nat → Int32), mo_sign_j19 v1 v2 s0 rg = some z → ∀ (H : Heap) (locs : List Loc) (ls : Array Slot), lv_has ls 3 [(0, .ref h0), (1, .int v1), (2, .int v2)] → va_P D cz_all (mw_ h0 h1 h2 h3 h4 h5 h6 h7 cI me rg so sv tl su qu wa ru pe re pn lo se pa sp iv) H → va_D A (mw_ h0 h1 h2 h3 h4 h5 h6 h7 cI me rg so sv tl su qu wa ru pe re pn lo se pa sp iv) → va_S A s.heap H locs → W p l e rm_m_sign s m ([.ref h0, .int x1, .int x2] : List Value).toArray below meth c H locs 0 0 (MQ below (qs_v D (ty_ cI cT) (mw_ h0 h1 h2 h3 h4 h5 h6 h7 cI me z so sv tl su qu wa ru pe re pn lo se pa sp iv) A) ([.ref h0, .int x1, .int x2] : List Value).toArray s 0 0 A) (F0 m 19 ls [.int (bz_i s0), .int (8 : Int32), .ref h0]) := by
    intro v1 v2 s0 rg hf H locs ls hl hP hD hS
    unfold mo_sign_j19 at hf
    obtain ⟨z6, hz6, hf⟩ := op_b hf
    refine cl_v X cw_M_62 hK hP hD hS hA hl (c_mo_mark hz6) ⟨rfl, rfl, Nat.le_of_ble_eq_true rfl, Nat.le_of_ble_eq_true rfl⟩ 0 rfl rfl rfl rfl rfl (Nat.le_of_ble_eq_true rfl) d_M_sign_19 (fun H locs hP hD hS => ?_)
    refine lv_aload_n hx hb d_M_sign_22 rfl (lv_at hl 0 rfl) ?_
    refine lv_iconst (v := (4 : Int32)) hx hb d_M_sign_23 (by decide) ?_
    refine lv_iload_n hx hb d_M_sign_24 rfl (lv_at hl 1 rfl) ?_
    refine lv_iconst (v := (1 : Int32)) hx hb d_M_sign_25 (by decide) ?_
    refine lv_iload_n hx hb d_M_sign_26 rfl (lv_at hl 2 rfl) ?_
    refine lv_ishl hx hb d_M_sign_27 ?_
    refine lv_iconst (v := (1 : Int32)) hx hb d_M_sign_28 (by decide) ?_
    refine lv_isub hx hb d_M_sign_29 ?_
    refine lv_iand hx hb d_M_sign_30 ?_
    refine lv_if_ne (tgt := 38) hx hb d_M_sign_31 (by decide) (fun hc => ?_) (fun hc => ?_)
    · replace hf := (if_neg hc).symm.trans hf
      refine lv_iconst (v := (0 : Int32)) hx hb d_M_sign_38 (by decide) ?_
      exact J39 false z6 hf _ _ _ (lv_sub hl [] rfl) hP hD hS
    · replace hf := (if_pos hc).symm.trans hf
      refine lv_iconst (v := (1 : Int32)) hx hb d_M_sign_34 (by decide) ?_
      refine lv_goto (tgt := 39) hx hb d_M_sign_35 (by decide) ?_
      exact J39 true z6 hf _ _ _ (lv_sub hl [] rfl) hP hD hS
  unfold mo_sign at hf
  refine lv_aload_n hx hb d_M_sign_0 rfl (lv_at hl 0 rfl) ?_
  refine lv_bipush (v := (8 : Int32)) hx hb d_M_sign_1 (by decide) ?_
  refine lv_iload_n hx hb d_M_sign_3 rfl (lv_at hl 1 rfl) ?_
  refine lv_iload_n hx hb d_M_sign_4 rfl (lv_at hl 2 rfl) ?_
  refine lv_iconst (v := (1 : Int32)) hx hb d_M_sign_5 (by decide) ?_
  refine lv_isub hx hb d_M_sign_6 ?_
  refine lv_ishr hx hb d_M_sign_7 ?_
  refine lv_iconst (v := (1 : Int32)) hx hb d_M_sign_8 (by decide) ?_
  refine lv_iand hx hb d_M_sign_9 ?_
  refine lv_iconst (v := (1 : Int32)) hx hb d_M_sign_10 (by decide) ?_
  refine lv_icmp_ne (tgt := 18) hx hb d_M_sign_11 (by decide) (fun hc => ?_) (fun hc => ?_)
  · replace hf := (if_neg hc).symm.trans hf
    refine lv_iconst (v := (0 : Int32)) hx hb d_M_sign_18 (by decide) ?_
    exact J19 x1 x2 false rg hf _ _ _ hl hP hD hS
  · replace hf := (if_pos hc).symm.trans hf
    refine lv_iconst (v := (1 : Int32)) hx hb d_M_sign_14 (by decide) ?_
    refine lv_goto (tgt := 19) hx hb d_M_sign_15 (by decide) ?_
    exact J19 x1 x2 true rg hf _ _ _ hl hP hD hS
set_option maxHeartbeats 4000000 in
set_option maxRecDepth 100000 in
theorem c_mo_plain {x1 : Int32} {x2 : Int32} {z : Int32 × (Nat → Int32)} (hf : mo_plain x1 x2 rg = some z) : co_i l my_M_plain mb_M_plain 3 .int rm_m_plain D (ty_ cI cT) [.ref h0, .int x1, .int x2] (mw_ h0 h1 h2 h3 h4 h5 h6 h7 cI me rg so sv tl su qu wa ru pe re pn lo se pa sp iv) (mw_ h0 h1 h2 h3 h4 h5 h6 h7 cI me z.2 so sv tl su qu wa ru pe re pn lo se pa sp iv) z.1 := by
  refine co_i_of (by decide) (Nat.le_of_ble_eq_true rfl) ?_
  intro p e s m below meth c A ls X hr hlk hK hP hD hS hA hl
  have hx := X.1
  have hb := X.2.1
  have hl : lv_has ls 3 [(0, .ref h0), (1, .int x1), (2, .int x2)] := hl
  unfold mo_plain at hf
  refine lv_aload_n hx hb d_M_plain_0 rfl (lv_at hl 0 rfl) ?_
  refine lv_iload_n hx hb d_M_plain_1 rfl (lv_at hl 1 rfl) ?_
  refine lv_iload_n hx hb d_M_plain_2 rfl (lv_at hl 2 rfl) ?_
  obtain ⟨z3, hz3, hf⟩ := op_b hf
  refine cl_v X cw_M_66 hK hP hD hS hA hl (c_mo_sign hz3) ⟨rfl, rfl, Nat.le_of_ble_eq_true rfl, Nat.le_of_ble_eq_true rfl⟩ 0 rfl rfl rfl rfl rfl (Nat.le_of_ble_eq_true rfl) d_M_plain_3 (fun H locs hP hD hS => ?_)
  refine lv_aload_n hx hb d_M_plain_6 rfl (lv_at hl 0 rfl) ?_
  refine lv_iconst (v := (2 : Int32)) hx hb d_M_plain_7 (by decide) ?_
  refine lv_iconst (v := (0 : Int32)) hx hb d_M_plain_8 (by decide) ?_
  obtain ⟨z4, hz4, hf⟩ := op_b hf
  refine cl_v X cw_M_62 hK hP hD hS hA hl (c_mo_mark hz4) ⟨rfl, rfl, Nat.le_of_ble_eq_true rfl, Nat.le_of_ble_eq_true rfl⟩ 0 rfl rfl rfl rfl rfl (Nat.le_of_ble_eq_true rfl) d_M_plain_9 (fun H locs hP hD hS => ?_)
  refine lv_iload_n hx hb d_M_plain_12 rfl (lv_at hl 1 rfl) ?_
  cases hf
  exact rt_i (r := x1) X hr hlk hK rfl hP hD hS d_M_plain_13
set_option maxHeartbeats 4000000 in
set_option maxRecDepth 100000 in
theorem c_mo_number {x1 : Int32} {x2 : Int32} {z : Int32} (hf : mo_number x1 x2 = some z) : co_i l my_M_number mb_M_number 2 .int rm_m_number D (ty_ cI cT) [.int x1, .int x2] (mw_ h0 h1 h2 h3 h4 h5 h6 h7 cI me rg so sv tl su qu wa ru pe re pn lo se pa sp iv) (mw_ h0 h1 h2 h3 h4 h5 h6 h7 cI me rg so sv tl su qu wa ru pe re pn lo se pa sp iv) z := by
  refine co_i_of (by decide) (Nat.le_of_ble_eq_true rfl) ?_
  intro p e s m below meth c A ls X hr hlk hK hP hD hS hA hl
  have hx := X.1
  have hb := X.2.1
  have hl : lv_has ls 2 [(0, .int x1), (1, .int x2)] := hl
  unfold mo_number at hf
  refine lv_iload_n hx hb d_M_number_0 rfl (lv_at hl 0 rfl) ?_
  refine lv_iload_n hx hb d_M_number_1 rfl (lv_at hl 1 rfl) ?_
  refine lv_iconst (v := (1 : Int32)) hx hb d_M_number_2 (by decide) ?_
  refine lv_isub hx hb d_M_number_3 ?_
  refine lv_ishr hx hb d_M_number_4 ?_
  refine lv_if_ne (tgt := 12) hx hb d_M_number_5 (by decide) (fun hc => ?_) (fun hc => ?_)
  · replace hf := (if_neg hc).symm.trans hf
    refine lv_iload_n hx hb d_M_number_12 rfl (lv_at hl 0 rfl) ?_
    refine lv_iconst (v := (1 : Int32)) hx hb d_M_number_13 (by decide) ?_
    refine lv_iload_n hx hb d_M_number_14 rfl (lv_at hl 1 rfl) ?_
    refine lv_ishl hx hb d_M_number_15 ?_
    refine lv_isub hx hb d_M_number_16 ?_
    cases hf
    exact rt_i (r := (x1 - ((1 : Int32) <<< (x2 &&& 31)))) X hr hlk hK rfl hP hD hS d_M_number_17
  · replace hf := (if_pos hc).symm.trans hf
    refine lv_iload_n hx hb d_M_number_8 rfl (lv_at hl 0 rfl) ?_
    refine lv_goto (tgt := 17) hx hb d_M_number_9 (by decide) ?_
    cases hf
    exact rt_i (r := x1) X hr hlk hK rfl hP hD hS d_M_number_17
set_option maxHeartbeats 4000000 in
set_option maxRecDepth 100000 in
theorem c_mo_sum {x1 : Int32} {x2 : Int32} {x3 : Int32} {x4 : Int32} {z : Int32 × (Nat → Int32)} (hf : mo_sum x1 x2 x3 x4 rg = some z) : co_i l my_M_sum mb_M_sum 8 .int rm_m_sum D (ty_ cI cT) [.ref h0, .int x1, .int x2, .int x3, .int x4] (mw_ h0 h1 h2 h3 h4 h5 h6 h7 cI me rg so sv tl su qu wa ru pe re pn lo se pa sp iv) (mw_ h0 h1 h2 h3 h4 h5 h6 h7 cI me z.2 so sv tl su qu wa ru pe re pn lo se pa sp iv) z.1 := by
  refine co_i_of (by decide) (Nat.le_of_ble_eq_true rfl) ?_
  intro p e s m below meth c A ls X hr hlk hK hP hD hS hA hl
  have hx := X.1
  have hb := X.2.1
  have hl : lv_has ls 8 [(0, .ref h0), (1, .int x1), (2, .int x2), (3, .int x3), (4, .int x4)] := hl
  have J87 : ∀ (v7 : Int32) (s0 : Bool) (rg : Nat → Int32), mo_sum_j87 v7 s0 rg = some z → ∀ (H : Heap) (locs : List Loc) (ls : Array Slot), lv_has ls 8 [(7, .int v7)] → va_P D cz_all (mw_ h0 h1 h2 h3 h4 h5 h6 h7 cI me rg so sv tl su qu wa ru pe re pn lo se pa sp iv) H → va_D A (mw_ h0 h1 h2 h3 h4 h5 h6 h7 cI me rg so sv tl su qu wa ru pe re pn lo se pa sp iv) → va_S A s.heap H locs → W p l e rm_m_sum s m ([.ref h0, .int x1, .int x2, .int x3, .int x4] : List Value).toArray below meth c H locs 0 0 (MQ below (qs_i D (ty_ cI cT) (mw_ h0 h1 h2 h3 h4 h5 h6 h7 cI me z.2 so sv tl su qu wa ru pe re pn lo se pa sp iv) z.1 A) ([.ref h0, .int x1, .int x2, .int x3, .int x4] : List Value).toArray s 0 0 A) (F0 m 87 ls [.int (bz_i s0), .int (2 : Int32), .ref h0]) := by
    intro v7 s0 rg hf H locs ls hl hP hD hS
    unfold mo_sum_j87 at hf
    obtain ⟨z9, hz9, hf⟩ := op_b hf
    refine cl_v X cw_M_62 hK hP hD hS hA hl (c_mo_mark hz9) ⟨rfl, rfl, Nat.le_of_ble_eq_true rfl, Nat.le_of_ble_eq_true rfl⟩ 0 rfl rfl rfl rfl rfl (Nat.le_of_ble_eq_true rfl) d_M_sum_87 (fun H locs hP hD hS => ?_)
    refine lv_iload hx hb d_M_sum_90 (lv_at hl 0 rfl) ?_
    cases hf
    exact rt_i (r := v7) X hr hlk hK rfl hP hD hS d_M_sum_92
  have J82 : ∀ (v7 : Int32) (rg : Nat → Int32), mo_sum_j82 v7 rg = some z → ∀ (H : Heap) (locs : List Loc) (ls : Array Slot), lv_has ls 8 [(7, .int v7)] → va_P D cz_all (mw_ h0 h1 h2 h3 h4 h5 h6 h7 cI me rg so sv tl su qu wa ru pe re pn lo se pa sp iv) H → va_D A (mw_ h0 h1 h2 h3 h4 h5 h6 h7 cI me rg so sv tl su qu wa ru pe re pn lo se pa sp iv) → va_S A s.heap H locs → W p l e rm_m_sum s m ([.ref h0, .int x1, .int x2, .int x3, .int x4] : List Value).toArray below meth c H locs 0 0 (MQ below (qs_i D (ty_ cI cT) (mw_ h0 h1 h2 h3 h4 h5 h6 h7 cI me z.2 so sv tl su qu wa ru pe re pn lo se pa sp iv) z.1 A) ([.ref h0, .int x1, .int x2, .int x3, .int x4] : List Value).toArray s 0 0 A) (F0 m 82 ls [.int (2 : Int32), .ref h0]) := by
    intro v7 rg hf H locs ls hl hP hD hS
    unfold mo_sum_j82 at hf
    refine lv_iconst (v := (1 : Int32)) hx hb d_M_sum_82 (by decide) ?_
    refine lv_goto (tgt := 87) hx hb d_M_sum_83 (by decide) ?_
    exact J87 v7 true rg hf _ _ _ hl hP hD hS
  have J58 : ∀ (v5 : Int32) (v6 : Int32) (v7 : Int32) (s0 : Bool) (rg : Nat → Int32), mo_sum_j58 v5 v6 v7 s0 rg = some z → ∀ (H : Heap) (locs : List Loc) (ls : Array Slot), lv_has ls 8 [(0, .ref h0), (5, .int v5), (6, .int v6), (7, .int v7)] → va_P D cz_all (mw_ h0 h1 h2 h3 h4 h5 h6 h7 cI me rg so sv tl su qu wa ru pe re pn lo se pa sp iv) H → va_D A (mw_ h0 h1 h2 h3 h4 h5 h6 h7 cI me rg so sv tl su qu wa ru pe re pn lo se pa sp iv) → va_S A s.heap H locs → W p l e rm_m_sum s m ([.ref h0, .int x1, .int x2, .int x3, .int x4] : List Value).toArray below meth c H locs 0 0 (MQ below (qs_i D (ty_ cI cT) (mw_ h0 h1 h2 h3 h4 h5 h6 h7 cI me z.2 so sv tl su qu wa ru pe re pn lo se pa sp iv) z.1 A) ([.ref h0, .int x1, .int x2, .int x3, .int x4] : List Value).toArray s 0 0 A) (F0 m 58 ls [.int (bz_i s0), .int (1 : Int32), .ref h0]) := by
    intro v5 v6 v7 s0 rg hf H locs ls hl hP hD hS
    unfold mo_sum_j58 at hf
    obtain ⟨z10, hz10, hf⟩ := op_b hf
    refine cl_v X cw_M_62 hK hP hD hS hA hl (c_mo_mark hz10) ⟨rfl, rfl, Nat.le_of_ble_eq_true rfl, Nat.le_of_ble_eq_true rfl⟩ 0 rfl rfl rfl rfl rfl (Nat.le_of_ble_eq_true rfl) d_M_sum_58 (fun H locs hP hD hS => ?_)
    refine lv_aload_n hx hb d_M_sum_61 rfl (lv_at hl 0 rfl) ?_
    refine lv_iconst (v := (2 : Int32)) hx hb d_M_sum_62 (by decide) ?_
    refine lv_iload hx hb d_M_sum_63 (lv_at hl 2 rfl) ?_
    refine lv_iload hx hb d_M_sum_65 (lv_at hl 1 rfl) ?_
    refine lv_ineg hx hb d_M_sum_67 ?_
    refine lv_iconst (v := (2 : Int32)) hx hb d_M_sum_68 (by decide) ?_
    refine lv_idiv hx hb d_M_sum_69 (by decide) ?_
    refine lv_icmp_lt (tgt := 82) hx hb d_M_sum_70 (by decide) (fun hc => ?_) (fun hc => ?_)
    · replace hf := (if_pos hc).symm.trans hf
      exact J82 v7 z10 hf _ _ _ (lv_sub hl [3] rfl) hP hD hS
    · replace hf := (if_neg hc).symm.trans hf
      refine lv_iload hx hb d_M_sum_73 (lv_at hl 2 rfl) ?_
      refine lv_iload hx hb d_M_sum_75 (lv_at hl 1 rfl) ?_
      refine lv_iconst (v := (2 : Int32)) hx hb d_M_sum_77 (by decide) ?_
      refine lv_idiv hx hb d_M_sum_78 (by decide) ?_
      refine lv_icmp_lt (tgt := 86) hx hb d_M_sum_79 (by decide) (fun hc => ?_) (fun hc => ?_)
      · replace hf := (if_pos hc).symm.trans hf
        refine lv_iconst (v := (0 : Int32)) hx hb d_M_sum_86 (by decide) ?_
        exact J87 v7 false z10 hf _ _ _ (lv_sub hl [3] rfl) hP hD hS
      · replace hf := (if_neg hc).symm.trans hf
        exact J82 v7 z10 hf _ _ _ (lv_sub hl [3] rfl) hP hD hS
  unfold mo_sum at hf
  refine lv_iconst (v := (1 : Int32)) hx hb d_M_sum_0 (by decide) ?_
  refine lv_iload hx hb d_M_sum_1 (lv_at hl 4 rfl) ?_
  refine lv_ishl hx hb d_M_sum_3 ?_
  refine lv_istore hx hb d_M_sum_4 hl (by decide) rfl (fun ls hl => ?_)
  have hl : lv_has ls 8 [(5, .int ((1 : Int32) <<< (x4 &&& 31))), (0, .ref h0), (1, .int x1), (2, .int x2), (3, .int x3), (4, .int x4)] := hl
  refine lv_iload_n hx hb d_M_sum_6 rfl (lv_at hl 2 rfl) ?_
  refine lv_iload hx hb d_M_sum_7 (lv_at hl 5 rfl) ?_
  obtain ⟨z11, hz11, hf⟩ := op_b hf
  refine cl_si X cw_M_69 hK hP hD hS hA hl (c_mo_number hz11) ⟨rfl, rfl, Nat.le_of_ble_eq_true rfl, Nat.le_of_ble_eq_true rfl⟩ rfl rfl (Nat.le_of_ble_eq_true rfl) d_M_sum_9 (fun H locs hP hD hS => ?_)
  refine lv_iload_n hx hb d_M_sum_12 rfl (lv_at hl 3 rfl) ?_
  refine lv_iload hx hb d_M_sum_13 (lv_at hl 5 rfl) ?_
  obtain ⟨z12, hz12, hf⟩ := op_b hf
  refine cl_si X cw_M_69 hK hP hD hS hA hl (c_mo_number hz12) ⟨rfl, rfl, Nat.le_of_ble_eq_true rfl, Nat.le_of_ble_eq_true rfl⟩ rfl rfl (Nat.le_of_ble_eq_true rfl) d_M_sum_15 (fun H locs hP hD hS => ?_)
  refine lv_iadd hx hb d_M_sum_18 ?_
  refine lv_iload_n hx hb d_M_sum_19 rfl (lv_at hl 4 rfl) ?_
  refine lv_iadd hx hb d_M_sum_20 ?_
  refine lv_istore hx hb d_M_sum_21 hl (by decide) rfl (fun ls hl => ?_)
  have hl : lv_has ls 8 [(6, .int ((z11 + z12) + x3)), (5, .int ((1 : Int32) <<< (x4 &&& 31))), (0, .ref h0), (1, .int x1), (2, .int x2), (3, .int x3), (4, .int x4)] := hl
  refine lv_iload_n hx hb d_M_sum_23 rfl (lv_at hl 3 rfl) ?_
  refine lv_iload_n hx hb d_M_sum_24 rfl (lv_at hl 4 rfl) ?_
  refine lv_iadd hx hb d_M_sum_25 ?_
  refine lv_iload_n hx hb d_M_sum_26 rfl (lv_at hl 5 rfl) ?_
  refine lv_iadd hx hb d_M_sum_27 ?_
  refine lv_iload hx hb d_M_sum_28 (lv_at hl 1 rfl) ?_
  obtain ⟨hz13, hf⟩ := op_z hf
  refine lv_irem hx hb d_M_sum_30 hz13 ?_
  refine lv_istore hx hb d_M_sum_31 hl (by decide) rfl (fun ls hl => ?_)
  have hl : lv_has ls 8 [(7, .int (((x1 + x2) + x3) - ((x1 + x2) + x3) / ((1 : Int32) <<< (x4 &&& 31)) * ((1 : Int32) <<< (x4 &&& 31)))), (6, .int ((z11 + z12) + x3)), (5, .int ((1 : Int32) <<< (x4 &&& 31))), (0, .ref h0), (1, .int x1), (2, .int x2), (3, .int x3), (4, .int x4)] := hl
  refine lv_aload_n hx hb d_M_sum_33 rfl (lv_at hl 3 rfl) ?_
  refine lv_iload hx hb d_M_sum_34 (lv_at hl 0 rfl) ?_
  refine lv_iload hx hb d_M_sum_36 (lv_at hl 7 rfl) ?_
  obtain ⟨z14, hz14, hf⟩ := op_b hf
  refine cl_v X cw_M_66 hK hP hD hS hA hl (c_mo_sign hz14) ⟨rfl, rfl, Nat.le_of_ble_eq_true rfl, Nat.le_of_ble_eq_true rfl⟩ 0 rfl rfl rfl rfl rfl (Nat.le_of_ble_eq_true rfl) d_M_sum_38 (fun H locs hP hD hS => ?_)
  refine lv_aload_n hx hb d_M_sum_41 rfl (lv_at hl 3 rfl) ?_
  refine lv_iconst (v := (1 : Int32)) hx hb d_M_sum_42 (by decide) ?_
  refine lv_iload_n hx hb d_M_sum_43 rfl (lv_at hl 4 rfl) ?_
  refine lv_iload_n hx hb d_M_sum_44 rfl (lv_at hl 5 rfl) ?_
  refine lv_iadd hx hb d_M_sum_45 ?_
  refine lv_iload_n hx hb d_M_sum_46 rfl (lv_at hl 6 rfl) ?_
  refine lv_iadd hx hb d_M_sum_47 ?_
  refine lv_iload hx hb d_M_sum_48 (lv_at hl 2 rfl) ?_
  refine lv_icmp_lt (tgt := 57) hx hb d_M_sum_50 (by decide) (fun hc => ?_) (fun hc => ?_)
  · replace hf := (if_pos hc).symm.trans hf
    refine lv_iconst (v := (0 : Int32)) hx hb d_M_sum_57 (by decide) ?_
    exact J58 ((1 : Int32) <<< (x4 &&& 31)) ((z11 + z12) + x3) (((x1 + x2) + x3) - ((x1 + x2) + x3) / ((1 : Int32) <<< (x4 &&& 31)) * ((1 : Int32) <<< (x4 &&& 31))) false z14 hf _ _ _ (lv_sub hl [3, 2, 1, 0] rfl) hP hD hS
  · replace hf := (if_neg hc).symm.trans hf
    refine lv_iconst (v := (1 : Int32)) hx hb d_M_sum_53 (by decide) ?_
    refine lv_goto (tgt := 58) hx hb d_M_sum_54 (by decide) ?_
    exact J58 ((1 : Int32) <<< (x4 &&& 31)) ((z11 + z12) + x3) (((x1 + x2) + x3) - ((x1 + x2) + x3) / ((1 : Int32) <<< (x4 &&& 31)) * ((1 : Int32) <<< (x4 &&& 31))) true z14 hf _ _ _ (lv_sub hl [3, 2, 1, 0] rfl) hP hD hS
end MODEL
end
