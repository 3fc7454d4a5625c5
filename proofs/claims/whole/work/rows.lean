section
-- ===== PART A: goes FIRST, ahead of the names: the tables' words, and 'selects' of the private methods out of them =====
/-- a private method of a class that the tables say can be made, by its rows of tables_1 -/
def lw_okq (q : MethodName × Nat) : Prop := (q.1.cls ≠ "java/lang/invoke/MethodHandle" ∧ q.1.cls ≠ "java/lang/invoke/VarHandle") ∧ Cond.instantiable q.1.cls q.2 ∈ tables_1 ∧ Cond.privateMethod q.1 ∈ tables_1 ∧ Cond.instanceMethod q.1 ∈ tables_1
theorem lw_p0 : lw_okq (⟨"TaskComputer$Kernel", "stack", "(LTaskComputer$Task;LTaskComputer$Registers;)V"⟩, 6) := ⟨⟨by decide +kernel, by decide +kernel⟩, List.mem_of_getElem? (i := 116) (by decide +kernel), List.mem_of_getElem? (i := 264) (by decide +kernel), List.mem_of_getElem? (i := 265) (by decide +kernel)⟩
theorem lw_p1 : lw_okq (⟨"TaskComputer$Kernel", "makeReady", "(LTaskComputer$Task;)V"⟩, 6) := ⟨⟨by decide +kernel, by decide +kernel⟩, List.mem_of_getElem? (i := 116) (by decide +kernel), List.mem_of_getElem? (i := 290) (by decide +kernel), List.mem_of_getElem? (i := 291) (by decide +kernel)⟩
theorem lw_p2 : lw_okq (⟨"TaskComputer$Kernel", "resume", "(LTaskComputer$Task;)V"⟩, 6) := ⟨⟨by decide +kernel, by decide +kernel⟩, List.mem_of_getElem? (i := 116) (by decide +kernel), List.mem_of_getElem? (i := 310) (by decide +kernel), List.mem_of_getElem? (i := 311) (by decide +kernel)⟩
theorem lw_p3 : lw_okq (⟨"TaskComputer$Kernel", "take", "(LTaskComputer$Task;LTaskComputer$Registers;)V"⟩, 6) := ⟨⟨by decide +kernel, by decide +kernel⟩, List.mem_of_getElem? (i := 116) (by decide +kernel), List.mem_of_getElem? (i := 314) (by decide +kernel), List.mem_of_getElem? (i := 315) (by decide +kernel)⟩
theorem lw_p4 : lw_okq (⟨"TaskComputer$Processor", "fetch", "(I)I"⟩, 5) := ⟨⟨by decide +kernel, by decide +kernel⟩, List.mem_of_getElem? (i := 83) (by decide +kernel), List.mem_of_getElem? (i := 361) (by decide +kernel), List.mem_of_getElem? (i := 362) (by decide +kernel)⟩
theorem lw_p5 : lw_okq (⟨"TaskComputer$Processor", "skip", "(I)V"⟩, 5) := ⟨⟨by decide +kernel, by decide +kernel⟩, List.mem_of_getElem? (i := 83) (by decide +kernel), List.mem_of_getElem? (i := 366) (by decide +kernel), List.mem_of_getElem? (i := 367) (by decide +kernel)⟩
theorem lw_p6 : lw_okq (⟨"TaskComputer$Processor", "changeMemory", "(II)V"⟩, 5) := ⟨⟨by decide +kernel, by decide +kernel⟩, List.mem_of_getElem? (i := 83) (by decide +kernel), List.mem_of_getElem? (i := 371) (by decide +kernel), List.mem_of_getElem? (i := 372) (by decide +kernel)⟩
theorem lw_p7 : lw_okq (⟨"TaskComputer$Processor", "operandAddress", "(II)I"⟩, 5) := ⟨⟨by decide +kernel, by decide +kernel⟩, List.mem_of_getElem? (i := 83) (by decide +kernel), List.mem_of_getElem? (i := 375) (by decide +kernel), List.mem_of_getElem? (i := 376) (by decide +kernel)⟩
theorem lw_p8 : lw_okq (⟨"TaskComputer$Processor", "indexedAddress", "()I"⟩, 5) := ⟨⟨by decide +kernel, by decide +kernel⟩, List.mem_of_getElem? (i := 83) (by decide +kernel), List.mem_of_getElem? (i := 379) (by decide +kernel), List.mem_of_getElem? (i := 380) (by decide +kernel)⟩
theorem lw_p9 : lw_okq (⟨"TaskComputer$Processor", "load", "(II)I"⟩, 5) := ⟨⟨by decide +kernel, by decide +kernel⟩, List.mem_of_getElem? (i := 83) (by decide +kernel), List.mem_of_getElem? (i := 391) (by decide +kernel), List.mem_of_getElem? (i := 392) (by decide +kernel)⟩
theorem lw_p10 : lw_okq (⟨"TaskComputer$Processor", "changed", "(II)I"⟩, 5) := ⟨⟨by decide +kernel, by decide +kernel⟩, List.mem_of_getElem? (i := 83) (by decide +kernel), List.mem_of_getElem? (i := 398) (by decide +kernel), List.mem_of_getElem? (i := 399) (by decide +kernel)⟩
theorem lw_p11 : lw_okq (⟨"TaskComputer$Processor", "store", "(III)V"⟩, 5) := ⟨⟨by decide +kernel, by decide +kernel⟩, List.mem_of_getElem? (i := 83) (by decide +kernel), List.mem_of_getElem? (i := 446) (by decide +kernel), List.mem_of_getElem? (i := 447) (by decide +kernel)⟩
theorem lw_p12 : lw_okq (⟨"TaskComputer$Processor", "doSecondPage", "(I)V"⟩, 5) := ⟨⟨by decide +kernel, by decide +kernel⟩, List.mem_of_getElem? (i := 83) (by decide +kernel), List.mem_of_getElem? (i := 451) (by decide +kernel), List.mem_of_getElem? (i := 452) (by decide +kernel)⟩
theorem lw_p13 : lw_okq (⟨"TaskComputer$Processor", "operate", "(III)V"⟩, 5) := ⟨⟨by decide +kernel, by decide +kernel⟩, List.mem_of_getElem? (i := 83) (by decide +kernel), List.mem_of_getElem? (i := 455) (by decide +kernel), List.mem_of_getElem? (i := 456) (by decide +kernel)⟩
theorem lw_p14 : lw_okq (⟨"TaskComputer$Processor", "calculate", "(IIII)I"⟩, 5) := ⟨⟨by decide +kernel, by decide +kernel⟩, List.mem_of_getElem? (i := 83) (by decide +kernel), List.mem_of_getElem? (i := 460) (by decide +kernel), List.mem_of_getElem? (i := 461) (by decide +kernel)⟩
theorem lw_p15 : lw_okq (⟨"TaskComputer$Processor", "doGroup1", "(I)V"⟩, 5) := ⟨⟨by decide +kernel, by decide +kernel⟩, List.mem_of_getElem? (i := 83) (by decide +kernel), List.mem_of_getElem? (i := 468) (by decide +kernel), List.mem_of_getElem? (i := 469) (by decide +kernel)⟩
def lw_privs_1 : List (MethodName × Nat) := [(⟨"TaskComputer$Kernel", "stack", "(LTaskComputer$Task;LTaskComputer$Registers;)V"⟩, 6), (⟨"TaskComputer$Kernel", "makeReady", "(LTaskComputer$Task;)V"⟩, 6), (⟨"TaskComputer$Kernel", "resume", "(LTaskComputer$Task;)V"⟩, 6), (⟨"TaskComputer$Kernel", "take", "(LTaskComputer$Task;LTaskComputer$Registers;)V"⟩, 6), (⟨"TaskComputer$Processor", "fetch", "(I)I"⟩, 5), (⟨"TaskComputer$Processor", "skip", "(I)V"⟩, 5), (⟨"TaskComputer$Processor", "changeMemory", "(II)V"⟩, 5), (⟨"TaskComputer$Processor", "operandAddress", "(II)I"⟩, 5), (⟨"TaskComputer$Processor", "indexedAddress", "()I"⟩, 5), (⟨"TaskComputer$Processor", "load", "(II)I"⟩, 5), (⟨"TaskComputer$Processor", "changed", "(II)I"⟩, 5), (⟨"TaskComputer$Processor", "store", "(III)V"⟩, 5), (⟨"TaskComputer$Processor", "doSecondPage", "(I)V"⟩, 5), (⟨"TaskComputer$Processor", "operate", "(III)V"⟩, 5), (⟨"TaskComputer$Processor", "calculate", "(IIII)I"⟩, 5), (⟨"TaskComputer$Processor", "doGroup1", "(I)V"⟩, 5)]
theorem lw_r1 : ∀ q ∈ lw_privs_1, lw_okq q := List.forall_mem_cons.mpr ⟨lw_p0, List.forall_mem_cons.mpr ⟨lw_p1, List.forall_mem_cons.mpr ⟨lw_p2, List.forall_mem_cons.mpr ⟨lw_p3, List.forall_mem_cons.mpr ⟨lw_p4, List.forall_mem_cons.mpr ⟨lw_p5, List.forall_mem_cons.mpr ⟨lw_p6, List.forall_mem_cons.mpr ⟨lw_p7, List.forall_mem_cons.mpr ⟨lw_p8, List.forall_mem_cons.mpr ⟨lw_p9, List.forall_mem_cons.mpr ⟨lw_p10, List.forall_mem_cons.mpr ⟨lw_p11, List.forall_mem_cons.mpr ⟨lw_p12, List.forall_mem_cons.mpr ⟨lw_p13, List.forall_mem_cons.mpr ⟨lw_p14, List.forall_mem_cons.mpr ⟨lw_p15, fun _ h => absurd h List.not_mem_nil⟩⟩⟩⟩⟩⟩⟩⟩⟩⟩⟩⟩⟩⟩⟩⟩
theorem lw_p16 : lw_okq (⟨"TaskComputer$Processor", "moveRegister", "(Z)V"⟩, 5) := ⟨⟨by decide +kernel, by decide +kernel⟩, List.mem_of_getElem? (i := 83) (by decide +kernel), List.mem_of_getElem? (i := 477) (by decide +kernel), List.mem_of_getElem? (i := 478) (by decide +kernel)⟩
theorem lw_p17 : lw_okq (⟨"TaskComputer$Processor", "branch", "(I)V"⟩, 5) := ⟨⟨by decide +kernel, by decide +kernel⟩, List.mem_of_getElem? (i := 83) (by decide +kernel), List.mem_of_getElem? (i := 484) (by decide +kernel), List.mem_of_getElem? (i := 485) (by decide +kernel)⟩
theorem lw_p18 : lw_okq (⟨"TaskComputer$Processor", "holds", "(I)Z"⟩, 5) := ⟨⟨by decide +kernel, by decide +kernel⟩, List.mem_of_getElem? (i := 83) (by decide +kernel), List.mem_of_getElem? (i := 488) (by decide +kernel), List.mem_of_getElem? (i := 489) (by decide +kernel)⟩
theorem lw_p19 : lw_okq (⟨"TaskComputer$Processor", "doGroup3", "(I)V"⟩, 5) := ⟨⟨by decide +kernel, by decide +kernel⟩, List.mem_of_getElem? (i := 83) (by decide +kernel), List.mem_of_getElem? (i := 493) (by decide +kernel), List.mem_of_getElem? (i := 494) (by decide +kernel)⟩
theorem lw_p20 : lw_okq (⟨"TaskComputer$Processor", "loadAddress", "(I)V"⟩, 5) := ⟨⟨by decide +kernel, by decide +kernel⟩, List.mem_of_getElem? (i := 83) (by decide +kernel), List.mem_of_getElem? (i := 497) (by decide +kernel), List.mem_of_getElem? (i := 498) (by decide +kernel)⟩
theorem lw_p21 : lw_okq (⟨"TaskComputer$Processor", "push", "(II)V"⟩, 5) := ⟨⟨by decide +kernel, by decide +kernel⟩, List.mem_of_getElem? (i := 83) (by decide +kernel), List.mem_of_getElem? (i := 502) (by decide +kernel), List.mem_of_getElem? (i := 503) (by decide +kernel)⟩
theorem lw_p22 : lw_okq (⟨"TaskComputer$Processor", "pull", "(II)V"⟩, 5) := ⟨⟨by decide +kernel, by decide +kernel⟩, List.mem_of_getElem? (i := 83) (by decide +kernel), List.mem_of_getElem? (i := 507) (by decide +kernel), List.mem_of_getElem? (i := 508) (by decide +kernel)⟩
theorem lw_p23 : lw_okq (⟨"TaskComputer$Processor", "changeRegister", "(II)V"⟩, 5) := ⟨⟨by decide +kernel, by decide +kernel⟩, List.mem_of_getElem? (i := 83) (by decide +kernel), List.mem_of_getElem? (i := 516) (by decide +kernel), List.mem_of_getElem? (i := 517) (by decide +kernel)⟩
theorem lw_p24 : lw_okq (⟨"TaskComputer$Processor", "doMainPage", "(I)V"⟩, 5) := ⟨⟨by decide +kernel, by decide +kernel⟩, List.mem_of_getElem? (i := 83) (by decide +kernel), List.mem_of_getElem? (i := 520) (by decide +kernel), List.mem_of_getElem? (i := 521) (by decide +kernel)⟩
theorem lw_p25 : lw_okq (⟨"TaskComputer$Processor", "callAt", "(I)V"⟩, 5) := ⟨⟨by decide +kernel, by decide +kernel⟩, List.mem_of_getElem? (i := 83) (by decide +kernel), List.mem_of_getElem? (i := 524) (by decide +kernel), List.mem_of_getElem? (i := 525) (by decide +kernel)⟩
theorem lw_p26 : lw_okq (⟨"TaskComputer$Kernel", "answer", "(LTaskComputer$Task;I)V"⟩, 6) := ⟨⟨by decide +kernel, by decide +kernel⟩, List.mem_of_getElem? (i := 116) (by decide +kernel), List.mem_of_getElem? (i := 533) (by decide +kernel), List.mem_of_getElem? (i := 534) (by decide +kernel)⟩
theorem lw_p27 : lw_okq (⟨"TaskComputer$Kernel", "fork", "(LTaskComputer$Task;II)V"⟩, 6) := ⟨⟨by decide +kernel, by decide +kernel⟩, List.mem_of_getElem? (i := 116) (by decide +kernel), List.mem_of_getElem? (i := 537) (by decide +kernel), List.mem_of_getElem? (i := 538) (by decide +kernel)⟩
theorem lw_p28 : lw_okq (⟨"TaskComputer$Kernel", "leastFree", "()LTaskComputer$Task;"⟩, 6) := ⟨⟨by decide +kernel, by decide +kernel⟩, List.mem_of_getElem? (i := 116) (by decide +kernel), List.mem_of_getElem? (i := 541) (by decide +kernel), List.mem_of_getElem? (i := 542) (by decide +kernel)⟩
theorem lw_p29 : lw_okq (⟨"TaskComputer$Kernel", "fail", "(LTaskComputer$Task;I)V"⟩, 6) := ⟨⟨by decide +kernel, by decide +kernel⟩, List.mem_of_getElem? (i := 116) (by decide +kernel), List.mem_of_getElem? (i := 545) (by decide +kernel), List.mem_of_getElem? (i := 546) (by decide +kernel)⟩
theorem lw_p30 : lw_okq (⟨"TaskComputer$Kernel", "succeed", "(LTaskComputer$Task;I)V"⟩, 6) := ⟨⟨by decide +kernel, by decide +kernel⟩, List.mem_of_getElem? (i := 116) (by decide +kernel), List.mem_of_getElem? (i := 558) (by decide +kernel), List.mem_of_getElem? (i := 559) (by decide +kernel)⟩
theorem lw_p31 : lw_okq (⟨"TaskComputer$Kernel", "putToSleep", "(LTaskComputer$Task;I)V"⟩, 6) := ⟨⟨by decide +kernel, by decide +kernel⟩, List.mem_of_getElem? (i := 116) (by decide +kernel), List.mem_of_getElem? (i := 562) (by decide +kernel), List.mem_of_getElem? (i := 563) (by decide +kernel)⟩
def lw_privs_2 : List (MethodName × Nat) := [(⟨"TaskComputer$Processor", "moveRegister", "(Z)V"⟩, 5), (⟨"TaskComputer$Processor", "branch", "(I)V"⟩, 5), (⟨"TaskComputer$Processor", "holds", "(I)Z"⟩, 5), (⟨"TaskComputer$Processor", "doGroup3", "(I)V"⟩, 5), (⟨"TaskComputer$Processor", "loadAddress", "(I)V"⟩, 5), (⟨"TaskComputer$Processor", "push", "(II)V"⟩, 5), (⟨"TaskComputer$Processor", "pull", "(II)V"⟩, 5), (⟨"TaskComputer$Processor", "changeRegister", "(II)V"⟩, 5), (⟨"TaskComputer$Processor", "doMainPage", "(I)V"⟩, 5), (⟨"TaskComputer$Processor", "callAt", "(I)V"⟩, 5), (⟨"TaskComputer$Kernel", "answer", "(LTaskComputer$Task;I)V"⟩, 6), (⟨"TaskComputer$Kernel", "fork", "(LTaskComputer$Task;II)V"⟩, 6), (⟨"TaskComputer$Kernel", "leastFree", "()LTaskComputer$Task;"⟩, 6), (⟨"TaskComputer$Kernel", "fail", "(LTaskComputer$Task;I)V"⟩, 6), (⟨"TaskComputer$Kernel", "succeed", "(LTaskComputer$Task;I)V"⟩, 6), (⟨"TaskComputer$Kernel", "putToSleep", "(LTaskComputer$Task;I)V"⟩, 6)]
theorem lw_r2 : ∀ q ∈ lw_privs_2, lw_okq q := List.forall_mem_cons.mpr ⟨lw_p16, List.forall_mem_cons.mpr ⟨lw_p17, List.forall_mem_cons.mpr ⟨lw_p18, List.forall_mem_cons.mpr ⟨lw_p19, List.forall_mem_cons.mpr ⟨lw_p20, List.forall_mem_cons.mpr ⟨lw_p21, List.forall_mem_cons.mpr ⟨lw_p22, List.forall_mem_cons.mpr ⟨lw_p23, List.forall_mem_cons.mpr ⟨lw_p24, List.forall_mem_cons.mpr ⟨lw_p25, List.forall_mem_cons.mpr ⟨lw_p26, List.forall_mem_cons.mpr ⟨lw_p27, List.forall_mem_cons.mpr ⟨lw_p28, List.forall_mem_cons.mpr ⟨lw_p29, List.forall_mem_cons.mpr ⟨lw_p30, List.forall_mem_cons.mpr ⟨lw_p31, fun _ h => absurd h List.not_mem_nil⟩⟩⟩⟩⟩⟩⟩⟩⟩⟩⟩⟩⟩⟩⟩⟩
theorem lw_p32 : lw_okq (⟨"TaskComputerModel", "flag", "(I)Z"⟩, 17) := ⟨⟨by decide +kernel, by decide +kernel⟩, List.mem_of_getElem? (i := 617) (by decide +kernel), List.mem_of_getElem? (i := 679) (by decide +kernel), List.mem_of_getElem? (i := 680) (by decide +kernel)⟩
theorem lw_p33 : lw_okq (⟨"TaskComputerModel", "serve", "()V"⟩, 17) := ⟨⟨by decide +kernel, by decide +kernel⟩, List.mem_of_getElem? (i := 617) (by decide +kernel), List.mem_of_getElem? (i := 683) (by decide +kernel), List.mem_of_getElem? (i := 684) (by decide +kernel)⟩
theorem lw_p34 : lw_okq (⟨"TaskComputerModel", "comeLast", "(I)V"⟩, 17) := ⟨⟨by decide +kernel, by decide +kernel⟩, List.mem_of_getElem? (i := 617) (by decide +kernel), List.mem_of_getElem? (i := 687) (by decide +kernel), List.mem_of_getElem? (i := 688) (by decide +kernel)⟩
theorem lw_p35 : lw_okq (⟨"TaskComputerModel", "stack", "()V"⟩, 17) := ⟨⟨by decide +kernel, by decide +kernel⟩, List.mem_of_getElem? (i := 617) (by decide +kernel), List.mem_of_getElem? (i := 691) (by decide +kernel), List.mem_of_getElem? (i := 692) (by decide +kernel)⟩
theorem lw_p36 : lw_okq (⟨"TaskComputerModel", "mark", "(IZ)V"⟩, 17) := ⟨⟨by decide +kernel, by decide +kernel⟩, List.mem_of_getElem? (i := 617) (by decide +kernel), List.mem_of_getElem? (i := 695) (by decide +kernel), List.mem_of_getElem? (i := 696) (by decide +kernel)⟩
theorem lw_p37 : lw_okq (⟨"TaskComputerModel", "push", "(II)V"⟩, 17) := ⟨⟨by decide +kernel, by decide +kernel⟩, List.mem_of_getElem? (i := 617) (by decide +kernel), List.mem_of_getElem? (i := 702) (by decide +kernel), List.mem_of_getElem? (i := 703) (by decide +kernel)⟩
theorem lw_p38 : lw_okq (⟨"TaskComputerModel", "set", "(II)V"⟩, 17) := ⟨⟨by decide +kernel, by decide +kernel⟩, List.mem_of_getElem? (i := 617) (by decide +kernel), List.mem_of_getElem? (i := 706) (by decide +kernel), List.mem_of_getElem? (i := 707) (by decide +kernel)⟩
theorem lw_p39 : lw_okq (⟨"TaskComputerModel", "store", "(IIZ)V"⟩, 17) := ⟨⟨by decide +kernel, by decide +kernel⟩, List.mem_of_getElem? (i := 617) (by decide +kernel), List.mem_of_getElem? (i := 711) (by decide +kernel), List.mem_of_getElem? (i := 712) (by decide +kernel)⟩
theorem lw_p40 : lw_okq (⟨"TaskComputerModel", "put", "(II)V"⟩, 17) := ⟨⟨by decide +kernel, by decide +kernel⟩, List.mem_of_getElem? (i := 617) (by decide +kernel), List.mem_of_getElem? (i := 715) (by decide +kernel), List.mem_of_getElem? (i := 716) (by decide +kernel)⟩
theorem lw_p41 : lw_okq (⟨"TaskComputerModel", "next", "()V"⟩, 17) := ⟨⟨by decide +kernel, by decide +kernel⟩, List.mem_of_getElem? (i := 617) (by decide +kernel), List.mem_of_getElem? (i := 719) (by decide +kernel), List.mem_of_getElem? (i := 720) (by decide +kernel)⟩
theorem lw_p42 : lw_okq (⟨"TaskComputerModel", "leave", "(I)V"⟩, 17) := ⟨⟨by decide +kernel, by decide +kernel⟩, List.mem_of_getElem? (i := 617) (by decide +kernel), List.mem_of_getElem? (i := 723) (by decide +kernel), List.mem_of_getElem? (i := 724) (by decide +kernel)⟩
theorem lw_p43 : lw_okq (⟨"TaskComputerModel", "take", "(I)V"⟩, 17) := ⟨⟨by decide +kernel, by decide +kernel⟩, List.mem_of_getElem? (i := 617) (by decide +kernel), List.mem_of_getElem? (i := 727) (by decide +kernel), List.mem_of_getElem? (i := 728) (by decide +kernel)⟩
theorem lw_p44 : lw_okq (⟨"TaskComputerModel", "pull", "(II)V"⟩, 17) := ⟨⟨by decide +kernel, by decide +kernel⟩, List.mem_of_getElem? (i := 617) (by decide +kernel), List.mem_of_getElem? (i := 731) (by decide +kernel), List.mem_of_getElem? (i := 732) (by decide +kernel)⟩
theorem lw_p45 : lw_okq (⟨"TaskComputerModel", "load", "(IZ)I"⟩, 17) := ⟨⟨by decide +kernel, by decide +kernel⟩, List.mem_of_getElem? (i := 617) (by decide +kernel), List.mem_of_getElem? (i := 735) (by decide +kernel), List.mem_of_getElem? (i := 736) (by decide +kernel)⟩
theorem lw_p46 : lw_okq (⟨"TaskComputerModel", "at", "(I)I"⟩, 17) := ⟨⟨by decide +kernel, by decide +kernel⟩, List.mem_of_getElem? (i := 617) (by decide +kernel), List.mem_of_getElem? (i := 739) (by decide +kernel), List.mem_of_getElem? (i := 740) (by decide +kernel)⟩
theorem lw_p47 : lw_okq (⟨"TaskComputerModel", "instruction", "()V"⟩, 17) := ⟨⟨by decide +kernel, by decide +kernel⟩, List.mem_of_getElem? (i := 617) (by decide +kernel), List.mem_of_getElem? (i := 743) (by decide +kernel), List.mem_of_getElem? (i := 744) (by decide +kernel)⟩
def lw_privs_3 : List (MethodName × Nat) := [(⟨"TaskComputerModel", "flag", "(I)Z"⟩, 17), (⟨"TaskComputerModel", "serve", "()V"⟩, 17), (⟨"TaskComputerModel", "comeLast", "(I)V"⟩, 17), (⟨"TaskComputerModel", "stack", "()V"⟩, 17), (⟨"TaskComputerModel", "mark", "(IZ)V"⟩, 17), (⟨"TaskComputerModel", "push", "(II)V"⟩, 17), (⟨"TaskComputerModel", "set", "(II)V"⟩, 17), (⟨"TaskComputerModel", "store", "(IIZ)V"⟩, 17), (⟨"TaskComputerModel", "put", "(II)V"⟩, 17), (⟨"TaskComputerModel", "next", "()V"⟩, 17), (⟨"TaskComputerModel", "leave", "(I)V"⟩, 17), (⟨"TaskComputerModel", "take", "(I)V"⟩, 17), (⟨"TaskComputerModel", "pull", "(II)V"⟩, 17), (⟨"TaskComputerModel", "load", "(IZ)I"⟩, 17), (⟨"TaskComputerModel", "at", "(I)I"⟩, 17), (⟨"TaskComputerModel", "instruction", "()V"⟩, 17)]
theorem lw_r3 : ∀ q ∈ lw_privs_3, lw_okq q := List.forall_mem_cons.mpr ⟨lw_p32, List.forall_mem_cons.mpr ⟨lw_p33, List.forall_mem_cons.mpr ⟨lw_p34, List.forall_mem_cons.mpr ⟨lw_p35, List.forall_mem_cons.mpr ⟨lw_p36, List.forall_mem_cons.mpr ⟨lw_p37, List.forall_mem_cons.mpr ⟨lw_p38, List.forall_mem_cons.mpr ⟨lw_p39, List.forall_mem_cons.mpr ⟨lw_p40, List.forall_mem_cons.mpr ⟨lw_p41, List.forall_mem_cons.mpr ⟨lw_p42, List.forall_mem_cons.mpr ⟨lw_p43, List.forall_mem_cons.mpr ⟨lw_p44, List.forall_mem_cons.mpr ⟨lw_p45, List.forall_mem_cons.mpr ⟨lw_p46, List.forall_mem_cons.mpr ⟨lw_p47, fun _ h => absurd h List.not_mem_nil⟩⟩⟩⟩⟩⟩⟩⟩⟩⟩⟩⟩⟩⟩⟩⟩
theorem lw_p48 : lw_okq (⟨"TaskComputerModel", "fetch", "()I"⟩, 17) := ⟨⟨by decide +kernel, by decide +kernel⟩, List.mem_of_getElem? (i := 617) (by decide +kernel), List.mem_of_getElem? (i := 747) (by decide +kernel), List.mem_of_getElem? (i := 748) (by decide +kernel)⟩
theorem lw_p49 : lw_okq (⟨"TaskComputerModel", "upper", "(I)V"⟩, 17) := ⟨⟨by decide +kernel, by decide +kernel⟩, List.mem_of_getElem? (i := 617) (by decide +kernel), List.mem_of_getElem? (i := 751) (by decide +kernel), List.mem_of_getElem? (i := 752) (by decide +kernel)⟩
theorem lw_p50 : lw_okq (⟨"TaskComputerModel", "operand", "(IZ)I"⟩, 17) := ⟨⟨by decide +kernel, by decide +kernel⟩, List.mem_of_getElem? (i := 617) (by decide +kernel), List.mem_of_getElem? (i := 755) (by decide +kernel), List.mem_of_getElem? (i := 756) (by decide +kernel)⟩
theorem lw_p51 : lw_okq (⟨"TaskComputerModel", "fetchWord", "()I"⟩, 17) := ⟨⟨by decide +kernel, by decide +kernel⟩, List.mem_of_getElem? (i := 617) (by decide +kernel), List.mem_of_getElem? (i := 759) (by decide +kernel), List.mem_of_getElem? (i := 760) (by decide +kernel)⟩
theorem lw_p52 : lw_okq (⟨"TaskComputerModel", "address", "(I)I"⟩, 17) := ⟨⟨by decide +kernel, by decide +kernel⟩, List.mem_of_getElem? (i := 617) (by decide +kernel), List.mem_of_getElem? (i := 763) (by decide +kernel), List.mem_of_getElem? (i := 764) (by decide +kernel)⟩
theorem lw_p53 : lw_okq (⟨"TaskComputerModel", "stepping", "(II)I"⟩, 17) := ⟨⟨by decide +kernel, by decide +kernel⟩, List.mem_of_getElem? (i := 617) (by decide +kernel), List.mem_of_getElem? (i := 767) (by decide +kernel), List.mem_of_getElem? (i := 768) (by decide +kernel)⟩
theorem lw_p54 : lw_okq (⟨"TaskComputerModel", "offset", "(II)I"⟩, 17) := ⟨⟨by decide +kernel, by decide +kernel⟩, List.mem_of_getElem? (i := 617) (by decide +kernel), List.mem_of_getElem? (i := 771) (by decide +kernel), List.mem_of_getElem? (i := 772) (by decide +kernel)⟩
theorem lw_p55 : lw_okq (⟨"TaskComputerModel", "get", "(I)I"⟩, 17) := ⟨⟨by decide +kernel, by decide +kernel⟩, List.mem_of_getElem? (i := 617) (by decide +kernel), List.mem_of_getElem? (i := 778) (by decide +kernel), List.mem_of_getElem? (i := 779) (by decide +kernel)⟩
theorem lw_p56 : lw_okq (⟨"TaskComputerModel", "difference", "(IIII)I"⟩, 17) := ⟨⟨by decide +kernel, by decide +kernel⟩, List.mem_of_getElem? (i := 617) (by decide +kernel), List.mem_of_getElem? (i := 782) (by decide +kernel), List.mem_of_getElem? (i := 783) (by decide +kernel)⟩
theorem lw_p57 : lw_okq (⟨"TaskComputerModel", "sign", "(II)V"⟩, 17) := ⟨⟨by decide +kernel, by decide +kernel⟩, List.mem_of_getElem? (i := 617) (by decide +kernel), List.mem_of_getElem? (i := 789) (by decide +kernel), List.mem_of_getElem? (i := 790) (by decide +kernel)⟩
theorem lw_p58 : lw_okq (⟨"TaskComputerModel", "sum", "(IIII)I"⟩, 17) := ⟨⟨by decide +kernel, by decide +kernel⟩, List.mem_of_getElem? (i := 617) (by decide +kernel), List.mem_of_getElem? (i := 793) (by decide +kernel), List.mem_of_getElem? (i := 794) (by decide +kernel)⟩
theorem lw_p59 : lw_okq (⟨"TaskComputerModel", "save", "(II)V"⟩, 17) := ⟨⟨by decide +kernel, by decide +kernel⟩, List.mem_of_getElem? (i := 617) (by decide +kernel), List.mem_of_getElem? (i := 797) (by decide +kernel), List.mem_of_getElem? (i := 798) (by decide +kernel)⟩
theorem lw_p60 : lw_okq (⟨"TaskComputerModel", "plain", "(II)I"⟩, 17) := ⟨⟨by decide +kernel, by decide +kernel⟩, List.mem_of_getElem? (i := 617) (by decide +kernel), List.mem_of_getElem? (i := 801) (by decide +kernel), List.mem_of_getElem? (i := 802) (by decide +kernel)⟩
theorem lw_p61 : lw_okq (⟨"TaskComputerModel", "wordOp", "(IIZ)V"⟩, 17) := ⟨⟨by decide +kernel, by decide +kernel⟩, List.mem_of_getElem? (i := 617) (by decide +kernel), List.mem_of_getElem? (i := 805) (by decide +kernel), List.mem_of_getElem? (i := 806) (by decide +kernel)⟩
theorem lw_p62 : lw_okq (⟨"TaskComputerModel", "call", "(I)V"⟩, 17) := ⟨⟨by decide +kernel, by decide +kernel⟩, List.mem_of_getElem? (i := 617) (by decide +kernel), List.mem_of_getElem? (i := 809) (by decide +kernel), List.mem_of_getElem? (i := 810) (by decide +kernel)⟩
theorem lw_p63 : lw_okq (⟨"TaskComputerModel", "byteOp", "(II)V"⟩, 17) := ⟨⟨by decide +kernel, by decide +kernel⟩, List.mem_of_getElem? (i := 617) (by decide +kernel), List.mem_of_getElem? (i := 813) (by decide +kernel), List.mem_of_getElem? (i := 814) (by decide +kernel)⟩
def lw_privs_4 : List (MethodName × Nat) := [(⟨"TaskComputerModel", "fetch", "()I"⟩, 17), (⟨"TaskComputerModel", "upper", "(I)V"⟩, 17), (⟨"TaskComputerModel", "operand", "(IZ)I"⟩, 17), (⟨"TaskComputerModel", "fetchWord", "()I"⟩, 17), (⟨"TaskComputerModel", "address", "(I)I"⟩, 17), (⟨"TaskComputerModel", "stepping", "(II)I"⟩, 17), (⟨"TaskComputerModel", "offset", "(II)I"⟩, 17), (⟨"TaskComputerModel", "get", "(I)I"⟩, 17), (⟨"TaskComputerModel", "difference", "(IIII)I"⟩, 17), (⟨"TaskComputerModel", "sign", "(II)V"⟩, 17), (⟨"TaskComputerModel", "sum", "(IIII)I"⟩, 17), (⟨"TaskComputerModel", "save", "(II)V"⟩, 17), (⟨"TaskComputerModel", "plain", "(II)I"⟩, 17), (⟨"TaskComputerModel", "wordOp", "(IIZ)V"⟩, 17), (⟨"TaskComputerModel", "call", "(I)V"⟩, 17), (⟨"TaskComputerModel", "byteOp", "(II)V"⟩, 17)]
theorem lw_r4 : ∀ q ∈ lw_privs_4, lw_okq q := List.forall_mem_cons.mpr ⟨lw_p48, List.forall_mem_cons.mpr ⟨lw_p49, List.forall_mem_cons.mpr ⟨lw_p50, List.forall_mem_cons.mpr ⟨lw_p51, List.forall_mem_cons.mpr ⟨lw_p52, List.forall_mem_cons.mpr ⟨lw_p53, List.forall_mem_cons.mpr ⟨lw_p54, List.forall_mem_cons.mpr ⟨lw_p55, List.forall_mem_cons.mpr ⟨lw_p56, List.forall_mem_cons.mpr ⟨lw_p57, List.forall_mem_cons.mpr ⟨lw_p58, List.forall_mem_cons.mpr ⟨lw_p59, List.forall_mem_cons.mpr ⟨lw_p60, List.forall_mem_cons.mpr ⟨lw_p61, List.forall_mem_cons.mpr ⟨lw_p62, List.forall_mem_cons.mpr ⟨lw_p63, fun _ h => absurd h List.not_mem_nil⟩⟩⟩⟩⟩⟩⟩⟩⟩⟩⟩⟩⟩⟩⟩⟩
theorem lw_p64 : lw_okq (⟨"TaskComputerModel", "second", "()V"⟩, 17) := ⟨⟨by decide +kernel, by decide +kernel⟩, List.mem_of_getElem? (i := 617) (by decide +kernel), List.mem_of_getElem? (i := 817) (by decide +kernel), List.mem_of_getElem? (i := 818) (by decide +kernel)⟩
theorem lw_p65 : lw_okq (⟨"TaskComputerModel", "branch", "(I)V"⟩, 17) := ⟨⟨by decide +kernel, by decide +kernel⟩, List.mem_of_getElem? (i := 617) (by decide +kernel), List.mem_of_getElem? (i := 821) (by decide +kernel), List.mem_of_getElem? (i := 822) (by decide +kernel)⟩
theorem lw_p66 : lw_okq (⟨"TaskComputerModel", "holds", "(I)Z"⟩, 17) := ⟨⟨by decide +kernel, by decide +kernel⟩, List.mem_of_getElem? (i := 617) (by decide +kernel), List.mem_of_getElem? (i := 825) (by decide +kernel), List.mem_of_getElem? (i := 826) (by decide +kernel)⟩
theorem lw_p67 : lw_okq (⟨"TaskComputerModel", "single", "(I)V"⟩, 17) := ⟨⟨by decide +kernel, by decide +kernel⟩, List.mem_of_getElem? (i := 617) (by decide +kernel), List.mem_of_getElem? (i := 829) (by decide +kernel), List.mem_of_getElem? (i := 830) (by decide +kernel)⟩
theorem lw_p68 : lw_okq (⟨"TaskComputerModel", "trade", "(I)V"⟩, 17) := ⟨⟨by decide +kernel, by decide +kernel⟩, List.mem_of_getElem? (i := 617) (by decide +kernel), List.mem_of_getElem? (i := 833) (by decide +kernel), List.mem_of_getElem? (i := 834) (by decide +kernel)⟩
theorem lw_p69 : lw_okq (⟨"TaskComputerModel", "many", "(I)V"⟩, 17) := ⟨⟨by decide +kernel, by decide +kernel⟩, List.mem_of_getElem? (i := 617) (by decide +kernel), List.mem_of_getElem? (i := 837) (by decide +kernel), List.mem_of_getElem? (i := 838) (by decide +kernel)⟩
theorem lw_p70 : lw_okq (⟨"TaskComputerModel", "kernel", "()V"⟩, 17) := ⟨⟨by decide +kernel, by decide +kernel⟩, List.mem_of_getElem? (i := 617) (by decide +kernel), List.mem_of_getElem? (i := 844) (by decide +kernel), List.mem_of_getElem? (i := 845) (by decide +kernel)⟩
theorem lw_p71 : lw_okq (⟨"TaskComputerModel", "end", "(II)V"⟩, 17) := ⟨⟨by decide +kernel, by decide +kernel⟩, List.mem_of_getElem? (i := 617) (by decide +kernel), List.mem_of_getElem? (i := 848) (by decide +kernel), List.mem_of_getElem? (i := 849) (by decide +kernel)⟩
theorem lw_p72 : lw_okq (⟨"TaskComputerModel", "answer", "(IIIZ)V"⟩, 17) := ⟨⟨by decide +kernel, by decide +kernel⟩, List.mem_of_getElem? (i := 617) (by decide +kernel), List.mem_of_getElem? (i := 852) (by decide +kernel), List.mem_of_getElem? (i := 853) (by decide +kernel)⟩
theorem lw_p73 : lw_okq (⟨"TaskComputerModel", "begin", "(III)V"⟩, 17) := ⟨⟨by decide +kernel, by decide +kernel⟩, List.mem_of_getElem? (i := 617) (by decide +kernel), List.mem_of_getElem? (i := 856) (by decide +kernel), List.mem_of_getElem? (i := 857) (by decide +kernel)⟩
theorem lw_p74 : lw_okq (⟨"TaskComputerModel", "lower", "(I)V"⟩, 17) := ⟨⟨by decide +kernel, by decide +kernel⟩, List.mem_of_getElem? (i := 617) (by decide +kernel), List.mem_of_getElem? (i := 860) (by decide +kernel), List.mem_of_getElem? (i := 861) (by decide +kernel)⟩
theorem lw_p75 : lw_okq (⟨"TaskComputerModel", "changed", "(II)I"⟩, 17) := ⟨⟨by decide +kernel, by decide +kernel⟩, List.mem_of_getElem? (i := 617) (by decide +kernel), List.mem_of_getElem? (i := 864) (by decide +kernel), List.mem_of_getElem? (i := 865) (by decide +kernel)⟩
theorem lw_p76 : lw_okq (⟨"TaskComputerModel", "pass", "(I)V"⟩, 17) := ⟨⟨by decide +kernel, by decide +kernel⟩, List.mem_of_getElem? (i := 617) (by decide +kernel), List.mem_of_getElem? (i := 868) (by decide +kernel), List.mem_of_getElem? (i := 869) (by decide +kernel)⟩
theorem lw_p77 : lw_okq (⟨"TaskComputerModel", "inFrame", "(II)I"⟩, 17) := ⟨⟨by decide +kernel, by decide +kernel⟩, List.mem_of_getElem? (i := 617) (by decide +kernel), List.mem_of_getElem? (i := 903) (by decide +kernel), List.mem_of_getElem? (i := 904) (by decide +kernel)⟩
def lw_privs_5 : List (MethodName × Nat) := [(⟨"TaskComputerModel", "second", "()V"⟩, 17), (⟨"TaskComputerModel", "branch", "(I)V"⟩, 17), (⟨"TaskComputerModel", "holds", "(I)Z"⟩, 17), (⟨"TaskComputerModel", "single", "(I)V"⟩, 17), (⟨"TaskComputerModel", "trade", "(I)V"⟩, 17), (⟨"TaskComputerModel", "many", "(I)V"⟩, 17), (⟨"TaskComputerModel", "kernel", "()V"⟩, 17), (⟨"TaskComputerModel", "end", "(II)V"⟩, 17), (⟨"TaskComputerModel", "answer", "(IIIZ)V"⟩, 17), (⟨"TaskComputerModel", "begin", "(III)V"⟩, 17), (⟨"TaskComputerModel", "lower", "(I)V"⟩, 17), (⟨"TaskComputerModel", "changed", "(II)I"⟩, 17), (⟨"TaskComputerModel", "pass", "(I)V"⟩, 17), (⟨"TaskComputerModel", "inFrame", "(II)I"⟩, 17)]
theorem lw_r5 : ∀ q ∈ lw_privs_5, lw_okq q := List.forall_mem_cons.mpr ⟨lw_p64, List.forall_mem_cons.mpr ⟨lw_p65, List.forall_mem_cons.mpr ⟨lw_p66, List.forall_mem_cons.mpr ⟨lw_p67, List.forall_mem_cons.mpr ⟨lw_p68, List.forall_mem_cons.mpr ⟨lw_p69, List.forall_mem_cons.mpr ⟨lw_p70, List.forall_mem_cons.mpr ⟨lw_p71, List.forall_mem_cons.mpr ⟨lw_p72, List.forall_mem_cons.mpr ⟨lw_p73, List.forall_mem_cons.mpr ⟨lw_p74, List.forall_mem_cons.mpr ⟨lw_p75, List.forall_mem_cons.mpr ⟨lw_p76, List.forall_mem_cons.mpr ⟨lw_p77, fun _ h => absurd h List.not_mem_nil⟩⟩⟩⟩⟩⟩⟩⟩⟩⟩⟩⟩⟩⟩
def lw_privs : List (MethodName × Nat) := lw_privs_1 ++ (lw_privs_2 ++ (lw_privs_3 ++ (lw_privs_4 ++ (lw_privs_5))))
def lw_tbl : List Cond := k2_sels lw_privs ++ tables_1
theorem lw_privs_ok : ∀ q ∈ lw_privs, lw_okq q := by
  show ∀ q ∈ lw_privs_1 ++ (lw_privs_2 ++ (lw_privs_3 ++ (lw_privs_4 ++ (lw_privs_5)))), lw_okq q
  exact List.forall_mem_append.mpr ⟨lw_r1, List.forall_mem_append.mpr ⟨lw_r2, List.forall_mem_append.mpr ⟨lw_r3, List.forall_mem_append.mpr ⟨lw_r4, lw_r5⟩⟩⟩⟩
end
section
def rn_C : String := "TaskComputer$Calculator"
def fn_C : u_T := fun k => match k with
  | _ => ("TaskComputer$Calculator", "registers", "LTaskComputer$Registers;", true)
def ft_C : Nat → FieldType := fun k => match k with
  | _ => .object "TaskComputer$Registers"
theorem fd_C : ∀ a, a < 1 → ∀ b, b < 1 → a ≠ b → (fn_C a).2.1 ≠ (fn_C b).2.1 := by decide +kernel
theorem fk_C : ∀ k, k < 1 → parseFieldDescriptor (fn_C k).2.2.1 = some (ft_C k) := by decide +kernel
def rn_K : String := "TaskComputer$Kernel"
def fn_K : u_T := fun k => match k with
  | 0 => ("TaskComputer$Kernel", "queue", "LTaskComputer$Queue;", true)
  | 1 => ("TaskComputer$Kernel", "running", "LTaskComputer$Task;", false)
  | 2 => ("TaskComputer$Kernel", "memory", "LTaskComputer$Memory;", true)
  | 3 => ("TaskComputer$Kernel", "registers", "LTaskComputer$Registers;", true)
  | 4 => ("TaskComputer$Kernel", "spare", "LTaskComputer$Registers;", true)
  | _ => ("TaskComputer$Kernel", "tasks", "[LTaskComputer$Task;", true)
def ft_K : Nat → FieldType := fun k => match k with
  | 0 => .object "TaskComputer$Queue"
  | 1 => .object "TaskComputer$Task"
  | 2 => .object "TaskComputer$Memory"
  | 3 => .object "TaskComputer$Registers"
  | 4 => .object "TaskComputer$Registers"
  | _ => .array (.object "TaskComputer$Task")
theorem fd_K : ∀ a, a < 6 → ∀ b, b < 6 → a ≠ b → (fn_K a).2.1 ≠ (fn_K b).2.1 := by decide +kernel
theorem fk_K : ∀ k, k < 6 → parseFieldDescriptor (fn_K k).2.2.1 = some (ft_K k) := by decide +kernel
def rn_Y : String := "TaskComputer$Memory"
def fn_Y : u_T := fun k => match k with
  | _ => ("TaskComputer$Memory", "bytes", "[I", true)
def ft_Y : Nat → FieldType := fun k => match k with
  | _ => .array .int
theorem fd_Y : ∀ a, a < 1 → ∀ b, b < 1 → a ≠ b → (fn_Y a).2.1 ≠ (fn_Y b).2.1 := by decide +kernel
theorem fk_Y : ∀ k, k < 1 → parseFieldDescriptor (fn_Y k).2.2.1 = some (ft_Y k) := by decide +kernel
def rn_P : String := "TaskComputer$Processor"
def fn_P : u_T := fun k => match k with
  | 0 => ("TaskComputer$Processor", "cycles", "I", false)
  | 1 => ("TaskComputer$Processor", "memory", "LTaskComputer$Memory;", true)
  | 2 => ("TaskComputer$Processor", "registers", "LTaskComputer$Registers;", true)
  | 3 => ("TaskComputer$Processor", "calculator", "LTaskComputer$Calculator;", true)
  | _ => ("TaskComputer$Processor", "outcome", "I", false)
def ft_P : Nat → FieldType := fun k => match k with
  | 0 => .int
  | 1 => .object "TaskComputer$Memory"
  | 2 => .object "TaskComputer$Registers"
  | 3 => .object "TaskComputer$Calculator"
  | _ => .int
theorem fd_P : ∀ a, a < 5 → ∀ b, b < 5 → a ≠ b → (fn_P a).2.1 ≠ (fn_P b).2.1 := by decide +kernel
theorem fk_P : ∀ k, k < 5 → parseFieldDescriptor (fn_P k).2.2.1 = some (ft_P k) := by decide +kernel
def rn_Q : String := "TaskComputer$Queue"
def fn_Q : u_T := fun k => match k with
  | 0 => ("TaskComputer$Queue", "places", "[LTaskComputer$Task;", true)
  | _ => ("TaskComputer$Queue", "size", "I", false)
def ft_Q : Nat → FieldType := fun k => match k with
  | 0 => .array (.object "TaskComputer$Task")
  | _ => .int
theorem fd_Q : ∀ a, a < 2 → ∀ b, b < 2 → a ≠ b → (fn_Q a).2.1 ≠ (fn_Q b).2.1 := by decide +kernel
theorem fk_Q : ∀ k, k < 2 → parseFieldDescriptor (fn_Q k).2.2.1 = some (ft_Q k) := by decide +kernel
def rn_G : String := "TaskComputer$Registers"
def fn_G : u_T := fun k => match k with
  | 0 => ("TaskComputer$Registers", "a", "I", false)
  | 1 => ("TaskComputer$Registers", "b", "I", false)
  | 2 => ("TaskComputer$Registers", "dp", "I", false)
  | 3 => ("TaskComputer$Registers", "cc", "I", false)
  | 4 => ("TaskComputer$Registers", "x", "I", false)
  | 5 => ("TaskComputer$Registers", "y", "I", false)
  | 6 => ("TaskComputer$Registers", "u", "I", false)
  | 7 => ("TaskComputer$Registers", "s", "I", false)
  | _ => ("TaskComputer$Registers", "pc", "I", false)
def ft_G : Nat → FieldType := fun k => match k with
  | 0 => .int
  | 1 => .int
  | 2 => .int
  | 3 => .int
  | 4 => .int
  | 5 => .int
  | 6 => .int
  | 7 => .int
  | _ => .int
theorem fd_G : ∀ a, a < 9 → ∀ b, b < 9 → a ≠ b → (fn_G a).2.1 ≠ (fn_G b).2.1 := by decide +kernel
theorem fk_G : ∀ k, k < 9 → parseFieldDescriptor (fn_G k).2.2.1 = some (ft_G k) := by decide +kernel
def rn_A : String := "TaskComputer$Task"
def fn_A : u_T := fun k => match k with
  | 0 => ("TaskComputer$Task", "number", "I", true)
  | 1 => ("TaskComputer$Task", "state", "I", false)
  | 2 => ("TaskComputer$Task", "s", "I", false)
  | 3 => ("TaskComputer$Task", "sleep", "I", false)
  | _ => ("TaskComputer$Task", "status", "I", false)
def ft_A : Nat → FieldType := fun k => match k with
  | 0 => .int
  | 1 => .int
  | 2 => .int
  | 3 => .int
  | _ => .int
theorem fd_A : ∀ a, a < 5 → ∀ b, b < 5 → a ≠ b → (fn_A a).2.1 ≠ (fn_A b).2.1 := by decide +kernel
theorem fk_A : ∀ k, k < 5 → parseFieldDescriptor (fn_A k).2.2.1 = some (ft_A k) := by decide +kernel
def rn_I : String := "TaskComputer$Timer"
def fn_I : u_T := fun k => match k with
  | 0 => ("TaskComputer$Timer", "period", "I", false)
  | 1 => ("TaskComputer$Timer", "left", "I", false)
  | 2 => ("TaskComputer$Timer", "passed", "I", false)
  | 3 => ("TaskComputer$Timer", "served", "I", false)
  | 4 => ("TaskComputer$Timer", "missed", "I", false)
  | _ => ("TaskComputer$Timer", "pending", "Z", false)
def ft_I : Nat → FieldType := fun k => match k with
  | 0 => .int
  | 1 => .int
  | 2 => .int
  | 3 => .int
  | 4 => .int
  | _ => .boolean
theorem fd_I : ∀ a, a < 6 → ∀ b, b < 6 → a ≠ b → (fn_I a).2.1 ≠ (fn_I b).2.1 := by decide +kernel
theorem fk_I : ∀ k, k < 6 → parseFieldDescriptor (fn_I k).2.2.1 = some (ft_I k) := by decide +kernel
def rn_T : String := "TaskComputer"
def fn_T : u_T := fun k => match k with
  | 0 => ("TaskComputer", "memory", "LTaskComputer$Memory;", true)
  | 1 => ("TaskComputer", "processor", "LTaskComputer$Processor;", true)
  | 2 => ("TaskComputer", "kernel", "LTaskComputer$Kernel;", true)
  | _ => ("TaskComputer", "timer", "LTaskComputer$Timer;", true)
def ft_T : Nat → FieldType := fun k => match k with
  | 0 => .object "TaskComputer$Memory"
  | 1 => .object "TaskComputer$Processor"
  | 2 => .object "TaskComputer$Kernel"
  | _ => .object "TaskComputer$Timer"
theorem fd_T : ∀ a, a < 4 → ∀ b, b < 4 → a ≠ b → (fn_T a).2.1 ≠ (fn_T b).2.1 := by decide +kernel
theorem fk_T : ∀ k, k < 4 → parseFieldDescriptor (fn_T k).2.2.1 = some (ft_T k) := by decide +kernel
def rn_M : String := "TaskComputerModel"
def fn_M : u_T := fun k => match k with
  | 0 => ("TaskComputerModel", "memory", "[I", false)
  | 1 => ("TaskComputerModel", "reg", "[I", false)
  | 2 => ("TaskComputerModel", "stateOf", "[I", false)
  | 3 => ("TaskComputerModel", "savedS", "[I", false)
  | 4 => ("TaskComputerModel", "toSleep", "[I", false)
  | 5 => ("TaskComputerModel", "statusOf", "[I", false)
  | 6 => ("TaskComputerModel", "queue", "[I", false)
  | 7 => ("TaskComputerModel", "waits", "I", false)
  | 8 => ("TaskComputerModel", "running", "I", false)
  | 9 => ("TaskComputerModel", "period", "I", false)
  | 10 => ("TaskComputerModel", "rest", "I", false)
  | 11 => ("TaskComputerModel", "pending", "Z", false)
  | 12 => ("TaskComputerModel", "lostTicks", "I", false)
  | 13 => ("TaskComputerModel", "served", "I", false)
  | 14 => ("TaskComputerModel", "passed", "I", false)
  | 15 => ("TaskComputerModel", "spent", "I", false)
  | _ => ("TaskComputerModel", "invalid", "Z", false)
def ft_M : Nat → FieldType := fun k => match k with
  | 0 => .array .int
  | 1 => .array .int
  | 2 => .array .int
  | 3 => .array .int
  | 4 => .array .int
  | 5 => .array .int
  | 6 => .array .int
  | 7 => .int
  | 8 => .int
  | 9 => .int
  | 10 => .int
  | 11 => .boolean
  | 12 => .int
  | 13 => .int
  | 14 => .int
  | 15 => .int
  | _ => .boolean
theorem fd_M : ∀ a, a < 17 → ∀ b, b < 17 → a ≠ b → (fn_M a).2.1 ≠ (fn_M b).2.1 := by decide +kernel
theorem fk_M : ∀ k, k < 17 → parseFieldDescriptor (fn_M k).2.2.1 = some (ft_M k) := by decide +kernel
def rn_L : String := "TaskComputerLaw"
abbrev mb_C_init : ByteArray := prog_2_method_1_code
def my_C_init : MethodName := ⟨rn_C, "<init>", "(LTaskComputer$Registers;)V"⟩
abbrev mb_C_signed : ByteArray := prog_2_method_2_code
def my_C_signed : MethodName := ⟨rn_C, "signed", "(II)I"⟩
abbrev mb_C_carry : ByteArray := prog_2_method_3_code
def my_C_carry : MethodName := ⟨rn_C, "carry", "()I"⟩
abbrev mb_C_sum : ByteArray := prog_2_method_4_code
def my_C_sum : MethodName := ⟨rn_C, "sum", "(IIII)I"⟩
abbrev mb_C_difference : ByteArray := prog_2_method_5_code
def my_C_difference : MethodName := ⟨rn_C, "difference", "(IIII)I"⟩
abbrev mb_C_plain : ByteArray := prog_2_method_6_code
def my_C_plain : MethodName := ⟨rn_C, "plain", "(II)I"⟩
abbrev mb_C_plainWithCarry : ByteArray := prog_2_method_7_code
def my_C_plainWithCarry : MethodName := ⟨rn_C, "plainWithCarry", "(II)I"⟩
abbrev mb_C_shiftRight : ByteArray := prog_2_method_8_code
def my_C_shiftRight : MethodName := ⟨rn_C, "shiftRight", "(II)I"⟩
abbrev mb_C_shiftLeft : ByteArray := prog_2_method_9_code
def my_C_shiftLeft : MethodName := ⟨rn_C, "shiftLeft", "(II)I"⟩
abbrev mb_C_decrement : ByteArray := prog_2_method_10_code
def my_C_decrement : MethodName := ⟨rn_C, "decrement", "(I)I"⟩
abbrev mb_C_increment : ByteArray := prog_2_method_11_code
def my_C_increment : MethodName := ⟨rn_C, "increment", "(I)I"⟩
abbrev mb_C_extendB : ByteArray := prog_2_method_12_code
def my_C_extendB : MethodName := ⟨rn_C, "extendB", "()V"⟩
abbrev mb_C_multiply : ByteArray := prog_2_method_13_code
def my_C_multiply : MethodName := ⟨rn_C, "multiply", "()V"⟩
abbrev mb_C_maskOf : ByteArray := prog_2_method_14_code
def my_C_maskOf : MethodName := ⟨rn_C, "maskOf", "(I)I"⟩
abbrev mb_C_signOf : ByteArray := prog_2_method_15_code
def my_C_signOf : MethodName := ⟨rn_C, "signOf", "(II)I"⟩
abbrev mb_K_init : ByteArray := prog_3_method_1_code
def my_K_init : MethodName := ⟨rn_K, "<init>", "(LTaskComputer$Memory;LTaskComputer$Registers;)V"⟩
abbrev mb_K_taskAt : ByteArray := prog_3_method_2_code
def my_K_taskAt : MethodName := ⟨rn_K, "taskAt", "(I)LTaskComputer$Task;"⟩
abbrev mb_K_registersOf : ByteArray := prog_3_method_3_code
def my_K_registersOf : MethodName := ⟨rn_K, "registersOf", "(LTaskComputer$Task;)LTaskComputer$Registers;"⟩
abbrev mb_K_begin : ByteArray := prog_3_method_4_code
def my_K_begin : MethodName := ⟨rn_K, "begin", "(LTaskComputer$Task;II)V"⟩
abbrev mb_K_end : ByteArray := prog_3_method_5_code
def my_K_end : MethodName := ⟨rn_K, "end", "(LTaskComputer$Task;I)V"⟩
abbrev mb_K_takeNext : ByteArray := prog_3_method_6_code
def my_K_takeNext : MethodName := ⟨rn_K, "takeNext", "()V"⟩
abbrev mb_K_canServe : ByteArray := prog_3_method_7_code
def my_K_canServe : MethodName := ⟨rn_K, "canServe", "()Z"⟩
abbrev mb_K_serveTick : ByteArray := prog_3_method_8_code
def my_K_serveTick : MethodName := ⟨rn_K, "serveTick", "()V"⟩
abbrev mb_K_settle : ByteArray := prog_3_method_9_code
def my_K_settle : MethodName := ⟨rn_K, "settle", "(I)V"⟩
abbrev mb_K_answer : ByteArray := prog_3_method_10_code
def my_K_answer : MethodName := ⟨rn_K, "answer", "(LTaskComputer$Task;I)V"⟩
abbrev mb_K_fork : ByteArray := prog_3_method_11_code
def my_K_fork : MethodName := ⟨rn_K, "fork", "(LTaskComputer$Task;II)V"⟩
abbrev mb_K_leastFree : ByteArray := prog_3_method_12_code
def my_K_leastFree : MethodName := ⟨rn_K, "leastFree", "()LTaskComputer$Task;"⟩
abbrev mb_K_putToSleep : ByteArray := prog_3_method_13_code
def my_K_putToSleep : MethodName := ⟨rn_K, "putToSleep", "(LTaskComputer$Task;I)V"⟩
abbrev mb_K_succeed : ByteArray := prog_3_method_14_code
def my_K_succeed : MethodName := ⟨rn_K, "succeed", "(LTaskComputer$Task;I)V"⟩
abbrev mb_K_fail : ByteArray := prog_3_method_15_code
def my_K_fail : MethodName := ⟨rn_K, "fail", "(LTaskComputer$Task;I)V"⟩
abbrev mb_K_makeReady : ByteArray := prog_3_method_16_code
def my_K_makeReady : MethodName := ⟨rn_K, "makeReady", "(LTaskComputer$Task;)V"⟩
abbrev mb_K_resume : ByteArray := prog_3_method_17_code
def my_K_resume : MethodName := ⟨rn_K, "resume", "(LTaskComputer$Task;)V"⟩
abbrev mb_K_stack : ByteArray := prog_3_method_18_code
def my_K_stack : MethodName := ⟨rn_K, "stack", "(LTaskComputer$Task;LTaskComputer$Registers;)V"⟩
abbrev mb_K_take : ByteArray := prog_3_method_19_code
def my_K_take : MethodName := ⟨rn_K, "take", "(LTaskComputer$Task;LTaskComputer$Registers;)V"⟩
abbrev mb_Y_init : ByteArray := prog_4_method_1_code
def my_Y_init : MethodName := ⟨rn_Y, "<init>", "()V"⟩
abbrev mb_Y_holds : ByteArray := prog_4_method_2_code
def my_Y_holds : MethodName := ⟨rn_Y, "holds", "(I)Z"⟩
abbrev mb_Y_load : ByteArray := prog_4_method_3_code
def my_Y_load : MethodName := ⟨rn_Y, "load", "(II)I"⟩
abbrev mb_Y_store : ByteArray := prog_4_method_4_code
def my_Y_store : MethodName := ⟨rn_Y, "store", "(III)V"⟩
abbrev mb_Y_copyBlock : ByteArray := prog_4_method_5_code
def my_Y_copyBlock : MethodName := ⟨rn_Y, "copyBlock", "(II)V"⟩
abbrev mb_P_init : ByteArray := prog_5_method_1_code
def my_P_init : MethodName := ⟨rn_P, "<init>", "(LTaskComputer$Memory;LTaskComputer$Registers;)V"⟩
abbrev mb_P_execute : ByteArray := prog_5_method_2_code
def my_P_execute : MethodName := ⟨rn_P, "execute", "()I"⟩
abbrev mb_P_fetch : ByteArray := prog_5_method_3_code
def my_P_fetch : MethodName := ⟨rn_P, "fetch", "(I)I"⟩
abbrev mb_P_skip : ByteArray := prog_5_method_4_code
def my_P_skip : MethodName := ⟨rn_P, "skip", "(I)V"⟩
abbrev mb_P_load : ByteArray := prog_5_method_5_code
def my_P_load : MethodName := ⟨rn_P, "load", "(II)I"⟩
abbrev mb_P_store : ByteArray := prog_5_method_6_code
def my_P_store : MethodName := ⟨rn_P, "store", "(III)V"⟩
abbrev mb_P_push : ByteArray := prog_5_method_7_code
def my_P_push : MethodName := ⟨rn_P, "push", "(II)V"⟩
abbrev mb_P_pull : ByteArray := prog_5_method_8_code
def my_P_pull : MethodName := ⟨rn_P, "pull", "(II)V"⟩
abbrev mb_P_doMainPage : ByteArray := prog_5_method_9_code
def my_P_doMainPage : MethodName := ⟨rn_P, "doMainPage", "(I)V"⟩
abbrev mb_P_doSecondPage : ByteArray := prog_5_method_10_code
def my_P_doSecondPage : MethodName := ⟨rn_P, "doSecondPage", "(I)V"⟩
abbrev mb_P_operate : ByteArray := prog_5_method_11_code
def my_P_operate : MethodName := ⟨rn_P, "operate", "(III)V"⟩
abbrev mb_P_calculate : ByteArray := prog_5_method_12_code
def my_P_calculate : MethodName := ⟨rn_P, "calculate", "(IIII)I"⟩
abbrev mb_P_operandAddress : ByteArray := prog_5_method_13_code
def my_P_operandAddress : MethodName := ⟨rn_P, "operandAddress", "(II)I"⟩
abbrev mb_P_indexedAddress : ByteArray := prog_5_method_14_code
def my_P_indexedAddress : MethodName := ⟨rn_P, "indexedAddress", "()I"⟩
abbrev mb_P_isIndexedForm : ByteArray := prog_5_method_15_code
def my_P_isIndexedForm : MethodName := ⟨rn_P, "isIndexedForm", "(IZ)Z"⟩
abbrev mb_P_callAt : ByteArray := prog_5_method_16_code
def my_P_callAt : MethodName := ⟨rn_P, "callAt", "(I)V"⟩
abbrev mb_P_changeMemory : ByteArray := prog_5_method_17_code
def my_P_changeMemory : MethodName := ⟨rn_P, "changeMemory", "(II)V"⟩
abbrev mb_P_changeRegister : ByteArray := prog_5_method_18_code
def my_P_changeRegister : MethodName := ⟨rn_P, "changeRegister", "(II)V"⟩
abbrev mb_P_isChange : ByteArray := prog_5_method_19_code
def my_P_isChange : MethodName := ⟨rn_P, "isChange", "(I)Z"⟩
abbrev mb_P_changed : ByteArray := prog_5_method_20_code
def my_P_changed : MethodName := ⟨rn_P, "changed", "(II)I"⟩
abbrev mb_P_branch : ByteArray := prog_5_method_21_code
def my_P_branch : MethodName := ⟨rn_P, "branch", "(I)V"⟩
abbrev mb_P_holds : ByteArray := prog_5_method_22_code
def my_P_holds : MethodName := ⟨rn_P, "holds", "(I)Z"⟩
abbrev mb_P_doGroup1 : ByteArray := prog_5_method_23_code
def my_P_doGroup1 : MethodName := ⟨rn_P, "doGroup1", "(I)V"⟩
abbrev mb_P_moveRegister : ByteArray := prog_5_method_24_code
def my_P_moveRegister : MethodName := ⟨rn_P, "moveRegister", "(Z)V"⟩
abbrev mb_P_doGroup3 : ByteArray := prog_5_method_25_code
def my_P_doGroup3 : MethodName := ⟨rn_P, "doGroup3", "(I)V"⟩
abbrev mb_P_loadAddress : ByteArray := prog_5_method_26_code
def my_P_loadAddress : MethodName := ⟨rn_P, "loadAddress", "(I)V"⟩
abbrev mb_Q_init : ByteArray := prog_6_method_1_code
def my_Q_init : MethodName := ⟨rn_Q, "<init>", "(I)V"⟩
abbrev mb_Q_append : ByteArray := prog_6_method_2_code
def my_Q_append : MethodName := ⟨rn_Q, "append", "(LTaskComputer$Task;)V"⟩
abbrev mb_Q_removeFirst : ByteArray := prog_6_method_3_code
def my_Q_removeFirst : MethodName := ⟨rn_Q, "removeFirst", "()LTaskComputer$Task;"⟩
abbrev mb_Q_remove : ByteArray := prog_6_method_4_code
def my_Q_remove : MethodName := ⟨rn_Q, "remove", "(LTaskComputer$Task;)V"⟩
abbrev mb_Q_numberAt : ByteArray := prog_6_method_5_code
def my_Q_numberAt : MethodName := ⟨rn_Q, "numberAt", "(I)I"⟩
abbrev mb_G_init : ByteArray := prog_7_method_1_code
def my_G_init : MethodName := ⟨rn_G, "<init>", "()V"⟩
abbrev mb_G_exists : ByteArray := prog_7_method_2_code
def my_G_exists : MethodName := ⟨rn_G, "exists", "(I)Z"⟩
abbrev mb_G_sizeOf : ByteArray := prog_7_method_3_code
def my_G_sizeOf : MethodName := ⟨rn_G, "sizeOf", "(I)I"⟩
abbrev mb_G_get : ByteArray := prog_7_method_4_code
def my_G_get : MethodName := ⟨rn_G, "get", "(I)I"⟩
abbrev mb_G_set : ByteArray := prog_7_method_5_code
def my_G_set : MethodName := ⟨rn_G, "set", "(II)V"⟩
abbrev mb_G_has : ByteArray := prog_7_method_6_code
def my_G_has : MethodName := ⟨rn_G, "has", "(I)Z"⟩
abbrev mb_G_setFlags : ByteArray := prog_7_method_7_code
def my_G_setFlags : MethodName := ⟨rn_G, "setFlags", "(II)V"⟩
abbrev mb_G_push : ByteArray := prog_7_method_8_code
def my_G_push : MethodName := ⟨rn_G, "push", "(LTaskComputer$Memory;II)I"⟩
abbrev mb_G_pull : ByteArray := prog_7_method_9_code
def my_G_pull : MethodName := ⟨rn_G, "pull", "(LTaskComputer$Memory;II)I"⟩
abbrev mb_G_pushedAt : ByteArray := prog_7_method_10_code
def my_G_pushedAt : MethodName := ⟨rn_G, "pushedAt", "(II)I"⟩
abbrev mb_A_init : ByteArray := prog_8_method_1_code
def my_A_init : MethodName := ⟨rn_A, "<init>", "(I)V"⟩
abbrev mb_I_init : ByteArray := prog_9_method_1_code
def my_I_init : MethodName := ⟨rn_I, "<init>", "()V"⟩
abbrev mb_I_letPass : ByteArray := prog_9_method_2_code
def my_I_letPass : MethodName := ⟨rn_I, "letPass", "(I)V"⟩
abbrev mb_I_countServed : ByteArray := prog_9_method_3_code
def my_I_countServed : MethodName := ⟨rn_I, "countServed", "()V"⟩
abbrev mb_T_init : ByteArray := prog_1_method_1_code
def my_T_init : MethodName := ⟨rn_T, "<init>", "()V"⟩
abbrev mb_T_poke : ByteArray := prog_1_method_2_code
def my_T_poke : MethodName := ⟨rn_T, "poke", "(II)I"⟩
abbrev mb_T_peek : ByteArray := prog_1_method_3_code
def my_T_peek : MethodName := ⟨rn_T, "peek", "(I)I"⟩
abbrev mb_T_start : ByteArray := prog_1_method_4_code
def my_T_start : MethodName := ⟨rn_T, "start", "(III)Z"⟩
abbrev mb_T_stop : ByteArray := prog_1_method_5_code
def my_T_stop : MethodName := ⟨rn_T, "stop", "(I)Z"⟩
abbrev mb_T_timer : ByteArray := prog_1_method_6_code
def my_T_timer : MethodName := ⟨rn_T, "timer", "(I)Z"⟩
abbrev mb_T_run : ByteArray := prog_1_method_7_code
def my_T_run : MethodName := ⟨rn_T, "run", "(I)I"⟩
abbrev mb_T_state : ByteArray := prog_1_method_8_code
def my_T_state : MethodName := ⟨rn_T, "state", "(I)I"⟩
abbrev mb_T_register : ByteArray := prog_1_method_9_code
def my_T_register : MethodName := ⟨rn_T, "register", "(II)I"⟩
abbrev mb_T_queued : ByteArray := prog_1_method_10_code
def my_T_queued : MethodName := ⟨rn_T, "queued", "(I)I"⟩
abbrev mb_T_sleeps : ByteArray := prog_1_method_11_code
def my_T_sleeps : MethodName := ⟨rn_T, "sleeps", "(I)I"⟩
abbrev mb_T_status : ByteArray := prog_1_method_12_code
def my_T_status : MethodName := ⟨rn_T, "status", "(I)I"⟩
abbrev mb_T_cycles : ByteArray := prog_1_method_13_code
def my_T_cycles : MethodName := ⟨rn_T, "cycles", "()I"⟩
abbrev mb_T_ticks : ByteArray := prog_1_method_14_code
def my_T_ticks : MethodName := ⟨rn_T, "ticks", "()I"⟩
abbrev mb_T_lost : ByteArray := prog_1_method_15_code
def my_T_lost : MethodName := ⟨rn_T, "lost", "()I"⟩
abbrev mb_T_left : ByteArray := prog_1_method_16_code
def my_T_left : MethodName := ⟨rn_T, "left", "()I"⟩
abbrev mb_M_init : ByteArray := prog_11_method_1_code
def my_M_init : MethodName := ⟨rn_M, "<init>", "()V"⟩
abbrev mb_M_signed : ByteArray := prog_11_method_2_code
def my_M_signed : MethodName := ⟨rn_M, "signed", "(I)I"⟩
abbrev mb_M_at : ByteArray := prog_11_method_3_code
def my_M_at : MethodName := ⟨rn_M, "at", "(I)I"⟩
abbrev mb_M_put : ByteArray := prog_11_method_4_code
def my_M_put : MethodName := ⟨rn_M, "put", "(II)V"⟩
abbrev mb_M_get : ByteArray := prog_11_method_5_code
def my_M_get : MethodName := ⟨rn_M, "get", "(I)I"⟩
abbrev mb_M_set : ByteArray := prog_11_method_6_code
def my_M_set : MethodName := ⟨rn_M, "set", "(II)V"⟩
abbrev mb_M_load : ByteArray := prog_11_method_7_code
def my_M_load : MethodName := ⟨rn_M, "load", "(IZ)I"⟩
abbrev mb_M_store : ByteArray := prog_11_method_8_code
def my_M_store : MethodName := ⟨rn_M, "store", "(IIZ)V"⟩
abbrev mb_M_fetch : ByteArray := prog_11_method_9_code
def my_M_fetch : MethodName := ⟨rn_M, "fetch", "()I"⟩
abbrev mb_M_fetchWord : ByteArray := prog_11_method_10_code
def my_M_fetchWord : MethodName := ⟨rn_M, "fetchWord", "()I"⟩
abbrev mb_M_push : ByteArray := prog_11_method_11_code
def my_M_push : MethodName := ⟨rn_M, "push", "(II)V"⟩
abbrev mb_M_pull : ByteArray := prog_11_method_12_code
def my_M_pull : MethodName := ⟨rn_M, "pull", "(II)V"⟩
abbrev mb_M_flag : ByteArray := prog_11_method_13_code
def my_M_flag : MethodName := ⟨rn_M, "flag", "(I)Z"⟩
abbrev mb_M_mark : ByteArray := prog_11_method_14_code
def my_M_mark : MethodName := ⟨rn_M, "mark", "(IZ)V"⟩
abbrev mb_M_sign : ByteArray := prog_11_method_15_code
def my_M_sign : MethodName := ⟨rn_M, "sign", "(II)V"⟩
abbrev mb_M_plain : ByteArray := prog_11_method_16_code
def my_M_plain : MethodName := ⟨rn_M, "plain", "(II)I"⟩
abbrev mb_M_number : ByteArray := prog_11_method_17_code
def my_M_number : MethodName := ⟨rn_M, "number", "(II)I"⟩
abbrev mb_M_sum : ByteArray := prog_11_method_18_code
def my_M_sum : MethodName := ⟨rn_M, "sum", "(IIII)I"⟩
abbrev mb_M_difference : ByteArray := prog_11_method_19_code
def my_M_difference : MethodName := ⟨rn_M, "difference", "(IIII)I"⟩
abbrev mb_M_address : ByteArray := prog_11_method_20_code
def my_M_address : MethodName := ⟨rn_M, "address", "(I)I"⟩
abbrev mb_M_stepping : ByteArray := prog_11_method_21_code
def my_M_stepping : MethodName := ⟨rn_M, "stepping", "(II)I"⟩
abbrev mb_M_offset : ByteArray := prog_11_method_22_code
def my_M_offset : MethodName := ⟨rn_M, "offset", "(II)I"⟩
abbrev mb_M_operand : ByteArray := prog_11_method_23_code
def my_M_operand : MethodName := ⟨rn_M, "operand", "(IZ)I"⟩
abbrev mb_M_save : ByteArray := prog_11_method_24_code
def my_M_save : MethodName := ⟨rn_M, "save", "(II)V"⟩
abbrev mb_M_byteOp : ByteArray := prog_11_method_25_code
def my_M_byteOp : MethodName := ⟨rn_M, "byteOp", "(II)V"⟩
abbrev mb_M_wordOp : ByteArray := prog_11_method_26_code
def my_M_wordOp : MethodName := ⟨rn_M, "wordOp", "(IIZ)V"⟩
abbrev mb_M_call : ByteArray := prog_11_method_27_code
def my_M_call : MethodName := ⟨rn_M, "call", "(I)V"⟩
abbrev mb_M_upper : ByteArray := prog_11_method_28_code
def my_M_upper : MethodName := ⟨rn_M, "upper", "(I)V"⟩
abbrev mb_M_second : ByteArray := prog_11_method_29_code
def my_M_second : MethodName := ⟨rn_M, "second", "()V"⟩
abbrev mb_M_changed : ByteArray := prog_11_method_30_code
def my_M_changed : MethodName := ⟨rn_M, "changed", "(II)I"⟩
abbrev mb_M_lower : ByteArray := prog_11_method_31_code
def my_M_lower : MethodName := ⟨rn_M, "lower", "(I)V"⟩
abbrev mb_M_holds : ByteArray := prog_11_method_32_code
def my_M_holds : MethodName := ⟨rn_M, "holds", "(I)Z"⟩
abbrev mb_M_branch : ByteArray := prog_11_method_33_code
def my_M_branch : MethodName := ⟨rn_M, "branch", "(I)V"⟩
abbrev mb_M_trade : ByteArray := prog_11_method_34_code
def my_M_trade : MethodName := ⟨rn_M, "trade", "(I)V"⟩
abbrev mb_M_listed : ByteArray := prog_11_method_35_code
def my_M_listed : MethodName := ⟨rn_M, "listed", "(II)I"⟩
abbrev mb_M_many : ByteArray := prog_11_method_36_code
def my_M_many : MethodName := ⟨rn_M, "many", "(I)V"⟩
abbrev mb_M_single : ByteArray := prog_11_method_37_code
def my_M_single : MethodName := ⟨rn_M, "single", "(I)V"⟩
abbrev mb_M_instruction : ByteArray := prog_11_method_38_code
def my_M_instruction : MethodName := ⟨rn_M, "instruction", "()V"⟩
abbrev mb_M_framed : ByteArray := prog_11_method_39_code
def my_M_framed : MethodName := ⟨rn_M, "framed", "(I)I"⟩
abbrev mb_M_stack : ByteArray := prog_11_method_40_code
def my_M_stack : MethodName := ⟨rn_M, "stack", "()V"⟩
abbrev mb_M_take : ByteArray := prog_11_method_41_code
def my_M_take : MethodName := ⟨rn_M, "take", "(I)V"⟩
abbrev mb_M_comeLast : ByteArray := prog_11_method_42_code
def my_M_comeLast : MethodName := ⟨rn_M, "comeLast", "(I)V"⟩
abbrev mb_M_next : ByteArray := prog_11_method_43_code
def my_M_next : MethodName := ⟨rn_M, "next", "()V"⟩
abbrev mb_M_leave : ByteArray := prog_11_method_44_code
def my_M_leave : MethodName := ⟨rn_M, "leave", "(I)V"⟩
abbrev mb_M_end : ByteArray := prog_11_method_45_code
def my_M_end : MethodName := ⟨rn_M, "end", "(II)V"⟩
abbrev mb_M_begin : ByteArray := prog_11_method_46_code
def my_M_begin : MethodName := ⟨rn_M, "begin", "(III)V"⟩
abbrev mb_M_answer : ByteArray := prog_11_method_47_code
def my_M_answer : MethodName := ⟨rn_M, "answer", "(IIIZ)V"⟩
abbrev mb_M_kernel : ByteArray := prog_11_method_48_code
def my_M_kernel : MethodName := ⟨rn_M, "kernel", "()V"⟩
abbrev mb_M_pass : ByteArray := prog_11_method_49_code
def my_M_pass : MethodName := ⟨rn_M, "pass", "(I)V"⟩
abbrev mb_M_serve : ByteArray := prog_11_method_50_code
def my_M_serve : MethodName := ⟨rn_M, "serve", "()V"⟩
abbrev mb_M_run : ByteArray := prog_11_method_51_code
def my_M_run : MethodName := ⟨rn_M, "run", "(I)I"⟩
abbrev mb_M_poke : ByteArray := prog_11_method_52_code
def my_M_poke : MethodName := ⟨rn_M, "poke", "(II)I"⟩
abbrev mb_M_peek : ByteArray := prog_11_method_53_code
def my_M_peek : MethodName := ⟨rn_M, "peek", "(I)I"⟩
abbrev mb_M_noTask : ByteArray := prog_11_method_54_code
def my_M_noTask : MethodName := ⟨rn_M, "noTask", "(I)Z"⟩
abbrev mb_M_start : ByteArray := prog_11_method_55_code
def my_M_start : MethodName := ⟨rn_M, "start", "(III)Z"⟩
abbrev mb_M_stop : ByteArray := prog_11_method_56_code
def my_M_stop : MethodName := ⟨rn_M, "stop", "(I)Z"⟩
abbrev mb_M_timer : ByteArray := prog_11_method_57_code
def my_M_timer : MethodName := ⟨rn_M, "timer", "(I)Z"⟩
abbrev mb_M_state : ByteArray := prog_11_method_58_code
def my_M_state : MethodName := ⟨rn_M, "state", "(I)I"⟩
abbrev mb_M_inFrame : ByteArray := prog_11_method_59_code
def my_M_inFrame : MethodName := ⟨rn_M, "inFrame", "(II)I"⟩
abbrev mb_M_register : ByteArray := prog_11_method_60_code
def my_M_register : MethodName := ⟨rn_M, "register", "(II)I"⟩
abbrev mb_M_queued : ByteArray := prog_11_method_61_code
def my_M_queued : MethodName := ⟨rn_M, "queued", "(I)I"⟩
abbrev mb_M_sleeps : ByteArray := prog_11_method_62_code
def my_M_sleeps : MethodName := ⟨rn_M, "sleeps", "(I)I"⟩
abbrev mb_M_status : ByteArray := prog_11_method_63_code
def my_M_status : MethodName := ⟨rn_M, "status", "(I)I"⟩
abbrev mb_M_cycles : ByteArray := prog_11_method_64_code
def my_M_cycles : MethodName := ⟨rn_M, "cycles", "()I"⟩
abbrev mb_M_ticks : ByteArray := prog_11_method_65_code
def my_M_ticks : MethodName := ⟨rn_M, "ticks", "()I"⟩
abbrev mb_M_lost : ByteArray := prog_11_method_66_code
def my_M_lost : MethodName := ⟨rn_M, "lost", "()I"⟩
abbrev mb_M_left : ByteArray := prog_11_method_67_code
def my_M_left : MethodName := ⟨rn_M, "left", "()I"⟩
abbrev cz_all : List vw_C := [(rn_C, fn_C, 1), (rn_K, fn_K, 6), (rn_Y, fn_Y, 1), (rn_P, fn_P, 5), (rn_Q, fn_Q, 2), (rn_G, fn_G, 9), (rn_A, fn_A, 5), (rn_I, fn_I, 6), (rn_T, fn_T, 4), (rn_M, fn_M, 17)]
abbrev ty_ (cI cT : ClassId) : List (ClassId × FieldType) := [(cI, .int), (cT, .object "TaskComputer$Task")]
/-! The base of the decompilation: contracts 'co_i', 'co_v' (from a world w with arguments As the method answers r and leaves the world w'), their rows. -/
def wg_all : List Cond := lw_tbl.filter goodWord
theorem wg_mem {w : Cond} (h : w ∈ lw_tbl) (hg : goodWord w = true) : w ∈ wg_all := List.mem_filter.mpr ⟨h, hg⟩
theorem wg_good {w : Cond} (h : w ∈ wg_all) : (w.onTables && w.keeps) = true ∨ ∃ ty, w = .arrayClass ty := good_of_word (List.mem_filter.mp h).2
theorem wg_in {y' : MethodName} {c' : ByteArray} {n' : Nat} {r' : Option FieldType} (h : Cond.code y' c' n' r' ∈ wg_all) : GoodIn wg_all (Cond.code y' c' n' r' :: wg_all) := by
  intro w hw
  rcases List.mem_cons.mp hw with rfl | hw
  · exact ⟨h, wg_good h⟩
  · exact ⟨hw, wg_good hw⟩
def bz_i : Bool → Int32
  | true => 1
  | false => 0
theorem bz_n (b : Bool) : narrow .boolean (.int (bz_i b)) = .int (bz_i b) := by cases b <;> rfl
theorem bz_f (b : Bool) : fits .boolean (.int (bz_i b)) = true := by cases b <;> rfl
def in_b (i : Int32) (n : Nat) : Bool := decide (0 ≤ i.toInt) && decide (i.toInt < (n : Int))
theorem in_b_vp {i : Int32} {n : Nat} (h : in_b i n = true) : vp_in i n := by
  simp only [in_b, Bool.and_eq_true, decide_eq_true_eq] at h
  exact vp_in_iff.mpr h
theorem op_b {α β : Type} {o : Option α} {k : α → Option β} {z : β} (h : o.bind k = some z) : ∃ x, o = some x ∧ k x = some z := Option.bind_eq_some_iff.mp h
theorem op_c {β : Type} {i : Int32} {n : Nat} {x : Option β} {z : β} (h : (if in_b i n = true then x else none) = some z) : vp_in i n ∧ x = some z := by
  by_cases hb : in_b i n = true
  · rw [if_pos hb] at h
    exact ⟨in_b_vp hb, h⟩
  · rw [if_neg hb] at h
    cases h
theorem op_z {β : Type} {y : Int32} {x : Option β} {z : β} (h : (if y = (0 : Int32) then none else x) = some z) : ¬ y = 0 ∧ x = some z := by
  by_cases hb : y = 0
  · rw [if_pos hb] at h
    cases h
  · rw [if_neg hb] at h
    exact ⟨hb, h⟩
section BASE
variable {p : Program} {l : Launch} {e : Env} {R : Room} {s : State} {m : MethodId} {args : Array Value} {below : List Frame} {meth : Method} {c : Code} {H : Heap} {locs : List Loc} {Q : State → Prop}
variable {cc bytes : ByteArray} {pc nL maxL idx n b : Nat} {ls : Array Slot} {rest st As : List Value} {D : va_G} {tys : List (ClassId × FieldType)} {A : Nat → Prop} {w w' : va_W} {own : String} {y : MethodName} {rt : FieldType} {ret : Option FieldType} {rm : Room} {r : Int32} {lv : List (Nat × Value)}
def qs_i (D : va_G) (tys : List (ClassId × FieldType)) (w' : va_W) (r : Int32) (A : Nat → Prop) : Array Value → State → Outcome → State → Prop := va_Qi (fun r' (_ : Unit) => r' = r) (fun _ t => va_P D cz_all w' t.heap ∧ va_K D cz_all tys t ∧ va_D A w') A
def qs_v (D : va_G) (tys : List (ClassId × FieldType)) (w' : va_W) (A : Nat → Prop) : Array Value → State → Outcome → State → Prop := va_Qv (fun (_ : Unit) => True) (fun _ t => va_P D cz_all w' t.heap ∧ va_K D cz_all tys t ∧ va_D A w') A
def qs_p (D : va_G) (tys : List (ClassId × FieldType)) (As : List Value) (w : va_W) (sz : Nat) : Array Value → State → Prop := va_Pc As (fun U => U.heap.size = sz ∧ va_P D cz_all w U.heap ∧ va_K D cz_all tys U ∧ va_D (fun _ => True) w)
def co_i (l : Launch) (y : MethodName) (cc : ByteArray) (nL : Nat) (rt : FieldType) (rm : Room) (D : va_G) (tys : List (ClassId × FieldType)) (As : List Value) (w w' : va_W) (r : Int32) : Prop := ∀ sz : Nat, Met l y (Cond.code y cc nL (some rt) :: wg_all) rm (qs_p D tys As w sz) (qs_i D tys w' r (va_A w sz)) 0 0 (va_A w sz)
def co_v (l : Launch) (y : MethodName) (cc : ByteArray) (nL : Nat) (rm : Room) (D : va_G) (tys : List (ClassId × FieldType)) (As : List Value) (w w' : va_W) : Prop := ∀ sz : Nat, Met l y (Cond.code y cc nL none :: wg_all) rm (qs_p D tys As w sz) (qs_v D tys w' (va_A w sz)) 0 0 (va_A w sz)
theorem qs_p_blind {As : List Value} {w : va_W} {sz : Nat} : FrameBlind (qs_p D tys As w sz) := fun a U g mk q => by
  obtain ⟨q0, q1, qP, qK, qD⟩ := q
  exact ⟨q0, q1, qP, va_K.moved (u := U) (U := U.calling g mk a) (Vm.Alike.refl U.vm) qK, qD⟩
theorem co_i_of (hy : plainName y.cls = true) (hn : (lg_sl As).length ≤ nL)
    (body : ∀ (p : Program) (e : Env) (s : State) (m : MethodId) (below : List Frame) (meth : Method) (c : Code) (A : Nat → Prop) (ls : Array Slot), CallFix p m c cc nL s As.toArray wg_all y.cls → meth.sig.returnType = some rt → meth.locks = false → va_K D cz_all tys s → va_P D cz_all w s.heap → va_D A w → va_S A s.heap s.heap [] → (∀ q, s.heap.size ≤ q → A q) → lv_has ls nL (lv_args 0 As) →
      W p l e rm s m As.toArray below meth c s.heap [] 0 0 (MQ below (qs_i D tys w' r A) As.toArray s 0 0 A) (F0 m 0 ls [])) : co_i l y cc nL rt rm D tys As w w' r := by
  intro sz
  refine Met.ofW (cc := cc) (maxL := nL) (ret := some rt) hy rfl ?_
  intro p e s m args below meth c s₁ B hml hv
  obtain ⟨rfl, hsz, hP, hK, hD0⟩ := hv
  have hts := atoms_spec (ws := Cond.code y cc nL (some rt) :: wg_all) B.pre
  subst hsz
  rw [lg_entry_eq]
  exact body p e s m below meth c _ _ ⟨B.exec, B.bytes, hml, findClass_of_methodNamed B.named, fun w hw => hts w (List.mem_cons_of_mem _ hw)⟩ B.returns B.notSynchronized hK hP hD0.self va_S.rf (fun q h => Or.inr h) (lv_entry As hn)
theorem co_v_of (hy : plainName y.cls = true) (hn : (lg_sl As).length ≤ nL)
    (body : ∀ (p : Program) (e : Env) (s : State) (m : MethodId) (below : List Frame) (meth : Method) (c : Code) (A : Nat → Prop) (ls : Array Slot), CallFix p m c cc nL s As.toArray wg_all y.cls → meth.sig.returnType = none → meth.locks = false → va_K D cz_all tys s → va_P D cz_all w s.heap → va_D A w → va_S A s.heap s.heap [] → (∀ q, s.heap.size ≤ q → A q) → lv_has ls nL (lv_args 0 As) →
      W p l e rm s m As.toArray below meth c s.heap [] 0 0 (MQ below (qs_v D tys w' A) As.toArray s 0 0 A) (F0 m 0 ls [])) : co_v l y cc nL rm D tys As w w' := by
  intro sz
  refine Met.ofW (cc := cc) (maxL := nL) (ret := none) hy rfl ?_
  intro p e s m args below meth c s₁ B hml hv
  obtain ⟨rfl, hsz, hP, hK, hD0⟩ := hv
  have hts := atoms_spec (ws := Cond.code y cc nL none :: wg_all) B.pre
  subst hsz
  rw [lg_entry_eq]
  exact body p e s m below meth c _ _ ⟨B.exec, B.bytes, hml, findClass_of_methodNamed B.named, fun w hw => hts w (List.mem_cons_of_mem _ hw)⟩ B.returns B.notSynchronized hK hP hD0.self va_S.rf (fun q h => Or.inr h) (lv_entry As hn)
theorem rt_i (X : CallFix p m c cc nL s args wg_all own) (hr : meth.sig.returnType = some rt) (hlk : meth.locks = false) (hK : va_K D cz_all tys s) (hn : narrow rt (.int r) = .int r) (hP : va_P D cz_all w' H) (hD : va_D A w') (hS : va_S A s.heap H locs) (hdg : decode cc pc = .ok (.ireturn, 1)) : W p l e R s m args below meth c H locs 0 0 (MQ below (qs_i D tys w' r A) args s 0 0 A) (F0 m pc ls [.int r]) :=
  W.zret X.1 X.2.1 hr hn (fun t ht hW => ⟨⟨r, (), rfl, rfl, by rw [ht]; exact hP, va_K.moved hW.alike hK, hD⟩, hS.F ht⟩) hS.2.2 hdg hlk
theorem rt_v (X : CallFix p m c cc nL s args wg_all own) (hr : meth.sig.returnType = none) (hlk : meth.locks = false) (hK : va_K D cz_all tys s) (hP : va_P D cz_all w' H) (hD : va_D A w') (hS : va_S A s.heap H locs) (hdg : decode cc pc = .ok (.return_, 1)) : W p l e R s m args below meth c H locs 0 0 (MQ below (qs_v D tys w' A) args s 0 0 A) (F0 m pc ls []) :=
  W.vret X.1 X.2.1 hr (fun t ht hW => ⟨⟨(), rfl, trivial, by rw [ht]; exact hP, va_K.moved hW.alike hK, hD⟩, hS.F ht⟩) hS.2.2 hdg hlk
def cw_V (own : String) (idx : Nat) (y : MethodName) (bytes : ByteArray) (maxL : Nat) (ret : Option FieldType) (n : Nat) : Prop := Cond.methodLink own idx y ∈ wg_all ∧ Cond.instanceMethod y ∈ wg_all ∧ Cond.selects y.cls y y ∈ wg_all ∧ Cond.initialized y.cls ∈ wg_all ∧ Cond.code y bytes maxL ret ∈ wg_all ∧ y.cls ≠ "java/lang/invoke/MethodHandle" ∧ y.cls ≠ "java/lang/invoke/VarHandle" ∧ (parseMethodDescriptor y.desc).map (fun d => d.parameters.length) = some n
def cw_S (own : String) (idx : Nat) (y : MethodName) (bytes : ByteArray) (maxL : Nat) (ret : Option FieldType) (n : Nat) : Prop := Cond.methodLink own idx y ∈ wg_all ∧ Cond.static y ∈ wg_all ∧ Cond.initialized y.cls ∈ wg_all ∧ Cond.code y bytes maxL ret ∈ wg_all ∧ y.cls ≠ "java/lang/invoke/MethodHandle" ∧ y.cls ≠ "java/lang/invoke/VarHandle" ∧ (parseMethodDescriptor y.desc).map (fun d => d.parameters.length) = some n
def rm_in (rm R : Room) (maxL : Nat) : Prop := rm.cells = 0 ∧ rm.slots = 0 ∧ rm.frames + 1 ≤ R.frames ∧ 8 + (maxL + 11) + rm.locals ≤ R.locals
theorem cw_V_use (cw : cw_V own idx y bytes maxL ret n) (X : CallFix p m c cc nL s args wg_all own) (hR : rm_in rm R maxL) : CallW R s args own y.cls idx y bytes maxL ret (Cond.code y bytes maxL ret :: wg_all) rm 0 0 n := by
  obtain ⟨h1, h2, h3, h4, h5, h6⟩ := cw
  have ht := X.2.2.2.2
  exact ⟨callB_of n ht (wg_in h5) rfl hR.1 hR.2.1 (ht _ h4) (ht _ h1) h6 hR.2.2, ht _ h2, ht _ h3⟩
theorem cw_S_use (cw : cw_S own idx y bytes maxL ret n) (X : CallFix p m c cc nL s args wg_all own) (hR : rm_in rm R maxL) : CallB R s args own idx y bytes maxL ret (Cond.code y bytes maxL ret :: wg_all) rm 0 0 n ∧ (Cond.static y).before args s = true := by
  obtain ⟨h1, h2, h4, h5, h6⟩ := cw
  have ht := X.2.2.2.2
  exact ⟨callB_of n ht (wg_in h5) rfl hR.1 hR.2.1 (ht _ h4) (ht _ h1) h6 hR.2.2, ht _ h2⟩
theorem fr_all (hD : va_D A w) (hS : va_S A s.heap H locs) (hA : ∀ q, s.heap.size ≤ q → A q) : ∀ q, va_A w H.size q → A q := by
  intro q h
  rcases h with ⟨k, e, h⟩ | h
  · exact hD.2 k _ h
  · exact hA q (Nat.le_trans hS.1 h)
theorem pre_V (hK : va_K D cz_all tys s) (hP : va_P D cz_all w H) (hD : va_D A w) {C : String} (hcell : ∃ cell : Cell, H[b]? = some cell ∧ cell.vm.isStatics = false ∧ s.vm.findClass C = some cell.cls) : PreV s H C b (qs_p D tys (.ref b :: As) w H.size) As :=
  ⟨qs_p_blind, hcell, fun U hU hW => ⟨rfl, by rw [hU], by rw [hU]; exact hP, va_K.moved hW.alike hK, hD.weaken (fun _ _ _ _ => trivial)⟩⟩
theorem pre_S (hK : va_K D cz_all tys s) (hP : va_P D cz_all w H) (hD : va_D A w) : PreS s H (qs_p D tys As w H.size) As :=
  ⟨qs_p_blind, fun U hU hW => ⟨rfl, by rw [hU], by rw [hU]; exact hP, va_K.moved hW.alike hK, hD.weaken (fun _ _ _ _ => trivial)⟩⟩
/-- a call in the callee's own world: invokevirtual, an int -/
theorem cl_i (X : CallFix p m c cc nL s args wg_all own) (cw : cw_V own idx y bytes maxL (some rt) n) (hK : va_K D cz_all tys s) (hP : va_P D cz_all w H) (hD : va_D A w) (hS : va_S A s.heap H locs) (hA : ∀ q, s.heap.size ≤ q → A q) (hl : lv_has ls nL lv) (hM : co_i l y bytes maxL rt rm D tys (.ref b :: As) w w' r) (hR : rm_in rm R maxL) (q0 : Nat) {ci : Nat} {fs : List Value} {q : vw_C} (he : w[q0]? = some (b, .inr (ci, fs))) (hc : cz_all[ci]? = some q) (hq : q.1 = y.cls) (hst : st = As.reverse ++ .ref b :: rest) (hn : As.length = n) (hW : (rest.map fun v => v.category).sum ≤ 8) (hdg : decode cc pc = .ok (.invokevirtual idx, 3))
    (kk : ∀ (H1 : Heap) (locs1 : List Loc), va_P D cz_all w' H1 → va_D A w' → va_S A s.heap H1 locs1 → W p l e R s m args below meth c H1 locs1 0 0 Q (F0 m (pc + 3) ls (.int r :: rest))) : W p l e R s m args below meth c H locs 0 0 Q (F0 m pc ls st) := by
  subst hst
  have hFc := fr_all hD hS hA
  have hcell := va_recv hK hP hc he
  rw [hq] at hcell
  refine va_calli (va_runV (As := As) (rest := rest) (b := b) X (hM H.size) (cw_V_use cw X hR) (pre_V hK hP hD hcell) rfl hn hl.1 rfl (lv_room hW) hdg ⟨Nat.zero_le _, Nat.zero_le _⟩) hS (fun q _ h => hFc q h) hFc (fun r' u t H1 locs1 ht hvm hpost hB hz1 hk1 hS1 => ?_)
  obtain ⟨hP1, hK1, hD1⟩ := hB
  cases hpost
  exact kk H1 locs1 (by rw [← ht]; exact hP1) (hD1.weaken (fun k q _ h => hFc q.1 h)) hS1
/-- invokevirtual, void -/
theorem cl_v (X : CallFix p m c cc nL s args wg_all own) (cw : cw_V own idx y bytes maxL none n) (hK : va_K D cz_all tys s) (hP : va_P D cz_all w H) (hD : va_D A w) (hS : va_S A s.heap H locs) (hA : ∀ q, s.heap.size ≤ q → A q) (hl : lv_has ls nL lv) (hM : co_v l y bytes maxL rm D tys (.ref b :: As) w w') (hR : rm_in rm R maxL) (q0 : Nat) {ci : Nat} {fs : List Value} {q : vw_C} (he : w[q0]? = some (b, .inr (ci, fs))) (hc : cz_all[ci]? = some q) (hq : q.1 = y.cls) (hst : st = As.reverse ++ .ref b :: rest) (hn : As.length = n) (hW : (rest.map fun v => v.category).sum ≤ 8) (hdg : decode cc pc = .ok (.invokevirtual idx, 3))
    (kk : ∀ (H1 : Heap) (locs1 : List Loc), va_P D cz_all w' H1 → va_D A w' → va_S A s.heap H1 locs1 → W p l e R s m args below meth c H1 locs1 0 0 Q (F0 m (pc + 3) ls rest)) : W p l e R s m args below meth c H locs 0 0 Q (F0 m pc ls st) := by
  subst hst
  have hFc := fr_all hD hS hA
  have hcell := va_recv hK hP hc he
  rw [hq] at hcell
  refine va_callv (va_runV (As := As) (rest := rest) (b := b) X (hM H.size) (cw_V_use cw X hR) (pre_V hK hP hD hcell) rfl hn hl.1 rfl (lv_room hW) hdg ⟨Nat.zero_le _, Nat.zero_le _⟩) hS (fun q _ h => hFc q h) hFc (fun u t H1 locs1 ht hvm hpost hB hz1 hk1 hS1 => ?_)
  obtain ⟨hP1, hK1, hD1⟩ := hB
  exact kk H1 locs1 (by rw [← ht]; exact hP1) (hD1.weaken (fun k q _ h => hFc q.1 h)) hS1
/-- invokestatic, an int -/
theorem cl_si (X : CallFix p m c cc nL s args wg_all own) (cw : cw_S own idx y bytes maxL (some rt) n) (hK : va_K D cz_all tys s) (hP : va_P D cz_all w H) (hD : va_D A w) (hS : va_S A s.heap H locs) (hA : ∀ q, s.heap.size ≤ q → A q) (hl : lv_has ls nL lv) (hM : co_i l y bytes maxL rt rm D tys As w w' r) (hR : rm_in rm R maxL) (hst : st = As.reverse ++ rest) (hn : As.length = n) (hW : (rest.map fun v => v.category).sum ≤ 8) (hdg : decode cc pc = .ok (.invokestatic idx, 3))
    (kk : ∀ (H1 : Heap) (locs1 : List Loc), va_P D cz_all w' H1 → va_D A w' → va_S A s.heap H1 locs1 → W p l e R s m args below meth c H1 locs1 0 0 Q (F0 m (pc + 3) ls (.int r :: rest))) : W p l e R s m args below meth c H locs 0 0 Q (F0 m pc ls st) := by
  subst hst
  have hFc := fr_all hD hS hA
  refine va_calli (va_runS (As := As) (rest := rest) X (hM H.size) (cw_S_use cw X hR) (pre_S hK hP hD) rfl hn hl.1 rfl (lv_room hW) hdg ⟨Nat.zero_le _, Nat.zero_le _⟩) hS (fun q _ h => hFc q h) hFc (fun r' u t H1 locs1 ht hvm hpost hB hz1 hk1 hS1 => ?_)
  obtain ⟨hP1, hK1, hD1⟩ := hB
  cases hpost
  exact kk H1 locs1 (by rw [← ht]; exact hP1) (hD1.weaken (fun k q _ h => hFc q.1 h)) hS1
end BASE
theorem fw_C : ∀ w ∈ u_ws rn_C fn_C 1, w ∈ wg_all := by decide +kernel
theorem fw_K : ∀ w ∈ u_ws rn_K fn_K 6, w ∈ wg_all := by decide +kernel
theorem fw_Y : ∀ w ∈ u_ws rn_Y fn_Y 1, w ∈ wg_all := by decide +kernel
theorem fw_P : ∀ w ∈ u_ws rn_P fn_P 5, w ∈ wg_all := by decide +kernel
theorem fw_Q : ∀ w ∈ u_ws rn_Q fn_Q 2, w ∈ wg_all := by decide +kernel
theorem fw_G : ∀ w ∈ u_ws rn_G fn_G 9, w ∈ wg_all := by decide +kernel
theorem fw_A : ∀ w ∈ u_ws rn_A fn_A 5, w ∈ wg_all := by decide +kernel
theorem fw_I : ∀ w ∈ u_ws rn_I fn_I 6, w ∈ wg_all := by decide +kernel
theorem fw_T : ∀ w ∈ u_ws rn_T fn_T 4, w ∈ wg_all := by decide +kernel
theorem fw_M : ∀ w ∈ u_ws rn_M fn_M 17, w ∈ wg_all := by decide +kernel
end
section
abbrev rm_m_signed : Room := { frames := 0, cells := 0, slots := 0, locals := 0 }
abbrev rm_m_at : Room := { frames := 0, cells := 0, slots := 0, locals := 0 }
abbrev rm_m_put : Room := { frames := 0, cells := 0, slots := 0, locals := 0 }
abbrev rm_m_get : Room := { frames := 0, cells := 0, slots := 0, locals := 0 }
abbrev rm_m_set : Room := { frames := 0, cells := 0, slots := 0, locals := 0 }
abbrev rm_m_load : Room := { frames := 1, cells := 0, slots := 0, locals := 22 }
abbrev rm_m_store : Room := { frames := 1, cells := 0, slots := 0, locals := 23 }
abbrev rm_m_fetch : Room := { frames := 2, cells := 0, slots := 0, locals := 44 }
abbrev rm_m_fetchWord : Room := { frames := 3, cells := 0, slots := 0, locals := 65 }
abbrev rm_m_push : Room := { frames := 2, cells := 0, slots := 0, locals := 46 }
abbrev rm_m_pull : Room := { frames := 2, cells := 0, slots := 0, locals := 44 }
abbrev rm_m_flag : Room := { frames := 0, cells := 0, slots := 0, locals := 0 }
abbrev rm_m_mark : Room := { frames := 0, cells := 0, slots := 0, locals := 0 }
abbrev rm_m_sign : Room := { frames := 1, cells := 0, slots := 0, locals := 22 }
abbrev rm_m_plain : Room := { frames := 2, cells := 0, slots := 0, locals := 44 }
abbrev rm_m_number : Room := { frames := 0, cells := 0, slots := 0, locals := 0 }
abbrev rm_m_sum : Room := { frames := 2, cells := 0, slots := 0, locals := 44 }
abbrev rm_m_difference : Room := { frames := 2, cells := 0, slots := 0, locals := 44 }
abbrev rm_m_stepping : Room := { frames := 1, cells := 0, slots := 0, locals := 22 }
abbrev rm_m_offset : Room := { frames := 4, cells := 0, slots := 0, locals := 86 }
abbrev rm_m_address : Room := { frames := 5, cells := 0, slots := 0, locals := 110 }
abbrev rm_m_operand : Room := { frames := 6, cells := 0, slots := 0, locals := 136 }
abbrev rm_m_save : Room := { frames := 6, cells := 0, slots := 0, locals := 136 }
abbrev rm_m_byteOp : Room := { frames := 7, cells := 0, slots := 0, locals := 159 }
abbrev rm_m_wordOp : Room := { frames := 7, cells := 0, slots := 0, locals := 159 }
abbrev rm_m_call : Room := { frames := 6, cells := 0, slots := 0, locals := 136 }
abbrev rm_m_upper : Room := { frames := 8, cells := 0, slots := 0, locals := 187 }
abbrev rm_m_second : Room := { frames := 8, cells := 0, slots := 0, locals := 183 }
abbrev rm_m_changed : Room := { frames := 3, cells := 0, slots := 0, locals := 71 }
abbrev rm_m_lower : Room := { frames := 6, cells := 0, slots := 0, locals := 136 }
abbrev rm_m_holds : Room := { frames := 1, cells := 0, slots := 0, locals := 21 }
abbrev rm_m_branch : Room := { frames := 3, cells := 0, slots := 0, locals := 65 }
abbrev rm_m_trade : Room := { frames := 3, cells := 0, slots := 0, locals := 65 }
abbrev rm_m_listed : Room := { frames := 0, cells := 0, slots := 0, locals := 0 }
abbrev rm_m_many : Room := { frames := 3, cells := 0, slots := 0, locals := 69 }
abbrev rm_m_framed : Room := { frames := 0, cells := 0, slots := 0, locals := 0 }
abbrev rm_m_stack : Room := { frames := 3, cells := 0, slots := 0, locals := 69 }
abbrev rm_m_leave : Room := { frames := 0, cells := 0, slots := 0, locals := 0 }
abbrev rm_m_take : Room := { frames := 3, cells := 0, slots := 0, locals := 68 }
abbrev rm_m_next : Room := { frames := 4, cells := 0, slots := 0, locals := 91 }
abbrev rm_m_end : Room := { frames := 5, cells := 0, slots := 0, locals := 112 }
abbrev rm_m_comeLast : Room := { frames := 0, cells := 0, slots := 0, locals := 0 }
abbrev rm_m_answer : Room := { frames := 1, cells := 0, slots := 0, locals := 23 }
abbrev rm_m_begin : Room := { frames := 1, cells := 0, slots := 0, locals := 23 }
abbrev rm_m_kernel : Room := { frames := 6, cells := 0, slots := 0, locals := 134 }
abbrev rm_m_single : Room := { frames := 7, cells := 0, slots := 0, locals := 160 }
abbrev rm_m_instruction : Room := { frames := 9, cells := 0, slots := 0, locals := 212 }
abbrev rm_m_pass : Room := { frames := 0, cells := 0, slots := 0, locals := 0 }
abbrev rm_m_serve : Room := { frames := 5, cells := 0, slots := 0, locals := 112 }
abbrev rm_m_run : Room := { frames := 10, cells := 0, slots := 0, locals := 235 }
abbrev rm_m_poke : Room := { frames := 0, cells := 0, slots := 0, locals := 0 }
abbrev rm_m_peek : Room := { frames := 0, cells := 0, slots := 0, locals := 0 }
abbrev rm_m_noTask : Room := { frames := 0, cells := 0, slots := 0, locals := 0 }
abbrev rm_m_start : Room := { frames := 5, cells := 0, slots := 0, locals := 112 }
abbrev rm_m_stop : Room := { frames := 6, cells := 0, slots := 0, locals := 134 }
abbrev rm_m_timer : Room := { frames := 0, cells := 0, slots := 0, locals := 0 }
abbrev rm_m_state : Room := { frames := 1, cells := 0, slots := 0, locals := 20 }
abbrev rm_m_inFrame : Room := { frames := 1, cells := 0, slots := 0, locals := 22 }
abbrev rm_m_register : Room := { frames := 2, cells := 0, slots := 0, locals := 45 }
abbrev rm_m_queued : Room := { frames := 0, cells := 0, slots := 0, locals := 0 }
abbrev rm_m_sleeps : Room := { frames := 1, cells := 0, slots := 0, locals := 20 }
abbrev rm_m_status : Room := { frames := 1, cells := 0, slots := 0, locals := 20 }
abbrev rm_m_cycles : Room := { frames := 0, cells := 0, slots := 0, locals := 0 }
abbrev rm_m_ticks : Room := { frames := 0, cells := 0, slots := 0, locals := 0 }
abbrev rm_m_lost : Room := { frames := 0, cells := 0, slots := 0, locals := 0 }
abbrev rm_m_left : Room := { frames := 0, cells := 0, slots := 0, locals := 0 }
def mo_signed (x1 : Int32) : Option (Int32) := if (128 : Int32) ≤ x1 then some (x1 - (256 : Int32)) else some x1
def mo_at (x1 : Int32) (me : Nat → Int32) : Option (Int32) := if (512 : Int32) ≤ (x1 &&& (65535 : Int32)) then some (0 : Int32) else if in_b (x1 &&& (65535 : Int32)) 512 = true then some (me ((x1 &&& (65535 : Int32)).toNatClampNeg)) else none
def mo_put (x1 : Int32) (x2 : Int32) (me : Nat → Int32) : Option ((Nat → Int32)) := if (512 : Int32) ≤ (x1 &&& (65535 : Int32)) then some me else if in_b (x1 &&& (65535 : Int32)) 512 = true then some (upd me ((x1 &&& (65535 : Int32)).toNatClampNeg) (x2 &&& (255 : Int32))) else none
def mo_get (x1 : Int32) (rg : Nat → Int32) : Option (Int32) := if x1 = (0 : Int32) then some (((256 : Int32) * (rg 8)) + (rg 9)) else if in_b x1 12 = true then some (rg (x1.toNatClampNeg)) else none
def mo_set_j57 (s0 : Int32) (s1 : Int32) (rg : Nat → Int32) : Option ((Nat → Int32)) := if in_b s1 12 = true then some (upd rg (s1.toNatClampNeg) s0) else none
def mo_set (x1 : Int32) (x2 : Int32) (rg : Nat → Int32) : Option ((Nat → Int32)) := if x1 = (0 : Int32) then some (upd (upd rg 8 ((x2 >>> ((8 : Int32) &&& 31)) &&& (255 : Int32))) 9 (x2 &&& (255 : Int32))) else if (8 : Int32) ≤ x1 then mo_set_j57 (x2 &&& (255 : Int32)) x1 rg else mo_set_j57 (x2 &&& (65535 : Int32)) x1 rg
def mo_load_j14 (v1 : Int32) (v2 : Bool) (s0 : Int32) (s1 : Int32) (me : Nat → Int32) (sp : Int32) : Option (Int32 × Int32) := if (bz_i v2) = (0 : Int32) then (mo_at v1 me).bind fun z7 => some (z7, (s1 + s0)) else (mo_at v1 me).bind fun z8 => (mo_at (v1 + (1 : Int32)) me).bind fun z9 => some ((((256 : Int32) * z8) + z9), (s1 + s0))
def mo_load (x1 : Int32) (x2 : Bool) (me : Nat → Int32) (sp : Int32) : Option (Int32 × Int32) := if (bz_i x2) = (0 : Int32) then mo_load_j14 x1 x2 (1 : Int32) sp me sp else mo_load_j14 x1 x2 (2 : Int32) sp me sp
def mo_store_j14 (v1 : Int32) (v2 : Int32) (v3 : Bool) (s0 : Int32) (s1 : Int32) (me : Nat → Int32) (sp : Int32) : Option ((Nat → Int32) × Int32) := if (bz_i v3) = (0 : Int32) then (mo_put v1 v2 me).bind fun z7 => some (z7, (s1 + s0)) else (mo_put v1 (v2 >>> ((8 : Int32) &&& 31)) me).bind fun z8 => (mo_put (v1 + (1 : Int32)) v2 z8).bind fun z9 => some (z9, (s1 + s0))
def mo_store (x1 : Int32) (x2 : Int32) (x3 : Bool) (me : Nat → Int32) (sp : Int32) : Option ((Nat → Int32) × Int32) := if (bz_i x3) = (0 : Int32) then mo_store_j14 x1 x2 x3 (1 : Int32) sp me sp else mo_store_j14 x1 x2 x3 (2 : Int32) sp me sp
def mo_fetch (me : Nat → Int32) (rg : Nat → Int32) (sp : Int32) : Option (Int32 × (Nat → Int32) × Int32) := (mo_load (rg 5) false me sp).bind fun z3 => (mo_set (5 : Int32) ((rg 5) + (1 : Int32)) rg).bind fun z4 => some (z3.1, z4, z3.2)
def mo_fetchWord (me : Nat → Int32) (rg : Nat → Int32) (sp : Int32) : Option (Int32 × (Nat → Int32) × Int32) := (mo_fetch me rg sp).bind fun z3 => (mo_fetch me z3.2.1 z3.2.2).bind fun z4 => some ((((256 : Int32) * z3.1) + z4.1), z4.2.1, z4.2.2)
def mo_push_j29 (v1 : Int32) (v2 : Int32) (v3 : Bool) (s0 : Int32) (s1 : Int32) (s2 : Int32) (me : Nat → Int32) (rg : Nat → Int32) (sp : Int32) : Option ((Nat → Int32) × (Nat → Int32) × Int32) := (mo_set s2 (s1 - s0) rg).bind fun z11 => if in_b v1 12 = true then if in_b v2 12 = true then (mo_store (z11 (v1.toNatClampNeg)) (z11 (v2.toNatClampNeg)) v3 me sp).bind fun z14 => some (z14.1, z11, z14.2) else none else none
def mo_push_j11 (v1 : Int32) (v2 : Int32) (s0 : Bool) (me : Nat → Int32) (rg : Nat → Int32) (sp : Int32) : Option ((Nat → Int32) × (Nat → Int32) × Int32) := if in_b v1 12 = true then if (bz_i s0) = (0 : Int32) then mo_push_j29 v1 v2 s0 (1 : Int32) (rg (v1.toNatClampNeg)) v1 me rg sp else mo_push_j29 v1 v2 s0 (2 : Int32) (rg (v1.toNatClampNeg)) v1 me rg sp else none
def mo_push (x1 : Int32) (x2 : Int32) (me : Nat → Int32) (rg : Nat → Int32) (sp : Int32) : Option ((Nat → Int32) × (Nat → Int32) × Int32) := if (8 : Int32) ≤ x2 then mo_push_j11 x1 x2 false me rg sp else mo_push_j11 x1 x2 true me rg sp
def mo_pull_j42 (v2 : Int32) (v4 : Int32) (s0 : Int32) (s1 : Int32) (s2 : Int32) (me : Nat → Int32) (rg : Nat → Int32) (sp : Int32) : Option ((Nat → Int32) × Int32) := (mo_set s2 (s1 + s0) rg).bind fun z9 => (mo_set v2 v4 z9).bind fun z10 => some (z10, sp)
def mo_pull_j11 (v1 : Int32) (v2 : Int32) (s0 : Bool) (me : Nat → Int32) (rg : Nat → Int32) (sp : Int32) : Option ((Nat → Int32) × Int32) := if in_b v1 12 = true then (mo_load (rg (v1.toNatClampNeg)) s0 me sp).bind fun z12 => if (bz_i s0) = (0 : Int32) then mo_pull_j42 v2 z12.1 (1 : Int32) (rg (v1.toNatClampNeg)) v1 me rg z12.2 else mo_pull_j42 v2 z12.1 (2 : Int32) (rg (v1.toNatClampNeg)) v1 me rg z12.2 else none
def mo_pull (x1 : Int32) (x2 : Int32) (me : Nat → Int32) (rg : Nat → Int32) (sp : Int32) : Option ((Nat → Int32) × Int32) := if (8 : Int32) ≤ x2 then mo_pull_j11 x1 x2 false me rg sp else mo_pull_j11 x1 x2 true me rg sp
def mo_flag (x1 : Int32) (rg : Nat → Int32) : Option (Bool) := if ((rg 10) &&& x1) = (0 : Int32) then some false else some true
def mo_mark_j33 (s0 : Int32) (rg : Nat → Int32) : Option ((Nat → Int32)) := some (upd rg 10 s0)
def mo_mark (x1 : Int32) (x2 : Bool) (rg : Nat → Int32) : Option ((Nat → Int32)) := if (bz_i x2) = (0 : Int32) then mo_mark_j33 ((rg 10) &&& (x1 ^^^ (-1 : Int32))) rg else mo_mark_j33 ((rg 10) ||| x1) rg
def mo_sign_j39 (s0 : Bool) (rg : Nat → Int32) : Option ((Nat → Int32)) := (mo_mark (4 : Int32) s0 rg).bind fun z5 => some z5
def mo_sign_j19 (v1 : Int32) (v2 : Int32) (s0 : Bool) (rg : Nat → Int32) : Option ((Nat → Int32)) := (mo_mark (8 : Int32) s0 rg).bind fun z6 => if (v1 &&& (((1 : Int32) <<< (v2 &&& 31)) - (1 : Int32))) = (0 : Int32) then mo_sign_j39 true z6 else mo_sign_j39 false z6
def mo_sign (x1 : Int32) (x2 : Int32) (rg : Nat → Int32) : Option ((Nat → Int32)) := if ((x1 >>> ((x2 - (1 : Int32)) &&& 31)) &&& (1 : Int32)) = (1 : Int32) then mo_sign_j19 x1 x2 true rg else mo_sign_j19 x1 x2 false rg
def mo_plain (x1 : Int32) (x2 : Int32) (rg : Nat → Int32) : Option (Int32 × (Nat → Int32)) := (mo_sign x1 x2 rg).bind fun z3 => (mo_mark (2 : Int32) false z3).bind fun z4 => some (x1, z4)
def mo_number (x1 : Int32) (x2 : Int32) : Option (Int32) := if (x1 >>> ((x2 - (1 : Int32)) &&& 31)) = (0 : Int32) then some x1 else some (x1 - ((1 : Int32) <<< (x2 &&& 31)))
def mo_sum_j87 (v7 : Int32) (s0 : Bool) (rg : Nat → Int32) : Option (Int32 × (Nat → Int32)) := (mo_mark (2 : Int32) s0 rg).bind fun z9 => some (v7, z9)
def mo_sum_j82 (v7 : Int32) (rg : Nat → Int32) : Option (Int32 × (Nat → Int32)) := mo_sum_j87 v7 true rg
def mo_sum_j58 (v5 : Int32) (v6 : Int32) (v7 : Int32) (s0 : Bool) (rg : Nat → Int32) : Option (Int32 × (Nat → Int32)) := (mo_mark (1 : Int32) s0 rg).bind fun z10 => if v6 < ((-v5) / (2 : Int32)) then mo_sum_j82 v7 z10 else if v6 < (v5 / (2 : Int32)) then mo_sum_j87 v7 false z10 else mo_sum_j82 v7 z10
def mo_sum (x1 : Int32) (x2 : Int32) (x3 : Int32) (x4 : Int32) (rg : Nat → Int32) : Option (Int32 × (Nat → Int32)) := (mo_number x1 x4).bind fun z11 => (mo_number x2 x4).bind fun z12 => if ((1 : Int32) <<< (x4 &&& 31)) = (0 : Int32) then none else (mo_sign (((x1 + x2) + x3) - ((x1 + x2) + x3) / ((1 : Int32) <<< (x4 &&& 31)) * ((1 : Int32) <<< (x4 &&& 31))) x4 rg).bind fun z14 => if ((x1 + x2) + x3) < ((1 : Int32) <<< (x4 &&& 31)) then mo_sum_j58 ((1 : Int32) <<< (x4 &&& 31)) ((z11 + z12) + x3) (((x1 + x2) + x3) - ((x1 + x2) + x3) / ((1 : Int32) <<< (x4 &&& 31)) * ((1 : Int32) <<< (x4 &&& 31))) false z14 else mo_sum_j58 ((1 : Int32) <<< (x4 &&& 31)) ((z11 + z12) + x3) (((x1 + x2) + x3) - ((x1 + x2) + x3) / ((1 : Int32) <<< (x4 &&& 31)) * ((1 : Int32) <<< (x4 &&& 31))) true z14
def mo_difference_j89 (v7 : Int32) (s0 : Bool) (rg : Nat → Int32) : Option (Int32 × (Nat → Int32)) := (mo_mark (2 : Int32) s0 rg).bind fun z9 => some (v7, z9)
def mo_difference_j84 (v7 : Int32) (rg : Nat → Int32) : Option (Int32 × (Nat → Int32)) := mo_difference_j89 v7 true rg
def mo_difference_j60 (v5 : Int32) (v6 : Int32) (v7 : Int32) (s0 : Bool) (rg : Nat → Int32) : Option (Int32 × (Nat → Int32)) := (mo_mark (1 : Int32) s0 rg).bind fun z10 => if v6 < ((-v5) / (2 : Int32)) then mo_difference_j84 v7 z10 else if v6 < (v5 / (2 : Int32)) then mo_difference_j89 v7 false z10 else mo_difference_j84 v7 z10
def mo_difference (x1 : Int32) (x2 : Int32) (x3 : Int32) (x4 : Int32) (rg : Nat → Int32) : Option (Int32 × (Nat → Int32)) := (mo_number x1 x4).bind fun z11 => (mo_number x2 x4).bind fun z12 => if ((1 : Int32) <<< (x4 &&& 31)) = (0 : Int32) then none else (mo_sign ((((x1 - x2) - x3) + ((2 : Int32) * ((1 : Int32) <<< (x4 &&& 31)))) - (((x1 - x2) - x3) + ((2 : Int32) * ((1 : Int32) <<< (x4 &&& 31)))) / ((1 : Int32) <<< (x4 &&& 31)) * ((1 : Int32) <<< (x4 &&& 31))) x4 rg).bind fun z14 => if (x2 + x3) ≤ x1 then mo_difference_j60 ((1 : Int32) <<< (x4 &&& 31)) ((z11 - z12) - x3) ((((x1 - x2) - x3) + ((2 : Int32) * ((1 : Int32) <<< (x4 &&& 31)))) - (((x1 - x2) - x3) + ((2 : Int32) * ((1 : Int32) <<< (x4 &&& 31)))) / ((1 : Int32) <<< (x4 &&& 31)) * ((1 : Int32) <<< (x4 &&& 31))) false z14 else mo_difference_j60 ((1 : Int32) <<< (x4 &&& 31)) ((z11 - z12) - x3) ((((x1 - x2) - x3) + ((2 : Int32) * ((1 : Int32) <<< (x4 &&& 31)))) - (((x1 - x2) - x3) + ((2 : Int32) * ((1 : Int32) <<< (x4 &&& 31)))) / ((1 : Int32) <<< (x4 &&& 31)) * ((1 : Int32) <<< (x4 &&& 31))) true z14
def mo_stepping_j32 (v1 : Int32) (v2 : Int32) (v4 : Int32) (s0 : Int32) (s1 : Int32) (rg : Nat → Int32) : Option (Int32 × (Nat → Int32)) := (mo_set s1 s0 rg).bind fun z4 => if (2 : Int32) ≤ v2 then if in_b v1 12 = true then some ((z4 (v1.toNatClampNeg)), z4) else none else some (v4, z4)
def mo_stepping (x1 : Int32) (x2 : Int32) (rg : Nat → Int32) : Option (Int32 × (Nat → Int32)) := if in_b x1 12 = true then if (2 : Int32) ≤ x2 then mo_stepping_j32 x1 x2 (rg (x1.toNatClampNeg)) ((rg (x1.toNatClampNeg)) - ((1 : Int32) + (x2 &&& (1 : Int32)))) x1 rg else mo_stepping_j32 x1 x2 (rg (x1.toNatClampNeg)) ((rg (x1.toNatClampNeg)) + ((1 : Int32) + (x2 &&& (1 : Int32)))) x1 rg else none
def mo_offset (x1 : Int32) (x2 : Int32) (me : Nat → Int32) (rg : Nat → Int32) (sp : Int32) : Option (Int32 × (Nat → Int32) × Int32) := if in_b x1 12 = true then if x2 = (5 : Int32) then (mo_signed (rg 9)).bind fun z14 => some (((rg (x1.toNatClampNeg)) + z14), rg, sp) else if x2 = (6 : Int32) then (mo_signed (rg 8)).bind fun z16 => some (((rg (x1.toNatClampNeg)) + z16), rg, sp) else if x2 = (7 : Int32) then some ((rg (x1.toNatClampNeg)), rg, sp) else if x2 = (8 : Int32) then (mo_fetch me rg sp).bind fun z19 => (mo_signed z19.1).bind fun z20 => some (((rg (x1.toNatClampNeg)) + z20), z19.2.1, z19.2.2) else if x2 = (9 : Int32) then (mo_fetchWord me rg sp).bind fun z22 => some (((rg (x1.toNatClampNeg)) + z22.1), z22.2.1, z22.2.2) else if x2 = (10 : Int32) then some ((rg (x1.toNatClampNeg)), rg, sp) else if x2 = (11 : Int32) then (mo_get (0 : Int32) rg).bind fun z25 => some (((rg (x1.toNatClampNeg)) + z25), rg, sp) else if x2 = (12 : Int32) then (mo_fetch me rg sp).bind fun z27 => (mo_signed z27.1).bind fun z28 => some (((z27.2.1 5) + z28), z27.2.1, z27.2.2) else if x2 = (13 : Int32) then (mo_fetchWord me rg sp).bind fun z30 => some (((z30.2.1 5) + z30.1), z30.2.1, z30.2.2) else if x2 = (14 : Int32) then some ((rg (x1.toNatClampNeg)), rg, sp) else if x2 = (15 : Int32) then (mo_fetchWord me rg sp).bind fun z33 => some (z33.1, z33.2.1, z33.2.2) else some ((rg (x1.toNatClampNeg)), rg, sp) else none
def mo_address_j191 (v5 : Bool) (s0 : Int32) (me : Nat → Int32) (rg : Nat → Int32) (sp : Int32) (iv : Bool) : Option (Int32 × (Nat → Int32) × Int32 × Bool) := if (bz_i v5) = (0 : Int32) then some ((s0 &&& (65535 : Int32)), rg, sp, iv) else (mo_load (s0 &&& (65535 : Int32)) true me sp).bind fun z10 => some (z10.1, rg, z10.2, iv)
def mo_address_j156 (v3 : Int32) (v4 : Int32) (v5 : Bool) (s0 : Bool) (me : Nat → Int32) (rg : Nat → Int32) (sp : Int32) (iv : Bool) : Option (Int32 × (Nat → Int32) × Int32 × Bool) := if (bz_i s0) = (0 : Int32) then if (4 : Int32) ≤ v4 then (mo_offset v3 v4 me rg sp).bind fun z11 => mo_address_j191 v5 z11.1 me z11.2.1 z11.2.2 s0 else (mo_stepping v3 v4 rg).bind fun z12 => mo_address_j191 v5 z12.1 me z12.2 sp s0 else some ((-1 : Int32), rg, sp, s0)
def mo_address_j155 (v3 : Int32) (v4 : Int32) (v5 : Bool) (me : Nat → Int32) (rg : Nat → Int32) (sp : Int32) (iv : Bool) : Option (Int32 × (Nat → Int32) × Int32 × Bool) := mo_address_j156 v3 v4 v5 false me rg sp iv
def mo_address_j151 (v3 : Int32) (v4 : Int32) (v5 : Bool) (me : Nat → Int32) (rg : Nat → Int32) (sp : Int32) (iv : Bool) : Option (Int32 × (Nat → Int32) × Int32 × Bool) := mo_address_j156 v3 v4 v5 true me rg sp iv
def mo_address_j139 (v3 : Int32) (v4 : Int32) (v5 : Bool) (me : Nat → Int32) (rg : Nat → Int32) (sp : Int32) (iv : Bool) : Option (Int32 × (Nat → Int32) × Int32 × Bool) := if (bz_i v5) = (0 : Int32) then if v4 = (15 : Int32) then mo_address_j151 v3 v4 v5 me rg sp iv else mo_address_j155 v3 v4 v5 me rg sp iv else mo_address_j155 v3 v4 v5 me rg sp iv
def mo_address_j99 (v3 : Int32) (v4 : Int32) (s0 : Bool) (me : Nat → Int32) (rg : Nat → Int32) (sp : Int32) (iv : Bool) : Option (Int32 × (Nat → Int32) × Int32 × Bool) := if v4 = (7 : Int32) then mo_address_j151 v3 v4 s0 me rg sp iv else if v4 = (10 : Int32) then mo_address_j151 v3 v4 s0 me rg sp iv else if v4 = (14 : Int32) then mo_address_j151 v3 v4 s0 me rg sp iv else if (bz_i s0) = (0 : Int32) then mo_address_j139 v3 v4 s0 me rg sp iv else if v4 = (0 : Int32) then mo_address_j151 v3 v4 s0 me rg sp iv else if v4 = (2 : Int32) then mo_address_j151 v3 v4 s0 me rg sp iv else mo_address_j139 v3 v4 s0 me rg sp iv
def mo_address (x1 : Int32) (me : Nat → Int32) (rg : Nat → Int32) (sp : Int32) (iv : Bool) : Option (Int32 × (Nat → Int32) × Int32 × Bool) := if x1 = (1 : Int32) then (mo_fetch me rg sp).bind fun z16 => some ((((256 : Int32) * (rg 11)) + z16.1), z16.2.1, z16.2.2, iv) else if x1 = (3 : Int32) then (mo_fetchWord me rg sp).bind fun z15 => some (z15.1, z15.2.1, z15.2.2, iv) else (mo_fetch me rg sp).bind fun z13 => if (128 : Int32) ≤ z13.1 then if (z13.1 &&& (16 : Int32)) = (0 : Int32) then mo_address_j99 ((1 : Int32) + ((z13.1 >>> ((5 : Int32) &&& 31)) &&& (3 : Int32))) (z13.1 &&& (15 : Int32)) false me z13.2.1 z13.2.2 iv else mo_address_j99 ((1 : Int32) + ((z13.1 >>> ((5 : Int32) &&& 31)) &&& (3 : Int32))) (z13.1 &&& (15 : Int32)) true me z13.2.1 z13.2.2 iv else if in_b ((1 : Int32) + ((z13.1 >>> ((5 : Int32) &&& 31)) &&& (3 : Int32))) 12 = true then if (z13.1 &&& (16 : Int32)) = (0 : Int32) then some (((((z13.2.1 (((1 : Int32) + ((z13.1 >>> ((5 : Int32) &&& 31)) &&& (3 : Int32))).toNatClampNeg)) + (z13.1 &&& (31 : Int32))) - (0 : Int32)) &&& (65535 : Int32)), z13.2.1, z13.2.2, iv) else some (((((z13.2.1 (((1 : Int32) + ((z13.1 >>> ((5 : Int32) &&& 31)) &&& (3 : Int32))).toNatClampNeg)) + (z13.1 &&& (31 : Int32))) - (32 : Int32)) &&& (65535 : Int32)), z13.2.1, z13.2.2, iv) else none
def mo_operand (x1 : Int32) (x2 : Bool) (me : Nat → Int32) (rg : Nat → Int32) (sp : Int32) (iv : Bool) : Option (Int32 × (Nat → Int32) × Int32 × Bool) := if x1 = (0 : Int32) then if (bz_i x2) = (0 : Int32) then (mo_fetch me rg sp).bind fun z7 => some (z7.1, z7.2.1, z7.2.2, iv) else (mo_fetchWord me rg sp).bind fun z8 => some (z8.1, z8.2.1, z8.2.2, iv) else (mo_address x1 me rg sp iv).bind fun z5 => if (bz_i z5.2.2.2) = (0 : Int32) then (mo_load z5.1 x2 me z5.2.2.1).bind fun z6 => some (z6.1, z5.2.1, z6.2, z5.2.2.2) else some ((0 : Int32), z5.2.1, z5.2.2.1, z5.2.2.2)
def mo_save_j86 (s0 : Int32) (s1 : Int32) (me : Nat → Int32) (rg : Nat → Int32) (sp : Int32) (iv : Bool) : Option ((Nat → Int32) × (Nat → Int32) × Int32 × Bool) := (mo_plain s1 s0 rg).bind fun z8 => some (me, z8.2, sp, iv)
def mo_save_j67 (v2 : Int32) (v4 : Int32) (s0 : Bool) (s1 : Int32) (s2 : Int32) (me : Nat → Int32) (rg : Nat → Int32) (sp : Int32) (iv : Bool) : Option ((Nat → Int32) × (Nat → Int32) × Int32 × Bool) := (mo_store s2 s1 s0 me sp).bind fun z9 => if (8 : Int32) ≤ v2 then mo_save_j86 (8 : Int32) v4 z9.1 rg z9.2 iv else mo_save_j86 (16 : Int32) v4 z9.1 rg z9.2 iv
def mo_save_j36 (v2 : Int32) (s0 : Int32) (me : Nat → Int32) (rg : Nat → Int32) (sp : Int32) (iv : Bool) : Option ((Nat → Int32) × (Nat → Int32) × Int32 × Bool) := if (bz_i iv) = (0 : Int32) then (mo_get v2 rg).bind fun z10 => if (8 : Int32) ≤ v2 then mo_save_j67 v2 z10 false z10 s0 me rg sp iv else mo_save_j67 v2 z10 true z10 s0 me rg sp iv else some (me, rg, sp, iv)
def mo_save_j17 (v1 : Int32) (v2 : Int32) (s0 : Bool) (me : Nat → Int32) (rg : Nat → Int32) (sp : Int32) (iv : Bool) : Option ((Nat → Int32) × (Nat → Int32) × Int32 × Bool) := if (bz_i s0) = (0 : Int32) then (mo_address v1 me rg sp s0).bind fun z11 => mo_save_j36 v2 z11.1 me z11.2.1 z11.2.2.1 z11.2.2.2 else mo_save_j36 v2 (0 : Int32) me rg sp s0
def mo_save_j12 (v1 : Int32) (v2 : Int32) (me : Nat → Int32) (rg : Nat → Int32) (sp : Int32) (iv : Bool) : Option ((Nat → Int32) × (Nat → Int32) × Int32 × Bool) := mo_save_j17 v1 v2 true me rg sp iv
def mo_save (x1 : Int32) (x2 : Int32) (me : Nat → Int32) (rg : Nat → Int32) (sp : Int32) (iv : Bool) : Option ((Nat → Int32) × (Nat → Int32) × Int32 × Bool) := if (bz_i iv) = (0 : Int32) then if x1 = (0 : Int32) then mo_save_j12 x1 x2 me rg sp iv else mo_save_j17 x1 x2 false me rg sp iv else mo_save_j12 x1 x2 me rg sp iv
def mo_byteOp_j202 (v3 : Int32) (v4 : Int32) (s0 : Int32) (me : Nat → Int32) (rg : Nat → Int32) (sp : Int32) (iv : Bool) : Option ((Nat → Int32) × Int32 × Bool) := if v4 = (1 : Int32) then some (rg, sp, iv) else if v4 = (5 : Int32) then some (rg, sp, iv) else (mo_set v3 s0 rg).bind fun z17 => some (z17, sp, iv)
def mo_byteOp_j197 (v3 : Int32) (v4 : Int32) (s0 : Int32) (me : Nat → Int32) (rg : Nat → Int32) (sp : Int32) (iv : Bool) : Option ((Nat → Int32) × Int32 × Bool) := (mo_plain s0 (8 : Int32) rg).bind fun z18 => mo_byteOp_j202 v3 v4 z18.1 me z18.2 sp iv
def mo_byteOp_j157 (v3 : Int32) (v4 : Int32) (v5 : Int32) (v6 : Int32) (me : Nat → Int32) (rg : Nat → Int32) (sp : Int32) (iv : Bool) : Option ((Nat → Int32) × Int32 × Bool) := mo_byteOp_j197 v3 v4 (v6 &&& v5) me rg sp iv
def mo_byteOp_j58 (v3 : Int32) (v4 : Int32) (v5 : Int32) (v6 : Int32) (s0 : Bool) (me : Nat → Int32) (rg : Nat → Int32) (sp : Int32) (iv : Bool) : Option ((Nat → Int32) × Int32 × Bool) := if (2 : Int32) ≤ v4 then if v4 = (2 : Int32) then (mo_difference v6 v5 (bz_i s0) (8 : Int32) rg).bind fun z21 => mo_byteOp_j202 v3 v4 z21.1 me z21.2 sp iv else if v4 = (9 : Int32) then (mo_sum v6 v5 (bz_i s0) (8 : Int32) rg).bind fun z20 => mo_byteOp_j202 v3 v4 z20.1 me z20.2 sp iv else if v4 = (11 : Int32) then (mo_sum v6 v5 (0 : Int32) (8 : Int32) rg).bind fun z19 => mo_byteOp_j202 v3 v4 z19.1 me z19.2 sp iv else if v4 = (4 : Int32) then mo_byteOp_j157 v3 v4 v5 v6 me rg sp iv else if v4 = (5 : Int32) then mo_byteOp_j157 v3 v4 v5 v6 me rg sp iv else if v4 = (6 : Int32) then mo_byteOp_j197 v3 v4 v5 me rg sp iv else if v4 = (8 : Int32) then mo_byteOp_j197 v3 v4 (v6 ^^^ v5) me rg sp iv else mo_byteOp_j197 v3 v4 (v6 ||| v5) me rg sp iv else (mo_difference v6 v5 (0 : Int32) (8 : Int32) rg).bind fun z22 => mo_byteOp_j202 v3 v4 z22.1 me z22.2 sp iv
def mo_byteOp_j14 (v1 : Int32) (v2 : Int32) (s0 : Int32) (me : Nat → Int32) (rg : Nat → Int32) (sp : Int32) (iv : Bool) : Option ((Nat → Int32) × Int32 × Bool) := (mo_operand v2 false me rg sp iv).bind fun z23 => if (bz_i z23.2.2.2) = (0 : Int32) then if in_b s0 12 = true then (mo_flag (1 : Int32) z23.2.1).bind fun z25 => if (bz_i z25) = (0 : Int32) then mo_byteOp_j58 s0 (v1 &&& (15 : Int32)) z23.1 (z23.2.1 (s0.toNatClampNeg)) false me z23.2.1 z23.2.2.1 z23.2.2.2 else mo_byteOp_j58 s0 (v1 &&& (15 : Int32)) z23.1 (z23.2.1 (s0.toNatClampNeg)) true me z23.2.1 z23.2.2.1 z23.2.2.2 else none else some (z23.2.1, z23.2.2.1, z23.2.2.2)
def mo_byteOp (x1 : Int32) (x2 : Int32) (me : Nat → Int32) (rg : Nat → Int32) (sp : Int32) (iv : Bool) : Option ((Nat → Int32) × Int32 × Bool) := if (192 : Int32) ≤ x1 then mo_byteOp_j14 x1 x2 (9 : Int32) me rg sp iv else mo_byteOp_j14 x1 x2 (8 : Int32) me rg sp iv
def mo_wordOp (x1 : Int32) (x2 : Int32) (x3 : Bool) (me : Nat → Int32) (rg : Nat → Int32) (sp : Int32) (iv : Bool) : Option ((Nat → Int32) × Int32 × Bool) := (mo_operand x2 true me rg sp iv).bind fun z6 => if (bz_i z6.2.2.2) = (0 : Int32) then if (bz_i x3) = (0 : Int32) then (mo_plain z6.1 (16 : Int32) z6.2.1).bind fun z7 => (mo_set x1 z7.1 z7.2).bind fun z8 => some (z8, z6.2.2.1, z6.2.2.2) else (mo_get x1 z6.2.1).bind fun z9 => (mo_difference z9 z6.1 (0 : Int32) (16 : Int32) z6.2.1).bind fun z10 => some (z10.2, z6.2.2.1, z6.2.2.2) else some (z6.2.1, z6.2.2.1, z6.2.2.2)
def mo_call_j32 (v2 : Int32) (me : Nat → Int32) (rg : Nat → Int32) (sp : Int32) (iv : Bool) : Option ((Nat → Int32) × (Nat → Int32) × Int32 × Bool) := if (bz_i iv) = (0 : Int32) then (mo_push (4 : Int32) (5 : Int32) me rg sp).bind fun z6 => (mo_set (5 : Int32) v2 z6.2.1).bind fun z7 => some (z6.1, z7, z6.2.2, iv) else some (me, rg, sp, iv)
def mo_call (x1 : Int32) (me : Nat → Int32) (rg : Nat → Int32) (sp : Int32) (iv : Bool) : Option ((Nat → Int32) × (Nat → Int32) × Int32 × Bool) := if x1 = (0 : Int32) then (mo_fetch me rg sp).bind fun z9 => (mo_signed z9.1).bind fun z10 => mo_call_j32 ((z9.2.1 5) + z10) me z9.2.1 z9.2.2 iv else (mo_address x1 me rg sp iv).bind fun z8 => mo_call_j32 z8.1 me z8.2.1 z8.2.2.1 z8.2.2.2
def mo_upper_j240 (v1 : Int32) (v2 : Int32) (me : Nat → Int32) (rg : Nat → Int32) (sp : Int32) (iv : Bool) : Option ((Nat → Int32) × (Nat → Int32) × Int32 × Bool) := (mo_byteOp v1 v2 me rg sp iv).bind fun z23 => some (me, z23.1, z23.2.1, z23.2.2)
def mo_upper_j234 (s0 : Int32) (s1 : Int32) (me : Nat → Int32) (rg : Nat → Int32) (sp : Int32) (iv : Bool) : Option ((Nat → Int32) × (Nat → Int32) × Int32 × Bool) := (mo_save s1 s0 me rg sp iv).bind fun z24 => some (z24.1, z24.2.1, z24.2.2.1, z24.2.2.2)
def mo_upper_j215 (v2 : Int32) (s0 : Int32) (me : Nat → Int32) (rg : Nat → Int32) (sp : Int32) (iv : Bool) : Option ((Nat → Int32) × (Nat → Int32) × Int32 × Bool) := (mo_wordOp s0 v2 false me rg sp iv).bind fun z25 => some (me, z25.1, z25.2.1, z25.2.2)
def mo_upper_j176 (v2 : Int32) (v3 : Bool) (s0 : Bool) (me : Nat → Int32) (rg : Nat → Int32) (sp : Int32) (iv : Bool) : Option ((Nat → Int32) × (Nat → Int32) × Int32 × Bool) := (mo_wordOp (bz_i s0) v2 v3 me rg sp iv).bind fun z26 => some (me, z26.1, z26.2.1, z26.2.2)
def mo_upper_j160 (s0 : Int32) (s1 : Int32) (me : Nat → Int32) (rg : Nat → Int32) (sp : Int32) (iv : Bool) : Option ((Nat → Int32) × (Nat → Int32) × Int32 × Bool) := (mo_save s1 s0 me rg sp iv).bind fun z27 => some (z27.1, z27.2.1, z27.2.2.1, z27.2.2.2)
def mo_upper_j141 (s0 : Int32) (me : Nat → Int32) (rg : Nat → Int32) (sp : Int32) (iv : Bool) : Option ((Nat → Int32) × (Nat → Int32) × Int32 × Bool) := (mo_set (0 : Int32) s0 rg).bind fun z28 => some (me, z28, sp, iv)
def mo_upper_j18 (v1 : Int32) (v2 : Int32) (s0 : Bool) (me : Nat → Int32) (rg : Nat → Int32) (sp : Int32) (iv : Bool) : Option ((Nat → Int32) × (Nat → Int32) × Int32 × Bool) := if (v1 &&& (15 : Int32)) = (3 : Int32) then (mo_operand v2 true me rg sp iv).bind fun z30 => (mo_get (0 : Int32) z30.2.1).bind fun z31 => if (bz_i z30.2.2.2) = (0 : Int32) then if (bz_i s0) = (0 : Int32) then (mo_sum z31 z30.1 (0 : Int32) (16 : Int32) z30.2.1).bind fun z32 => mo_upper_j141 z32.1 me z32.2 z30.2.2.1 z30.2.2.2 else (mo_difference z31 z30.1 (0 : Int32) (16 : Int32) z30.2.1).bind fun z33 => mo_upper_j141 z33.1 me z33.2 z30.2.2.1 z30.2.2.2 else some (me, z30.2.1, z30.2.2.1, z30.2.2.2) else if (v1 &&& (15 : Int32)) = (4 : Int32) then mo_upper_j240 v1 v2 me rg sp iv else if (v1 &&& (15 : Int32)) = (5 : Int32) then mo_upper_j240 v1 v2 me rg sp iv else if (v1 &&& (15 : Int32)) = (6 : Int32) then mo_upper_j240 v1 v2 me rg sp iv else if (v1 &&& (15 : Int32)) = (7 : Int32) then if (bz_i s0) = (0 : Int32) then mo_upper_j160 (9 : Int32) v2 me rg sp iv else mo_upper_j160 (8 : Int32) v2 me rg sp iv else if (v1 &&& (15 : Int32)) = (8 : Int32) then mo_upper_j240 v1 v2 me rg sp iv else if (v1 &&& (15 : Int32)) = (9 : Int32) then mo_upper_j240 v1 v2 me rg sp iv else if (v1 &&& (15 : Int32)) = (10 : Int32) then mo_upper_j240 v1 v2 me rg sp iv else if (v1 &&& (15 : Int32)) = (11 : Int32) then mo_upper_j240 v1 v2 me rg sp iv else if (v1 &&& (15 : Int32)) = (12 : Int32) then if (bz_i s0) = (0 : Int32) then mo_upper_j176 v2 s0 false me rg sp iv else mo_upper_j176 v2 s0 true me rg sp iv else if (v1 &&& (15 : Int32)) = (13 : Int32) then if (bz_i s0) = (0 : Int32) then (mo_save v2 (0 : Int32) me rg sp iv).bind fun z44 => some (z44.1, z44.2.1, z44.2.2.1, z44.2.2.2) else (mo_call v2 me rg sp iv).bind fun z45 => some (z45.1, z45.2.1, z45.2.2.1, z45.2.2.2) else if (v1 &&& (15 : Int32)) = (14 : Int32) then if (bz_i s0) = (0 : Int32) then mo_upper_j215 v2 (3 : Int32) me rg sp iv else mo_upper_j215 v2 (1 : Int32) me rg sp iv else if (v1 &&& (15 : Int32)) = (15 : Int32) then if (bz_i s0) = (0 : Int32) then mo_upper_j234 (3 : Int32) v2 me rg sp iv else mo_upper_j234 (1 : Int32) v2 me rg sp iv else mo_upper_j240 v1 v2 me rg sp iv
def mo_upper (x1 : Int32) (me : Nat → Int32) (rg : Nat → Int32) (sp : Int32) (iv : Bool) : Option ((Nat → Int32) × (Nat → Int32) × Int32 × Bool) := if (192 : Int32) ≤ x1 then mo_upper_j18 x1 ((x1 >>> ((4 : Int32) &&& 31)) &&& (3 : Int32)) false me rg sp iv else mo_upper_j18 x1 ((x1 >>> ((4 : Int32) &&& 31)) &&& (3 : Int32)) true me rg sp iv
def mo_second_j123 (s0 : Int32) (s1 : Int32) (me : Nat → Int32) (rg : Nat → Int32) (sp : Int32) (iv : Bool) : Option ((Nat → Int32) × (Nat → Int32) × Int32 × Bool) := (mo_save s1 s0 me rg sp iv).bind fun z8 => some (z8.1, z8.2.1, z8.2.2.1, z8.2.2.2)
def mo_second_j97 (v2 : Int32) (s0 : Int32) (me : Nat → Int32) (rg : Nat → Int32) (sp : Int32) (iv : Bool) : Option ((Nat → Int32) × (Nat → Int32) × Int32 × Bool) := (mo_wordOp s0 v2 false me rg sp iv).bind fun z9 => some (me, z9.1, z9.2.1, z9.2.2)
def mo_second_j80 (v2 : Int32) (v3 : Int32) (v4 : Bool) (me : Nat → Int32) (rg : Nat → Int32) (sp : Int32) (iv : Bool) : Option ((Nat → Int32) × (Nat → Int32) × Int32 × Bool) := if v3 = (14 : Int32) then if (bz_i v4) = (0 : Int32) then mo_second_j97 v2 (4 : Int32) me rg sp iv else mo_second_j97 v2 (2 : Int32) me rg sp iv else if v3 = (15 : Int32) then if (bz_i v4) = (0 : Int32) then mo_second_j123 (4 : Int32) v2 me rg sp iv else mo_second_j123 (2 : Int32) v2 me rg sp iv else some (me, rg, sp, true)
def mo_second_j72 (v2 : Int32) (s0 : Int32) (me : Nat → Int32) (rg : Nat → Int32) (sp : Int32) (iv : Bool) : Option ((Nat → Int32) × (Nat → Int32) × Int32 × Bool) := (mo_wordOp s0 v2 true me rg sp iv).bind fun z10 => some (me, z10.1, z10.2.1, z10.2.2)
def mo_second_j61 (v2 : Int32) (v3 : Int32) (me : Nat → Int32) (rg : Nat → Int32) (sp : Int32) (iv : Bool) : Option ((Nat → Int32) × (Nat → Int32) × Int32 × Bool) := if v3 = (3 : Int32) then mo_second_j72 v2 (0 : Int32) me rg sp iv else mo_second_j72 v2 (2 : Int32) me rg sp iv
def mo_second_j28 (v1 : Int32) (v2 : Int32) (v3 : Int32) (s0 : Bool) (me : Nat → Int32) (rg : Nat → Int32) (sp : Int32) (iv : Bool) : Option ((Nat → Int32) × (Nat → Int32) × Int32 × Bool) := if (128 : Int32) ≤ v1 then if (bz_i s0) = (0 : Int32) then mo_second_j80 v2 v3 s0 me rg sp iv else if v3 = (3 : Int32) then mo_second_j61 v2 v3 me rg sp iv else if v3 = (12 : Int32) then mo_second_j61 v2 v3 me rg sp iv else mo_second_j80 v2 v3 s0 me rg sp iv else some (me, rg, sp, true)
def mo_second (me : Nat → Int32) (rg : Nat → Int32) (sp : Int32) (iv : Bool) : Option ((Nat → Int32) × (Nat → Int32) × Int32 × Bool) := (mo_fetch me rg sp).bind fun z11 => if (192 : Int32) ≤ z11.1 then mo_second_j28 z11.1 ((z11.1 >>> ((4 : Int32) &&& 31)) &&& (3 : Int32)) (z11.1 &&& (15 : Int32)) false me z11.2.1 z11.2.2 iv else mo_second_j28 z11.1 ((z11.1 >>> ((4 : Int32) &&& 31)) &&& (3 : Int32)) (z11.1 &&& (15 : Int32)) true me z11.2.1 z11.2.2 iv
def mo_changed_j342 (v4 : Int32) (s0 : Bool) (rg : Nat → Int32) : Option (Int32 × (Nat → Int32)) := (mo_mark (2 : Int32) s0 rg).bind fun z27 => some (v4, z27)
def mo_changed_j323 (v1 : Int32) (v2 : Int32) (v4 : Int32) (rg : Nat → Int32) : Option (Int32 × (Nat → Int32)) := if v1 = (12 : Int32) then if v2 = (127 : Int32) then mo_changed_j342 v4 true rg else mo_changed_j342 v4 false rg else some (v4, rg)
def mo_changed_j320 (v1 : Int32) (v2 : Int32) (v4 : Int32) (s0 : Bool) (rg : Nat → Int32) : Option (Int32 × (Nat → Int32)) := (mo_mark (2 : Int32) s0 rg).bind fun z28 => mo_changed_j323 v1 v2 v4 z28
def mo_changed_j300 (v1 : Int32) (v2 : Int32) (v4 : Int32) (rg : Nat → Int32) : Option (Int32 × (Nat → Int32)) := if v1 = (10 : Int32) then if v2 = (128 : Int32) then mo_changed_j320 v1 v2 v4 true rg else mo_changed_j320 v1 v2 v4 false rg else mo_changed_j323 v1 v2 v4 rg
def mo_changed_j297 (v1 : Int32) (v2 : Int32) (v4 : Int32) (s0 : Bool) (rg : Nat → Int32) : Option (Int32 × (Nat → Int32)) := (mo_mark (2 : Int32) s0 rg).bind fun z29 => mo_changed_j300 v1 v2 v4 z29
def mo_changed_j273 (v1 : Int32) (v2 : Int32) (v4 : Int32) (s0 : Bool) (rg : Nat → Int32) : Option (Int32 × (Nat → Int32)) := (mo_mark (1 : Int32) s0 rg).bind fun z30 => (mo_flag (8 : Int32) z30).bind fun z31 => (mo_flag (1 : Int32) z30).bind fun z32 => if (bz_i z31) = (bz_i z32) then mo_changed_j297 v1 v2 v4 false z30 else mo_changed_j297 v1 v2 v4 true z30
def mo_changed_j260 (v1 : Int32) (v2 : Int32) (v4 : Int32) (rg : Nat → Int32) : Option (Int32 × (Nat → Int32)) := if v2 ≤ (127 : Int32) then mo_changed_j273 v1 v2 v4 false rg else mo_changed_j273 v1 v2 v4 true rg
def mo_changed_j248 (v1 : Int32) (v2 : Int32) (v4 : Int32) (rg : Nat → Int32) : Option (Int32 × (Nat → Int32)) := if v1 = (8 : Int32) then mo_changed_j260 v1 v2 v4 rg else if v1 = (9 : Int32) then mo_changed_j260 v1 v2 v4 rg else mo_changed_j300 v1 v2 v4 rg
def mo_changed_j245 (v1 : Int32) (v2 : Int32) (v4 : Int32) (s0 : Bool) (rg : Nat → Int32) : Option (Int32 × (Nat → Int32)) := (mo_mark (1 : Int32) s0 rg).bind fun z33 => mo_changed_j248 v1 v2 v4 z33
def mo_changed_j220 (v1 : Int32) (v2 : Int32) (v4 : Int32) (rg : Nat → Int32) : Option (Int32 × (Nat → Int32)) := if v1 < (4 : Int32) then mo_changed_j248 v1 v2 v4 rg else if (7 : Int32) < v1 then mo_changed_j248 v1 v2 v4 rg else if (v2 &&& (1 : Int32)) = (1 : Int32) then mo_changed_j245 v1 v2 v4 true rg else mo_changed_j245 v1 v2 v4 false rg
def mo_changed_j208 (v1 : Int32) (v2 : Int32) (v4 : Int32) (rg : Nat → Int32) : Option (Int32 × (Nat → Int32)) := if v1 = (15 : Int32) then (mo_mark (1 : Int32) false rg).bind fun z34 => mo_changed_j220 v1 v2 v4 z34 else mo_changed_j220 v1 v2 v4 rg
def mo_changed_j187 (v1 : Int32) (v2 : Int32) (s0 : Int32) (rg : Nat → Int32) : Option (Int32 × (Nat → Int32)) := (mo_sign s0 (8 : Int32) rg).bind fun z35 => if v1 = (3 : Int32) then (mo_mark (1 : Int32) true z35).bind fun z36 => mo_changed_j208 v1 v2 s0 z36 else mo_changed_j208 v1 v2 s0 z35
def mo_changed_j13 (v1 : Int32) (v2 : Int32) (s0 : Bool) (rg : Nat → Int32) : Option (Int32 × (Nat → Int32)) := if v1 = (0 : Int32) then (mo_difference (0 : Int32) v2 (0 : Int32) (8 : Int32) rg).bind fun z40 => mo_changed_j187 v1 v2 z40.1 z40.2 else if v1 = (3 : Int32) then (mo_plain ((255 : Int32) - v2) (8 : Int32) rg).bind fun z39 => mo_changed_j187 v1 v2 z39.1 z39.2 else if v1 = (4 : Int32) then mo_changed_j187 v1 v2 (v2 / (2 : Int32)) rg else if v1 = (6 : Int32) then mo_changed_j187 v1 v2 ((v2 / (2 : Int32)) + ((128 : Int32) * (bz_i s0))) rg else if v1 = (7 : Int32) then mo_changed_j187 v1 v2 ((v2 / (2 : Int32)) + (v2 &&& (128 : Int32))) rg else if v1 = (8 : Int32) then mo_changed_j187 v1 v2 (((2 : Int32) * v2) &&& (255 : Int32)) rg else if v1 = (9 : Int32) then mo_changed_j187 v1 v2 ((((2 : Int32) * v2) &&& (255 : Int32)) + (bz_i s0)) rg else if v1 = (10 : Int32) then mo_changed_j187 v1 v2 ((v2 + (255 : Int32)) &&& (255 : Int32)) rg else if v1 = (12 : Int32) then mo_changed_j187 v1 v2 ((v2 + (1 : Int32)) &&& (255 : Int32)) rg else if v1 = (13 : Int32) then (mo_plain v2 (8 : Int32) rg).bind fun z38 => mo_changed_j187 v1 v2 z38.1 z38.2 else (mo_plain (0 : Int32) (8 : Int32) rg).bind fun z37 => mo_changed_j187 v1 v2 z37.1 z37.2
def mo_changed (x1 : Int32) (x2 : Int32) (rg : Nat → Int32) : Option (Int32 × (Nat → Int32)) := (mo_flag (1 : Int32) rg).bind fun z41 => if (bz_i z41) = (0 : Int32) then mo_changed_j13 x1 x2 false rg else mo_changed_j13 x1 x2 true rg
def mo_lower_j187 (v2 : Int32) (v6 : Int32) (s0 : Int32) (me : Nat → Int32) (rg : Nat → Int32) (sp : Int32) (iv : Bool) : Option ((Nat → Int32) × (Nat → Int32) × Int32 × Bool) := (mo_changed v2 s0 rg).bind fun z18 => if v2 = (13 : Int32) then some (me, z18.2, sp, iv) else (mo_store v6 z18.1 false me sp).bind fun z19 => some (z19.1, z18.2, z19.2, iv)
def mo_lower_j143 (v2 : Int32) (s0 : Int32) (me : Nat → Int32) (rg : Nat → Int32) (sp : Int32) (iv : Bool) : Option ((Nat → Int32) × (Nat → Int32) × Int32 × Bool) := (mo_address s0 me rg sp iv).bind fun z20 => if (bz_i z20.2.2.2) = (0 : Int32) then if v2 = (14 : Int32) then (mo_set (5 : Int32) z20.1 z20.2.1).bind fun z22 => some (me, z22, z20.2.2.1, z20.2.2.2) else if v2 = (15 : Int32) then mo_lower_j187 v2 z20.1 (0 : Int32) me z20.2.1 z20.2.2.1 z20.2.2.2 else (mo_load z20.1 false me z20.2.2.1).bind fun z21 => mo_lower_j187 v2 z20.1 z21.1 me z20.2.1 z21.2 z20.2.2.2 else some (me, z20.2.1, z20.2.2.1, z20.2.2.2)
def mo_lower_j87 (v2 : Int32) (v3 : Int32) (v4 : Bool) (s0 : Int32) (me : Nat → Int32) (rg : Nat → Int32) (sp : Int32) (iv : Bool) : Option ((Nat → Int32) × (Nat → Int32) × Int32 × Bool) := if (bz_i v4) = (0 : Int32) then if v3 = (0 : Int32) then mo_lower_j143 v2 (1 : Int32) me rg sp iv else if v3 = (6 : Int32) then mo_lower_j143 v2 (2 : Int32) me rg sp iv else mo_lower_j143 v2 (3 : Int32) me rg sp iv else if in_b s0 12 = true then (mo_changed v2 (rg (s0.toNatClampNeg)) rg).bind fun z24 => if v2 = (13 : Int32) then some (me, z24.2, sp, iv) else (mo_set s0 z24.1 z24.2).bind fun z25 => some (me, z25, sp, iv) else none
def mo_lower_j64 (v2 : Int32) (v3 : Int32) (v4 : Bool) (s0 : Bool) (me : Nat → Int32) (rg : Nat → Int32) (sp : Int32) (iv : Bool) : Option ((Nat → Int32) × (Nat → Int32) × Int32 × Bool) := if (bz_i s0) = (0 : Int32) then if v3 = (4 : Int32) then mo_lower_j87 v2 v3 v4 (8 : Int32) me rg sp s0 else mo_lower_j87 v2 v3 v4 (9 : Int32) me rg sp s0 else some (me, rg, sp, s0)
def mo_lower_j63 (v2 : Int32) (v3 : Int32) (v4 : Bool) (me : Nat → Int32) (rg : Nat → Int32) (sp : Int32) (iv : Bool) : Option ((Nat → Int32) × (Nat → Int32) × Int32 × Bool) := mo_lower_j64 v2 v3 v4 false me rg sp iv
def mo_lower_j59 (v2 : Int32) (v3 : Int32) (v4 : Bool) (me : Nat → Int32) (rg : Nat → Int32) (sp : Int32) (iv : Bool) : Option ((Nat → Int32) × (Nat → Int32) × Int32 × Bool) := mo_lower_j64 v2 v3 v4 true me rg sp iv
def mo_lower_j24 (v2 : Int32) (v3 : Int32) (s0 : Bool) (me : Nat → Int32) (rg : Nat → Int32) (sp : Int32) (iv : Bool) : Option ((Nat → Int32) × (Nat → Int32) × Int32 × Bool) := if v2 = (1 : Int32) then mo_lower_j59 v2 v3 s0 me rg sp iv else if v2 = (2 : Int32) then mo_lower_j59 v2 v3 s0 me rg sp iv else if v2 = (5 : Int32) then mo_lower_j59 v2 v3 s0 me rg sp iv else if v2 = (11 : Int32) then mo_lower_j59 v2 v3 s0 me rg sp iv else if v2 = (14 : Int32) then if (bz_i s0) = (0 : Int32) then mo_lower_j63 v2 v3 s0 me rg sp iv else mo_lower_j59 v2 v3 s0 me rg sp iv else mo_lower_j63 v2 v3 s0 me rg sp iv
def mo_lower_j19 (v2 : Int32) (v3 : Int32) (me : Nat → Int32) (rg : Nat → Int32) (sp : Int32) (iv : Bool) : Option ((Nat → Int32) × (Nat → Int32) × Int32 × Bool) := mo_lower_j24 v2 v3 true me rg sp iv
def mo_lower (x1 : Int32) (me : Nat → Int32) (rg : Nat → Int32) (sp : Int32) (iv : Bool) : Option ((Nat → Int32) × (Nat → Int32) × Int32 × Bool) := if (x1 >>> ((4 : Int32) &&& 31)) = (4 : Int32) then mo_lower_j19 (x1 &&& (15 : Int32)) (x1 >>> ((4 : Int32) &&& 31)) me rg sp iv else if (x1 >>> ((4 : Int32) &&& 31)) = (5 : Int32) then mo_lower_j19 (x1 &&& (15 : Int32)) (x1 >>> ((4 : Int32) &&& 31)) me rg sp iv else mo_lower_j24 (x1 &&& (15 : Int32)) (x1 >>> ((4 : Int32) &&& 31)) false me rg sp iv
def mo_holds_j114 (rg : Nat → Int32) : Option (Bool) := some true
def mo_holds_j98 (v1 : Int32) (v2 : Bool) (v3 : Bool) (v4 : Bool) (rg : Nat → Int32) : Option (Bool) := if v1 = (14 : Int32) then if (bz_i v2) = (bz_i v4) then if (bz_i v3) = (0 : Int32) then mo_holds_j114 rg else some false else some false else some false
def mo_holds_j86 (v1 : Int32) (v2 : Bool) (v3 : Bool) (v4 : Bool) (rg : Nat → Int32) : Option (Bool) := if v1 = (12 : Int32) then if (bz_i v2) = (bz_i v4) then mo_holds_j114 rg else mo_holds_j98 v1 v2 v3 v4 rg else mo_holds_j98 v1 v2 v3 v4 rg
def mo_holds_j76 (v1 : Int32) (v2 : Bool) (v3 : Bool) (v4 : Bool) (rg : Nat → Int32) : Option (Bool) := if v1 = (10 : Int32) then if (bz_i v2) = (0 : Int32) then mo_holds_j114 rg else mo_holds_j86 v1 v2 v3 v4 rg else mo_holds_j86 v1 v2 v3 v4 rg
def mo_holds_j65 (v1 : Int32) (v2 : Bool) (v3 : Bool) (v4 : Bool) (rg : Nat → Int32) : Option (Bool) := if v1 = (8 : Int32) then if (bz_i v4) = (0 : Int32) then mo_holds_j114 rg else mo_holds_j76 v1 v2 v3 v4 rg else mo_holds_j76 v1 v2 v3 v4 rg
def mo_holds_j55 (v1 : Int32) (v2 : Bool) (v3 : Bool) (v4 : Bool) (rg : Nat → Int32) : Option (Bool) := if v1 = (6 : Int32) then if (bz_i v3) = (0 : Int32) then mo_holds_j114 rg else mo_holds_j65 v1 v2 v3 v4 rg else mo_holds_j65 v1 v2 v3 v4 rg
def mo_holds_j45 (v1 : Int32) (v2 : Bool) (v3 : Bool) (v4 : Bool) (v5 : Bool) (rg : Nat → Int32) : Option (Bool) := if v1 = (4 : Int32) then if (bz_i v5) = (0 : Int32) then mo_holds_j114 rg else mo_holds_j55 v1 v2 v3 v4 rg else mo_holds_j55 v1 v2 v3 v4 rg
def mo_holds (x1 : Int32) (rg : Nat → Int32) : Option (Bool) := (mo_flag (8 : Int32) rg).bind fun z5 => (mo_flag (4 : Int32) rg).bind fun z6 => (mo_flag (2 : Int32) rg).bind fun z7 => (mo_flag (1 : Int32) rg).bind fun z8 => if x1 = (0 : Int32) then mo_holds_j114 rg else if x1 = (2 : Int32) then if (bz_i z8) = (0 : Int32) then if (bz_i z6) = (0 : Int32) then mo_holds_j114 rg else mo_holds_j45 x1 z5 z6 z7 z8 rg else mo_holds_j45 x1 z5 z6 z7 z8 rg else mo_holds_j45 x1 z5 z6 z7 z8 rg
def mo_branch_j40 (v2 : Int32) (s0 : Bool) (me : Nat → Int32) (rg : Nat → Int32) (sp : Int32) : Option ((Nat → Int32) × Int32) := if (bz_i s0) = (0 : Int32) then some (rg, sp) else (mo_set (5 : Int32) ((rg 5) + v2) rg).bind fun z6 => some (z6, sp)
def mo_branch_j32 (v2 : Int32) (s0 : Bool) (s1 : Bool) (me : Nat → Int32) (rg : Nat → Int32) (sp : Int32) : Option ((Nat → Int32) × Int32) := if (bz_i s1) = (bz_i s0) then mo_branch_j40 v2 true me rg sp else mo_branch_j40 v2 false me rg sp
def mo_branch (x1 : Int32) (me : Nat → Int32) (rg : Nat → Int32) (sp : Int32) : Option ((Nat → Int32) × Int32) := (mo_fetch me rg sp).bind fun z7 => (mo_signed z7.1).bind fun z8 => (mo_holds ((x1 &&& (15 : Int32)) &&& (14 : Int32)) z7.2.1).bind fun z9 => if ((x1 &&& (15 : Int32)) - (x1 &&& (15 : Int32)) / (2 : Int32) * (2 : Int32)) = (0 : Int32) then mo_branch_j32 z8 true z9 me z7.2.1 z7.2.2 else mo_branch_j32 z8 false z9 me z7.2.1 z7.2.2
def mo_trade_j86 (v1 : Int32) (v3 : Int32) (v4 : Int32) (s0 : Bool) (me : Nat → Int32) (rg : Nat → Int32) (sp : Int32) (iv : Bool) : Option ((Nat → Int32) × Int32 × Bool) := if (bz_i s0) = (0 : Int32) then (mo_get v3 rg).bind fun z10 => (mo_get v4 rg).bind fun z11 => (mo_set v4 z10 rg).bind fun z12 => if v1 = (30 : Int32) then (mo_set v3 z11 z12).bind fun z13 => some (z13, sp, s0) else some (z12, sp, s0) else some (rg, sp, s0)
def mo_trade_j81 (v1 : Int32) (v3 : Int32) (v4 : Int32) (me : Nat → Int32) (rg : Nat → Int32) (sp : Int32) (iv : Bool) : Option ((Nat → Int32) × Int32 × Bool) := mo_trade_j86 v1 v3 v4 true me rg sp iv
def mo_trade_j78 (v1 : Int32) (v3 : Int32) (v4 : Int32) (s0 : Bool) (s1 : Bool) (me : Nat → Int32) (rg : Nat → Int32) (sp : Int32) (iv : Bool) : Option ((Nat → Int32) × Int32 × Bool) := if (bz_i s1) = (bz_i s0) then mo_trade_j86 v1 v3 v4 false me rg sp iv else mo_trade_j81 v1 v3 v4 me rg sp iv
def mo_trade_j66 (v1 : Int32) (v3 : Int32) (v4 : Int32) (s0 : Bool) (me : Nat → Int32) (rg : Nat → Int32) (sp : Int32) (iv : Bool) : Option ((Nat → Int32) × Int32 × Bool) := if (8 : Int32) ≤ v4 then mo_trade_j78 v1 v3 v4 false s0 me rg sp iv else mo_trade_j78 v1 v3 v4 true s0 me rg sp iv
def mo_trade (x1 : Int32) (me : Nat → Int32) (rg : Nat → Int32) (sp : Int32) (iv : Bool) : Option ((Nat → Int32) × Int32 × Bool) := (mo_fetch me rg sp).bind fun z14 => if (z14.1 >>> ((4 : Int32) &&& 31)) = (6 : Int32) then mo_trade_j81 x1 (z14.1 >>> ((4 : Int32) &&& 31)) (z14.1 &&& (15 : Int32)) me z14.2.1 z14.2.2 iv else if (z14.1 >>> ((4 : Int32) &&& 31)) = (7 : Int32) then mo_trade_j81 x1 (z14.1 >>> ((4 : Int32) &&& 31)) (z14.1 &&& (15 : Int32)) me z14.2.1 z14.2.2 iv else if (11 : Int32) < (z14.1 >>> ((4 : Int32) &&& 31)) then mo_trade_j81 x1 (z14.1 >>> ((4 : Int32) &&& 31)) (z14.1 &&& (15 : Int32)) me z14.2.1 z14.2.2 iv else if (z14.1 &&& (15 : Int32)) = (6 : Int32) then mo_trade_j81 x1 (z14.1 >>> ((4 : Int32) &&& 31)) (z14.1 &&& (15 : Int32)) me z14.2.1 z14.2.2 iv else if (z14.1 &&& (15 : Int32)) = (7 : Int32) then mo_trade_j81 x1 (z14.1 >>> ((4 : Int32) &&& 31)) (z14.1 &&& (15 : Int32)) me z14.2.1 z14.2.2 iv else if (11 : Int32) < (z14.1 &&& (15 : Int32)) then mo_trade_j81 x1 (z14.1 >>> ((4 : Int32) &&& 31)) (z14.1 &&& (15 : Int32)) me z14.2.1 z14.2.2 iv else if (8 : Int32) ≤ (z14.1 >>> ((4 : Int32) &&& 31)) then mo_trade_j66 x1 (z14.1 >>> ((4 : Int32) &&& 31)) (z14.1 &&& (15 : Int32)) false me z14.2.1 z14.2.2 iv else mo_trade_j66 x1 (z14.1 >>> ((4 : Int32) &&& 31)) (z14.1 &&& (15 : Int32)) true me z14.2.1 z14.2.2 iv
def mo_listed (x1 : Int32) (x2 : Int32) : Option (Int32) := if x1 = (0 : Int32) then some (10 : Int32) else if x1 = (1 : Int32) then some (8 : Int32) else if x1 = (2 : Int32) then some (9 : Int32) else if x1 = (3 : Int32) then some (11 : Int32) else if x1 = (4 : Int32) then some (1 : Int32) else if x1 = (5 : Int32) then some (2 : Int32) else if x1 = (7 : Int32) then some (5 : Int32) else if x2 = (4 : Int32) then some (3 : Int32) else some (4 : Int32)
def mo_many_j97 (rec_ : Int32 → Int32 → Int32 → Int32 → (Nat → Int32) → (Nat → Int32) → Int32 → Option ((Nat → Int32) × (Nat → Int32) × Int32)) (v1 : Int32) (v2 : Int32) (v3 : Int32) (v4 : Int32) (me : Nat → Int32) (rg : Nat → Int32) (sp : Int32) : Option ((Nat → Int32) × (Nat → Int32) × Int32) := rec_ v1 v2 v3 (v4 + Int32.ofInt 1) me rg sp
def mo_many_l62 : Nat → Int32 → Int32 → Int32 → Int32 → (Nat → Int32) → (Nat → Int32) → Int32 → Option ((Nat → Int32) × (Nat → Int32) × Int32)
  | 0, _, _, _, _, _, _, _ => none
  | n_ + 1, v1, v2, v3, v4, me, rg, sp => if (8 : Int32) ≤ v4 then some (me, rg, sp) else if (v1 - v1 / (2 : Int32) * (2 : Int32)) = (1 : Int32) then if ((v2 >>> (v4 &&& 31)) &&& (1 : Int32)) = (1 : Int32) then (mo_listed v4 v3).bind fun z10 => (mo_pull v3 z10 me rg sp).bind fun z11 => mo_many_j97 (mo_many_l62 n_) v1 v2 v3 v4 me z11.1 z11.2 else mo_many_j97 (mo_many_l62 n_) v1 v2 v3 v4 me rg sp else some (me, rg, sp)
theorem mo_many_l62_s (n_ : Nat) (v1 : Int32) (v2 : Int32) (v3 : Int32) (v4 : Int32) (me : Nat → Int32) (rg : Nat → Int32) (sp : Int32) : mo_many_l62 (n_ + 1) v1 v2 v3 v4 me rg sp = (if (8 : Int32) ≤ v4 then some (me, rg, sp) else if (v1 - v1 / (2 : Int32) * (2 : Int32)) = (1 : Int32) then if ((v2 >>> (v4 &&& 31)) &&& (1 : Int32)) = (1 : Int32) then (mo_listed v4 v3).bind fun z10 => (mo_pull v3 z10 me rg sp).bind fun z11 => mo_many_j97 (mo_many_l62 n_) v1 v2 v3 v4 me z11.1 z11.2 else mo_many_j97 (mo_many_l62 n_) v1 v2 v3 v4 me rg sp else some (me, rg, sp)) := rfl
def mo_many_j59 (v1 : Int32) (v2 : Int32) (v3 : Int32) (me : Nat → Int32) (rg : Nat → Int32) (sp : Int32) : Option ((Nat → Int32) × (Nat → Int32) × Int32) := mo_many_l62 9 v1 v2 v3 (0 : Int32) me rg sp
def mo_many_j53 (rec_ : Int32 → Int32 → Int32 → Int32 → (Nat → Int32) → (Nat → Int32) → Int32 → Option ((Nat → Int32) × (Nat → Int32) × Int32)) (v1 : Int32) (v2 : Int32) (v3 : Int32) (v4 : Int32) (me : Nat → Int32) (rg : Nat → Int32) (sp : Int32) : Option ((Nat → Int32) × (Nat → Int32) × Int32) := rec_ v1 v2 v3 (v4 + Int32.ofInt (-1)) me rg sp
def mo_many_l21 : Nat → Int32 → Int32 → Int32 → Int32 → (Nat → Int32) → (Nat → Int32) → Int32 → Option ((Nat → Int32) × (Nat → Int32) × Int32)
  | 0, _, _, _, _, _, _, _ => none
  | n_ + 1, v1, v2, v3, v4, me, rg, sp => if v4 < (0 : Int32) then mo_many_j59 v1 v2 v3 me rg sp else if (v1 - v1 / (2 : Int32) * (2 : Int32)) = (0 : Int32) then if ((v2 >>> (v4 &&& 31)) &&& (1 : Int32)) = (1 : Int32) then (mo_listed v4 v3).bind fun z12 => (mo_push v3 z12 me rg sp).bind fun z13 => mo_many_j53 (mo_many_l21 n_) v1 v2 v3 v4 z13.1 z13.2.1 z13.2.2 else mo_many_j53 (mo_many_l21 n_) v1 v2 v3 v4 me rg sp else mo_many_j59 v1 v2 v3 me rg sp
theorem mo_many_l21_s (n_ : Nat) (v1 : Int32) (v2 : Int32) (v3 : Int32) (v4 : Int32) (me : Nat → Int32) (rg : Nat → Int32) (sp : Int32) : mo_many_l21 (n_ + 1) v1 v2 v3 v4 me rg sp = (if v4 < (0 : Int32) then mo_many_j59 v1 v2 v3 me rg sp else if (v1 - v1 / (2 : Int32) * (2 : Int32)) = (0 : Int32) then if ((v2 >>> (v4 &&& 31)) &&& (1 : Int32)) = (1 : Int32) then (mo_listed v4 v3).bind fun z12 => (mo_push v3 z12 me rg sp).bind fun z13 => mo_many_j53 (mo_many_l21 n_) v1 v2 v3 v4 z13.1 z13.2.1 z13.2.2 else mo_many_j53 (mo_many_l21 n_) v1 v2 v3 v4 me rg sp else mo_many_j59 v1 v2 v3 me rg sp) := rfl
def mo_many_j16 (v1 : Int32) (v2 : Int32) (s0 : Int32) (me : Nat → Int32) (rg : Nat → Int32) (sp : Int32) : Option ((Nat → Int32) × (Nat → Int32) × Int32) := mo_many_l21 9 v1 v2 s0 (7 : Int32) me rg sp
def mo_many (x1 : Int32) (me : Nat → Int32) (rg : Nat → Int32) (sp : Int32) : Option ((Nat → Int32) × (Nat → Int32) × Int32) := (mo_fetch me rg sp).bind fun z14 => if (54 : Int32) ≤ x1 then mo_many_j16 x1 z14.1 (3 : Int32) me z14.2.1 z14.2.2 else mo_many_j16 x1 z14.1 (4 : Int32) me z14.2.1 z14.2.2
def mo_framed (x1 : Int32) : Option (Int32) := if x1 = (0 : Int32) then some (10 : Int32) else if x1 = (1 : Int32) then some (8 : Int32) else if x1 = (2 : Int32) then some (9 : Int32) else if x1 = (3 : Int32) then some (11 : Int32) else if x1 = (4 : Int32) then some (1 : Int32) else if x1 = (5 : Int32) then some (2 : Int32) else if x1 = (6 : Int32) then some (3 : Int32) else some (5 : Int32)
def mo_stack_l16 : Nat → Int32 → Int32 → (Nat → Int32) → (Nat → Int32) → (Nat → Int32) → Int32 → Int32 → Option ((Nat → Int32) × (Nat → Int32) × (Nat → Int32) × Int32 × Int32)
  | 0, _, _, _, _, _, _, _ => none
  | n_ + 1, v1, v2, me, rg, sv, ru, sp => if v2 < (0 : Int32) then if in_b ru 4 = true then some (me, rg, (upd sv (ru.toNatClampNeg) (rg 4)), (-1 : Int32), v1) else none else (mo_framed v2).bind fun z9 => (mo_push (4 : Int32) z9 me rg sp).bind fun z10 => mo_stack_l16 n_ v1 (v2 + Int32.ofInt (-1)) z10.1 z10.2.1 sv ru z10.2.2
theorem mo_stack_l16_s (n_ : Nat) (v1 : Int32) (v2 : Int32) (me : Nat → Int32) (rg : Nat → Int32) (sv : Nat → Int32) (ru : Int32) (sp : Int32) : mo_stack_l16 (n_ + 1) v1 v2 me rg sv ru sp = (if v2 < (0 : Int32) then if in_b ru 4 = true then some (me, rg, (upd sv (ru.toNatClampNeg) (rg 4)), (-1 : Int32), v1) else none else (mo_framed v2).bind fun z9 => (mo_push (4 : Int32) z9 me rg sp).bind fun z10 => mo_stack_l16 n_ v1 (v2 + Int32.ofInt (-1)) z10.1 z10.2.1 sv ru z10.2.2) := rfl
def mo_stack (me : Nat → Int32) (rg : Nat → Int32) (sv : Nat → Int32) (ru : Int32) (sp : Int32) : Option ((Nat → Int32) × (Nat → Int32) × (Nat → Int32) × Int32 × Int32) := (mo_mark (128 : Int32) true rg).bind fun z11 => mo_stack_l16 9 sp (7 : Int32) me z11 sv ru sp
def mo_leave_j37 (rec_ : Int32 → Int32 → Int32 → (Nat → Int32) → Int32 → Option ((Nat → Int32) × Int32)) (v1 : Int32) (v2 : Int32) (v3 : Int32) (qu : Nat → Int32) (wa : Int32) : Option ((Nat → Int32) × Int32) := rec_ v1 v2 (v3 + Int32.ofInt 1) qu wa
def mo_leave_l4 : Nat → Int32 → Int32 → Int32 → (Nat → Int32) → Int32 → Option ((Nat → Int32) × Int32)
  | 0, _, _, _, _, _ => none
  | n_ + 1, v1, v2, v3, qu, wa => if wa ≤ v3 then some (qu, v2) else if in_b v3 4 = true then if (qu (v3.toNatClampNeg)) = v1 then mo_leave_j37 (mo_leave_l4 n_) v1 v2 v3 qu wa else if in_b v2 4 = true then mo_leave_j37 (mo_leave_l4 n_) v1 (v2 + Int32.ofInt 1) v3 (upd qu (v2.toNatClampNeg) (qu (v3.toNatClampNeg))) wa else none else none
theorem mo_leave_l4_s (n_ : Nat) (v1 : Int32) (v2 : Int32) (v3 : Int32) (qu : Nat → Int32) (wa : Int32) : mo_leave_l4 (n_ + 1) v1 v2 v3 qu wa = (if wa ≤ v3 then some (qu, v2) else if in_b v3 4 = true then if (qu (v3.toNatClampNeg)) = v1 then mo_leave_j37 (mo_leave_l4 n_) v1 v2 v3 qu wa else if in_b v2 4 = true then mo_leave_j37 (mo_leave_l4 n_) v1 (v2 + Int32.ofInt 1) v3 (upd qu (v2.toNatClampNeg) (qu (v3.toNatClampNeg))) wa else none else none) := rfl
def mo_leave (x1 : Int32) (qu : Nat → Int32) (wa : Int32) : Option ((Nat → Int32) × Int32) := mo_leave_l4 5 x1 (0 : Int32) (0 : Int32) qu wa
def mo_take_l19 : Nat → Int32 → Int32 → Int32 → (Nat → Int32) → (Nat → Int32) → (Nat → Int32) → (Nat → Int32) → Int32 → Int32 → Option ((Nat → Int32) × (Nat → Int32) × Int32 × Int32)
  | 0, _, _, _, _, _, _, _, _, _ => none
  | n_ + 1, v1, v2, v3, me, rg, so, sv, ru, sp => if (8 : Int32) ≤ v3 then if in_b v1 4 = true then some (rg, (upd so (v1.toNatClampNeg) (1 : Int32)), v1, v2) else none else (mo_framed v3).bind fun z9 => (mo_pull (4 : Int32) z9 me rg sp).bind fun z10 => mo_take_l19 n_ v1 v2 (v3 + Int32.ofInt 1) me z10.1 so sv ru z10.2
theorem mo_take_l19_s (n_ : Nat) (v1 : Int32) (v2 : Int32) (v3 : Int32) (me : Nat → Int32) (rg : Nat → Int32) (so : Nat → Int32) (sv : Nat → Int32) (ru : Int32) (sp : Int32) : mo_take_l19 (n_ + 1) v1 v2 v3 me rg so sv ru sp = (if (8 : Int32) ≤ v3 then if in_b v1 4 = true then some (rg, (upd so (v1.toNatClampNeg) (1 : Int32)), v1, v2) else none else (mo_framed v3).bind fun z9 => (mo_pull (4 : Int32) z9 me rg sp).bind fun z10 => mo_take_l19 n_ v1 v2 (v3 + Int32.ofInt 1) me z10.1 so sv ru z10.2) := rfl
def mo_take (x1 : Int32) (me : Nat → Int32) (rg : Nat → Int32) (so : Nat → Int32) (sv : Nat → Int32) (ru : Int32) (sp : Int32) : Option ((Nat → Int32) × (Nat → Int32) × Int32 × Int32) := if in_b x1 4 = true then mo_take_l19 9 x1 sp (0 : Int32) me (upd rg 4 (sv (x1.toNatClampNeg))) so sv ru sp else none
def mo_next (me : Nat → Int32) (rg : Nat → Int32) (so : Nat → Int32) (sv : Nat → Int32) (qu : Nat → Int32) (wa : Int32) (ru : Int32) (sp : Int32) : Option ((Nat → Int32) × (Nat → Int32) × (Nat → Int32) × Int32 × Int32 × Int32) := if (0 : Int32) ≤ ru then some (rg, so, qu, wa, ru, sp) else if wa = (0 : Int32) then some (rg, so, qu, wa, ru, sp) else (mo_leave (qu 0) qu wa).bind fun z3 => (mo_take (qu 0) me rg so sv ru sp).bind fun z4 => some (z4.1, z4.2.1, z3.1, z3.2, z4.2.2.1, z4.2.2.2)
def mo_end_j43 (s0 : Int32) (me : Nat → Int32) (rg : Nat → Int32) (so : Nat → Int32) (sv : Nat → Int32) (tl : Nat → Int32) (su : Nat → Int32) (qu : Nat → Int32) (wa : Int32) (ru : Int32) (sp : Int32) : Option ((Nat → Int32) × (Nat → Int32) × (Nat → Int32) × (Nat → Int32) × (Nat → Int32) × Int32 × Int32 × Int32) := (mo_next me rg so sv qu wa s0 sp).bind fun z4 => some (z4.1, z4.2.1, tl, su, z4.2.2.1, z4.2.2.2.1, z4.2.2.2.2.1, z4.2.2.2.2.2)
def mo_end (x1 : Int32) (x2 : Int32) (me : Nat → Int32) (rg : Nat → Int32) (so : Nat → Int32) (sv : Nat → Int32) (tl : Nat → Int32) (su : Nat → Int32) (qu : Nat → Int32) (wa : Int32) (ru : Int32) (sp : Int32) : Option ((Nat → Int32) × (Nat → Int32) × (Nat → Int32) × (Nat → Int32) × (Nat → Int32) × Int32 × Int32 × Int32) := (mo_leave x1 qu wa).bind fun z5 => if in_b x1 4 = true then if ru = x1 then mo_end_j43 (-1 : Int32) me rg (upd so (x1.toNatClampNeg) (0 : Int32)) sv (upd tl (x1.toNatClampNeg) (0 : Int32)) (upd su (x1.toNatClampNeg) x2) z5.1 z5.2 ru sp else mo_end_j43 ru me rg (upd so (x1.toNatClampNeg) (0 : Int32)) sv (upd tl (x1.toNatClampNeg) (0 : Int32)) (upd su (x1.toNatClampNeg) x2) z5.1 z5.2 ru sp else none
def mo_comeLast (x1 : Int32) (so : Nat → Int32) (qu : Nat → Int32) (wa : Int32) : Option ((Nat → Int32) × (Nat → Int32) × Int32) := if in_b x1 4 = true then if in_b wa 4 = true then some ((upd so (x1.toNatClampNeg) (2 : Int32)), (upd qu (wa.toNatClampNeg) x1), (wa + (1 : Int32))) else none else none
def mo_answer_j56 (s0 : Int32) (s1 : Int32) (me : Nat → Int32) (sv : Nat → Int32) : Option ((Nat → Int32)) := (mo_put s1 s0 me).bind fun z7 => some z7
def mo_answer_j22 (v3 : Int32) (v4 : Bool) (v5 : Int32) (s0 : Int32) (s1 : Int32) (me : Nat → Int32) (sv : Nat → Int32) : Option ((Nat → Int32)) := (mo_put (s1 + s0) v3 me).bind fun z8 => (mo_at v5 z8).bind fun z9 => if (bz_i v4) = (0 : Int32) then mo_answer_j56 (z9 &&& (254 : Int32)) v5 z8 sv else mo_answer_j56 (z9 ||| (1 : Int32)) v5 z8 sv
def mo_answer (x1 : Int32) (x2 : Int32) (x3 : Int32) (x4 : Bool) (me : Nat → Int32) (sv : Nat → Int32) : Option ((Nat → Int32)) := if in_b x1 4 = true then if x2 = (8 : Int32) then mo_answer_j22 x3 x4 (sv (x1.toNatClampNeg)) (1 : Int32) (sv (x1.toNatClampNeg)) me sv else mo_answer_j22 x3 x4 (sv (x1.toNatClampNeg)) (2 : Int32) (sv (x1.toNatClampNeg)) me sv else none
def mo_begin_l13 : Nat → Int32 → Int32 → Int32 → Int32 → Int32 → (Nat → Int32) → (Nat → Int32) → (Nat → Int32) → (Nat → Int32) → Int32 → Option ((Nat → Int32) × (Nat → Int32) × (Nat → Int32) × (Nat → Int32) × Int32)
  | 0, _, _, _, _, _, _, _, _, _, _ => none
  | n_ + 1, v1, v2, v3, v4, v5, me, so, sv, qu, wa => if (12 : Int32) ≤ v5 then (mo_put v4 (128 : Int32) me).bind fun z15 => (mo_put (v4 + (1 : Int32)) v3 z15).bind fun z16 => (mo_put (v4 + (10 : Int32)) (v2 >>> ((8 : Int32) &&& 31)) z16).bind fun z17 => (mo_put (v4 + (11 : Int32)) v2 z17).bind fun z18 => if in_b v1 4 = true then (mo_comeLast v1 so qu wa).bind fun z20 => some (z18, z20.1, (upd sv (v1.toNatClampNeg) v4), z20.2.1, z20.2.2) else none else (mo_put (v4 + v5) (0 : Int32) me).bind fun z21 => mo_begin_l13 n_ v1 v2 v3 v4 (v5 + Int32.ofInt 1) z21 so sv qu wa
theorem mo_begin_l13_s (n_ : Nat) (v1 : Int32) (v2 : Int32) (v3 : Int32) (v4 : Int32) (v5 : Int32) (me : Nat → Int32) (so : Nat → Int32) (sv : Nat → Int32) (qu : Nat → Int32) (wa : Int32) : mo_begin_l13 (n_ + 1) v1 v2 v3 v4 v5 me so sv qu wa = (if (12 : Int32) ≤ v5 then (mo_put v4 (128 : Int32) me).bind fun z15 => (mo_put (v4 + (1 : Int32)) v3 z15).bind fun z16 => (mo_put (v4 + (10 : Int32)) (v2 >>> ((8 : Int32) &&& 31)) z16).bind fun z17 => (mo_put (v4 + (11 : Int32)) v2 z17).bind fun z18 => if in_b v1 4 = true then (mo_comeLast v1 so qu wa).bind fun z20 => some (z18, z20.1, (upd sv (v1.toNatClampNeg) v4), z20.2.1, z20.2.2) else none else (mo_put (v4 + v5) (0 : Int32) me).bind fun z21 => mo_begin_l13 n_ v1 v2 v3 v4 (v5 + Int32.ofInt 1) z21 so sv qu wa) := rfl
def mo_begin (x1 : Int32) (x2 : Int32) (x3 : Int32) (me : Nat → Int32) (so : Nat → Int32) (sv : Nat → Int32) (qu : Nat → Int32) (wa : Int32) : Option ((Nat → Int32) × (Nat → Int32) × (Nat → Int32) × (Nat → Int32) × Int32) := mo_begin_l13 13 x1 x2 x3 (((128 : Int32) * x1) + (116 : Int32)) (0 : Int32) me so sv qu wa
def mo_kernel_j228 (v2 : Int32) (me : Nat → Int32) (rg : Nat → Int32) (so : Nat → Int32) (sv : Nat → Int32) (tl : Nat → Int32) (su : Nat → Int32) (qu : Nat → Int32) (wa : Int32) (ru : Int32) (sp : Int32) : Option ((Nat → Int32) × (Nat → Int32) × (Nat → Int32) × (Nat → Int32) × (Nat → Int32) × (Nat → Int32) × (Nat → Int32) × Int32 × Int32 × Int32) := (mo_take v2 me rg so sv ru sp).bind fun z21 => some (me, z21.1, z21.2.1, sv, tl, su, qu, wa, z21.2.2.1, z21.2.2.2)
def mo_kernel_j224 (v2 : Int32) (s0 : Int32) (s2 : Int32) (me : Nat → Int32) (rg : Nat → Int32) (so : Nat → Int32) (sv : Nat → Int32) (tl : Nat → Int32) (su : Nat → Int32) (qu : Nat → Int32) (wa : Int32) (ru : Int32) (sp : Int32) : Option ((Nat → Int32) × (Nat → Int32) × (Nat → Int32) × (Nat → Int32) × (Nat → Int32) × (Nat → Int32) × (Nat → Int32) × Int32 × Int32 × Int32) := (mo_answer s2 (9 : Int32) s0 true me sv).bind fun z22 => mo_kernel_j228 v2 z22 rg so sv tl su qu wa ru sp
def mo_kernel_j210 (v1 : Int32) (v2 : Int32) (me : Nat → Int32) (rg : Nat → Int32) (so : Nat → Int32) (sv : Nat → Int32) (tl : Nat → Int32) (su : Nat → Int32) (qu : Nat → Int32) (wa : Int32) (ru : Int32) (sp : Int32) : Option ((Nat → Int32) × (Nat → Int32) × (Nat → Int32) × (Nat → Int32) × (Nat → Int32) × (Nat → Int32) × (Nat → Int32) × Int32 × Int32 × Int32) := if v1 = (1 : Int32) then mo_kernel_j224 v2 (1 : Int32) v2 me rg so sv tl su qu wa ru sp else mo_kernel_j224 v2 (2 : Int32) v2 me rg so sv tl su qu wa ru sp
def mo_kernel_l142 : Nat → Int32 → Int32 → Int32 → Int32 → Int32 → (Nat → Int32) → (Nat → Int32) → (Nat → Int32) → (Nat → Int32) → (Nat → Int32) → (Nat → Int32) → (Nat → Int32) → Int32 → Int32 → Int32 → Option ((Nat → Int32) × (Nat → Int32) × (Nat → Int32) × (Nat → Int32) × (Nat → Int32) × (Nat → Int32) × (Nat → Int32) × Int32 × Int32 × Int32)
  | 0, _, _, _, _, _, _, _, _, _, _, _, _, _, _, _ => none
  | n_ + 1, v2, v3, v4, v5, v6, me, rg, so, sv, tl, su, qu, wa, ru, sp => if (128 : Int32) ≤ v6 then (mo_begin v5 (((128 : Int32) * v5) + v3) v4 me so sv qu wa).bind fun z23 => (mo_answer v2 (8 : Int32) v5 false z23.1 z23.2.2.1).bind fun z24 => mo_kernel_j228 v2 z24 rg z23.2.1 z23.2.2.1 tl su z23.2.2.2.1 z23.2.2.2.2 ru sp else (mo_at (((128 : Int32) * v2) + v6) me).bind fun z25 => (mo_put (((128 : Int32) * v5) + v6) z25 me).bind fun z26 => mo_kernel_l142 n_ v2 v3 v4 v5 (v6 + Int32.ofInt 1) z26 rg so sv tl su qu wa ru sp
theorem mo_kernel_l142_s (n_ : Nat) (v2 : Int32) (v3 : Int32) (v4 : Int32) (v5 : Int32) (v6 : Int32) (me : Nat → Int32) (rg : Nat → Int32) (so : Nat → Int32) (sv : Nat → Int32) (tl : Nat → Int32) (su : Nat → Int32) (qu : Nat → Int32) (wa : Int32) (ru : Int32) (sp : Int32) : mo_kernel_l142 (n_ + 1) v2 v3 v4 v5 v6 me rg so sv tl su qu wa ru sp = (if (128 : Int32) ≤ v6 then (mo_begin v5 (((128 : Int32) * v5) + v3) v4 me so sv qu wa).bind fun z23 => (mo_answer v2 (8 : Int32) v5 false z23.1 z23.2.2.1).bind fun z24 => mo_kernel_j228 v2 z24 rg z23.2.1 z23.2.2.1 tl su z23.2.2.2.1 z23.2.2.2.2 ru sp else (mo_at (((128 : Int32) * v2) + v6) me).bind fun z25 => (mo_put (((128 : Int32) * v5) + v6) z25 me).bind fun z26 => mo_kernel_l142 n_ v2 v3 v4 v5 (v6 + Int32.ofInt 1) z26 rg so sv tl su qu wa ru sp) := rfl
def mo_kernel_j104 (v1 : Int32) (v2 : Int32) (v3 : Int32) (v4 : Int32) (v5 : Int32) (me : Nat → Int32) (rg : Nat → Int32) (so : Nat → Int32) (sv : Nat → Int32) (tl : Nat → Int32) (su : Nat → Int32) (qu : Nat → Int32) (wa : Int32) (ru : Int32) (sp : Int32) : Option ((Nat → Int32) × (Nat → Int32) × (Nat → Int32) × (Nat → Int32) × (Nat → Int32) × (Nat → Int32) × (Nat → Int32) × Int32 × Int32 × Int32) := if v1 = (4 : Int32) then (mo_answer v2 (8 : Int32) v2 false me sv).bind fun z27 => mo_kernel_j228 v2 z27 rg so sv tl su qu wa ru sp else if v1 = (1 : Int32) then if (4 : Int32) ≤ v5 then mo_kernel_j210 v1 v2 me rg so sv tl su qu wa ru sp else if (128 : Int32) ≤ v3 then mo_kernel_j210 v1 v2 me rg so sv tl su qu wa ru sp else mo_kernel_l142 129 v2 v3 v4 v5 (0 : Int32) me rg so sv tl su qu wa ru sp else mo_kernel_j210 v1 v2 me rg so sv tl su qu wa ru sp
def mo_kernel_l82 : Nat → Int32 → Int32 → Int32 → Int32 → Int32 → (Nat → Int32) → (Nat → Int32) → (Nat → Int32) → (Nat → Int32) → (Nat → Int32) → (Nat → Int32) → (Nat → Int32) → Int32 → Int32 → Int32 → Option ((Nat → Int32) × (Nat → Int32) × (Nat → Int32) × (Nat → Int32) × (Nat → Int32) × (Nat → Int32) × (Nat → Int32) × Int32 × Int32 × Int32)
  | 0, _, _, _, _, _, _, _, _, _, _, _, _, _, _, _ => none
  | n_ + 1, v1, v2, v3, v4, v5, me, rg, so, sv, tl, su, qu, wa, ru, sp => if (4 : Int32) ≤ v5 then mo_kernel_j104 v1 v2 v3 v4 v5 me rg so sv tl su qu wa ru sp else if in_b v5 4 = true then if (so (v5.toNatClampNeg)) = (0 : Int32) then mo_kernel_j104 v1 v2 v3 v4 v5 me rg so sv tl su qu wa ru sp else mo_kernel_l82 n_ v1 v2 v3 v4 (v5 + Int32.ofInt 1) me rg so sv tl su qu wa ru sp else none
theorem mo_kernel_l82_s (n_ : Nat) (v1 : Int32) (v2 : Int32) (v3 : Int32) (v4 : Int32) (v5 : Int32) (me : Nat → Int32) (rg : Nat → Int32) (so : Nat → Int32) (sv : Nat → Int32) (tl : Nat → Int32) (su : Nat → Int32) (qu : Nat → Int32) (wa : Int32) (ru : Int32) (sp : Int32) : mo_kernel_l82 (n_ + 1) v1 v2 v3 v4 v5 me rg so sv tl su qu wa ru sp = (if (4 : Int32) ≤ v5 then mo_kernel_j104 v1 v2 v3 v4 v5 me rg so sv tl su qu wa ru sp else if in_b v5 4 = true then if (so (v5.toNatClampNeg)) = (0 : Int32) then mo_kernel_j104 v1 v2 v3 v4 v5 me rg so sv tl su qu wa ru sp else mo_kernel_l82 n_ v1 v2 v3 v4 (v5 + Int32.ofInt 1) me rg so sv tl su qu wa ru sp else none) := rfl
def mo_kernel_j74 (me : Nat → Int32) (rg : Nat → Int32) (so : Nat → Int32) (sv : Nat → Int32) (tl : Nat → Int32) (su : Nat → Int32) (qu : Nat → Int32) (wa : Int32) (ru : Int32) (sp : Int32) : Option ((Nat → Int32) × (Nat → Int32) × (Nat → Int32) × (Nat → Int32) × (Nat → Int32) × (Nat → Int32) × (Nat → Int32) × Int32 × Int32 × Int32) := (mo_next me rg so sv qu wa ru sp).bind fun z29 => some (me, z29.1, z29.2.1, sv, tl, su, z29.2.2.1, z29.2.2.2.1, z29.2.2.2.2.1, z29.2.2.2.2.2)
def mo_kernel (me : Nat → Int32) (rg : Nat → Int32) (so : Nat → Int32) (sv : Nat → Int32) (tl : Nat → Int32) (su : Nat → Int32) (qu : Nat → Int32) (wa : Int32) (ru : Int32) (sp : Int32) : Option ((Nat → Int32) × (Nat → Int32) × (Nat → Int32) × (Nat → Int32) × (Nat → Int32) × (Nat → Int32) × (Nat → Int32) × Int32 × Int32 × Int32) := (mo_fetch me rg sp).bind fun z30 => (mo_stack me z30.2.1 sv ru z30.2.2).bind fun z31 => if z30.1 = (3 : Int32) then (mo_end ru (z30.2.1 8) z31.1 z31.2.1 so z31.2.2.1 tl su qu wa z31.2.2.2.1 z31.2.2.2.2).bind fun z34 => some (z31.1, z34.1, z34.2.1, z31.2.2.1, z34.2.2.1, z34.2.2.2.1, z34.2.2.2.2.1, z34.2.2.2.2.2.1, z34.2.2.2.2.2.2.1, z34.2.2.2.2.2.2.2) else if z30.1 = (2 : Int32) then if in_b ru 4 = true then if (z30.2.1 1) = (0 : Int32) then (mo_comeLast ru so qu wa).bind fun z33 => mo_kernel_j74 z31.1 z31.2.1 z33.1 z31.2.2.1 (upd tl (ru.toNatClampNeg) (z30.2.1 1)) su z33.2.1 z33.2.2 z31.2.2.2.1 z31.2.2.2.2 else mo_kernel_j74 z31.1 z31.2.1 (upd so (ru.toNatClampNeg) (3 : Int32)) z31.2.2.1 (upd tl (ru.toNatClampNeg) (z30.2.1 1)) su qu wa z31.2.2.2.1 z31.2.2.2.2 else none else mo_kernel_l82 5 z30.1 ru (z30.2.1 1) (z30.2.1 8) (0 : Int32) z31.1 z31.2.1 so z31.2.2.1 tl su qu wa z31.2.2.2.1 z31.2.2.2.2
def mo_single_j329 (s0 : Bool) (me : Nat → Int32) (rg : Nat → Int32) (so : Nat → Int32) (sv : Nat → Int32) (tl : Nat → Int32) (su : Nat → Int32) (qu : Nat → Int32) (wa : Int32) (ru : Int32) (sp : Int32) (iv : Bool) : Option ((Nat → Int32) × (Nat → Int32) × (Nat → Int32) × (Nat → Int32) × (Nat → Int32) × (Nat → Int32) × (Nat → Int32) × Int32 × Int32 × Int32 × Bool) := (mo_mark (1 : Int32) s0 rg).bind fun z25 => some (me, z25, so, sv, tl, su, qu, wa, ru, sp, iv)
def mo_single_j307 (s0 : Bool) (me : Nat → Int32) (rg : Nat → Int32) (so : Nat → Int32) (sv : Nat → Int32) (tl : Nat → Int32) (su : Nat → Int32) (qu : Nat → Int32) (wa : Int32) (ru : Int32) (sp : Int32) (iv : Bool) : Option ((Nat → Int32) × (Nat → Int32) × (Nat → Int32) × (Nat → Int32) × (Nat → Int32) × (Nat → Int32) × (Nat → Int32) × Int32 × Int32 × Int32 × Bool) := (mo_mark (4 : Int32) s0 rg).bind fun z26 => if (z26 9) ≤ (127 : Int32) then mo_single_j329 false me z26 so sv tl su qu wa ru sp iv else mo_single_j329 true me z26 so sv tl su qu wa ru sp iv
def mo_single_j223 (v1 : Int32) (me : Nat → Int32) (rg : Nat → Int32) (so : Nat → Int32) (sv : Nat → Int32) (tl : Nat → Int32) (su : Nat → Int32) (qu : Nat → Int32) (wa : Int32) (ru : Int32) (sp : Int32) (iv : Bool) : Option ((Nat → Int32) × (Nat → Int32) × (Nat → Int32) × (Nat → Int32) × (Nat → Int32) × (Nat → Int32) × (Nat → Int32) × Int32 × Int32 × Int32 × Bool) := if v1 = (57 : Int32) then (mo_pull (4 : Int32) (5 : Int32) me rg sp).bind fun z31 => some (me, z31.1, so, sv, tl, su, qu, wa, ru, z31.2, iv) else if v1 = (58 : Int32) then (mo_set (1 : Int32) ((rg 1) + (rg 9)) rg).bind fun z30 => some (me, z30, so, sv, tl, su, qu, wa, ru, sp, iv) else if v1 = (61 : Int32) then (mo_set (0 : Int32) ((rg 8) * (rg 9)) rg).bind fun z28 => (mo_get (0 : Int32) z28).bind fun z29 => if z29 = (0 : Int32) then mo_single_j307 true me z28 so sv tl su qu wa ru sp iv else mo_single_j307 false me z28 so sv tl su qu wa ru sp iv else if v1 = (63 : Int32) then (mo_kernel me rg so sv tl su qu wa ru sp).bind fun z27 => some (z27.1, z27.2.1, z27.2.2.1, z27.2.2.2.1, z27.2.2.2.2.1, z27.2.2.2.2.2.1, z27.2.2.2.2.2.2.1, z27.2.2.2.2.2.2.2.1, z27.2.2.2.2.2.2.2.2.1, z27.2.2.2.2.2.2.2.2.2, iv) else some (me, rg, so, sv, tl, su, qu, wa, ru, sp, true)
def mo_single_j203 (v1 : Int32) (me : Nat → Int32) (rg : Nat → Int32) (so : Nat → Int32) (sv : Nat → Int32) (tl : Nat → Int32) (su : Nat → Int32) (qu : Nat → Int32) (wa : Int32) (ru : Int32) (sp : Int32) (iv : Bool) : Option ((Nat → Int32) × (Nat → Int32) × (Nat → Int32) × (Nat → Int32) × (Nat → Int32) × (Nat → Int32) × (Nat → Int32) × Int32 × Int32 × Int32 × Bool) := if v1 < (52 : Int32) then mo_single_j223 v1 me rg so sv tl su qu wa ru sp iv else if (55 : Int32) < v1 then mo_single_j223 v1 me rg so sv tl su qu wa ru sp iv else (mo_many v1 me rg sp).bind fun z32 => some (z32.1, z32.2.1, so, sv, tl, su, qu, wa, ru, z32.2.2, iv)
def mo_single_j200 (me : Nat → Int32) (rg : Nat → Int32) (so : Nat → Int32) (sv : Nat → Int32) (tl : Nat → Int32) (su : Nat → Int32) (qu : Nat → Int32) (wa : Int32) (ru : Int32) (sp : Int32) (iv : Bool) : Option ((Nat → Int32) × (Nat → Int32) × (Nat → Int32) × (Nat → Int32) × (Nat → Int32) × (Nat → Int32) × (Nat → Int32) × Int32 × Int32 × Int32 × Bool) := some (me, rg, so, sv, tl, su, qu, wa, ru, sp, iv)
def mo_single_j197 (s0 : Bool) (me : Nat → Int32) (rg : Nat → Int32) (so : Nat → Int32) (sv : Nat → Int32) (tl : Nat → Int32) (su : Nat → Int32) (qu : Nat → Int32) (wa : Int32) (ru : Int32) (sp : Int32) (iv : Bool) : Option ((Nat → Int32) × (Nat → Int32) × (Nat → Int32) × (Nat → Int32) × (Nat → Int32) × (Nat → Int32) × (Nat → Int32) × Int32 × Int32 × Int32 × Bool) := (mo_mark (4 : Int32) s0 rg).bind fun z33 => mo_single_j200 me z33 so sv tl su qu wa ru sp iv
def mo_single_j165 (v1 : Int32) (v2 : Int32) (s0 : Int32) (me : Nat → Int32) (rg : Nat → Int32) (so : Nat → Int32) (sv : Nat → Int32) (tl : Nat → Int32) (su : Nat → Int32) (qu : Nat → Int32) (wa : Int32) (ru : Int32) (sp : Int32) (iv : Bool) : Option ((Nat → Int32) × (Nat → Int32) × (Nat → Int32) × (Nat → Int32) × (Nat → Int32) × (Nat → Int32) × (Nat → Int32) × Int32 × Int32 × Int32 × Bool) := if (bz_i iv) = (0 : Int32) then (mo_set s0 v2 rg).bind fun z34 => if (50 : Int32) ≤ v1 then mo_single_j200 me z34 so sv tl su qu wa ru sp iv else if v2 = (0 : Int32) then mo_single_j197 true me z34 so sv tl su qu wa ru sp iv else mo_single_j197 false me z34 so sv tl su qu wa ru sp iv else some (me, rg, so, sv, tl, su, qu, wa, ru, sp, iv)
def mo_single_j108 (v1 : Int32) (me : Nat → Int32) (rg : Nat → Int32) (so : Nat → Int32) (sv : Nat → Int32) (tl : Nat → Int32) (su : Nat → Int32) (qu : Nat → Int32) (wa : Int32) (ru : Int32) (sp : Int32) (iv : Bool) : Option ((Nat → Int32) × (Nat → Int32) × (Nat → Int32) × (Nat → Int32) × (Nat → Int32) × (Nat → Int32) × (Nat → Int32) × Int32 × Int32 × Int32 × Bool) := (mo_trade v1 me rg sp iv).bind fun z35 => some (me, z35.1, so, sv, tl, su, qu, wa, ru, z35.2.1, z35.2.2)
def mo_single (x1 : Int32) (me : Nat → Int32) (rg : Nat → Int32) (so : Nat → Int32) (sv : Nat → Int32) (tl : Nat → Int32) (su : Nat → Int32) (qu : Nat → Int32) (wa : Int32) (ru : Int32) (sp : Int32) (iv : Bool) : Option ((Nat → Int32) × (Nat → Int32) × (Nat → Int32) × (Nat → Int32) × (Nat → Int32) × (Nat → Int32) × (Nat → Int32) × Int32 × Int32 × Int32 × Bool) := if x1 = (18 : Int32) then some (me, rg, so, sv, tl, su, qu, wa, ru, sp, iv) else if x1 = (26 : Int32) then (mo_fetch me rg sp).bind fun z43 => (mo_set (10 : Int32) ((rg 10) ||| z43.1) z43.2.1).bind fun z44 => some (me, z44, so, sv, tl, su, qu, wa, ru, z43.2.2, iv) else if x1 = (28 : Int32) then (mo_fetch me rg sp).bind fun z41 => (mo_set (10 : Int32) ((rg 10) &&& z41.1) z41.2.1).bind fun z42 => some (me, z42, so, sv, tl, su, qu, wa, ru, z41.2.2, iv) else if x1 = (29 : Int32) then (mo_signed (rg 9)).bind fun z37 => (mo_set (0 : Int32) z37 rg).bind fun z38 => (mo_get (0 : Int32) z38).bind fun z39 => (mo_sign z39 (16 : Int32) z38).bind fun z40 => some (me, z40, so, sv, tl, su, qu, wa, ru, sp, iv) else if x1 = (30 : Int32) then mo_single_j108 x1 me rg so sv tl su qu wa ru sp iv else if x1 = (31 : Int32) then mo_single_j108 x1 me rg so sv tl su qu wa ru sp iv else if x1 < (48 : Int32) then mo_single_j203 x1 me rg so sv tl su qu wa ru sp iv else if (51 : Int32) < x1 then mo_single_j203 x1 me rg so sv tl su qu wa ru sp iv else (mo_address (2 : Int32) me rg sp iv).bind fun z36 => if x1 = (48 : Int32) then mo_single_j165 x1 z36.1 (1 : Int32) me z36.2.1 so sv tl su qu wa ru z36.2.2.1 z36.2.2.2 else if x1 = (49 : Int32) then mo_single_j165 x1 z36.1 (2 : Int32) me z36.2.1 so sv tl su qu wa ru z36.2.2.1 z36.2.2.2 else if x1 = (50 : Int32) then mo_single_j165 x1 z36.1 (4 : Int32) me z36.2.1 so sv tl su qu wa ru z36.2.2.1 z36.2.2.2 else mo_single_j165 x1 z36.1 (3 : Int32) me z36.2.1 so sv tl su qu wa ru z36.2.2.1 z36.2.2.2
def mo_instruction_j88 (v1 : Int32) (me : Nat → Int32) (rg : Nat → Int32) (so : Nat → Int32) (sv : Nat → Int32) (tl : Nat → Int32) (su : Nat → Int32) (qu : Nat → Int32) (wa : Int32) (ru : Int32) (sp : Int32) (iv : Bool) : Option ((Nat → Int32) × (Nat → Int32) × (Nat → Int32) × (Nat → Int32) × (Nat → Int32) × (Nat → Int32) × (Nat → Int32) × Int32 × Int32 × Int32 × Bool) := if (bz_i iv) = (0 : Int32) then some (me, rg, so, sv, tl, su, qu, wa, ru, sp, iv) else (mo_end v1 (255 : Int32) me rg so sv tl su qu wa ru (1 : Int32)).bind fun z8 => some (me, z8.1, z8.2.1, sv, z8.2.2.1, z8.2.2.2.1, z8.2.2.2.2.1, z8.2.2.2.2.2.1, z8.2.2.2.2.2.2.1, z8.2.2.2.2.2.2.2, iv)
def mo_instruction_j75 (v1 : Int32) (v2 : Int32) (me : Nat → Int32) (rg : Nat → Int32) (so : Nat → Int32) (sv : Nat → Int32) (tl : Nat → Int32) (su : Nat → Int32) (qu : Nat → Int32) (wa : Int32) (ru : Int32) (sp : Int32) (iv : Bool) : Option ((Nat → Int32) × (Nat → Int32) × (Nat → Int32) × (Nat → Int32) × (Nat → Int32) × (Nat → Int32) × (Nat → Int32) × Int32 × Int32 × Int32 × Bool) := (mo_single v2 me rg so sv tl su qu wa ru sp iv).bind fun z9 => mo_instruction_j88 v1 z9.1 z9.2.1 z9.2.2.1 z9.2.2.2.1 z9.2.2.2.2.1 z9.2.2.2.2.2.1 z9.2.2.2.2.2.2.1 z9.2.2.2.2.2.2.2.1 z9.2.2.2.2.2.2.2.2.1 z9.2.2.2.2.2.2.2.2.2.1 z9.2.2.2.2.2.2.2.2.2.2
def mo_instruction (me : Nat → Int32) (rg : Nat → Int32) (so : Nat → Int32) (sv : Nat → Int32) (tl : Nat → Int32) (su : Nat → Int32) (qu : Nat → Int32) (wa : Int32) (ru : Int32) (sp : Int32) (iv : Bool) : Option ((Nat → Int32) × (Nat → Int32) × (Nat → Int32) × (Nat → Int32) × (Nat → Int32) × (Nat → Int32) × (Nat → Int32) × Int32 × Int32 × Int32 × Bool) := (mo_fetch me rg (0 : Int32)).bind fun z10 => if z10.1 < (128 : Int32) then if z10.1 = (16 : Int32) then (mo_second me z10.2.1 z10.2.2 false).bind fun z13 => mo_instruction_j88 ru z13.1 z13.2.1 so sv tl su qu wa ru z13.2.2.1 z13.2.2.2 else if (z10.1 >>> ((4 : Int32) &&& 31)) = (2 : Int32) then (mo_branch z10.1 me z10.2.1 z10.2.2).bind fun z12 => mo_instruction_j88 ru me z12.1 so sv tl su qu wa ru z12.2 false else if (z10.1 >>> ((4 : Int32) &&& 31)) = (1 : Int32) then mo_instruction_j75 ru z10.1 me z10.2.1 so sv tl su qu wa ru z10.2.2 false else if (z10.1 >>> ((4 : Int32) &&& 31)) = (3 : Int32) then mo_instruction_j75 ru z10.1 me z10.2.1 so sv tl su qu wa ru z10.2.2 false else (mo_lower z10.1 me z10.2.1 z10.2.2 false).bind fun z11 => mo_instruction_j88 ru z11.1 z11.2.1 so sv tl su qu wa ru z11.2.2.1 z11.2.2.2 else (mo_upper z10.1 me z10.2.1 z10.2.2 false).bind fun z14 => mo_instruction_j88 ru z14.1 z14.2.1 so sv tl su qu wa ru z14.2.2.1 z14.2.2.2
def mo_pass_j66 (s0 : Bool) (s1 : Int32) (pe : Int32) (re : Int32) (pn : Bool) (lo : Int32) (pa : Int32) : Option (Int32 × Bool × Int32 × Int32) := some (re, true, (s1 + (bz_i s0)), pa)
def mo_pass (x1 : Int32) (pe : Int32) (re : Int32) (pn : Bool) (lo : Int32) (pa : Int32) : Option (Int32 × Bool × Int32 × Int32) := if pe = (0 : Int32) then some (re, pn, lo, (pa + x1)) else if (re - x1) ≤ (0 : Int32) then if (bz_i pn) = (0 : Int32) then mo_pass_j66 false lo pe ((re - x1) + pe) pn lo (pa + x1) else mo_pass_j66 true lo pe ((re - x1) + pe) pn lo (pa + x1) else some ((re - x1), pn, lo, (pa + x1))
def mo_serve_j80 (me : Nat → Int32) (rg : Nat → Int32) (so : Nat → Int32) (sv : Nat → Int32) (tl : Nat → Int32) (qu : Nat → Int32) (wa : Int32) (ru : Int32) (pn : Bool) (se : Int32) (sp : Int32) : Option ((Nat → Int32) × (Nat → Int32) × (Nat → Int32) × (Nat → Int32) × (Nat → Int32) × (Nat → Int32) × Int32 × Int32 × Bool × Int32 × Int32) := (mo_next me rg so sv qu wa ru sp).bind fun z9 => some (me, z9.1, z9.2.1, sv, tl, z9.2.2.1, z9.2.2.2.1, z9.2.2.2.2.1, pn, se, z9.2.2.2.2.2)
def mo_serve_j61 (rec_ : Int32 → Int32 → (Nat → Int32) → (Nat → Int32) → (Nat → Int32) → (Nat → Int32) → (Nat → Int32) → (Nat → Int32) → Int32 → Int32 → Bool → Int32 → Int32 → Option ((Nat → Int32) × (Nat → Int32) × (Nat → Int32) × (Nat → Int32) × (Nat → Int32) × (Nat → Int32) × Int32 × Int32 × Bool × Int32 × Int32)) (v1 : Int32) (v2 : Int32) (me : Nat → Int32) (rg : Nat → Int32) (so : Nat → Int32) (sv : Nat → Int32) (tl : Nat → Int32) (qu : Nat → Int32) (wa : Int32) (ru : Int32) (pn : Bool) (se : Int32) (sp : Int32) : Option ((Nat → Int32) × (Nat → Int32) × (Nat → Int32) × (Nat → Int32) × (Nat → Int32) × (Nat → Int32) × Int32 × Int32 × Bool × Int32 × Int32) := rec_ v1 (v2 + Int32.ofInt 1) me rg so sv tl qu wa ru pn se sp
def mo_serve_l22 : Nat → Int32 → Int32 → (Nat → Int32) → (Nat → Int32) → (Nat → Int32) → (Nat → Int32) → (Nat → Int32) → (Nat → Int32) → Int32 → Int32 → Bool → Int32 → Int32 → Option ((Nat → Int32) × (Nat → Int32) × (Nat → Int32) × (Nat → Int32) × (Nat → Int32) × (Nat → Int32) × Int32 × Int32 × Bool × Int32 × Int32)
  | 0, _, _, _, _, _, _, _, _, _, _, _, _, _ => none
  | n_ + 1, v1, v2, me, rg, so, sv, tl, qu, wa, ru, pn, se, sp => if (4 : Int32) ≤ v2 then if v1 < (0 : Int32) then mo_serve_j80 me rg so sv tl qu wa ru pn se sp else (mo_stack me rg sv ru sp).bind fun z10 => (mo_comeLast v1 so qu wa).bind fun z11 => mo_serve_j80 z10.1 z10.2.1 z11.1 z10.2.2.1 tl z11.2.1 z11.2.2 z10.2.2.2.1 pn se z10.2.2.2.2 else if in_b v2 4 = true then if (so (v2.toNatClampNeg)) = (3 : Int32) then if ((upd tl (v2.toNatClampNeg) ((tl (v2.toNatClampNeg)) - (1 : Int32))) (v2.toNatClampNeg)) = (0 : Int32) then (mo_comeLast v2 so qu wa).bind fun z13 => mo_serve_j61 (mo_serve_l22 n_) v1 v2 me rg z13.1 sv (upd tl (v2.toNatClampNeg) ((tl (v2.toNatClampNeg)) - (1 : Int32))) z13.2.1 z13.2.2 ru pn se sp else mo_serve_j61 (mo_serve_l22 n_) v1 v2 me rg so sv (upd tl (v2.toNatClampNeg) ((tl (v2.toNatClampNeg)) - (1 : Int32))) qu wa ru pn se sp else mo_serve_j61 (mo_serve_l22 n_) v1 v2 me rg so sv tl qu wa ru pn se sp else none
theorem mo_serve_l22_s (n_ : Nat) (v1 : Int32) (v2 : Int32) (me : Nat → Int32) (rg : Nat → Int32) (so : Nat → Int32) (sv : Nat → Int32) (tl : Nat → Int32) (qu : Nat → Int32) (wa : Int32) (ru : Int32) (pn : Bool) (se : Int32) (sp : Int32) : mo_serve_l22 (n_ + 1) v1 v2 me rg so sv tl qu wa ru pn se sp = (if (4 : Int32) ≤ v2 then if v1 < (0 : Int32) then mo_serve_j80 me rg so sv tl qu wa ru pn se sp else (mo_stack me rg sv ru sp).bind fun z10 => (mo_comeLast v1 so qu wa).bind fun z11 => mo_serve_j80 z10.1 z10.2.1 z11.1 z10.2.2.1 tl z11.2.1 z11.2.2 z10.2.2.2.1 pn se z10.2.2.2.2 else if in_b v2 4 = true then if (so (v2.toNatClampNeg)) = (3 : Int32) then if ((upd tl (v2.toNatClampNeg) ((tl (v2.toNatClampNeg)) - (1 : Int32))) (v2.toNatClampNeg)) = (0 : Int32) then (mo_comeLast v2 so qu wa).bind fun z13 => mo_serve_j61 (mo_serve_l22 n_) v1 v2 me rg z13.1 sv (upd tl (v2.toNatClampNeg) ((tl (v2.toNatClampNeg)) - (1 : Int32))) z13.2.1 z13.2.2 ru pn se sp else mo_serve_j61 (mo_serve_l22 n_) v1 v2 me rg so sv (upd tl (v2.toNatClampNeg) ((tl (v2.toNatClampNeg)) - (1 : Int32))) qu wa ru pn se sp else mo_serve_j61 (mo_serve_l22 n_) v1 v2 me rg so sv tl qu wa ru pn se sp else none) := rfl
def mo_serve (me : Nat → Int32) (rg : Nat → Int32) (so : Nat → Int32) (sv : Nat → Int32) (tl : Nat → Int32) (qu : Nat → Int32) (wa : Int32) (ru : Int32) (pn : Bool) (se : Int32) (sp : Int32) : Option ((Nat → Int32) × (Nat → Int32) × (Nat → Int32) × (Nat → Int32) × (Nat → Int32) × (Nat → Int32) × Int32 × Int32 × Bool × Int32 × Int32) := mo_serve_l22 5 ru (0 : Int32) me rg so sv tl qu wa ru false (se + (1 : Int32)) sp
def mo_run_j105 (rec_ : Int32 → Int32 → Bool → (Nat → Int32) → (Nat → Int32) → (Nat → Int32) → (Nat → Int32) → (Nat → Int32) → (Nat → Int32) → (Nat → Int32) → Int32 → Int32 → Int32 → Int32 → Bool → Int32 → Int32 → Int32 → Int32 → Bool → Option (Int32 × (Nat → Int32) × (Nat → Int32) × (Nat → Int32) × (Nat → Int32) × (Nat → Int32) × (Nat → Int32) × (Nat → Int32) × Int32 × Int32 × Int32 × Bool × Int32 × Int32 × Int32 × Int32 × Bool)) (v1 : Int32) (v3 : Bool) (s0 : Bool) (s1 : Int32) (me : Nat → Int32) (rg : Nat → Int32) (so : Nat → Int32) (sv : Nat → Int32) (tl : Nat → Int32) (su : Nat → Int32) (qu : Nat → Int32) (wa : Int32) (ru : Int32) (pe : Int32) (re : Int32) (pn : Bool) (lo : Int32) (se : Int32) (pa : Int32) (sp : Int32) (iv : Bool) : Option (Int32 × (Nat → Int32) × (Nat → Int32) × (Nat → Int32) × (Nat → Int32) × (Nat → Int32) × (Nat → Int32) × (Nat → Int32) × Int32 × Int32 × Int32 × Bool × Int32 × Int32 × Int32 × Int32 × Bool) := rec_ v1 (s1 + (bz_i s0)) v3 me rg so sv tl su qu wa ru pe re pn lo se pa sp iv
def mo_run_j95 (rec_ : Int32 → Int32 → Bool → (Nat → Int32) → (Nat → Int32) → (Nat → Int32) → (Nat → Int32) → (Nat → Int32) → (Nat → Int32) → (Nat → Int32) → Int32 → Int32 → Int32 → Int32 → Bool → Int32 → Int32 → Int32 → Int32 → Bool → Option (Int32 × (Nat → Int32) × (Nat → Int32) × (Nat → Int32) × (Nat → Int32) × (Nat → Int32) × (Nat → Int32) × (Nat → Int32) × Int32 × Int32 × Int32 × Bool × Int32 × Int32 × Int32 × Int32 × Bool)) (v1 : Int32) (v2 : Int32) (v3 : Bool) (me : Nat → Int32) (rg : Nat → Int32) (so : Nat → Int32) (sv : Nat → Int32) (tl : Nat → Int32) (su : Nat → Int32) (qu : Nat → Int32) (wa : Int32) (ru : Int32) (pe : Int32) (re : Int32) (pn : Bool) (lo : Int32) (se : Int32) (pa : Int32) (sp : Int32) (iv : Bool) : Option (Int32 × (Nat → Int32) × (Nat → Int32) × (Nat → Int32) × (Nat → Int32) × (Nat → Int32) × (Nat → Int32) × (Nat → Int32) × Int32 × Int32 × Int32 × Bool × Int32 × Int32 × Int32 × Int32 × Bool) := if (bz_i v3) = (0 : Int32) then mo_run_j105 rec_ v1 v3 false v2 me rg so sv tl su qu wa ru pe re pn lo se pa sp iv else mo_run_j105 rec_ v1 v3 true v2 me rg so sv tl su qu wa ru pe re pn lo se pa sp iv
def mo_run_j53 (rec_ : Int32 → Int32 → Bool → (Nat → Int32) → (Nat → Int32) → (Nat → Int32) → (Nat → Int32) → (Nat → Int32) → (Nat → Int32) → (Nat → Int32) → Int32 → Int32 → Int32 → Int32 → Bool → Int32 → Int32 → Int32 → Int32 → Bool → Option (Int32 × (Nat → Int32) × (Nat → Int32) × (Nat → Int32) × (Nat → Int32) × (Nat → Int32) × (Nat → Int32) × (Nat → Int32) × Int32 × Int32 × Int32 × Bool × Int32 × Int32 × Int32 × Int32 × Bool)) (v1 : Int32) (v2 : Int32) (v3 : Bool) (me : Nat → Int32) (rg : Nat → Int32) (so : Nat → Int32) (sv : Nat → Int32) (tl : Nat → Int32) (su : Nat → Int32) (qu : Nat → Int32) (wa : Int32) (ru : Int32) (pe : Int32) (re : Int32) (pn : Bool) (lo : Int32) (se : Int32) (pa : Int32) (sp : Int32) (iv : Bool) : Option (Int32 × (Nat → Int32) × (Nat → Int32) × (Nat → Int32) × (Nat → Int32) × (Nat → Int32) × (Nat → Int32) × (Nat → Int32) × Int32 × Int32 × Int32 × Bool × Int32 × Int32 × Int32 × Int32 × Bool) := if ru < (0 : Int32) then if pe ≤ (0 : Int32) then mo_run_j95 rec_ v1 v2 false me rg so sv tl su qu wa ru pe re pn lo se pa sp iv else (mo_pass re pe re pn lo pa).bind fun z11 => mo_run_j95 rec_ v1 v2 v3 me rg so sv tl su qu wa ru pe z11.1 z11.2.1 z11.2.2.1 se z11.2.2.2 sp iv else (mo_instruction me rg so sv tl su qu wa ru sp iv).bind fun z12 => (mo_pass z12.2.2.2.2.2.2.2.2.2.1 pe re pn lo pa).bind fun z13 => mo_run_j95 rec_ v1 v2 v3 z12.1 z12.2.1 z12.2.2.1 z12.2.2.2.1 z12.2.2.2.2.1 z12.2.2.2.2.2.1 z12.2.2.2.2.2.2.1 z12.2.2.2.2.2.2.2.1 z12.2.2.2.2.2.2.2.2.1 pe z13.1 z13.2.1 z13.2.2.1 se z13.2.2.2 z12.2.2.2.2.2.2.2.2.2.1 z12.2.2.2.2.2.2.2.2.2.2
def mo_run_j49 (rec_ : Int32 → Int32 → Bool → (Nat → Int32) → (Nat → Int32) → (Nat → Int32) → (Nat → Int32) → (Nat → Int32) → (Nat → Int32) → (Nat → Int32) → Int32 → Int32 → Int32 → Int32 → Bool → Int32 → Int32 → Int32 → Int32 → Bool → Option (Int32 × (Nat → Int32) × (Nat → Int32) × (Nat → Int32) × (Nat → Int32) × (Nat → Int32) × (Nat → Int32) × (Nat → Int32) × Int32 × Int32 × Int32 × Bool × Int32 × Int32 × Int32 × Int32 × Bool)) (v1 : Int32) (v2 : Int32) (v3 : Bool) (me : Nat → Int32) (rg : Nat → Int32) (so : Nat → Int32) (sv : Nat → Int32) (tl : Nat → Int32) (su : Nat → Int32) (qu : Nat → Int32) (wa : Int32) (ru : Int32) (pe : Int32) (re : Int32) (pn : Bool) (lo : Int32) (se : Int32) (pa : Int32) (sp : Int32) (iv : Bool) : Option (Int32 × (Nat → Int32) × (Nat → Int32) × (Nat → Int32) × (Nat → Int32) × (Nat → Int32) × (Nat → Int32) × (Nat → Int32) × Int32 × Int32 × Int32 × Bool × Int32 × Int32 × Int32 × Int32 × Bool) := (mo_serve me rg so sv tl qu wa ru pn se sp).bind fun z14 => mo_run_j53 rec_ v1 v2 v3 z14.1 z14.2.1 z14.2.2.1 z14.2.2.2.1 z14.2.2.2.2.1 su z14.2.2.2.2.2.1 z14.2.2.2.2.2.2.1 z14.2.2.2.2.2.2.2.1 pe re z14.2.2.2.2.2.2.2.2.1 lo z14.2.2.2.2.2.2.2.2.2.1 pa z14.2.2.2.2.2.2.2.2.2.2 iv
def mo_run_l17 : Nat → Int32 → Int32 → Bool → (Nat → Int32) → (Nat → Int32) → (Nat → Int32) → (Nat → Int32) → (Nat → Int32) → (Nat → Int32) → (Nat → Int32) → Int32 → Int32 → Int32 → Int32 → Bool → Int32 → Int32 → Int32 → Int32 → Bool → Option (Int32 × (Nat → Int32) × (Nat → Int32) × (Nat → Int32) × (Nat → Int32) × (Nat → Int32) × (Nat → Int32) × (Nat → Int32) × Int32 × Int32 × Int32 × Bool × Int32 × Int32 × Int32 × Int32 × Bool)
  | 0, _, _, _, _, _, _, _, _, _, _, _, _, _, _, _, _, _, _, _, _ => none
  | n_ + 1, v1, v2, v3, me, rg, so, sv, tl, su, qu, wa, ru, pe, re, pn, lo, se, pa, sp, iv => if v1 ≤ v2 then some (v2, me, rg, so, sv, tl, su, qu, wa, ru, re, pn, lo, se, pa, sp, iv) else if (bz_i v3) = (0 : Int32) then some (v2, me, rg, so, sv, tl, su, qu, wa, ru, re, pn, lo, se, pa, sp, iv) else if (bz_i pn) = (0 : Int32) then mo_run_j53 (mo_run_l17 n_) v1 v2 v3 me rg so sv tl su qu wa ru pe re pn lo se pa sp iv else if ru < (0 : Int32) then mo_run_j49 (mo_run_l17 n_) v1 v2 v3 me rg so sv tl su qu wa ru pe re pn lo se pa sp iv else (mo_flag (16 : Int32) rg).bind fun z15 => if (bz_i z15) = (0 : Int32) then mo_run_j49 (mo_run_l17 n_) v1 v2 v3 me rg so sv tl su qu wa ru pe re pn lo se pa sp iv else mo_run_j53 (mo_run_l17 n_) v1 v2 v3 me rg so sv tl su qu wa ru pe re pn lo se pa sp iv
theorem mo_run_l17_s (n_ : Nat) (v1 : Int32) (v2 : Int32) (v3 : Bool) (me : Nat → Int32) (rg : Nat → Int32) (so : Nat → Int32) (sv : Nat → Int32) (tl : Nat → Int32) (su : Nat → Int32) (qu : Nat → Int32) (wa : Int32) (ru : Int32) (pe : Int32) (re : Int32) (pn : Bool) (lo : Int32) (se : Int32) (pa : Int32) (sp : Int32) (iv : Bool) : mo_run_l17 (n_ + 1) v1 v2 v3 me rg so sv tl su qu wa ru pe re pn lo se pa sp iv = (if v1 ≤ v2 then some (v2, me, rg, so, sv, tl, su, qu, wa, ru, re, pn, lo, se, pa, sp, iv) else if (bz_i v3) = (0 : Int32) then some (v2, me, rg, so, sv, tl, su, qu, wa, ru, re, pn, lo, se, pa, sp, iv) else if (bz_i pn) = (0 : Int32) then mo_run_j53 (mo_run_l17 n_) v1 v2 v3 me rg so sv tl su qu wa ru pe re pn lo se pa sp iv else if ru < (0 : Int32) then mo_run_j49 (mo_run_l17 n_) v1 v2 v3 me rg so sv tl su qu wa ru pe re pn lo se pa sp iv else (mo_flag (16 : Int32) rg).bind fun z15 => if (bz_i z15) = (0 : Int32) then mo_run_j49 (mo_run_l17 n_) v1 v2 v3 me rg so sv tl su qu wa ru pe re pn lo se pa sp iv else mo_run_j53 (mo_run_l17 n_) v1 v2 v3 me rg so sv tl su qu wa ru pe re pn lo se pa sp iv) := rfl
def mo_run (x1 : Int32) (me : Nat → Int32) (rg : Nat → Int32) (so : Nat → Int32) (sv : Nat → Int32) (tl : Nat → Int32) (su : Nat → Int32) (qu : Nat → Int32) (wa : Int32) (ru : Int32) (pe : Int32) (re : Int32) (pn : Bool) (lo : Int32) (se : Int32) (pa : Int32) (sp : Int32) (iv : Bool) : Option (Int32 × (Nat → Int32) × (Nat → Int32) × (Nat → Int32) × (Nat → Int32) × (Nat → Int32) × (Nat → Int32) × (Nat → Int32) × Int32 × Int32 × Int32 × Bool × Int32 × Int32 × Int32 × Int32 × Bool) := if x1 < (0 : Int32) then some ((-1 : Int32), me, rg, so, sv, tl, su, qu, wa, ru, re, pn, lo, se, pa, sp, iv) else if x1 ≤ (400 : Int32) then mo_run_l17 401 x1 (0 : Int32) true me rg so sv tl su qu wa ru pe re pn lo se pa sp iv else some ((-1 : Int32), me, rg, so, sv, tl, su, qu, wa, ru, re, pn, lo, se, pa, sp, iv)
def mo_poke (x1 : Int32) (x2 : Int32) (me : Nat → Int32) : Option (Int32 × (Nat → Int32)) := if x1 < (0 : Int32) then some ((-1 : Int32), me) else if (511 : Int32) < x1 then some ((-1 : Int32), me) else if x2 < (0 : Int32) then some ((-1 : Int32), me) else if x2 ≤ (255 : Int32) then if in_b x1 512 = true then some ((me (x1.toNatClampNeg)), (upd me (x1.toNatClampNeg) x2)) else none else some ((-1 : Int32), me)
def mo_peek_j11 (me : Nat → Int32) : Option (Int32) := some (-1 : Int32)
def mo_peek (x1 : Int32) (me : Nat → Int32) : Option (Int32) := if x1 < (0 : Int32) then mo_peek_j11 me else if x1 ≤ (511 : Int32) then if in_b x1 512 = true then some (me (x1.toNatClampNeg)) else none else mo_peek_j11 me
def mo_noTask_j9  : Option (Bool) := some true
def mo_noTask (x1 : Int32) : Option (Bool) := if x1 < (0 : Int32) then mo_noTask_j9 else if x1 ≤ (3 : Int32) then some false else mo_noTask_j9
def mo_start (x1 : Int32) (x2 : Int32) (x3 : Int32) (me : Nat → Int32) (rg : Nat → Int32) (so : Nat → Int32) (sv : Nat → Int32) (qu : Nat → Int32) (wa : Int32) (ru : Int32) (sp : Int32) : Option (Bool × (Nat → Int32) × (Nat → Int32) × (Nat → Int32) × (Nat → Int32) × (Nat → Int32) × Int32 × Int32 × Int32) := (mo_noTask x1).bind fun z5 => if (bz_i z5) = (0 : Int32) then if in_b x1 4 = true then if (so (x1.toNatClampNeg)) = (0 : Int32) then if x2 < (0 : Int32) then some (false, me, rg, so, sv, qu, wa, ru, sp) else if (65535 : Int32) < x2 then some (false, me, rg, so, sv, qu, wa, ru, sp) else if x3 < (0 : Int32) then some (false, me, rg, so, sv, qu, wa, ru, sp) else if x3 ≤ (255 : Int32) then (mo_begin x1 x2 x3 me so sv qu wa).bind fun z7 => (mo_next z7.1 rg z7.2.1 z7.2.2.1 z7.2.2.2.1 z7.2.2.2.2 ru sp).bind fun z8 => some (true, z7.1, z8.1, z8.2.1, z7.2.2.1, z8.2.2.1, z8.2.2.2.1, z8.2.2.2.2.1, z8.2.2.2.2.2) else some (false, me, rg, so, sv, qu, wa, ru, sp) else some (false, me, rg, so, sv, qu, wa, ru, sp) else none else some (false, me, rg, so, sv, qu, wa, ru, sp)
def mo_stop (x1 : Int32) (me : Nat → Int32) (rg : Nat → Int32) (so : Nat → Int32) (sv : Nat → Int32) (tl : Nat → Int32) (su : Nat → Int32) (qu : Nat → Int32) (wa : Int32) (ru : Int32) (sp : Int32) : Option (Bool × (Nat → Int32) × (Nat → Int32) × (Nat → Int32) × (Nat → Int32) × (Nat → Int32) × Int32 × Int32 × Int32) := (mo_noTask x1).bind fun z4 => if (bz_i z4) = (0 : Int32) then if in_b x1 4 = true then if (so (x1.toNatClampNeg)) = (0 : Int32) then some (false, rg, so, tl, su, qu, wa, ru, sp) else (mo_end x1 (254 : Int32) me rg so sv tl su qu wa ru sp).bind fun z6 => some (true, z6.1, z6.2.1, z6.2.2.1, z6.2.2.2.1, z6.2.2.2.2.1, z6.2.2.2.2.2.1, z6.2.2.2.2.2.2.1, z6.2.2.2.2.2.2.2) else none else some (false, rg, so, tl, su, qu, wa, ru, sp)
def mo_timer_j19 (v1 : Int32) (pe : Int32) (re : Int32) : Option (Bool × Int32 × Int32) := some (true, v1, v1)
def mo_timer (x1 : Int32) (pe : Int32) (re : Int32) : Option (Bool × Int32 × Int32) := if x1 = (0 : Int32) then mo_timer_j19 x1 pe re else if x1 < (16 : Int32) then some (false, pe, re) else if x1 ≤ (1000 : Int32) then mo_timer_j19 x1 pe re else some (false, pe, re)
def mo_state (x1 : Int32) (so : Nat → Int32) : Option (Int32) := (mo_noTask x1).bind fun z3 => if (bz_i z3) = (0 : Int32) then if in_b x1 4 = true then some (so (x1.toNatClampNeg)) else none else some (-1 : Int32)
def mo_inFrame_j75 (v1 : Int32) (v2 : Int32) (s0 : Int32) (me : Nat → Int32) : Option (Int32) := if (8 : Int32) ≤ v2 then (mo_at (v1 + s0) me).bind fun z7 => some z7 else (mo_at (v1 + s0) me).bind fun z8 => (mo_at ((v1 + s0) + (1 : Int32)) me).bind fun z9 => some (((256 : Int32) * z8) + z9)
def mo_inFrame_j20 (v1 : Int32) (v2 : Int32) (me : Nat → Int32) : Option (Int32) := mo_inFrame_j75 v1 v2 (1 : Int32) me
def mo_inFrame (x1 : Int32) (x2 : Int32) (me : Nat → Int32) : Option (Int32) := if x2 = (10 : Int32) then mo_inFrame_j75 x1 x2 (0 : Int32) me else if x2 = (8 : Int32) then mo_inFrame_j20 x1 x2 me else if x2 = (0 : Int32) then mo_inFrame_j20 x1 x2 me else if x2 = (9 : Int32) then mo_inFrame_j75 x1 x2 (2 : Int32) me else if x2 = (11 : Int32) then mo_inFrame_j75 x1 x2 (3 : Int32) me else if x2 = (1 : Int32) then mo_inFrame_j75 x1 x2 (4 : Int32) me else if x2 = (2 : Int32) then mo_inFrame_j75 x1 x2 (6 : Int32) me else if x2 = (3 : Int32) then mo_inFrame_j75 x1 x2 (8 : Int32) me else mo_inFrame_j75 x1 x2 (10 : Int32) me
def mo_register (x1 : Int32) (x2 : Int32) (me : Nat → Int32) (rg : Nat → Int32) (so : Nat → Int32) (sv : Nat → Int32) : Option (Int32) := (mo_noTask x1).bind fun z5 => if (bz_i z5) = (0 : Int32) then if in_b x1 4 = true then if (so (x1.toNatClampNeg)) = (0 : Int32) then some (-1 : Int32) else if x2 < (0 : Int32) then some (-1 : Int32) else if (11 : Int32) < x2 then some (-1 : Int32) else if x2 = (6 : Int32) then some (-1 : Int32) else if x2 = (7 : Int32) then some (-1 : Int32) else if (so (x1.toNatClampNeg)) = (1 : Int32) then (mo_get x2 rg).bind fun z8 => some z8 else if x2 = (4 : Int32) then some (((sv (x1.toNatClampNeg)) + (12 : Int32)) &&& (65535 : Int32)) else (mo_inFrame (sv (x1.toNatClampNeg)) x2 me).bind fun z7 => some z7 else none else some (-1 : Int32)
def mo_queued_j12 (qu : Nat → Int32) (wa : Int32) : Option (Int32) := some (-1 : Int32)
def mo_queued (x1 : Int32) (qu : Nat → Int32) (wa : Int32) : Option (Int32) := if x1 < (0 : Int32) then mo_queued_j12 qu wa else if x1 < wa then if in_b x1 4 = true then some (qu (x1.toNatClampNeg)) else none else mo_queued_j12 qu wa
def mo_sleeps_j17 (so : Nat → Int32) (tl : Nat → Int32) : Option (Int32) := some (0 : Int32)
def mo_sleeps (x1 : Int32) (so : Nat → Int32) (tl : Nat → Int32) : Option (Int32) := (mo_noTask x1).bind fun z3 => if (bz_i z3) = (0 : Int32) then if in_b x1 4 = true then if (so (x1.toNatClampNeg)) = (3 : Int32) then some (tl (x1.toNatClampNeg)) else mo_sleeps_j17 so tl else none else mo_sleeps_j17 so tl
def mo_status (x1 : Int32) (su : Nat → Int32) : Option (Int32) := (mo_noTask x1).bind fun z3 => if (bz_i z3) = (0 : Int32) then if in_b x1 4 = true then some (su (x1.toNatClampNeg)) else none else some (-1 : Int32)
def mo_cycles (pa : Int32) : Option (Int32) := some pa
def mo_ticks (se : Int32) : Option (Int32) := some se
def mo_lost (pn : Bool) (lo : Int32) : Option (Int32) := if (bz_i pn) = (0 : Int32) then some (lo + (0 : Int32)) else some (lo + (100000 : Int32))
def mo_left (pe : Int32) (re : Int32) : Option (Int32) := if pe = (0 : Int32) then some (0 : Int32) else some re
end
section
/-! Contracts of the class's methods: as co_i, co_v, and what the static table PUSHED holds is carried along; calls with the frame rule. -/
def ps_i : Nat → Int32 := fun j => match j with
  | 0 => 10
  | 1 => 8
  | 2 => 9
  | 3 => 11
  | 4 => 1
  | 5 => 2
  | 6 => 3
  | _ => 5
def sa_ (A : Nat → Prop) (U : State) (H : Heap) : Prop := ∃ t : Nat, va_Z "TaskComputer$Registers" "PUSHED" "[I" (.ref t) A U H ∧ va_T .int t 8 (fun j => .int (ps_i j)) A U H
theorem sa_moved {A : Nat → Prop} {u U : State} {H : Heap} (hvm : u.vm.Alike U.vm) (h : sa_ A u H) : sa_ A U H := by
  obtain ⟨t, h1, h2⟩ := h
  exact ⟨t, h1.moved hvm, h2.moved hvm⟩
theorem sa_kept {A : Nat → Prop} {U : State} {H H1 : Heap} (h : sa_ A U H) (hq : ∀ a : Nat, a < H.size → ¬ A a → H1[a]? = H[a]?) : sa_ A U H1 := by
  obtain ⟨t, h1, h2⟩ := h
  exact ⟨t, h1.kept hq, h2.kept hq⟩
theorem sa_narrow {A B : Nat → Prop} {U : State} {H : Heap} (h : sa_ A U H) (hAB : ∀ q, B q → A q) : sa_ B U H := by
  obtain ⟨t, h1, h2⟩ := h
  exact ⟨t, h1.narrow hAB, h2.narrow hAB⟩
def opt_c {α : Type} (x : Option Nat) (a : Option α) (b : Nat → Option α) : Option α := match x with
  | none => a
  | some i => b i
theorem op_n {α : Type} {x : Option Nat} {a : Option α} {b : Nat → Option α} {z : α} (h : opt_c x a b = some z) : (x = none ∧ a = some z) ∨ ∃ i, x = some i ∧ b i = some z := by
  cases x with
  | none => exact Or.inl ⟨rfl, h⟩
  | some i => exact Or.inr ⟨i, rfl, h⟩
theorem op_f {α : Type} {x : Option Nat} {b : Nat → Option α} {z : α} (h : opt_c x none b = some z) : ∃ i, x = some i ∧ b i = some z := by
  rcases op_n h with ⟨_, h⟩ | h
  · cases h
  · exact h
theorem op_t {β : Type} {i n : Nat} {x : Option β} {z : β} (h : (if i < n then x else none) = some z) : i < n ∧ x = some z := by
  by_cases hb : i < n
  · rw [if_pos hb] at h
    exact ⟨hb, h⟩
  · rw [if_neg hb] at h
    cases h
def tk_ok (o : Option Nat) : Bool := match o with
  | none => true
  | some i => decide (i < 4)
theorem op_k {β : Type} {o : Option Nat} {x : Option β} {z : β} (h : (if tk_ok o = true then x else none) = some z) : tk_ok o = true ∧ x = some z := by
  by_cases hb : tk_ok o = true
  · rw [if_pos hb] at h
    exact ⟨hb, h⟩
  · rw [if_neg hb] at h
    cases h
section BASE2
variable {p : Program} {l : Launch} {e : Env} {R : Room} {s : State} {m : MethodId} {args : Array Value} {below : List Frame} {meth : Method} {c : Code} {H : Heap} {locs : List Loc} {Q : State → Prop}
variable {cc bytes : ByteArray} {pc nL maxL idx n b : Nat} {ls : Array Slot} {rest st As : List Value} {D : va_G} {tys : List (ClassId × FieldType)} {A : Nat → Prop} {w w' ws : va_W} {own : String} {y : MethodName} {rt : FieldType} {ret : Option FieldType} {rm : Room} {r : Int32} {ro : Option Nat} {lv : List (Nat × Value)}
def qs_q (D : va_G) (tys : List (ClassId × FieldType)) (w' : va_W) (r : Option Nat) (A : Nat → Prop) : Array Value → State → Outcome → State → Prop := va_Qq (fun r' (_ : Unit) => r' = r) (fun _ t => va_P D cz_all w' t.heap ∧ va_K D cz_all tys t ∧ va_D A w') A
def qc_p (D : va_G) (tys : List (ClassId × FieldType)) (As : List Value) (w : va_W) (sz : Nat) : Array Value → State → Prop := va_Pc As (fun U => U.heap.size = sz ∧ va_P D cz_all w U.heap ∧ va_K D cz_all tys U ∧ va_D (fun _ => True) w ∧ sa_ (va_A w sz) U U.heap)
def cs_i (l : Launch) (y : MethodName) (cc : ByteArray) (nL : Nat) (rt : FieldType) (rm : Room) (D : va_G) (tys : List (ClassId × FieldType)) (As : List Value) (w w' : va_W) (r : Int32) : Prop := ∀ sz : Nat, Met l y (Cond.code y cc nL (some rt) :: wg_all) rm (qc_p D tys As w sz) (qs_i D tys w' r (va_A w sz)) 0 0 (va_A w sz)
def cs_v (l : Launch) (y : MethodName) (cc : ByteArray) (nL : Nat) (rm : Room) (D : va_G) (tys : List (ClassId × FieldType)) (As : List Value) (w w' : va_W) : Prop := ∀ sz : Nat, Met l y (Cond.code y cc nL none :: wg_all) rm (qc_p D tys As w sz) (qs_v D tys w' (va_A w sz)) 0 0 (va_A w sz)
def cs_q (l : Launch) (y : MethodName) (cc : ByteArray) (nL : Nat) (rt : FieldType) (rm : Room) (D : va_G) (tys : List (ClassId × FieldType)) (As : List Value) (w w' : va_W) (r : Option Nat) : Prop := ∀ sz : Nat, Met l y (Cond.code y cc nL (some rt) :: wg_all) rm (qc_p D tys As w sz) (qs_q D tys w' r (va_A w sz)) 0 0 (va_A w sz)
theorem qc_p_blind {As : List Value} {w : va_W} {sz : Nat} : FrameBlind (qc_p D tys As w sz) := fun a U g mk q => by
  obtain ⟨q0, q1, qP, qK, qD, qZ⟩ := q
  exact ⟨q0, q1, qP, va_K.moved (u := U) (U := U.calling g mk a) (Vm.Alike.refl U.vm) qK, qD, sa_moved (u := U) (U := U.calling g mk a) (Vm.Alike.refl U.vm) qZ⟩
theorem cs_i_of (hy : plainName y.cls = true) (hn : (lg_sl As).length ≤ nL)
    (body : ∀ (p : Program) (e : Env) (s : State) (m : MethodId) (below : List Frame) (meth : Method) (c : Code) (A : Nat → Prop) (ls : Array Slot), CallFix p m c cc nL s As.toArray wg_all y.cls → meth.sig.returnType = some rt → meth.locks = false → va_K D cz_all tys s → va_P D cz_all w s.heap → va_D A w → va_S A s.heap s.heap [] → (∀ q, s.heap.size ≤ q → A q) → sa_ A s s.heap → lv_has ls nL (lv_args 0 As) →
      W p l e rm s m As.toArray below meth c s.heap [] 0 0 (MQ below (qs_i D tys w' r A) As.toArray s 0 0 A) (F0 m 0 ls [])) : cs_i l y cc nL rt rm D tys As w w' r := by
  intro sz
  refine Met.ofW (cc := cc) (maxL := nL) (ret := some rt) hy rfl ?_
  intro p e s m args below meth c s₁ B hml hv
  obtain ⟨rfl, hsz, hP, hK, hD0, hZ⟩ := hv
  have hts := atoms_spec (ws := Cond.code y cc nL (some rt) :: wg_all) B.pre
  subst hsz
  rw [lg_entry_eq]
  exact body p e s m below meth c _ _ ⟨B.exec, B.bytes, hml, findClass_of_methodNamed B.named, fun w hw => hts w (List.mem_cons_of_mem _ hw)⟩ B.returns B.notSynchronized hK hP hD0.self va_S.rf (fun q h => Or.inr h) hZ (lv_entry As hn)
theorem cs_v_of (hy : plainName y.cls = true) (hn : (lg_sl As).length ≤ nL)
    (body : ∀ (p : Program) (e : Env) (s : State) (m : MethodId) (below : List Frame) (meth : Method) (c : Code) (A : Nat → Prop) (ls : Array Slot), CallFix p m c cc nL s As.toArray wg_all y.cls → meth.sig.returnType = none → meth.locks = false → va_K D cz_all tys s → va_P D cz_all w s.heap → va_D A w → va_S A s.heap s.heap [] → (∀ q, s.heap.size ≤ q → A q) → sa_ A s s.heap → lv_has ls nL (lv_args 0 As) →
      W p l e rm s m As.toArray below meth c s.heap [] 0 0 (MQ below (qs_v D tys w' A) As.toArray s 0 0 A) (F0 m 0 ls [])) : cs_v l y cc nL rm D tys As w w' := by
  intro sz
  refine Met.ofW (cc := cc) (maxL := nL) (ret := none) hy rfl ?_
  intro p e s m args below meth c s₁ B hml hv
  obtain ⟨rfl, hsz, hP, hK, hD0, hZ⟩ := hv
  have hts := atoms_spec (ws := Cond.code y cc nL none :: wg_all) B.pre
  subst hsz
  rw [lg_entry_eq]
  exact body p e s m below meth c _ _ ⟨B.exec, B.bytes, hml, findClass_of_methodNamed B.named, fun w hw => hts w (List.mem_cons_of_mem _ hw)⟩ B.returns B.notSynchronized hK hP hD0.self va_S.rf (fun q h => Or.inr h) hZ (lv_entry As hn)
theorem cs_q_of (hy : plainName y.cls = true) (hn : (lg_sl As).length ≤ nL)
    (body : ∀ (p : Program) (e : Env) (s : State) (m : MethodId) (below : List Frame) (meth : Method) (c : Code) (A : Nat → Prop) (ls : Array Slot), CallFix p m c cc nL s As.toArray wg_all y.cls → meth.sig.returnType = some rt → meth.locks = false → va_K D cz_all tys s → va_P D cz_all w s.heap → va_D A w → va_S A s.heap s.heap [] → (∀ q, s.heap.size ≤ q → A q) → sa_ A s s.heap → lv_has ls nL (lv_args 0 As) →
      W p l e rm s m As.toArray below meth c s.heap [] 0 0 (MQ below (qs_q D tys w' ro A) As.toArray s 0 0 A) (F0 m 0 ls [])) : cs_q l y cc nL rt rm D tys As w w' ro := by
  intro sz
  refine Met.ofW (cc := cc) (maxL := nL) (ret := some rt) hy rfl ?_
  intro p e s m args below meth c s₁ B hml hv
  obtain ⟨rfl, hsz, hP, hK, hD0, hZ⟩ := hv
  have hts := atoms_spec (ws := Cond.code y cc nL (some rt) :: wg_all) B.pre
  subst hsz
  rw [lg_entry_eq]
  exact body p e s m below meth c _ _ ⟨B.exec, B.bytes, hml, findClass_of_methodNamed B.named, fun w hw => hts w (List.mem_cons_of_mem _ hw)⟩ B.returns B.notSynchronized hK hP hD0.self va_S.rf (fun q h => Or.inr h) hZ (lv_entry As hn)
theorem rt_q (X : CallFix p m c cc nL s args wg_all own) {nm : String} (hr : meth.sig.returnType = some (.object nm)) (hlk : meth.locks = false) (hK : va_K D cz_all tys s) (hP : va_P D cz_all w' H) (hD : va_D A w') (hS : va_S A s.heap H locs) (hdg : decode cc pc = .ok (.areturn, 1)) : W p l e R s m args below meth c H locs 0 0 (MQ below (qs_q D tys w' ro A) args s 0 0 A) (F0 m pc ls [va_rf ro]) :=
  W.aret X.1 X.2.1 hr (Or.inl ⟨nm, rfl⟩) (va_rf_or ro) (fun t ht hW => ⟨⟨ro, (), rfl, rfl, by rw [ht]; exact hP, va_K.moved hW.alike hK, hD⟩, hS.F ht⟩) hS.2.2 hdg hlk
theorem P_of {D : va_G} {cl : List vw_C} {ws wc : va_W} {H : Heap} (hP : va_P D cl ws H) (isC : List Nat) (hC : isC.map (fun i => ws[i]?) = wc.map some) : va_P D cl wc H := by
  intro k q hk
  obtain ⟨i, -, hi⟩ := va_in_of isC hC hk
  exact hP i q hi
theorem pre_cV (hK : va_K D cz_all tys s) (hP : va_P D cz_all w H) (hD : va_D A w) (hZ : sa_ (va_A w H.size) s H) {C : String} (hcell : ∃ cell : Cell, H[b]? = some cell ∧ cell.vm.isStatics = false ∧ s.vm.findClass C = some cell.cls) : PreV s H C b (qc_p D tys (.ref b :: As) w H.size) As :=
  ⟨qc_p_blind, hcell, fun U hU hW => ⟨rfl, by rw [hU], by rw [hU]; exact hP, va_K.moved hW.alike hK, hD.weaken (fun _ _ _ _ => trivial), by rw [hU]; exact sa_moved hW.alike hZ⟩⟩
theorem pre_cS (hK : va_K D cz_all tys s) (hP : va_P D cz_all w H) (hD : va_D A w) (hZ : sa_ (va_A w H.size) s H) : PreS s H (qc_p D tys As w H.size) As :=
  ⟨qc_p_blind, fun U hU hW => ⟨rfl, by rw [hU], by rw [hU]; exact hP, va_K.moved hW.alike hK, hD.weaken (fun _ _ _ _ => trivial), by rw [hU]; exact sa_moved hW.alike hZ⟩⟩
/-- a call with the frame rule: what the callee needs lies at the places isC of the caller's world, the rest at isR; ws2 is the caller's world behind the call, by the places is2 of rest and callee's world -/
theorem cf_i {ws2 : va_W} (X : CallFix p m c cc nL s args wg_all own) (cw : cw_V own idx y bytes maxL (some rt) n) (hK : va_K D cz_all tys s) (hP : va_P D cz_all ws H) (hD : va_D A ws) (hS : va_S A s.heap H locs) (hA : ∀ q, s.heap.size ≤ q → A q) (hZ : sa_ A s s.heap) (hl : lv_has ls nL lv) (hM : cs_i l y bytes maxL rt rm D tys (.ref b :: As) w w' r) (hR : rm_in rm R maxL)
    (isC isR is2 : List Nat) (hC : isC.map (fun i => ws[i]?) = w.map some) (hRr : isR.map (fun i => ws[i]?) = (isR.filterMap (fun i => ws[i]?)).map some) (hn1 : va_nd isC = true) (hn2 : va_nd isR = true) (hdis : ∀ i ∈ isR, i ∉ isC) (h2 : is2.map (fun i => ((isR.filterMap (fun i => ws[i]?)) ++ w')[i]?) = ws2.map some) (hn3 : va_nd is2 = true)
    (q0 : Nat) {ci : Nat} {fs : List Value} {q : vw_C} (he : w[q0]? = some (b, .inr (ci, fs))) (hc : cz_all[ci]? = some q) (hq : q.1 = y.cls) (hst : st = As.reverse ++ .ref b :: rest) (hn : As.length = n) (hW : (rest.map fun v => v.category).sum ≤ 8) (hdg : decode cc pc = .ok (.invokevirtual idx, 3))
    (kk : ∀ (H1 : Heap) (locs1 : List Loc), va_P D cz_all ws2 H1 → va_D A ws2 → va_S A s.heap H1 locs1 → W p l e R s m args below meth c H1 locs1 0 0 Q (F0 m (pc + 3) ls (.int r :: rest))) : W p l e R s m args below meth c H locs 0 0 Q (F0 m pc ls st) := by
  subst hst
  have hPc := P_of hP isC hC
  have hDc := hD.sub isC hn1 hC
  have hFc := va_free hD hS hA isC hC
  have hZc := sa_narrow (sa_kept hZ hS.2.1) hFc
  have hcell := va_recv hK hPc hc he
  rw [hq] at hcell
  refine va_calli (va_runV (As := As) (rest := rest) (b := b) X (hM H.size) (cw_V_use cw X hR) (pre_cV hK hPc hDc hZc hcell) rfl hn hl.1 rfl (lv_room hW) hdg ⟨Nat.zero_le _, Nat.zero_le _⟩) hS (fun q _ h => hFc q h) hFc (fun r' u t H1 locs1 ht hvm hpost hB hz1 hk1 hS1 => ?_)
  obtain ⟨hP1, hK1, hD1⟩ := hB
  cases hpost
  rw [ht] at hP1
  obtain ⟨hP2, hD2⟩ := va_join hP hD isC isR hC hRr hn2 hdis hk1 hFc hP1 hD1
  exact kk H1 locs1 (P_of hP2 is2 h2) (hD2.sub is2 hn3 h2) hS1
theorem cf_v {ws2 : va_W} (X : CallFix p m c cc nL s args wg_all own) (cw : cw_V own idx y bytes maxL none n) (hK : va_K D cz_all tys s) (hP : va_P D cz_all ws H) (hD : va_D A ws) (hS : va_S A s.heap H locs) (hA : ∀ q, s.heap.size ≤ q → A q) (hZ : sa_ A s s.heap) (hl : lv_has ls nL lv) (hM : cs_v l y bytes maxL rm D tys (.ref b :: As) w w') (hR : rm_in rm R maxL)
    (isC isR is2 : List Nat) (hC : isC.map (fun i => ws[i]?) = w.map some) (hRr : isR.map (fun i => ws[i]?) = (isR.filterMap (fun i => ws[i]?)).map some) (hn1 : va_nd isC = true) (hn2 : va_nd isR = true) (hdis : ∀ i ∈ isR, i ∉ isC) (h2 : is2.map (fun i => ((isR.filterMap (fun i => ws[i]?)) ++ w')[i]?) = ws2.map some) (hn3 : va_nd is2 = true)
    (q0 : Nat) {ci : Nat} {fs : List Value} {q : vw_C} (he : w[q0]? = some (b, .inr (ci, fs))) (hc : cz_all[ci]? = some q) (hq : q.1 = y.cls) (hst : st = As.reverse ++ .ref b :: rest) (hn : As.length = n) (hW : (rest.map fun v => v.category).sum ≤ 8) (hdg : decode cc pc = .ok (.invokevirtual idx, 3))
    (kk : ∀ (H1 : Heap) (locs1 : List Loc), va_P D cz_all ws2 H1 → va_D A ws2 → va_S A s.heap H1 locs1 → W p l e R s m args below meth c H1 locs1 0 0 Q (F0 m (pc + 3) ls rest)) : W p l e R s m args below meth c H locs 0 0 Q (F0 m pc ls st) := by
  subst hst
  have hPc := P_of hP isC hC
  have hDc := hD.sub isC hn1 hC
  have hFc := va_free hD hS hA isC hC
  have hZc := sa_narrow (sa_kept hZ hS.2.1) hFc
  have hcell := va_recv hK hPc hc he
  rw [hq] at hcell
  refine va_callv (va_runV (As := As) (rest := rest) (b := b) X (hM H.size) (cw_V_use cw X hR) (pre_cV hK hPc hDc hZc hcell) rfl hn hl.1 rfl (lv_room hW) hdg ⟨Nat.zero_le _, Nat.zero_le _⟩) hS (fun q _ h => hFc q h) hFc (fun u t H1 locs1 ht hvm hpost hB hz1 hk1 hS1 => ?_)
  obtain ⟨hP1, hK1, hD1⟩ := hB
  rw [ht] at hP1
  obtain ⟨hP2, hD2⟩ := va_join hP hD isC isR hC hRr hn2 hdis hk1 hFc hP1 hD1
  exact kk H1 locs1 (P_of hP2 is2 h2) (hD2.sub is2 hn3 h2) hS1
theorem cf_q {ws2 : va_W} (X : CallFix p m c cc nL s args wg_all own) (cw : cw_V own idx y bytes maxL (some rt) n) (hK : va_K D cz_all tys s) (hP : va_P D cz_all ws H) (hD : va_D A ws) (hS : va_S A s.heap H locs) (hA : ∀ q, s.heap.size ≤ q → A q) (hZ : sa_ A s s.heap) (hl : lv_has ls nL lv) (hM : cs_q l y bytes maxL rt rm D tys (.ref b :: As) w w' ro) (hR : rm_in rm R maxL)
    (isC isR is2 : List Nat) (hC : isC.map (fun i => ws[i]?) = w.map some) (hRr : isR.map (fun i => ws[i]?) = (isR.filterMap (fun i => ws[i]?)).map some) (hn1 : va_nd isC = true) (hn2 : va_nd isR = true) (hdis : ∀ i ∈ isR, i ∉ isC) (h2 : is2.map (fun i => ((isR.filterMap (fun i => ws[i]?)) ++ w')[i]?) = ws2.map some) (hn3 : va_nd is2 = true)
    (q0 : Nat) {ci : Nat} {fs : List Value} {q : vw_C} (he : w[q0]? = some (b, .inr (ci, fs))) (hc : cz_all[ci]? = some q) (hq : q.1 = y.cls) (hst : st = As.reverse ++ .ref b :: rest) (hn : As.length = n) (hW : (rest.map fun v => v.category).sum ≤ 8) (hdg : decode cc pc = .ok (.invokevirtual idx, 3))
    (kk : ∀ (H1 : Heap) (locs1 : List Loc), va_P D cz_all ws2 H1 → va_D A ws2 → va_S A s.heap H1 locs1 → W p l e R s m args below meth c H1 locs1 0 0 Q (F0 m (pc + 3) ls (va_rf ro :: rest))) : W p l e R s m args below meth c H locs 0 0 Q (F0 m pc ls st) := by
  subst hst
  have hPc := P_of hP isC hC
  have hDc := hD.sub isC hn1 hC
  have hFc := va_free hD hS hA isC hC
  have hZc := sa_narrow (sa_kept hZ hS.2.1) hFc
  have hcell := va_recv hK hPc hc he
  rw [hq] at hcell
  refine va_callq (va_runV (As := As) (rest := rest) (b := b) X (hM H.size) (cw_V_use cw X hR) (pre_cV hK hPc hDc hZc hcell) rfl hn hl.1 rfl (lv_room hW) hdg ⟨Nat.zero_le _, Nat.zero_le _⟩) hS (fun q _ h => hFc q h) hFc (fun r' u t H1 locs1 ht hvm hpost hB hz1 hk1 hS1 => ?_)
  obtain ⟨hP1, hK1, hD1⟩ := hB
  cases hpost
  rw [ht] at hP1
  obtain ⟨hP2, hD2⟩ := va_join hP hD isC isR hC hRr hn2 hdis hk1 hFc hP1 hD1
  exact kk H1 locs1 (P_of hP2 is2 h2) (hD2.sub is2 hn3 h2) hS1
/-- invokestatic, an int; the callee keeps any world -/
theorem cf_si (X : CallFix p m c cc nL s args wg_all own) (cw : cw_S own idx y bytes maxL (some rt) n) (hK : va_K D cz_all tys s) (hP : va_P D cz_all w H) (hD : va_D A w) (hS : va_S A s.heap H locs) (hA : ∀ q, s.heap.size ≤ q → A q) (hZ : sa_ A s s.heap) (hl : lv_has ls nL lv) (hM : cs_i l y bytes maxL rt rm D tys As w w' r) (hR : rm_in rm R maxL) (hst : st = As.reverse ++ rest) (hn : As.length = n) (hW : (rest.map fun v => v.category).sum ≤ 8) (hdg : decode cc pc = .ok (.invokestatic idx, 3))
    (kk : ∀ (H1 : Heap) (locs1 : List Loc), va_P D cz_all w' H1 → va_D A w' → va_S A s.heap H1 locs1 → W p l e R s m args below meth c H1 locs1 0 0 Q (F0 m (pc + 3) ls (.int r :: rest))) : W p l e R s m args below meth c H locs 0 0 Q (F0 m pc ls st) := by
  subst hst
  have hFc := fr_all hD hS hA
  have hZc := sa_narrow (sa_kept hZ hS.2.1) hFc
  refine va_calli (va_runS (As := As) (rest := rest) X (hM H.size) (cw_S_use cw X hR) (pre_cS hK hP hD hZc) rfl hn hl.1 rfl (lv_room hW) hdg ⟨Nat.zero_le _, Nat.zero_le _⟩) hS (fun q _ h => hFc q h) hFc (fun r' u t H1 locs1 ht hvm hpost hB hz1 hk1 hS1 => ?_)
  obtain ⟨hP1, hK1, hD1⟩ := hB
  cases hpost
  exact kk H1 locs1 (by rw [← ht]; exact hP1) (hD1.weaken (fun k q _ h => hFc q.1 h)) hS1
/-- loads and stores of a reference that may be null -/
theorem lo_aload_n (hexec : p.tables.exec = Jvm.exec) (hb : c.code = cc) {k : Fin 4} {i : Nat} (hdg : decode cc pc = .ok (.aload_n k, 1)) (hi : (k : Nat) = i) (hl : ls[i]? = some (.val (va_rf ro)))
    (kk : W p l e R s m args below meth c H locs 0 0 Q (F0 m (pc + 1) ls (va_rf ro :: rest))) : W p l e R s m args below meth c H locs 0 0 Q (F0 m pc ls rest) := by
  cases ro with
  | none => exact lv_aload_nN hexec hb hdg hi hl kk
  | some a => exact lv_aload_n hexec hb hdg hi hl kk
theorem lo_aload (hexec : p.tables.exec = Jvm.exec) (hb : c.code = cc) {i : Nat} (hdg : decode cc pc = .ok (.aload i, 2)) (hl : ls[i]? = some (.val (va_rf ro)))
    (kk : W p l e R s m args below meth c H locs 0 0 Q (F0 m (pc + 2) ls (va_rf ro :: rest))) : W p l e R s m args below meth c H locs 0 0 Q (F0 m pc ls rest) := by
  cases ro with
  | none => exact lv_aloadN hexec hb hdg hl kk
  | some a => exact lv_aload hexec hb hdg hl kk
theorem lo_astore_n (hexec : p.tables.exec = Jvm.exec) (hb : c.code = cc) {k : Fin 4} {i nL : Nat} {lv lv' : List (Nat × Value)} (hdg : decode cc pc = .ok (.astore_n k, 1)) (hi : (k : Nat) = i) (h : lv_has ls nL lv) (hn : i < nL) (hl : (i, va_rf ro) :: lv.filter (fun q => !(q.1 == i) && !(q.1 + 1 == i && q.2.category == 2)) = lv')
    (kk : ∀ ls' : Array Slot, lv_has ls' nL lv' → W p l e R s m args below meth c H locs 0 0 Q (F0 m (pc + 1) ls' rest)) : W p l e R s m args below meth c H locs 0 0 Q (F0 m pc ls (va_rf ro :: rest)) := by
  cases ro with
  | none => exact lv_astore_nN hexec hb hdg hi h hn hl kk
  | some a => exact lv_astore_n hexec hb hdg hi h hn hl kk
theorem lo_astore (hexec : p.tables.exec = Jvm.exec) (hb : c.code = cc) {i nL : Nat} {lv lv' : List (Nat × Value)} (hdg : decode cc pc = .ok (.astore i, 2)) (h : lv_has ls nL lv) (hn : i < nL) (hl : (i, va_rf ro) :: lv.filter (fun q => !(q.1 == i) && !(q.1 + 1 == i && q.2.category == 2)) = lv')
    (kk : ∀ ls' : Array Slot, lv_has ls' nL lv' → W p l e R s m args below meth c H locs 0 0 Q (F0 m (pc + 2) ls' rest)) : W p l e R s m args below meth c H locs 0 0 Q (F0 m pc ls (va_rf ro :: rest)) := by
  cases ro with
  | none => exact lv_astoreN hexec hb hdg h hn hl kk
  | some a => exact lv_astore hexec hb hdg h hn hl kk
end BASE2
end
section
abbrev rm_c_C_signed : Room := { frames := 0, cells := 0, slots := 0, locals := 0 }
abbrev rm_c_C_carry : Room := { frames := 0, cells := 0, slots := 0, locals := 0 }
abbrev rm_c_C_maskOf : Room := { frames := 0, cells := 0, slots := 0, locals := 0 }
abbrev rm_c_C_signOf : Room := { frames := 1, cells := 0, slots := 0, locals := 21 }
abbrev rm_c_G_setFlags : Room := { frames := 0, cells := 0, slots := 0, locals := 0 }
abbrev rm_c_C_sum : Room := { frames := 2, cells := 0, slots := 0, locals := 42 }
abbrev rm_c_C_difference : Room := { frames := 2, cells := 0, slots := 0, locals := 42 }
abbrev rm_c_C_plain : Room := { frames := 2, cells := 0, slots := 0, locals := 42 }
abbrev rm_c_C_plainWithCarry : Room := { frames := 2, cells := 0, slots := 0, locals := 42 }
abbrev rm_c_C_shiftRight : Room := { frames := 2, cells := 0, slots := 0, locals := 42 }
abbrev rm_c_C_shiftLeft : Room := { frames := 2, cells := 0, slots := 0, locals := 42 }
abbrev rm_c_C_decrement : Room := { frames := 2, cells := 0, slots := 0, locals := 42 }
abbrev rm_c_C_increment : Room := { frames := 2, cells := 0, slots := 0, locals := 42 }
abbrev rm_c_G_set : Room := { frames := 0, cells := 0, slots := 0, locals := 0 }
abbrev rm_c_C_extendB : Room := { frames := 2, cells := 0, slots := 0, locals := 42 }
abbrev rm_c_C_multiply : Room := { frames := 1, cells := 0, slots := 0, locals := 24 }
abbrev rm_c_K_taskAt : Room := { frames := 0, cells := 0, slots := 0, locals := 0 }
abbrev rm_c_G_pushedAt : Room := { frames := 0, cells := 0, slots := 0, locals := 0 }
abbrev rm_c_G_sizeOf : Room := { frames := 0, cells := 0, slots := 0, locals := 0 }
abbrev rm_c_G_get : Room := { frames := 0, cells := 0, slots := 0, locals := 0 }
abbrev rm_c_Y_load : Room := { frames := 0, cells := 0, slots := 0, locals := 0 }
abbrev rm_c_G_pull : Room := { frames := 1, cells := 0, slots := 0, locals := 25 }
abbrev rm_c_K_take_G : Room := { frames := 2, cells := 0, slots := 0, locals := 52 }
abbrev rm_c_K_take_S : Room := { frames := 2, cells := 0, slots := 0, locals := 52 }
abbrev rm_c_K_registersOf : Room := { frames := 3, cells := 0, slots := 0, locals := 74 }
abbrev rm_c_Y_store : Room := { frames := 0, cells := 0, slots := 0, locals := 0 }
abbrev rm_c_G_push : Room := { frames := 1, cells := 0, slots := 0, locals := 26 }
abbrev rm_c_K_stack_G : Room := { frames := 2, cells := 0, slots := 0, locals := 53 }
abbrev rm_c_K_stack_S : Room := { frames := 2, cells := 0, slots := 0, locals := 53 }
abbrev rm_c_Q_append : Room := { frames := 0, cells := 0, slots := 0, locals := 0 }
abbrev rm_c_K_makeReady : Room := { frames := 1, cells := 0, slots := 0, locals := 21 }
abbrev rm_c_K_begin : Room := { frames := 3, cells := 0, slots := 0, locals := 75 }
abbrev rm_c_Q_remove : Room := { frames := 0, cells := 0, slots := 0, locals := 0 }
abbrev rm_c_K_end : Room := { frames := 1, cells := 0, slots := 0, locals := 23 }
abbrev rm_c_Q_removeFirst : Room := { frames := 1, cells := 0, slots := 0, locals := 23 }
abbrev rm_c_K_resume : Room := { frames := 3, cells := 0, slots := 0, locals := 74 }
abbrev rm_c_K_takeNext : Room := { frames := 4, cells := 0, slots := 0, locals := 95 }
abbrev rm_c_G_has : Room := { frames := 0, cells := 0, slots := 0, locals := 0 }
abbrev rm_c_K_canServe : Room := { frames := 1, cells := 0, slots := 0, locals := 21 }
abbrev rm_c_K_serveTick : Room := { frames := 5, cells := 0, slots := 0, locals := 116 }
abbrev rm_c_K_leastFree : Room := { frames := 0, cells := 0, slots := 0, locals := 0 }
abbrev rm_c_K_fail : Room := { frames := 1, cells := 0, slots := 0, locals := 26 }
abbrev rm_c_Y_copyBlock : Room := { frames := 1, cells := 0, slots := 0, locals := 26 }
abbrev rm_c_K_succeed : Room := { frames := 1, cells := 0, slots := 0, locals := 26 }
abbrev rm_c_K_fork : Room := { frames := 4, cells := 0, slots := 0, locals := 98 }
abbrev rm_c_K_putToSleep : Room := { frames := 2, cells := 0, slots := 0, locals := 42 }
abbrev rm_c_K_answer : Room := { frames := 5, cells := 0, slots := 0, locals := 122 }
abbrev rm_c_K_settle : Room := { frames := 6, cells := 0, slots := 0, locals := 146 }
abbrev rm_c_Y_holds : Room := { frames := 0, cells := 0, slots := 0, locals := 0 }
abbrev rm_c_P_skip : Room := { frames := 0, cells := 0, slots := 0, locals := 0 }
abbrev rm_c_P_fetch : Room := { frames := 1, cells := 0, slots := 0, locals := 25 }
abbrev rm_c_P_isIndexedForm : Room := { frames := 0, cells := 0, slots := 0, locals := 0 }
abbrev rm_c_P_load : Room := { frames := 1, cells := 0, slots := 0, locals := 25 }
abbrev rm_c_P_indexedAddress : Room := { frames := 2, cells := 0, slots := 0, locals := 47 }
abbrev rm_c_P_operandAddress : Room := { frames := 3, cells := 0, slots := 0, locals := 73 }
abbrev rm_c_P_isChange : Room := { frames := 0, cells := 0, slots := 0, locals := 0 }
abbrev rm_c_P_changed : Room := { frames := 3, cells := 0, slots := 0, locals := 68 }
abbrev rm_c_P_store : Room := { frames := 1, cells := 0, slots := 0, locals := 26 }
abbrev rm_c_P_changeMemory : Room := { frames := 4, cells := 0, slots := 0, locals := 96 }
abbrev rm_c_P_calculate : Room := { frames := 3, cells := 0, slots := 0, locals := 69 }
abbrev rm_c_P_operate : Room := { frames := 4, cells := 0, slots := 0, locals := 96 }
abbrev rm_c_P_doSecondPage : Room := { frames := 5, cells := 0, slots := 0, locals := 123 }
abbrev rm_c_G_exists : Room := { frames := 0, cells := 0, slots := 0, locals := 0 }
abbrev rm_c_P_moveRegister : Room := { frames := 2, cells := 0, slots := 0, locals := 47 }
abbrev rm_c_P_doGroup1 : Room := { frames := 3, cells := 0, slots := 0, locals := 72 }
abbrev rm_c_P_holds : Room := { frames := 1, cells := 0, slots := 0, locals := 21 }
abbrev rm_c_P_branch : Room := { frames := 2, cells := 0, slots := 0, locals := 47 }
abbrev rm_c_P_loadAddress : Room := { frames := 3, cells := 0, slots := 0, locals := 73 }
abbrev rm_c_P_push : Room := { frames := 2, cells := 0, slots := 0, locals := 53 }
abbrev rm_c_P_pull : Room := { frames := 2, cells := 0, slots := 0, locals := 52 }
abbrev rm_c_P_doGroup3 : Room := { frames := 4, cells := 0, slots := 0, locals := 95 }
abbrev rm_c_P_changeRegister : Room := { frames := 4, cells := 0, slots := 0, locals := 90 }
abbrev rm_c_P_callAt : Room := { frames := 4, cells := 0, slots := 0, locals := 96 }
abbrev rm_c_P_doMainPage : Room := { frames := 5, cells := 0, slots := 0, locals := 123 }
abbrev rm_c_P_execute : Room := { frames := 6, cells := 0, slots := 0, locals := 147 }
abbrev rm_c_Q_numberAt : Room := { frames := 0, cells := 0, slots := 0, locals := 0 }
abbrev rm_c_I_letPass : Room := { frames := 0, cells := 0, slots := 0, locals := 0 }
abbrev rm_c_I_countServed : Room := { frames := 0, cells := 0, slots := 0, locals := 0 }
abbrev rm_c_T_poke : Room := { frames := 1, cells := 0, slots := 0, locals := 26 }
abbrev rm_c_T_peek : Room := { frames := 1, cells := 0, slots := 0, locals := 25 }
abbrev rm_c_T_start : Room := { frames := 5, cells := 0, slots := 0, locals := 116 }
abbrev rm_c_T_stop : Room := { frames := 5, cells := 0, slots := 0, locals := 116 }
abbrev rm_c_T_timer : Room := { frames := 0, cells := 0, slots := 0, locals := 0 }
abbrev rm_c_T_run : Room := { frames := 7, cells := 0, slots := 0, locals := 168 }
abbrev rm_c_T_state : Room := { frames := 1, cells := 0, slots := 0, locals := 21 }
abbrev rm_c_T_register : Room := { frames := 4, cells := 0, slots := 0, locals := 95 }
abbrev rm_c_T_queued : Room := { frames := 1, cells := 0, slots := 0, locals := 21 }
abbrev rm_c_T_sleeps : Room := { frames := 1, cells := 0, slots := 0, locals := 21 }
abbrev rm_c_T_status : Room := { frames := 1, cells := 0, slots := 0, locals := 21 }
abbrev rm_c_T_cycles : Room := { frames := 0, cells := 0, slots := 0, locals := 0 }
abbrev rm_c_T_ticks : Room := { frames := 0, cells := 0, slots := 0, locals := 0 }
abbrev rm_c_T_lost : Room := { frames := 0, cells := 0, slots := 0, locals := 0 }
abbrev rm_c_T_left : Room := { frames := 0, cells := 0, slots := 0, locals := 0 }
def tc_C_signed (x1 : Int32) (x2 : Int32) : Option (Int32) := if x2 = (1 : Int32) then some x1.toInt8.toInt32 else some x1.toInt16.toInt32
def tc_C_carry (gc : Int32) : Option (Int32) := some (gc &&& (1 : Int32))
def tc_C_maskOf (x1 : Int32) : Option (Int32) := if x1 = (1 : Int32) then some (255 : Int32) else some (65535 : Int32)
def tc_C_signOf (x1 : Int32) (x2 : Int32) : Option (Int32) := if x1 = (0 : Int32) then some (4 : Int32) else (tc_C_signed x1 x2).bind fun z2 => if (0 : Int32) ≤ z2 then some (0 : Int32) else some (8 : Int32)
def tc_G_setFlags (x1 : Int32) (x2 : Int32) (gc : Int32) : Option (Int32) := some ((gc &&& (x1 ^^^ (-1 : Int32))) ||| x2)
def tc_C_sum_j73 (v6 : Int32) (v7 : Int32) (gc : Int32) : Option (Int32 × Int32) := (tc_G_setFlags (15 : Int32) v7 gc).bind fun z7 => some (v6, z7)
def tc_C_sum_j42 (v1 : Int32) (v2 : Int32) (v3 : Int32) (v4 : Int32) (v6 : Int32) (v7 : Int32) (gc : Int32) : Option (Int32 × Int32) := (tc_C_signed v1 v4).bind fun z8 => (tc_C_signed v2 v4).bind fun z9 => (tc_C_signed v6 v4).bind fun z10 => if ((z8 + z9) + v3) = z10 then tc_C_sum_j73 v6 v7 gc else tc_C_sum_j73 v6 (v7 ||| (2 : Int32)) gc
def tc_C_sum (x1 : Int32) (x2 : Int32) (x3 : Int32) (x4 : Int32) (gc : Int32) : Option (Int32 × Int32) := (tc_C_maskOf x4).bind fun z11 => (tc_C_signOf (((x1 + x2) + x3) &&& z11) x4).bind fun z12 => if ((x1 + x2) + x3) ≤ z11 then tc_C_sum_j42 x1 x2 x3 x4 (((x1 + x2) + x3) &&& z11) z12 gc else tc_C_sum_j42 x1 x2 x3 x4 (((x1 + x2) + x3) &&& z11) (z12 ||| (1 : Int32)) gc
def tc_C_difference_j66 (v5 : Int32) (v6 : Int32) (gc : Int32) : Option (Int32 × Int32) := (tc_G_setFlags (15 : Int32) v6 gc).bind fun z7 => some (v5, z7)
def tc_C_difference_j35 (v1 : Int32) (v2 : Int32) (v3 : Int32) (v4 : Int32) (v5 : Int32) (v6 : Int32) (gc : Int32) : Option (Int32 × Int32) := (tc_C_signed v1 v4).bind fun z8 => (tc_C_signed v2 v4).bind fun z9 => (tc_C_signed v5 v4).bind fun z10 => if ((z8 - z9) - v3) = z10 then tc_C_difference_j66 v5 v6 gc else tc_C_difference_j66 v5 (v6 ||| (2 : Int32)) gc
def tc_C_difference (x1 : Int32) (x2 : Int32) (x3 : Int32) (x4 : Int32) (gc : Int32) : Option (Int32 × Int32) := (tc_C_maskOf x4).bind fun z11 => (tc_C_signOf (((x1 - x2) - x3) &&& z11) x4).bind fun z12 => if (x2 + x3) ≤ x1 then tc_C_difference_j35 x1 x2 x3 x4 (((x1 - x2) - x3) &&& z11) z12 gc else tc_C_difference_j35 x1 x2 x3 x4 (((x1 - x2) - x3) &&& z11) (z12 ||| (1 : Int32)) gc
def tc_C_plain (x1 : Int32) (x2 : Int32) (gc : Int32) : Option (Int32 × Int32) := (tc_C_signOf x1 x2).bind fun z3 => (tc_G_setFlags (14 : Int32) z3 gc).bind fun z4 => some (x1, z4)
def tc_C_plainWithCarry (x1 : Int32) (x2 : Int32) (gc : Int32) : Option (Int32 × Int32) := (tc_C_signOf x1 (1 : Int32)).bind fun z3 => (tc_G_setFlags (15 : Int32) (z3 ||| x2) gc).bind fun z4 => some (x1, z4)
def tc_C_shiftRight (x1 : Int32) (x2 : Int32) (gc : Int32) : Option (Int32 × Int32) := (tc_C_signOf ((x1 >>> ((1 : Int32) &&& 31)) ||| x2) (1 : Int32)).bind fun z3 => (tc_G_setFlags (13 : Int32) (z3 ||| (x1 &&& (1 : Int32))) gc).bind fun z4 => some (((x1 >>> ((1 : Int32) &&& 31)) ||| x2), z4)
def tc_C_shiftLeft_j32 (v3 : Int32) (v4 : Int32) (s0 : Int32) (gc : Int32) : Option (Int32 × Int32) := (tc_C_signOf v3 (1 : Int32)).bind fun z5 => (tc_G_setFlags (15 : Int32) ((z5 ||| s0) ||| v4) gc).bind fun z6 => some (v3, z6)
def tc_C_shiftLeft (x1 : Int32) (x2 : Int32) (gc : Int32) : Option (Int32 × Int32) := if (((((x1 <<< ((1 : Int32) &&& 31)) &&& (255 : Int32)) ||| x2) >>> ((7 : Int32) &&& 31)) ^^^ (x1 >>> ((7 : Int32) &&& 31))) = (1 : Int32) then tc_C_shiftLeft_j32 (((x1 <<< ((1 : Int32) &&& 31)) &&& (255 : Int32)) ||| x2) (x1 >>> ((7 : Int32) &&& 31)) (2 : Int32) gc else tc_C_shiftLeft_j32 (((x1 <<< ((1 : Int32) &&& 31)) &&& (255 : Int32)) ||| x2) (x1 >>> ((7 : Int32) &&& 31)) (0 : Int32) gc
def tc_C_decrement_j31 (v2 : Int32) (s0 : Int32) (s1 : Int32) (gc : Int32) : Option (Int32 × Int32) := (tc_G_setFlags (14 : Int32) (s1 ||| s0) gc).bind fun z4 => some (v2, z4)
def tc_C_decrement (x1 : Int32) (gc : Int32) : Option (Int32 × Int32) := (tc_C_signOf ((x1 - (1 : Int32)) &&& (255 : Int32)) (1 : Int32)).bind fun z5 => if x1 = (128 : Int32) then tc_C_decrement_j31 ((x1 - (1 : Int32)) &&& (255 : Int32)) (2 : Int32) z5 gc else tc_C_decrement_j31 ((x1 - (1 : Int32)) &&& (255 : Int32)) (0 : Int32) z5 gc
def tc_C_increment_j30 (v2 : Int32) (s0 : Int32) (s1 : Int32) (gc : Int32) : Option (Int32 × Int32) := (tc_G_setFlags (14 : Int32) (s1 ||| s0) gc).bind fun z4 => some (v2, z4)
def tc_C_increment (x1 : Int32) (gc : Int32) : Option (Int32 × Int32) := (tc_C_signOf ((x1 + (1 : Int32)) &&& (255 : Int32)) (1 : Int32)).bind fun z5 => if x1 = (127 : Int32) then tc_C_increment_j30 ((x1 + (1 : Int32)) &&& (255 : Int32)) (2 : Int32) z5 gc else tc_C_increment_j30 ((x1 + (1 : Int32)) &&& (255 : Int32)) (0 : Int32) z5 gc
def tc_G_set_j156 (v4 : Int32) (ga : Int32) (gb : Int32) (gd : Int32) (gc : Int32) (gx : Int32) (gy : Int32) (gu : Int32) (gs : Int32) (gp : Int32) : Option (Int32 × Int32 × Int32 × Int32 × Int32 × Int32 × Int32 × Int32 × Int32) := some (ga, gb, v4, gc, gx, gy, gu, gs, gp)
def tc_G_set (x1 : Int32) (x2 : Int32) (ga : Int32) (gb : Int32) (gd : Int32) (gc : Int32) (gx : Int32) (gy : Int32) (gu : Int32) (gs : Int32) (gp : Int32) : Option (Int32 × Int32 × Int32 × Int32 × Int32 × Int32 × Int32 × Int32 × Int32) := if x1 = (0 : Int32) then some (((x2 &&& (65535 : Int32)) >>> ((8 : Int32) &&& 31)), (x2 &&& (255 : Int32)), gd, gc, gx, gy, gu, gs, gp) else if x1 = (1 : Int32) then some (ga, gb, gd, gc, (x2 &&& (65535 : Int32)), gy, gu, gs, gp) else if x1 = (2 : Int32) then some (ga, gb, gd, gc, gx, (x2 &&& (65535 : Int32)), gu, gs, gp) else if x1 = (3 : Int32) then some (ga, gb, gd, gc, gx, gy, (x2 &&& (65535 : Int32)), gs, gp) else if x1 = (4 : Int32) then some (ga, gb, gd, gc, gx, gy, gu, (x2 &&& (65535 : Int32)), gp) else if x1 = (5 : Int32) then some (ga, gb, gd, gc, gx, gy, gu, gs, (x2 &&& (65535 : Int32))) else if x1 = (6 : Int32) then tc_G_set_j156 (x2 &&& (255 : Int32)) ga gb gd gc gx gy gu gs gp else if x1 = (7 : Int32) then tc_G_set_j156 (x2 &&& (255 : Int32)) ga gb gd gc gx gy gu gs gp else if x1 = (8 : Int32) then some ((x2 &&& (255 : Int32)), gb, gd, gc, gx, gy, gu, gs, gp) else if x1 = (9 : Int32) then some (ga, (x2 &&& (255 : Int32)), gd, gc, gx, gy, gu, gs, gp) else if x1 = (10 : Int32) then some (ga, gb, gd, (x2 &&& (255 : Int32)), gx, gy, gu, gs, gp) else tc_G_set_j156 (x2 &&& (255 : Int32)) ga gb gd gc gx gy gu gs gp
def tc_C_extendB (ga : Int32) (gb : Int32) (gd : Int32) (gc : Int32) (gx : Int32) (gy : Int32) (gu : Int32) (gs : Int32) (gp : Int32) : Option (Int32 × Int32 × Int32 × Int32 × Int32 × Int32 × Int32 × Int32 × Int32) := (tc_C_signed gb (1 : Int32)).bind fun z5 => (tc_G_set (0 : Int32) (z5 &&& (65535 : Int32)) ga gb gd gc gx gy gu gs gp).bind fun z6 => (tc_C_signOf (z5 &&& (65535 : Int32)) (2 : Int32)).bind fun z7 => (tc_G_setFlags (12 : Int32) z7 z6.2.2.2.1).bind fun z8 => some (z6.1, z6.2.1, z6.2.2.1, z8, z6.2.2.2.2.1, z6.2.2.2.2.2.1, z6.2.2.2.2.2.2.1, z6.2.2.2.2.2.2.2.1, z6.2.2.2.2.2.2.2.2)
def tc_C_multiply_j34 (s0 : Int32) (ga : Int32) (gb : Int32) (gd : Int32) (gc : Int32) (gx : Int32) (gy : Int32) (gu : Int32) (gs : Int32) (gp : Int32) : Option (Int32 × Int32 × Int32 × Int32 × Int32 × Int32 × Int32 × Int32 × Int32) := (tc_G_setFlags (5 : Int32) (s0 ||| (gb >>> ((7 : Int32) &&& 31))) gc).bind fun z4 => some (ga, gb, gd, z4, gx, gy, gu, gs, gp)
def tc_C_multiply (ga : Int32) (gb : Int32) (gd : Int32) (gc : Int32) (gx : Int32) (gy : Int32) (gu : Int32) (gs : Int32) (gp : Int32) : Option (Int32 × Int32 × Int32 × Int32 × Int32 × Int32 × Int32 × Int32 × Int32) := (tc_G_set (0 : Int32) (ga * gb) ga gb gd gc gx gy gu gs gp).bind fun z5 => if (ga * gb) = (0 : Int32) then tc_C_multiply_j34 (4 : Int32) z5.1 z5.2.1 z5.2.2.1 z5.2.2.2.1 z5.2.2.2.2.1 z5.2.2.2.2.2.1 z5.2.2.2.2.2.2.1 z5.2.2.2.2.2.2.2.1 z5.2.2.2.2.2.2.2.2 else tc_C_multiply_j34 (0 : Int32) z5.1 z5.2.1 z5.2.2.1 z5.2.2.2.1 z5.2.2.2.2.1 z5.2.2.2.2.2.1 z5.2.2.2.2.2.2.1 z5.2.2.2.2.2.2.2.1 z5.2.2.2.2.2.2.2.2
def tc_K_taskAt (x1 : Int32) : Option ((Option Nat)) := if x1 < (0 : Int32) then some none else if (4 : Int32) ≤ x1 then some none else if in_b x1 4 = true then some (some (x1.toNatClampNeg)) else none
def tc_G_pushedAt (x1 : Int32) (x2 : Int32) : Option (Int32) := if x1 = (6 : Int32) then if x2 = (3 : Int32) then some (4 : Int32) else if in_b x1 8 = true then some (ps_i (x1.toNatClampNeg)) else none else if in_b x1 8 = true then some (ps_i (x1.toNatClampNeg)) else none
def tc_G_sizeOf (x1 : Int32) : Option (Int32) := if (5 : Int32) < x1 then some (1 : Int32) else some (2 : Int32)
def tc_G_get (x1 : Int32) (ga : Int32) (gb : Int32) (gd : Int32) (gc : Int32) (gx : Int32) (gy : Int32) (gu : Int32) (gs : Int32) (gp : Int32) : Option (Int32) := if x1 = (0 : Int32) then some ((ga <<< ((8 : Int32) &&& 31)) ||| gb) else if x1 = (1 : Int32) then some gx else if x1 = (2 : Int32) then some gy else if x1 = (3 : Int32) then some gu else if x1 = (4 : Int32) then some gs else if x1 = (5 : Int32) then some gp else if x1 = (6 : Int32) then some gd else if x1 = (7 : Int32) then some gd else if x1 = (8 : Int32) then some ga else if x1 = (9 : Int32) then some gb else if x1 = (10 : Int32) then some gc else some gd
def tc_Y_load_j43 (rec_ : Int32 → Int32 → Int32 → Int32 → (Nat → Int32) → Option (Int32)) (v1 : Int32) (v2 : Int32) (v4 : Int32) (s0 : Int32) (s1 : Int32) (cb : Nat → Int32) : Option (Int32) := rec_ v1 v2 (s1 ||| s0) (v4 + Int32.ofInt 1) cb
def tc_Y_load_l5 : Nat → Int32 → Int32 → Int32 → Int32 → (Nat → Int32) → Option (Int32)
  | 0, _, _, _, _, _ => none
  | n_ + 1, v1, v2, v3, v4, cb => if v2 ≤ v4 then some v3 else if (512 : Int32) ≤ ((v1 + v4) &&& (65535 : Int32)) then tc_Y_load_j43 (tc_Y_load_l5 n_) v1 v2 v4 (0 : Int32) (v3 <<< ((8 : Int32) &&& 31)) cb else if in_b ((v1 + v4) &&& (65535 : Int32)) 512 = true then tc_Y_load_j43 (tc_Y_load_l5 n_) v1 v2 v4 (cb (((v1 + v4) &&& (65535 : Int32)).toNatClampNeg)) (v3 <<< ((8 : Int32) &&& 31)) cb else none
theorem tc_Y_load_l5_s (n_ : Nat) (v1 : Int32) (v2 : Int32) (v3 : Int32) (v4 : Int32) (cb : Nat → Int32) : tc_Y_load_l5 (n_ + 1) v1 v2 v3 v4 cb = (if v2 ≤ v4 then some v3 else if (512 : Int32) ≤ ((v1 + v4) &&& (65535 : Int32)) then tc_Y_load_j43 (tc_Y_load_l5 n_) v1 v2 v4 (0 : Int32) (v3 <<< ((8 : Int32) &&& 31)) cb else if in_b ((v1 + v4) &&& (65535 : Int32)) 512 = true then tc_Y_load_j43 (tc_Y_load_l5 n_) v1 v2 v4 (cb (((v1 + v4) &&& (65535 : Int32)).toNatClampNeg)) (v3 <<< ((8 : Int32) &&& 31)) cb else none) := rfl
def tc_Y_load (x1 : Int32) (x2 : Int32) (cb : Nat → Int32) : Option (Int32) := tc_Y_load_l5 3 x1 x2 (0 : Int32) (0 : Int32) cb
def tc_G_pull_j75 (rec_ : Int32 → Int32 → Int32 → Int32 → Int32 → Int32 → Int32 → Int32 → Int32 → Int32 → Int32 → Int32 → Int32 → (Nat → Int32) → Option (Int32 × Int32 × Int32 × Int32 × Int32 × Int32 × Int32 × Int32 × Int32 × Int32)) (v2 : Int32) (v3 : Int32) (v4 : Int32) (v5 : Int32) (ga : Int32) (gb : Int32) (gd : Int32) (gc : Int32) (gx : Int32) (gy : Int32) (gu : Int32) (gs : Int32) (gp : Int32) (cb : Nat → Int32) : Option (Int32 × Int32 × Int32 × Int32 × Int32 × Int32 × Int32 × Int32 × Int32 × Int32) := rec_ v2 v3 v4 (v5 + Int32.ofInt 1) ga gb gd gc gx gy gu gs gp cb
def tc_G_pull_l6 : Nat → Int32 → Int32 → Int32 → Int32 → Int32 → Int32 → Int32 → Int32 → Int32 → Int32 → Int32 → Int32 → Int32 → (Nat → Int32) → Option (Int32 × Int32 × Int32 × Int32 × Int32 × Int32 × Int32 × Int32 × Int32 × Int32)
  | 0, _, _, _, _, _, _, _, _, _, _, _, _, _, _ => none
  | n_ + 1, v2, v3, v4, v5, ga, gb, gd, gc, gx, gy, gu, gs, gp, cb => if (7 : Int32) < v5 then some (v4, ga, gb, gd, gc, gx, gy, gu, gs, gp) else if ((v3 >>> (v5 &&& 31)) &&& (1 : Int32)) = (1 : Int32) then (tc_G_pushedAt v5 v2).bind fun z15 => (tc_G_sizeOf z15).bind fun z16 => (tc_G_get v2 ga gb gd gc gx gy gu gs gp).bind fun z17 => (tc_Y_load z17 z16 cb).bind fun z18 => (tc_G_set z15 z18 ga gb gd gc gx gy gu gs gp).bind fun z19 => (tc_G_get v2 z19.1 z19.2.1 z19.2.2.1 z19.2.2.2.1 z19.2.2.2.2.1 z19.2.2.2.2.2.1 z19.2.2.2.2.2.2.1 z19.2.2.2.2.2.2.2.1 z19.2.2.2.2.2.2.2.2).bind fun z20 => (tc_G_set v2 (z20 + z16) z19.1 z19.2.1 z19.2.2.1 z19.2.2.2.1 z19.2.2.2.2.1 z19.2.2.2.2.2.1 z19.2.2.2.2.2.2.1 z19.2.2.2.2.2.2.2.1 z19.2.2.2.2.2.2.2.2).bind fun z21 => tc_G_pull_j75 (tc_G_pull_l6 n_) v2 v3 (v4 + z16) v5 z21.1 z21.2.1 z21.2.2.1 z21.2.2.2.1 z21.2.2.2.2.1 z21.2.2.2.2.2.1 z21.2.2.2.2.2.2.1 z21.2.2.2.2.2.2.2.1 z21.2.2.2.2.2.2.2.2 cb else tc_G_pull_j75 (tc_G_pull_l6 n_) v2 v3 v4 v5 ga gb gd gc gx gy gu gs gp cb
theorem tc_G_pull_l6_s (n_ : Nat) (v2 : Int32) (v3 : Int32) (v4 : Int32) (v5 : Int32) (ga : Int32) (gb : Int32) (gd : Int32) (gc : Int32) (gx : Int32) (gy : Int32) (gu : Int32) (gs : Int32) (gp : Int32) (cb : Nat → Int32) : tc_G_pull_l6 (n_ + 1) v2 v3 v4 v5 ga gb gd gc gx gy gu gs gp cb = (if (7 : Int32) < v5 then some (v4, ga, gb, gd, gc, gx, gy, gu, gs, gp) else if ((v3 >>> (v5 &&& 31)) &&& (1 : Int32)) = (1 : Int32) then (tc_G_pushedAt v5 v2).bind fun z15 => (tc_G_sizeOf z15).bind fun z16 => (tc_G_get v2 ga gb gd gc gx gy gu gs gp).bind fun z17 => (tc_Y_load z17 z16 cb).bind fun z18 => (tc_G_set z15 z18 ga gb gd gc gx gy gu gs gp).bind fun z19 => (tc_G_get v2 z19.1 z19.2.1 z19.2.2.1 z19.2.2.2.1 z19.2.2.2.2.1 z19.2.2.2.2.2.1 z19.2.2.2.2.2.2.1 z19.2.2.2.2.2.2.2.1 z19.2.2.2.2.2.2.2.2).bind fun z20 => (tc_G_set v2 (z20 + z16) z19.1 z19.2.1 z19.2.2.1 z19.2.2.2.1 z19.2.2.2.2.1 z19.2.2.2.2.2.1 z19.2.2.2.2.2.2.1 z19.2.2.2.2.2.2.2.1 z19.2.2.2.2.2.2.2.2).bind fun z21 => tc_G_pull_j75 (tc_G_pull_l6 n_) v2 v3 (v4 + z16) v5 z21.1 z21.2.1 z21.2.2.1 z21.2.2.2.1 z21.2.2.2.2.1 z21.2.2.2.2.2.1 z21.2.2.2.2.2.2.1 z21.2.2.2.2.2.2.2.1 z21.2.2.2.2.2.2.2.2 cb else tc_G_pull_j75 (tc_G_pull_l6 n_) v2 v3 v4 v5 ga gb gd gc gx gy gu gs gp cb) := rfl
def tc_G_pull (x2 : Int32) (x3 : Int32) (ga : Int32) (gb : Int32) (gd : Int32) (gc : Int32) (gx : Int32) (gy : Int32) (gu : Int32) (gs : Int32) (gp : Int32) (cb : Nat → Int32) : Option (Int32 × Int32 × Int32 × Int32 × Int32 × Int32 × Int32 × Int32 × Int32 × Int32) := tc_G_pull_l6 9 x2 x3 (0 : Int32) (0 : Int32) ga gb gd gc gx gy gu gs gp cb
def tc_K_take_G (x1 : Nat) (kv : Nat → Int32) (cb : Nat → Int32) (ga : Int32) (gb : Int32) (gd : Int32) (gc : Int32) (gx : Int32) (gy : Int32) (gu : Int32) (gs : Int32) (gp : Int32) : Option (Int32 × Int32 × Int32 × Int32 × Int32 × Int32 × Int32 × Int32 × Int32) := if x1 < 4 then (tc_G_pull (4 : Int32) (255 : Int32) ga gb gd gc gx gy gu (kv x1) gp cb).bind fun z4 => some (z4.2.1, z4.2.2.1, z4.2.2.2.1, z4.2.2.2.2.1, z4.2.2.2.2.2.1, z4.2.2.2.2.2.2.1, z4.2.2.2.2.2.2.2.1, z4.2.2.2.2.2.2.2.2.1, z4.2.2.2.2.2.2.2.2.2) else none
def tc_K_take_S (x1 : Nat) (kv : Nat → Int32) (cb : Nat → Int32) (qa : Int32) (qb : Int32) (qd : Int32) (qc : Int32) (qx : Int32) (qy : Int32) (qu : Int32) (qs : Int32) (qp : Int32) : Option (Int32 × Int32 × Int32 × Int32 × Int32 × Int32 × Int32 × Int32 × Int32) := if x1 < 4 then (tc_G_pull (4 : Int32) (255 : Int32) qa qb qd qc qx qy qu (kv x1) qp cb).bind fun z4 => some (z4.2.1, z4.2.2.1, z4.2.2.2.1, z4.2.2.2.2.1, z4.2.2.2.2.2.1, z4.2.2.2.2.2.2.1, z4.2.2.2.2.2.2.2.1, z4.2.2.2.2.2.2.2.2.1, z4.2.2.2.2.2.2.2.2.2) else none
def tc_K_registersOf (x1 : Nat) (kr : Option Nat) (kv : Nat → Int32) (cb : Nat → Int32) (qa : Int32) (qb : Int32) (qd : Int32) (qc : Int32) (qx : Int32) (qy : Int32) (qu : Int32) (qs : Int32) (qp : Int32) : Option (Bool × Int32 × Int32 × Int32 × Int32 × Int32 × Int32 × Int32 × Int32 × Int32) := if tk_ok (some x1) = true then if tk_ok kr = true then if (some x1) = kr then some (true, qa, qb, qd, qc, qx, qy, qu, qs, qp) else (tc_K_take_S x1 kv cb qa qb qd qc qx qy qu qs qp).bind fun z4 => some (false, z4.1, z4.2.1, z4.2.2.1, z4.2.2.2.1, z4.2.2.2.2.1, z4.2.2.2.2.2.1, z4.2.2.2.2.2.2.1, z4.2.2.2.2.2.2.2.1, z4.2.2.2.2.2.2.2.2) else none else none
def tc_Y_store_j43 (rec_ : Int32 → Int32 → Int32 → (Nat → Int32) → Option ((Nat → Int32))) (v1 : Int32) (v4 : Int32) (v5 : Int32) (cb : Nat → Int32) : Option ((Nat → Int32)) := rec_ v1 (v4 >>> ((8 : Int32) &&& 31)) (v5 + Int32.ofInt (-1)) cb
def tc_Y_store_l8 : Nat → Int32 → Int32 → Int32 → (Nat → Int32) → Option ((Nat → Int32))
  | 0, _, _, _, _ => none
  | n_ + 1, v1, v4, v5, cb => if v5 < (0 : Int32) then some cb else if (512 : Int32) ≤ ((v1 + v5) &&& (65535 : Int32)) then tc_Y_store_j43 (tc_Y_store_l8 n_) v1 v4 v5 cb else if in_b ((v1 + v5) &&& (65535 : Int32)) 512 = true then tc_Y_store_j43 (tc_Y_store_l8 n_) v1 v4 v5 (upd cb (((v1 + v5) &&& (65535 : Int32)).toNatClampNeg) (v4 &&& (255 : Int32))) else none
theorem tc_Y_store_l8_s (n_ : Nat) (v1 : Int32) (v4 : Int32) (v5 : Int32) (cb : Nat → Int32) : tc_Y_store_l8 (n_ + 1) v1 v4 v5 cb = (if v5 < (0 : Int32) then some cb else if (512 : Int32) ≤ ((v1 + v5) &&& (65535 : Int32)) then tc_Y_store_j43 (tc_Y_store_l8 n_) v1 v4 v5 cb else if in_b ((v1 + v5) &&& (65535 : Int32)) 512 = true then tc_Y_store_j43 (tc_Y_store_l8 n_) v1 v4 v5 (upd cb (((v1 + v5) &&& (65535 : Int32)).toNatClampNeg) (v4 &&& (255 : Int32))) else none) := rfl
def tc_Y_store (x1 : Int32) (x2 : Int32) (x3 : Int32) (cb : Nat → Int32) : Option ((Nat → Int32)) := tc_Y_store_l8 3 x1 x2 (x3 - (1 : Int32)) cb
def tc_G_push_j74 (rec_ : Int32 → Int32 → Int32 → Int32 → Int32 → Int32 → Int32 → Int32 → Int32 → Int32 → Int32 → Int32 → Int32 → (Nat → Int32) → Option (Int32 × Int32 × Int32 × Int32 × Int32 × Int32 × Int32 × Int32 × Int32 × Int32 × (Nat → Int32))) (v2 : Int32) (v3 : Int32) (v4 : Int32) (v5 : Int32) (ga : Int32) (gb : Int32) (gd : Int32) (gc : Int32) (gx : Int32) (gy : Int32) (gu : Int32) (gs : Int32) (gp : Int32) (cb : Nat → Int32) : Option (Int32 × Int32 × Int32 × Int32 × Int32 × Int32 × Int32 × Int32 × Int32 × Int32 × (Nat → Int32)) := rec_ v2 v3 v4 (v5 + Int32.ofInt (-1)) ga gb gd gc gx gy gu gs gp cb
def tc_G_push_l7 : Nat → Int32 → Int32 → Int32 → Int32 → Int32 → Int32 → Int32 → Int32 → Int32 → Int32 → Int32 → Int32 → Int32 → (Nat → Int32) → Option (Int32 × Int32 × Int32 × Int32 × Int32 × Int32 × Int32 × Int32 × Int32 × Int32 × (Nat → Int32))
  | 0, _, _, _, _, _, _, _, _, _, _, _, _, _, _ => none
  | n_ + 1, v2, v3, v4, v5, ga, gb, gd, gc, gx, gy, gu, gs, gp, cb => if v5 < (0 : Int32) then some (v4, ga, gb, gd, gc, gx, gy, gu, gs, gp, cb) else if ((v3 >>> (v5 &&& 31)) &&& (1 : Int32)) = (1 : Int32) then (tc_G_pushedAt v5 v2).bind fun z15 => (tc_G_sizeOf z15).bind fun z16 => (tc_G_get v2 ga gb gd gc gx gy gu gs gp).bind fun z17 => (tc_G_set v2 (z17 - z16) ga gb gd gc gx gy gu gs gp).bind fun z18 => (tc_G_get v2 z18.1 z18.2.1 z18.2.2.1 z18.2.2.2.1 z18.2.2.2.2.1 z18.2.2.2.2.2.1 z18.2.2.2.2.2.2.1 z18.2.2.2.2.2.2.2.1 z18.2.2.2.2.2.2.2.2).bind fun z19 => (tc_G_get z15 z18.1 z18.2.1 z18.2.2.1 z18.2.2.2.1 z18.2.2.2.2.1 z18.2.2.2.2.2.1 z18.2.2.2.2.2.2.1 z18.2.2.2.2.2.2.2.1 z18.2.2.2.2.2.2.2.2).bind fun z20 => (tc_Y_store z19 z20 z16 cb).bind fun z21 => tc_G_push_j74 (tc_G_push_l7 n_) v2 v3 (v4 + z16) v5 z18.1 z18.2.1 z18.2.2.1 z18.2.2.2.1 z18.2.2.2.2.1 z18.2.2.2.2.2.1 z18.2.2.2.2.2.2.1 z18.2.2.2.2.2.2.2.1 z18.2.2.2.2.2.2.2.2 z21 else tc_G_push_j74 (tc_G_push_l7 n_) v2 v3 v4 v5 ga gb gd gc gx gy gu gs gp cb
theorem tc_G_push_l7_s (n_ : Nat) (v2 : Int32) (v3 : Int32) (v4 : Int32) (v5 : Int32) (ga : Int32) (gb : Int32) (gd : Int32) (gc : Int32) (gx : Int32) (gy : Int32) (gu : Int32) (gs : Int32) (gp : Int32) (cb : Nat → Int32) : tc_G_push_l7 (n_ + 1) v2 v3 v4 v5 ga gb gd gc gx gy gu gs gp cb = (if v5 < (0 : Int32) then some (v4, ga, gb, gd, gc, gx, gy, gu, gs, gp, cb) else if ((v3 >>> (v5 &&& 31)) &&& (1 : Int32)) = (1 : Int32) then (tc_G_pushedAt v5 v2).bind fun z15 => (tc_G_sizeOf z15).bind fun z16 => (tc_G_get v2 ga gb gd gc gx gy gu gs gp).bind fun z17 => (tc_G_set v2 (z17 - z16) ga gb gd gc gx gy gu gs gp).bind fun z18 => (tc_G_get v2 z18.1 z18.2.1 z18.2.2.1 z18.2.2.2.1 z18.2.2.2.2.1 z18.2.2.2.2.2.1 z18.2.2.2.2.2.2.1 z18.2.2.2.2.2.2.2.1 z18.2.2.2.2.2.2.2.2).bind fun z19 => (tc_G_get z15 z18.1 z18.2.1 z18.2.2.1 z18.2.2.2.1 z18.2.2.2.2.1 z18.2.2.2.2.2.1 z18.2.2.2.2.2.2.1 z18.2.2.2.2.2.2.2.1 z18.2.2.2.2.2.2.2.2).bind fun z20 => (tc_Y_store z19 z20 z16 cb).bind fun z21 => tc_G_push_j74 (tc_G_push_l7 n_) v2 v3 (v4 + z16) v5 z18.1 z18.2.1 z18.2.2.1 z18.2.2.2.1 z18.2.2.2.2.1 z18.2.2.2.2.2.1 z18.2.2.2.2.2.2.1 z18.2.2.2.2.2.2.2.1 z18.2.2.2.2.2.2.2.2 z21 else tc_G_push_j74 (tc_G_push_l7 n_) v2 v3 v4 v5 ga gb gd gc gx gy gu gs gp cb) := rfl
def tc_G_push (x2 : Int32) (x3 : Int32) (ga : Int32) (gb : Int32) (gd : Int32) (gc : Int32) (gx : Int32) (gy : Int32) (gu : Int32) (gs : Int32) (gp : Int32) (cb : Nat → Int32) : Option (Int32 × Int32 × Int32 × Int32 × Int32 × Int32 × Int32 × Int32 × Int32 × Int32 × (Nat → Int32)) := tc_G_push_l7 9 x2 x3 (0 : Int32) (7 : Int32) ga gb gd gc gx gy gu gs gp cb
def tc_K_stack_G (x1 : Nat) (kv : Nat → Int32) (cb : Nat → Int32) (ga : Int32) (gb : Int32) (gd : Int32) (gc : Int32) (gx : Int32) (gy : Int32) (gu : Int32) (gs : Int32) (gp : Int32) : Option ((Nat → Int32) × (Nat → Int32) × Int32 × Int32 × Int32 × Int32 × Int32 × Int32 × Int32 × Int32 × Int32) := (tc_G_push (4 : Int32) (255 : Int32) ga gb gd (gc ||| (128 : Int32)) gx gy gu gs gp cb).bind fun z3 => if x1 < 4 then some ((upd kv x1 z3.2.2.2.2.2.2.2.2.1), z3.2.2.2.2.2.2.2.2.2.2, z3.2.1, z3.2.2.1, z3.2.2.2.1, z3.2.2.2.2.1, z3.2.2.2.2.2.1, z3.2.2.2.2.2.2.1, z3.2.2.2.2.2.2.2.1, z3.2.2.2.2.2.2.2.2.1, z3.2.2.2.2.2.2.2.2.2.1) else none
def tc_K_stack_S (x1 : Nat) (kv : Nat → Int32) (cb : Nat → Int32) (qa : Int32) (qb : Int32) (qd : Int32) (qc : Int32) (qx : Int32) (qy : Int32) (qu : Int32) (qs : Int32) (qp : Int32) : Option ((Nat → Int32) × (Nat → Int32) × Int32 × Int32 × Int32 × Int32 × Int32 × Int32 × Int32 × Int32 × Int32) := (tc_G_push (4 : Int32) (255 : Int32) qa qb qd (qc ||| (128 : Int32)) qx qy qu qs qp cb).bind fun z3 => if x1 < 4 then some ((upd kv x1 z3.2.2.2.2.2.2.2.2.1), z3.2.2.2.2.2.2.2.2.2.2, z3.2.1, z3.2.2.1, z3.2.2.2.1, z3.2.2.2.2.1, z3.2.2.2.2.2.1, z3.2.2.2.2.2.2.1, z3.2.2.2.2.2.2.2.1, z3.2.2.2.2.2.2.2.2.1, z3.2.2.2.2.2.2.2.2.2.1) else none
def tc_Q_append (x1 : Nat) (uz : Int32) (ul : Nat → Option Nat) : Option (Int32 × (Nat → Option Nat)) := if (4 : Int32) ≤ uz then some (uz, ul) else if in_b uz 4 = true then if x1 < 4 then some ((uz + (1 : Int32)), (va_up ul (uz.toNatClampNeg) (some x1))) else none else none
def tc_K_makeReady (x1 : Nat) (uz : Int32) (ul : Nat → Option Nat) (ks : Nat → Int32) : Option (Int32 × (Nat → Option Nat) × (Nat → Int32)) := if x1 < 4 then (tc_Q_append x1 uz ul).bind fun z4 => some (z4.1, z4.2, (upd ks x1 (2 : Int32))) else none
def tc_K_begin (x1 : Nat) (x2 : Int32) (x3 : Int32) (uz : Int32) (ul : Nat → Option Nat) (ks : Nat → Int32) (kv : Nat → Int32) (cb : Nat → Int32) (qa : Int32) (qb : Int32) (qd : Int32) (qc : Int32) (qx : Int32) (qy : Int32) (qu : Int32) (qs : Int32) (qp : Int32) : Option (Int32 × (Nat → Option Nat) × (Nat → Int32) × (Nat → Int32) × (Nat → Int32) × Int32 × Int32 × Int32 × Int32 × Int32 × Int32 × Int32 × Int32 × Int32) := if x1 < 4 then (tc_K_stack_S x1 kv cb x3 (0 : Int32) (0 : Int32) (0 : Int32) (0 : Int32) (0 : Int32) (0 : Int32) (((128 : Int32) * (nI x1)) + (128 : Int32)) x2).bind fun z5 => (tc_K_makeReady x1 uz ul ks).bind fun z6 => some (z6.1, z6.2.1, z6.2.2, z5.1, z5.2.1, z5.2.2.1, z5.2.2.2.1, z5.2.2.2.2.1, z5.2.2.2.2.2.1, z5.2.2.2.2.2.2.1, z5.2.2.2.2.2.2.2.1, z5.2.2.2.2.2.2.2.2.1, z5.2.2.2.2.2.2.2.2.2.1, z5.2.2.2.2.2.2.2.2.2.2) else none
def tc_Q_remove_j37 (rec_ : Nat → Int32 → Int32 → Int32 → (Nat → Option Nat) → Option (Int32 × (Nat → Option Nat))) (v1 : Nat) (v2 : Int32) (v3 : Int32) (uz : Int32) (ul : Nat → Option Nat) : Option (Int32 × (Nat → Option Nat)) := rec_ v1 v2 (v3 + Int32.ofInt 1) uz ul
def tc_Q_remove_l4 : Nat → Nat → Int32 → Int32 → Int32 → (Nat → Option Nat) → Option (Int32 × (Nat → Option Nat))
  | 0, _, _, _, _, _ => none
  | n_ + 1, v1, v2, v3, uz, ul => if uz ≤ v3 then some (v2, ul) else if in_b v3 4 = true then if tk_ok (ul (v3.toNatClampNeg)) = true then if tk_ok (some v1) = true then if (ul (v3.toNatClampNeg)) = (some v1) then tc_Q_remove_j37 (tc_Q_remove_l4 n_) v1 v2 v3 uz ul else opt_c (ul (v3.toNatClampNeg)) none fun i11 => if in_b v2 4 = true then if i11 < 4 then tc_Q_remove_j37 (tc_Q_remove_l4 n_) v1 (v2 + Int32.ofInt 1) v3 uz (va_up ul (v2.toNatClampNeg) (some i11)) else none else none else none else none else none
theorem tc_Q_remove_l4_s (n_ : Nat) (v1 : Nat) (v2 : Int32) (v3 : Int32) (uz : Int32) (ul : Nat → Option Nat) : tc_Q_remove_l4 (n_ + 1) v1 v2 v3 uz ul = (if uz ≤ v3 then some (v2, ul) else if in_b v3 4 = true then if tk_ok (ul (v3.toNatClampNeg)) = true then if tk_ok (some v1) = true then if (ul (v3.toNatClampNeg)) = (some v1) then tc_Q_remove_j37 (tc_Q_remove_l4 n_) v1 v2 v3 uz ul else opt_c (ul (v3.toNatClampNeg)) none fun i11 => if in_b v2 4 = true then if i11 < 4 then tc_Q_remove_j37 (tc_Q_remove_l4 n_) v1 (v2 + Int32.ofInt 1) v3 uz (va_up ul (v2.toNatClampNeg) (some i11)) else none else none else none else none else none) := rfl
def tc_Q_remove (x1 : Nat) (uz : Int32) (ul : Nat → Option Nat) : Option (Int32 × (Nat → Option Nat)) := tc_Q_remove_l4 5 x1 (0 : Int32) (0 : Int32) uz ul
def tc_K_end_j13 (v1 : Nat) (v2 : Int32) (kr : Option Nat) (uz : Int32) (ul : Nat → Option Nat) (ks : Nat → Int32) (ku : Nat → Int32) : Option ((Option Nat) × Int32 × (Nat → Option Nat) × (Nat → Int32) × (Nat → Int32)) := (tc_Q_remove v1 uz ul).bind fun z3 => if v1 < 4 then some (kr, z3.1, z3.2, (upd ks v1 (0 : Int32)), (upd ku v1 v2)) else none
def tc_K_end (x1 : Nat) (x2 : Int32) (kr : Option Nat) (uz : Int32) (ul : Nat → Option Nat) (ks : Nat → Int32) (ku : Nat → Int32) : Option ((Option Nat) × Int32 × (Nat → Option Nat) × (Nat → Int32) × (Nat → Int32)) := if tk_ok (some x1) = true then if tk_ok kr = true then if (some x1) = kr then tc_K_end_j13 x1 x2 none uz ul ks ku else tc_K_end_j13 x1 x2 kr uz ul ks ku else none else none
def tc_Q_removeFirst (uz : Int32) (ul : Nat → Option Nat) : Option ((Option Nat) × Int32 × (Nat → Option Nat)) := if uz = (0 : Int32) then some (none, uz, ul) else opt_c (ul 0) none fun i4 => (tc_Q_remove i4 uz ul).bind fun z6 => some ((ul 0), z6.1, z6.2)
def tc_K_resume (x1 : Nat) (kr : Option Nat) (ks : Nat → Int32) (kv : Nat → Int32) (cb : Nat → Int32) (ga : Int32) (gb : Int32) (gd : Int32) (gc : Int32) (gx : Int32) (gy : Int32) (gu : Int32) (gs : Int32) (gp : Int32) : Option ((Option Nat) × (Nat → Int32) × Int32 × Int32 × Int32 × Int32 × Int32 × Int32 × Int32 × Int32 × Int32) := (tc_K_take_G x1 kv cb ga gb gd gc gx gy gu gs gp).bind fun z3 => if x1 < 4 then some ((some x1), (upd ks x1 (1 : Int32)), z3.1, z3.2.1, z3.2.2.1, z3.2.2.2.1, z3.2.2.2.2.1, z3.2.2.2.2.2.1, z3.2.2.2.2.2.2.1, z3.2.2.2.2.2.2.2.1, z3.2.2.2.2.2.2.2.2) else none
def tc_K_takeNext (kr : Option Nat) (uz : Int32) (ul : Nat → Option Nat) (ks : Nat → Int32) (kv : Nat → Int32) (cb : Nat → Int32) (ga : Int32) (gb : Int32) (gd : Int32) (gc : Int32) (gx : Int32) (gy : Int32) (gu : Int32) (gs : Int32) (gp : Int32) : Option ((Option Nat) × Int32 × (Nat → Option Nat) × (Nat → Int32) × Int32 × Int32 × Int32 × Int32 × Int32 × Int32 × Int32 × Int32 × Int32) := opt_c kr ((tc_Q_removeFirst uz ul).bind fun z7 => opt_c z7.1 (some (kr, z7.2.1, z7.2.2, ks, ga, gb, gd, gc, gx, gy, gu, gs, gp)) fun i8 => (tc_K_resume i8 kr ks kv cb ga gb gd gc gx gy gu gs gp).bind fun z10 => some (z10.1, z7.2.1, z7.2.2, z10.2.1, z10.2.2.1, z10.2.2.2.1, z10.2.2.2.2.1, z10.2.2.2.2.2.1, z10.2.2.2.2.2.2.1, z10.2.2.2.2.2.2.2.1, z10.2.2.2.2.2.2.2.2.1, z10.2.2.2.2.2.2.2.2.2.1, z10.2.2.2.2.2.2.2.2.2.2)) fun i5 => some (kr, uz, ul, ks, ga, gb, gd, gc, gx, gy, gu, gs, gp)
def tc_G_has (x1 : Int32) (gc : Int32) : Option (Bool) := if (gc &&& x1) = (0 : Int32) then some false else some true
def tc_K_canServe_j19 (kr : Option Nat) (gc : Int32) : Option (Bool) := some true
def tc_K_canServe (kr : Option Nat) (gc : Int32) : Option (Bool) := opt_c kr (tc_K_canServe_j19 kr gc) fun i2 => (tc_G_has (16 : Int32) gc).bind fun z4 => if (bz_i z4) = (0 : Int32) then tc_K_canServe_j19 kr gc else some false
def tc_K_serveTick_j82 (kr : Option Nat) (uz : Int32) (ul : Nat → Option Nat) (ks : Nat → Int32) (kv : Nat → Int32) (kz : Nat → Int32) (cb : Nat → Int32) (ga : Int32) (gb : Int32) (gd : Int32) (gc : Int32) (gx : Int32) (gy : Int32) (gu : Int32) (gs : Int32) (gp : Int32) : Option ((Option Nat) × Int32 × (Nat → Option Nat) × (Nat → Int32) × (Nat → Int32) × (Nat → Int32) × (Nat → Int32) × Int32 × Int32 × Int32 × Int32 × Int32 × Int32 × Int32 × Int32 × Int32) := (tc_K_takeNext kr uz ul ks kv cb ga gb gd gc gx gy gu gs gp).bind fun z15 => some (z15.1, z15.2.1, z15.2.2.1, z15.2.2.2.1, kv, kz, cb, z15.2.2.2.2.1, z15.2.2.2.2.2.1, z15.2.2.2.2.2.2.1, z15.2.2.2.2.2.2.2.1, z15.2.2.2.2.2.2.2.2.1, z15.2.2.2.2.2.2.2.2.2.1, z15.2.2.2.2.2.2.2.2.2.2.1, z15.2.2.2.2.2.2.2.2.2.2.2.1, z15.2.2.2.2.2.2.2.2.2.2.2.2)
def tc_K_serveTick_j44 (rec_ : Int32 → (Option Nat) → Int32 → (Nat → Option Nat) → (Nat → Int32) → (Nat → Int32) → (Nat → Int32) → (Nat → Int32) → Int32 → Int32 → Int32 → Int32 → Int32 → Int32 → Int32 → Int32 → Int32 → Option ((Option Nat) × Int32 × (Nat → Option Nat) × (Nat → Int32) × (Nat → Int32) × (Nat → Int32) × (Nat → Int32) × Int32 × Int32 × Int32 × Int32 × Int32 × Int32 × Int32 × Int32 × Int32)) (v1 : Int32) (kr : Option Nat) (uz : Int32) (ul : Nat → Option Nat) (ks : Nat → Int32) (kv : Nat → Int32) (kz : Nat → Int32) (cb : Nat → Int32) (ga : Int32) (gb : Int32) (gd : Int32) (gc : Int32) (gx : Int32) (gy : Int32) (gu : Int32) (gs : Int32) (gp : Int32) : Option ((Option Nat) × Int32 × (Nat → Option Nat) × (Nat → Int32) × (Nat → Int32) × (Nat → Int32) × (Nat → Int32) × Int32 × Int32 × Int32 × Int32 × Int32 × Int32 × Int32 × Int32 × Int32) := rec_ (v1 + Int32.ofInt 1) kr uz ul ks kv kz cb ga gb gd gc gx gy gu gs gp
def tc_K_serveTick_l2 : Nat → Int32 → (Option Nat) → Int32 → (Nat → Option Nat) → (Nat → Int32) → (Nat → Int32) → (Nat → Int32) → (Nat → Int32) → Int32 → Int32 → Int32 → Int32 → Int32 → Int32 → Int32 → Int32 → Int32 → Option ((Option Nat) × Int32 × (Nat → Option Nat) × (Nat → Int32) × (Nat → Int32) × (Nat → Int32) × (Nat → Int32) × Int32 × Int32 × Int32 × Int32 × Int32 × Int32 × Int32 × Int32 × Int32)
  | 0, _, _, _, _, _, _, _, _, _, _, _, _, _, _, _, _, _ => none
  | n_ + 1, v1, kr, uz, ul, ks, kv, kz, cb, ga, gb, gd, gc, gx, gy, gu, gs, gp => if (4 : Int32) ≤ v1 then opt_c kr (tc_K_serveTick_j82 kr uz ul ks kv kz cb ga gb gd gc gx gy gu gs gp) fun i16 => (tc_K_stack_G i16 kv cb ga gb gd gc gx gy gu gs gp).bind fun z18 => (tc_K_makeReady i16 uz ul ks).bind fun z19 => tc_K_serveTick_j82 none z19.1 z19.2.1 z19.2.2 z18.1 kz z18.2.1 z18.2.2.1 z18.2.2.2.1 z18.2.2.2.2.1 z18.2.2.2.2.2.1 z18.2.2.2.2.2.2.1 z18.2.2.2.2.2.2.2.1 z18.2.2.2.2.2.2.2.2.1 z18.2.2.2.2.2.2.2.2.2.1 z18.2.2.2.2.2.2.2.2.2.2 else if in_b v1 4 = true then if (v1.toNatClampNeg) < 4 then if (ks (v1.toNatClampNeg)) = (3 : Int32) then if ((upd kz (v1.toNatClampNeg) ((kz (v1.toNatClampNeg)) - (1 : Int32))) (v1.toNatClampNeg)) = (0 : Int32) then (tc_K_makeReady (v1.toNatClampNeg) uz ul ks).bind fun z22 => tc_K_serveTick_j44 (tc_K_serveTick_l2 n_) v1 kr z22.1 z22.2.1 z22.2.2 kv (upd kz (v1.toNatClampNeg) ((kz (v1.toNatClampNeg)) - (1 : Int32))) cb ga gb gd gc gx gy gu gs gp else tc_K_serveTick_j44 (tc_K_serveTick_l2 n_) v1 kr uz ul ks kv (upd kz (v1.toNatClampNeg) ((kz (v1.toNatClampNeg)) - (1 : Int32))) cb ga gb gd gc gx gy gu gs gp else tc_K_serveTick_j44 (tc_K_serveTick_l2 n_) v1 kr uz ul ks kv kz cb ga gb gd gc gx gy gu gs gp else none else none
theorem tc_K_serveTick_l2_s (n_ : Nat) (v1 : Int32) (kr : Option Nat) (uz : Int32) (ul : Nat → Option Nat) (ks : Nat → Int32) (kv : Nat → Int32) (kz : Nat → Int32) (cb : Nat → Int32) (ga : Int32) (gb : Int32) (gd : Int32) (gc : Int32) (gx : Int32) (gy : Int32) (gu : Int32) (gs : Int32) (gp : Int32) : tc_K_serveTick_l2 (n_ + 1) v1 kr uz ul ks kv kz cb ga gb gd gc gx gy gu gs gp = (if (4 : Int32) ≤ v1 then opt_c kr (tc_K_serveTick_j82 kr uz ul ks kv kz cb ga gb gd gc gx gy gu gs gp) fun i16 => (tc_K_stack_G i16 kv cb ga gb gd gc gx gy gu gs gp).bind fun z18 => (tc_K_makeReady i16 uz ul ks).bind fun z19 => tc_K_serveTick_j82 none z19.1 z19.2.1 z19.2.2 z18.1 kz z18.2.1 z18.2.2.1 z18.2.2.2.1 z18.2.2.2.2.1 z18.2.2.2.2.2.1 z18.2.2.2.2.2.2.1 z18.2.2.2.2.2.2.2.1 z18.2.2.2.2.2.2.2.2.1 z18.2.2.2.2.2.2.2.2.2.1 z18.2.2.2.2.2.2.2.2.2.2 else if in_b v1 4 = true then if (v1.toNatClampNeg) < 4 then if (ks (v1.toNatClampNeg)) = (3 : Int32) then if ((upd kz (v1.toNatClampNeg) ((kz (v1.toNatClampNeg)) - (1 : Int32))) (v1.toNatClampNeg)) = (0 : Int32) then (tc_K_makeReady (v1.toNatClampNeg) uz ul ks).bind fun z22 => tc_K_serveTick_j44 (tc_K_serveTick_l2 n_) v1 kr z22.1 z22.2.1 z22.2.2 kv (upd kz (v1.toNatClampNeg) ((kz (v1.toNatClampNeg)) - (1 : Int32))) cb ga gb gd gc gx gy gu gs gp else tc_K_serveTick_j44 (tc_K_serveTick_l2 n_) v1 kr uz ul ks kv (upd kz (v1.toNatClampNeg) ((kz (v1.toNatClampNeg)) - (1 : Int32))) cb ga gb gd gc gx gy gu gs gp else tc_K_serveTick_j44 (tc_K_serveTick_l2 n_) v1 kr uz ul ks kv kz cb ga gb gd gc gx gy gu gs gp else none else none) := rfl
def tc_K_serveTick (kr : Option Nat) (uz : Int32) (ul : Nat → Option Nat) (ks : Nat → Int32) (kv : Nat → Int32) (kz : Nat → Int32) (cb : Nat → Int32) (ga : Int32) (gb : Int32) (gd : Int32) (gc : Int32) (gx : Int32) (gy : Int32) (gu : Int32) (gs : Int32) (gp : Int32) : Option ((Option Nat) × Int32 × (Nat → Option Nat) × (Nat → Int32) × (Nat → Int32) × (Nat → Int32) × (Nat → Int32) × Int32 × Int32 × Int32 × Int32 × Int32 × Int32 × Int32 × Int32 × Int32) := tc_K_serveTick_l2 5 (0 : Int32) kr uz ul ks kv kz cb ga gb gd gc gx gy gu gs gp
def tc_K_leastFree_l2 : Nat → Int32 → (Nat → Int32) → Option ((Option Nat))
  | 0, _, _ => none
  | n_ + 1, v1, ks => if (4 : Int32) ≤ v1 then some none else if in_b v1 4 = true then if (v1.toNatClampNeg) < 4 then if (ks (v1.toNatClampNeg)) = (0 : Int32) then some (some (v1.toNatClampNeg)) else tc_K_leastFree_l2 n_ (v1 + Int32.ofInt 1) ks else none else none
theorem tc_K_leastFree_l2_s (n_ : Nat) (v1 : Int32) (ks : Nat → Int32) : tc_K_leastFree_l2 (n_ + 1) v1 ks = (if (4 : Int32) ≤ v1 then some none else if in_b v1 4 = true then if (v1.toNatClampNeg) < 4 then if (ks (v1.toNatClampNeg)) = (0 : Int32) then some (some (v1.toNatClampNeg)) else tc_K_leastFree_l2 n_ (v1 + Int32.ofInt 1) ks else none else none) := rfl
def tc_K_leastFree (ks : Nat → Int32) : Option ((Option Nat)) := tc_K_leastFree_l2 5 (0 : Int32) ks
def tc_K_fail (x1 : Nat) (x2 : Int32) (kv : Nat → Int32) (cb : Nat → Int32) : Option ((Nat → Int32)) := if x1 < 4 then (tc_Y_store ((kv x1) + (2 : Int32)) x2 (1 : Int32) cb).bind fun z6 => (tc_Y_load (kv x1) (1 : Int32) z6).bind fun z7 => (tc_Y_store (kv x1) (z7 ||| (1 : Int32)) (1 : Int32) z6).bind fun z8 => some z8 else none
def tc_Y_copyBlock_l2 : Nat → Int32 → Int32 → Int32 → (Nat → Int32) → Option ((Nat → Int32))
  | 0, _, _, _, _ => none
  | n_ + 1, v1, v2, v3, cb => if (128 : Int32) ≤ v3 then some cb else (tc_Y_load (((128 : Int32) * v1) + v3) (1 : Int32) cb).bind fun z5 => (tc_Y_store (((128 : Int32) * v2) + v3) z5 (1 : Int32) cb).bind fun z6 => tc_Y_copyBlock_l2 n_ v1 v2 (v3 + Int32.ofInt 1) z6
theorem tc_Y_copyBlock_l2_s (n_ : Nat) (v1 : Int32) (v2 : Int32) (v3 : Int32) (cb : Nat → Int32) : tc_Y_copyBlock_l2 (n_ + 1) v1 v2 v3 cb = (if (128 : Int32) ≤ v3 then some cb else (tc_Y_load (((128 : Int32) * v1) + v3) (1 : Int32) cb).bind fun z5 => (tc_Y_store (((128 : Int32) * v2) + v3) z5 (1 : Int32) cb).bind fun z6 => tc_Y_copyBlock_l2 n_ v1 v2 (v3 + Int32.ofInt 1) z6) := rfl
def tc_Y_copyBlock (x1 : Int32) (x2 : Int32) (cb : Nat → Int32) : Option ((Nat → Int32)) := tc_Y_copyBlock_l2 129 x1 x2 (0 : Int32) cb
def tc_K_succeed (x1 : Nat) (x2 : Int32) (kv : Nat → Int32) (cb : Nat → Int32) : Option ((Nat → Int32)) := if x1 < 4 then (tc_Y_store ((kv x1) + (1 : Int32)) x2 (1 : Int32) cb).bind fun z6 => (tc_Y_load (kv x1) (1 : Int32) z6).bind fun z7 => (tc_Y_store (kv x1) (z7 &&& (-2 : Int32)) (1 : Int32) z6).bind fun z8 => some z8 else none
def tc_K_fork_j18 (v1 : Nat) (uz : Int32) (ul : Nat → Option Nat) (ks : Nat → Int32) (kv : Nat → Int32) (cb : Nat → Int32) (qa : Int32) (qb : Int32) (qd : Int32) (qc : Int32) (qx : Int32) (qy : Int32) (qu : Int32) (qs : Int32) (qp : Int32) : Option (Int32 × (Nat → Option Nat) × (Nat → Int32) × (Nat → Int32) × (Nat → Int32) × Int32 × Int32 × Int32 × Int32 × Int32 × Int32 × Int32 × Int32 × Int32) := (tc_K_fail v1 (1 : Int32) kv cb).bind fun z10 => some (uz, ul, ks, kv, z10, qa, qb, qd, qc, qx, qy, qu, qs, qp)
def tc_K_fork (x1 : Nat) (x2 : Int32) (x3 : Int32) (uz : Int32) (ul : Nat → Option Nat) (ks : Nat → Int32) (kv : Nat → Int32) (cb : Nat → Int32) (qa : Int32) (qb : Int32) (qd : Int32) (qc : Int32) (qx : Int32) (qy : Int32) (qu : Int32) (qs : Int32) (qp : Int32) : Option (Int32 × (Nat → Option Nat) × (Nat → Int32) × (Nat → Int32) × (Nat → Int32) × Int32 × Int32 × Int32 × Int32 × Int32 × Int32 × Int32 × Int32 × Int32) := (tc_K_leastFree ks).bind fun z11 => opt_c z11 (tc_K_fork_j18 x1 uz ul ks kv cb qa qb qd qc qx qy qu qs qp) fun i12 => if x2 < (128 : Int32) then if x1 < 4 then if i12 < 4 then (tc_Y_copyBlock (nI x1) (nI i12) cb).bind fun z16 => (tc_K_begin i12 (((128 : Int32) * (nI i12)) + x2) x3 uz ul ks kv z16 qa qb qd qc qx qy qu qs qp).bind fun z17 => (tc_K_succeed x1 (nI i12) z17.2.2.2.1 z17.2.2.2.2.1).bind fun z18 => some (z17.1, z17.2.1, z17.2.2.1, z17.2.2.2.1, z18, z17.2.2.2.2.2.1, z17.2.2.2.2.2.2.1, z17.2.2.2.2.2.2.2.1, z17.2.2.2.2.2.2.2.2.1, z17.2.2.2.2.2.2.2.2.2.1, z17.2.2.2.2.2.2.2.2.2.2.1, z17.2.2.2.2.2.2.2.2.2.2.2.1, z17.2.2.2.2.2.2.2.2.2.2.2.2.1, z17.2.2.2.2.2.2.2.2.2.2.2.2.2) else none else none else tc_K_fork_j18 x1 uz ul ks kv cb qa qb qd qc qx qy qu qs qp
def tc_K_putToSleep (x1 : Nat) (x2 : Int32) (uz : Int32) (ul : Nat → Option Nat) (ks : Nat → Int32) (kz : Nat → Int32) : Option (Int32 × (Nat → Option Nat) × (Nat → Int32) × (Nat → Int32)) := if x2 = (0 : Int32) then (tc_K_makeReady x1 uz ul ks).bind fun z4 => some (z4.1, z4.2.1, z4.2.2, kz) else if x1 < 4 then some (uz, ul, (upd ks x1 (3 : Int32)), (upd kz x1 x2)) else none
def tc_K_answer (x1 : Nat) (x2 : Int32) (kr : Option Nat) (uz : Int32) (ul : Nat → Option Nat) (ks : Nat → Int32) (kv : Nat → Int32) (kz : Nat → Int32) (ku : Nat → Int32) (cb : Nat → Int32) (ga : Int32) (gb : Int32) (gd : Int32) (gc : Int32) (gx : Int32) (gy : Int32) (gu : Int32) (gs : Int32) (gp : Int32) (qa : Int32) (qb : Int32) (qd : Int32) (qc : Int32) (qx : Int32) (qy : Int32) (qu : Int32) (qs : Int32) (qp : Int32) : Option ((Option Nat) × Int32 × (Nat → Option Nat) × (Nat → Int32) × (Nat → Int32) × (Nat → Int32) × (Nat → Int32) × (Nat → Int32) × Int32 × Int32 × Int32 × Int32 × Int32 × Int32 × Int32 × Int32 × Int32 × Int32 × Int32 × Int32 × Int32 × Int32 × Int32 × Int32 × Int32 × Int32) := (tc_K_stack_G x1 kv cb ga gb gd gc gx gy gu gs gp).bind fun z11 => if x2 = (1 : Int32) then (tc_K_fork x1 gx ga uz ul ks z11.1 z11.2.1 qa qb qd qc qx qy qu qs qp).bind fun z13 => (tc_K_resume x1 none z13.2.2.1 z13.2.2.2.1 z13.2.2.2.2.1 z11.2.2.1 z11.2.2.2.1 z11.2.2.2.2.1 z11.2.2.2.2.2.1 z11.2.2.2.2.2.2.1 z11.2.2.2.2.2.2.2.1 z11.2.2.2.2.2.2.2.2.1 z11.2.2.2.2.2.2.2.2.2.1 z11.2.2.2.2.2.2.2.2.2.2).bind fun z14 => some (z14.1, z13.1, z13.2.1, z14.2.1, z13.2.2.2.1, kz, ku, z13.2.2.2.2.1, z14.2.2.1, z14.2.2.2.1, z14.2.2.2.2.1, z14.2.2.2.2.2.1, z14.2.2.2.2.2.2.1, z14.2.2.2.2.2.2.2.1, z14.2.2.2.2.2.2.2.2.1, z14.2.2.2.2.2.2.2.2.2.1, z14.2.2.2.2.2.2.2.2.2.2, z13.2.2.2.2.2.1, z13.2.2.2.2.2.2.1, z13.2.2.2.2.2.2.2.1, z13.2.2.2.2.2.2.2.2.1, z13.2.2.2.2.2.2.2.2.2.1, z13.2.2.2.2.2.2.2.2.2.2.1, z13.2.2.2.2.2.2.2.2.2.2.2.1, z13.2.2.2.2.2.2.2.2.2.2.2.2.1, z13.2.2.2.2.2.2.2.2.2.2.2.2.2) else if x2 = (2 : Int32) then (tc_K_putToSleep x1 gx uz ul ks kz).bind fun z16 => some (none, z16.1, z16.2.1, z16.2.2.1, z11.1, z16.2.2.2, ku, z11.2.1, z11.2.2.1, z11.2.2.2.1, z11.2.2.2.2.1, z11.2.2.2.2.2.1, z11.2.2.2.2.2.2.1, z11.2.2.2.2.2.2.2.1, z11.2.2.2.2.2.2.2.2.1, z11.2.2.2.2.2.2.2.2.2.1, z11.2.2.2.2.2.2.2.2.2.2, qa, qb, qd, qc, qx, qy, qu, qs, qp) else if x2 = (3 : Int32) then (tc_K_end x1 ga none uz ul ks ku).bind fun z18 => some (z18.1, z18.2.1, z18.2.2.1, z18.2.2.2.1, z11.1, kz, z18.2.2.2.2, z11.2.1, z11.2.2.1, z11.2.2.2.1, z11.2.2.2.2.1, z11.2.2.2.2.2.1, z11.2.2.2.2.2.2.1, z11.2.2.2.2.2.2.2.1, z11.2.2.2.2.2.2.2.2.1, z11.2.2.2.2.2.2.2.2.2.1, z11.2.2.2.2.2.2.2.2.2.2, qa, qb, qd, qc, qx, qy, qu, qs, qp) else if x2 = (4 : Int32) then if x1 < 4 then (tc_K_succeed x1 (nI x1) z11.1 z11.2.1).bind fun z21 => (tc_K_resume x1 none ks z11.1 z21 z11.2.2.1 z11.2.2.2.1 z11.2.2.2.2.1 z11.2.2.2.2.2.1 z11.2.2.2.2.2.2.1 z11.2.2.2.2.2.2.2.1 z11.2.2.2.2.2.2.2.2.1 z11.2.2.2.2.2.2.2.2.2.1 z11.2.2.2.2.2.2.2.2.2.2).bind fun z22 => some (z22.1, uz, ul, z22.2.1, z11.1, kz, ku, z21, z22.2.2.1, z22.2.2.2.1, z22.2.2.2.2.1, z22.2.2.2.2.2.1, z22.2.2.2.2.2.2.1, z22.2.2.2.2.2.2.2.1, z22.2.2.2.2.2.2.2.2.1, z22.2.2.2.2.2.2.2.2.2.1, z22.2.2.2.2.2.2.2.2.2.2, qa, qb, qd, qc, qx, qy, qu, qs, qp) else none else (tc_K_fail x1 (2 : Int32) z11.1 z11.2.1).bind fun z23 => (tc_K_resume x1 none ks z11.1 z23 z11.2.2.1 z11.2.2.2.1 z11.2.2.2.2.1 z11.2.2.2.2.2.1 z11.2.2.2.2.2.2.1 z11.2.2.2.2.2.2.2.1 z11.2.2.2.2.2.2.2.2.1 z11.2.2.2.2.2.2.2.2.2.1 z11.2.2.2.2.2.2.2.2.2.2).bind fun z24 => some (z24.1, uz, ul, z24.2.1, z11.1, kz, ku, z23, z24.2.2.1, z24.2.2.2.1, z24.2.2.2.2.1, z24.2.2.2.2.2.1, z24.2.2.2.2.2.2.1, z24.2.2.2.2.2.2.2.1, z24.2.2.2.2.2.2.2.2.1, z24.2.2.2.2.2.2.2.2.2.1, z24.2.2.2.2.2.2.2.2.2.2, qa, qb, qd, qc, qx, qy, qu, qs, qp)
def tc_K_settle_j42 (kr : Option Nat) (uz : Int32) (ul : Nat → Option Nat) (ks : Nat → Int32) (kv : Nat → Int32) (kz : Nat → Int32) (ku : Nat → Int32) (cb : Nat → Int32) (ga : Int32) (gb : Int32) (gd : Int32) (gc : Int32) (gx : Int32) (gy : Int32) (gu : Int32) (gs : Int32) (gp : Int32) (qa : Int32) (qb : Int32) (qd : Int32) (qc : Int32) (qx : Int32) (qy : Int32) (qu : Int32) (qs : Int32) (qp : Int32) : Option ((Option Nat) × Int32 × (Nat → Option Nat) × (Nat → Int32) × (Nat → Int32) × (Nat → Int32) × (Nat → Int32) × (Nat → Int32) × Int32 × Int32 × Int32 × Int32 × Int32 × Int32 × Int32 × Int32 × Int32 × Int32 × Int32 × Int32 × Int32 × Int32 × Int32 × Int32 × Int32 × Int32) := (tc_K_takeNext kr uz ul ks kv cb ga gb gd gc gx gy gu gs gp).bind fun z8 => some (z8.1, z8.2.1, z8.2.2.1, z8.2.2.2.1, kv, kz, ku, cb, z8.2.2.2.2.1, z8.2.2.2.2.2.1, z8.2.2.2.2.2.2.1, z8.2.2.2.2.2.2.2.1, z8.2.2.2.2.2.2.2.2.1, z8.2.2.2.2.2.2.2.2.2.1, z8.2.2.2.2.2.2.2.2.2.2.1, z8.2.2.2.2.2.2.2.2.2.2.2.1, z8.2.2.2.2.2.2.2.2.2.2.2.2, qa, qb, qd, qc, qx, qy, qu, qs, qp)
def tc_K_settle (x1 : Int32) (kr : Option Nat) (uz : Int32) (ul : Nat → Option Nat) (ks : Nat → Int32) (kv : Nat → Int32) (kz : Nat → Int32) (ku : Nat → Int32) (cb : Nat → Int32) (ga : Int32) (gb : Int32) (gd : Int32) (gc : Int32) (gx : Int32) (gy : Int32) (gu : Int32) (gs : Int32) (gp : Int32) (qa : Int32) (qb : Int32) (qd : Int32) (qc : Int32) (qx : Int32) (qy : Int32) (qu : Int32) (qs : Int32) (qp : Int32) : Option ((Option Nat) × Int32 × (Nat → Option Nat) × (Nat → Int32) × (Nat → Int32) × (Nat → Int32) × (Nat → Int32) × (Nat → Int32) × Int32 × Int32 × Int32 × Int32 × Int32 × Int32 × Int32 × Int32 × Int32 × Int32 × Int32 × Int32 × Int32 × Int32 × Int32 × Int32 × Int32 × Int32) := opt_c kr (some (kr, uz, ul, ks, kv, kz, ku, cb, ga, gb, gd, gc, gx, gy, gu, gs, gp, qa, qb, qd, qc, qx, qy, qu, qs, qp)) fun i9 => if x1 = (-1 : Int32) then some (kr, uz, ul, ks, kv, kz, ku, cb, ga, gb, gd, gc, gx, gy, gu, gs, gp, qa, qb, qd, qc, qx, qy, qu, qs, qp) else if x1 = (-2 : Int32) then (tc_K_end i9 (255 : Int32) kr uz ul ks ku).bind fun z12 => tc_K_settle_j42 z12.1 z12.2.1 z12.2.2.1 z12.2.2.2.1 kv kz z12.2.2.2.2 cb ga gb gd gc gx gy gu gs gp qa qb qd qc qx qy qu qs qp else (tc_K_answer i9 x1 kr uz ul ks kv kz ku cb ga gb gd gc gx gy gu gs gp qa qb qd qc qx qy qu qs qp).bind fun z11 => tc_K_settle_j42 z11.1 z11.2.1 z11.2.2.1 z11.2.2.2.1 z11.2.2.2.2.1 z11.2.2.2.2.2.1 z11.2.2.2.2.2.2.1 z11.2.2.2.2.2.2.2.1 z11.2.2.2.2.2.2.2.2.1 z11.2.2.2.2.2.2.2.2.2.1 z11.2.2.2.2.2.2.2.2.2.2.1 z11.2.2.2.2.2.2.2.2.2.2.2.1 z11.2.2.2.2.2.2.2.2.2.2.2.2.1 z11.2.2.2.2.2.2.2.2.2.2.2.2.2.1 z11.2.2.2.2.2.2.2.2.2.2.2.2.2.2.1 z11.2.2.2.2.2.2.2.2.2.2.2.2.2.2.2.1 z11.2.2.2.2.2.2.2.2.2.2.2.2.2.2.2.2.1 z11.2.2.2.2.2.2.2.2.2.2.2.2.2.2.2.2.2.1 z11.2.2.2.2.2.2.2.2.2.2.2.2.2.2.2.2.2.2.1 z11.2.2.2.2.2.2.2.2.2.2.2.2.2.2.2.2.2.2.2.1 z11.2.2.2.2.2.2.2.2.2.2.2.2.2.2.2.2.2.2.2.2.1 z11.2.2.2.2.2.2.2.2.2.2.2.2.2.2.2.2.2.2.2.2.2.1 z11.2.2.2.2.2.2.2.2.2.2.2.2.2.2.2.2.2.2.2.2.2.2.1 z11.2.2.2.2.2.2.2.2.2.2.2.2.2.2.2.2.2.2.2.2.2.2.2.1 z11.2.2.2.2.2.2.2.2.2.2.2.2.2.2.2.2.2.2.2.2.2.2.2.2.1 z11.2.2.2.2.2.2.2.2.2.2.2.2.2.2.2.2.2.2.2.2.2.2.2.2.2
def tc_Y_holds (x1 : Int32) : Option (Bool) := if x1 < (0 : Int32) then some false else if (512 : Int32) ≤ x1 then some false else some true
def tc_P_skip (x1 : Int32) (gp : Int32) : Option (Int32) := some ((gp + x1) &&& (65535 : Int32))
def tc_P_fetch (x1 : Int32) (py : Int32) (cb : Nat → Int32) (gp : Int32) : Option (Int32 × Int32 × Int32) := (tc_Y_load gp x1 cb).bind fun z3 => (tc_P_skip x1 gp).bind fun z4 => some (z3, (py + x1), z4)
def tc_P_isIndexedForm_j80 (v1 : Bool) : Option (Bool) := if (bz_i v1) = (0 : Int32) then some true else some false
def tc_P_isIndexedForm (x1 : Int32) (x2 : Bool) : Option (Bool) := if x1 = (0 : Int32) then tc_P_isIndexedForm_j80 x2 else if x1 = (1 : Int32) then some true else if x1 = (2 : Int32) then tc_P_isIndexedForm_j80 x2 else if x1 = (3 : Int32) then some true else if x1 = (4 : Int32) then some true else if x1 = (5 : Int32) then some true else if x1 = (6 : Int32) then some true else if x1 = (7 : Int32) then some false else if x1 = (8 : Int32) then some true else if x1 = (9 : Int32) then some true else if x1 = (10 : Int32) then some false else if x1 = (11 : Int32) then some true else if x1 = (12 : Int32) then some true else if x1 = (13 : Int32) then some true else if x1 = (14 : Int32) then some false else if x1 = (15 : Int32) then some x2 else some true
def tc_P_load (x1 : Int32) (x2 : Int32) (py : Int32) (cb : Nat → Int32) : Option (Int32 × Int32) := (tc_Y_load x1 x2 cb).bind fun z2 => some (z2, (py + x2))
def tc_P_indexedAddress_j327 (v5 : Bool) (v6 : Int32) (py : Int32) (po : Int32) (cb : Nat → Int32) (ga : Int32) (gb : Int32) (gd : Int32) (gc : Int32) (gx : Int32) (gy : Int32) (gu : Int32) (gs : Int32) (gp : Int32) : Option (Int32 × Int32 × Int32 × Int32 × Int32 × Int32 × Int32 × Int32 × Int32 × Int32 × Int32 × Int32) := if (bz_i v5) = (0 : Int32) then some ((v6 &&& (65535 : Int32)), py, po, ga, gb, gd, gc, gx, gy, gu, gs, gp) else (tc_P_load v6 (2 : Int32) py cb).bind fun z27 => some (z27.1, z27.2, po, ga, gb, gd, gc, gx, gy, gu, gs, gp)
def tc_P_indexedAddress_j320 (v5 : Bool) (py : Int32) (po : Int32) (cb : Nat → Int32) (ga : Int32) (gb : Int32) (gd : Int32) (gc : Int32) (gx : Int32) (gy : Int32) (gu : Int32) (gs : Int32) (gp : Int32) : Option (Int32 × Int32 × Int32 × Int32 × Int32 × Int32 × Int32 × Int32 × Int32 × Int32 × Int32 × Int32) := (tc_P_fetch (2 : Int32) py cb gp).bind fun z28 => tc_P_indexedAddress_j327 v5 z28.1 z28.2.1 po cb ga gb gd gc gx gy gu gs z28.2.2
def tc_P_indexedAddress_j177 (v2 : Int32) (v3 : Int32) (v4 : Int32) (v5 : Bool) (py : Int32) (po : Int32) (cb : Nat → Int32) (ga : Int32) (gb : Int32) (gd : Int32) (gc : Int32) (gx : Int32) (gy : Int32) (gu : Int32) (gs : Int32) (gp : Int32) : Option (Int32 × Int32 × Int32 × Int32 × Int32 × Int32 × Int32 × Int32 × Int32 × Int32 × Int32 × Int32) := (tc_G_set v2 ((v3 - v4) + (1 : Int32)) ga gb gd gc gx gy gu gs gp).bind fun z29 => tc_P_indexedAddress_j327 v5 ((v3 - v4) + (1 : Int32)) py po cb z29.1 z29.2.1 z29.2.2.1 z29.2.2.2.1 z29.2.2.2.2.1 z29.2.2.2.2.2.1 z29.2.2.2.2.2.2.1 z29.2.2.2.2.2.2.2.1 z29.2.2.2.2.2.2.2.2
def tc_P_indexedAddress_j160 (v2 : Int32) (v3 : Int32) (v4 : Int32) (v5 : Bool) (v6 : Int32) (py : Int32) (po : Int32) (cb : Nat → Int32) (ga : Int32) (gb : Int32) (gd : Int32) (gc : Int32) (gx : Int32) (gy : Int32) (gu : Int32) (gs : Int32) (gp : Int32) : Option (Int32 × Int32 × Int32 × Int32 × Int32 × Int32 × Int32 × Int32 × Int32 × Int32 × Int32 × Int32) := (tc_G_set v2 ((v3 + v4) + (1 : Int32)) ga gb gd gc gx gy gu gs gp).bind fun z30 => tc_P_indexedAddress_j327 v5 v6 py po cb z30.1 z30.2.1 z30.2.2.1 z30.2.2.2.1 z30.2.2.2.2.1 z30.2.2.2.2.2.1 z30.2.2.2.2.2.2.1 z30.2.2.2.2.2.2.2.1 z30.2.2.2.2.2.2.2.2
def tc_P_indexedAddress_j63 (v2 : Int32) (v3 : Int32) (v4 : Int32) (s0 : Bool) (py : Int32) (po : Int32) (cb : Nat → Int32) (ga : Int32) (gb : Int32) (gd : Int32) (gc : Int32) (gx : Int32) (gy : Int32) (gu : Int32) (gs : Int32) (gp : Int32) : Option (Int32 × Int32 × Int32 × Int32 × Int32 × Int32 × Int32 × Int32 × Int32 × Int32 × Int32 × Int32) := (tc_P_isIndexedForm v4 s0).bind fun z31 => if (bz_i z31) = (0 : Int32) then some ((0 : Int32), py, (-2 : Int32), ga, gb, gd, gc, gx, gy, gu, gs, gp) else if v4 = (0 : Int32) then tc_P_indexedAddress_j160 v2 v3 v4 s0 v3 py po cb ga gb gd gc gx gy gu gs gp else if v4 = (1 : Int32) then tc_P_indexedAddress_j160 v2 v3 v4 s0 v3 py po cb ga gb gd gc gx gy gu gs gp else if v4 = (2 : Int32) then tc_P_indexedAddress_j177 v2 v3 v4 s0 py po cb ga gb gd gc gx gy gu gs gp else if v4 = (3 : Int32) then tc_P_indexedAddress_j177 v2 v3 v4 s0 py po cb ga gb gd gc gx gy gu gs gp else if v4 = (4 : Int32) then tc_P_indexedAddress_j327 s0 v3 py po cb ga gb gd gc gx gy gu gs gp else if v4 = (5 : Int32) then (tc_C_signed gb (1 : Int32)).bind fun z38 => tc_P_indexedAddress_j327 s0 (v3 + z38) py po cb ga gb gd gc gx gy gu gs gp else if v4 = (6 : Int32) then (tc_C_signed ga (1 : Int32)).bind fun z40 => tc_P_indexedAddress_j327 s0 (v3 + z40) py po cb ga gb gd gc gx gy gu gs gp else if v4 = (7 : Int32) then tc_P_indexedAddress_j320 s0 py po cb ga gb gd gc gx gy gu gs gp else if v4 = (8 : Int32) then (tc_P_fetch (1 : Int32) py cb gp).bind fun z43 => (tc_C_signed z43.1 (1 : Int32)).bind fun z44 => tc_P_indexedAddress_j327 s0 (v3 + z44) z43.2.1 po cb ga gb gd gc gx gy gu gs z43.2.2 else if v4 = (9 : Int32) then (tc_P_fetch (2 : Int32) py cb gp).bind fun z46 => tc_P_indexedAddress_j327 s0 (v3 + z46.1) z46.2.1 po cb ga gb gd gc gx gy gu gs z46.2.2 else if v4 = (10 : Int32) then tc_P_indexedAddress_j320 s0 py po cb ga gb gd gc gx gy gu gs gp else if v4 = (11 : Int32) then (tc_G_get (0 : Int32) ga gb gd gc gx gy gu gs gp).bind fun z49 => tc_P_indexedAddress_j327 s0 (v3 + z49) py po cb ga gb gd gc gx gy gu gs gp else if v4 = (12 : Int32) then (tc_P_fetch (1 : Int32) py cb gp).bind fun z51 => (tc_C_signed z51.1 (1 : Int32)).bind fun z52 => tc_P_indexedAddress_j327 s0 (z52 + z51.2.2) z51.2.1 po cb ga gb gd gc gx gy gu gs z51.2.2 else if v4 = (13 : Int32) then (tc_P_fetch (2 : Int32) py cb gp).bind fun z54 => tc_P_indexedAddress_j327 s0 (z54.1 + z54.2.2) z54.2.1 po cb ga gb gd gc gx gy gu gs z54.2.2 else tc_P_indexedAddress_j320 s0 py po cb ga gb gd gc gx gy gu gs gp
def tc_P_indexedAddress (py : Int32) (po : Int32) (cb : Nat → Int32) (ga : Int32) (gb : Int32) (gd : Int32) (gc : Int32) (gx : Int32) (gy : Int32) (gu : Int32) (gs : Int32) (gp : Int32) : Option (Int32 × Int32 × Int32 × Int32 × Int32 × Int32 × Int32 × Int32 × Int32 × Int32 × Int32 × Int32) := (tc_P_fetch (1 : Int32) py cb gp).bind fun z55 => (tc_G_get ((1 : Int32) + ((z55.1 >>> ((5 : Int32) &&& 31)) &&& (3 : Int32))) ga gb gd gc gx gy gu gs z55.2.2).bind fun z56 => if (128 : Int32) ≤ z55.1 then if (z55.1 &&& (16 : Int32)) = (0 : Int32) then tc_P_indexedAddress_j63 ((1 : Int32) + ((z55.1 >>> ((5 : Int32) &&& 31)) &&& (3 : Int32))) z56 (z55.1 &&& (15 : Int32)) false z55.2.1 po cb ga gb gd gc gx gy gu gs z55.2.2 else tc_P_indexedAddress_j63 ((1 : Int32) + ((z55.1 >>> ((5 : Int32) &&& 31)) &&& (3 : Int32))) z56 (z55.1 &&& (15 : Int32)) true z55.2.1 po cb ga gb gd gc gx gy gu gs z55.2.2 else some ((((z56 + (z55.1 &&& (15 : Int32))) - (z55.1 &&& (16 : Int32))) &&& (65535 : Int32)), z55.2.1, po, ga, gb, gd, gc, gx, gy, gu, gs, z55.2.2)
def tc_P_operandAddress (x1 : Int32) (x2 : Int32) (py : Int32) (po : Int32) (cb : Nat → Int32) (ga : Int32) (gb : Int32) (gd : Int32) (gc : Int32) (gx : Int32) (gy : Int32) (gu : Int32) (gs : Int32) (gp : Int32) : Option (Int32 × Int32 × Int32 × Int32 × Int32 × Int32 × Int32 × Int32 × Int32 × Int32 × Int32 × Int32) := if x1 = (0 : Int32) then (tc_P_skip x2 gp).bind fun z6 => some (gp, py, po, ga, gb, gd, gc, gx, gy, gu, gs, z6) else if x1 = (1 : Int32) then (tc_P_fetch (1 : Int32) py cb gp).bind fun z8 => some (((gd <<< ((8 : Int32) &&& 31)) ||| z8.1), z8.2.1, po, ga, gb, gd, gc, gx, gy, gu, gs, z8.2.2) else if x1 = (2 : Int32) then (tc_P_indexedAddress py po cb ga gb gd gc gx gy gu gs gp).bind fun z10 => some (z10.1, z10.2.1, z10.2.2.1, z10.2.2.2.1, z10.2.2.2.2.1, z10.2.2.2.2.2.1, z10.2.2.2.2.2.2.1, z10.2.2.2.2.2.2.2.1, z10.2.2.2.2.2.2.2.2.1, z10.2.2.2.2.2.2.2.2.2.1, z10.2.2.2.2.2.2.2.2.2.2.1, z10.2.2.2.2.2.2.2.2.2.2.2) else (tc_P_fetch (2 : Int32) py cb gp).bind fun z11 => some (z11.1, z11.2.1, po, ga, gb, gd, gc, gx, gy, gu, gs, z11.2.2)
def tc_P_isChange (x1 : Int32) : Option (Bool) := if x1 = (1 : Int32) then some false else if x1 = (2 : Int32) then some false else if x1 = (5 : Int32) then some false else if x1 = (11 : Int32) then some false else if x1 = (14 : Int32) then some false else some true
def tc_P_changed_j195 (gc : Int32) : Option (Int32 × Int32) := (tc_C_plainWithCarry (0 : Int32) (0 : Int32) gc).bind fun z14 => some (z14.1, z14.2)
def tc_P_changed (x1 : Int32) (x2 : Int32) (gc : Int32) : Option (Int32 × Int32) := if x1 = (0 : Int32) then (tc_C_difference (0 : Int32) x2 (0 : Int32) (1 : Int32) gc).bind fun z16 => some (z16.1, z16.2) else if x1 = (1 : Int32) then tc_P_changed_j195 gc else if x1 = (2 : Int32) then tc_P_changed_j195 gc else if x1 = (3 : Int32) then (tc_C_plainWithCarry (x2 ^^^ (255 : Int32)) (1 : Int32) gc).bind fun z20 => some (z20.1, z20.2) else if x1 = (4 : Int32) then (tc_C_shiftRight x2 (0 : Int32) gc).bind fun z22 => some (z22.1, z22.2) else if x1 = (5 : Int32) then tc_P_changed_j195 gc else if x1 = (6 : Int32) then (tc_C_carry gc).bind fun z25 => (tc_C_shiftRight x2 (z25 <<< ((7 : Int32) &&& 31)) gc).bind fun z26 => some (z26.1, z26.2) else if x1 = (7 : Int32) then (tc_C_shiftRight x2 (x2 &&& (128 : Int32)) gc).bind fun z28 => some (z28.1, z28.2) else if x1 = (8 : Int32) then (tc_C_shiftLeft x2 (0 : Int32) gc).bind fun z30 => some (z30.1, z30.2) else if x1 = (9 : Int32) then (tc_C_carry gc).bind fun z32 => (tc_C_shiftLeft x2 z32 gc).bind fun z33 => some (z33.1, z33.2) else if x1 = (10 : Int32) then (tc_C_decrement x2 gc).bind fun z35 => some (z35.1, z35.2) else if x1 = (11 : Int32) then tc_P_changed_j195 gc else if x1 = (12 : Int32) then (tc_C_increment x2 gc).bind fun z38 => some (z38.1, z38.2) else if x1 = (13 : Int32) then (tc_C_plain x2 (1 : Int32) gc).bind fun z40 => some (z40.1, z40.2) else tc_P_changed_j195 gc
def tc_P_store (x1 : Int32) (x2 : Int32) (x3 : Int32) (py : Int32) (cb : Nat → Int32) : Option (Int32 × (Nat → Int32)) := (tc_Y_store x1 x2 x3 cb).bind fun z2 => some ((py + x3), z2)
def tc_P_changeMemory_j69 (v1 : Int32) (v3 : Int32) (s0 : Int32) (s1 : Int32) (py : Int32) (po : Int32) (cb : Nat → Int32) (ga : Int32) (gb : Int32) (gd : Int32) (gc : Int32) (gx : Int32) (gy : Int32) (gu : Int32) (gs : Int32) (gp : Int32) : Option (Int32 × Int32 × (Nat → Int32) × Int32 × Int32 × Int32 × Int32 × Int32 × Int32 × Int32 × Int32 × Int32) := (tc_P_changed s1 s0 gc).bind fun z6 => if v1 = (13 : Int32) then some (py, po, cb, ga, gb, gd, z6.2, gx, gy, gu, gs, gp) else (tc_P_store v3 z6.1 (1 : Int32) py cb).bind fun z7 => some (z7.1, po, z7.2, ga, gb, gd, z6.2, gx, gy, gu, gs, gp)
def tc_P_changeMemory_j26 (v1 : Int32) (v3 : Int32) (py : Int32) (po : Int32) (cb : Nat → Int32) (ga : Int32) (gb : Int32) (gd : Int32) (gc : Int32) (gx : Int32) (gy : Int32) (gu : Int32) (gs : Int32) (gp : Int32) : Option (Int32 × Int32 × (Nat → Int32) × Int32 × Int32 × Int32 × Int32 × Int32 × Int32 × Int32 × Int32 × Int32) := if po = (-2 : Int32) then some (py, po, cb, ga, gb, gd, gc, gx, gy, gu, gs, gp) else if v1 = (14 : Int32) then some (py, po, cb, ga, gb, gd, gc, gx, gy, gu, gs, v3) else if v1 = (15 : Int32) then tc_P_changeMemory_j69 v1 v3 (0 : Int32) v1 py po cb ga gb gd gc gx gy gu gs gp else (tc_P_load v3 (1 : Int32) py cb).bind fun z8 => tc_P_changeMemory_j69 v1 v3 z8.1 v1 z8.2 po cb ga gb gd gc gx gy gu gs gp
def tc_P_changeMemory (x1 : Int32) (x2 : Int32) (py : Int32) (po : Int32) (cb : Nat → Int32) (ga : Int32) (gb : Int32) (gd : Int32) (gc : Int32) (gx : Int32) (gy : Int32) (gu : Int32) (gs : Int32) (gp : Int32) : Option (Int32 × Int32 × (Nat → Int32) × Int32 × Int32 × Int32 × Int32 × Int32 × Int32 × Int32 × Int32 × Int32) := (tc_P_operandAddress x2 (1 : Int32) py po cb ga gb gd gc gx gy gu gs gp).bind fun z9 => (tc_P_isChange x1).bind fun z10 => if (bz_i z10) = (0 : Int32) then if x1 = (14 : Int32) then tc_P_changeMemory_j26 x1 z9.1 z9.2.1 z9.2.2.1 cb z9.2.2.2.1 z9.2.2.2.2.1 z9.2.2.2.2.2.1 z9.2.2.2.2.2.2.1 z9.2.2.2.2.2.2.2.1 z9.2.2.2.2.2.2.2.2.1 z9.2.2.2.2.2.2.2.2.2.1 z9.2.2.2.2.2.2.2.2.2.2.1 z9.2.2.2.2.2.2.2.2.2.2.2 else tc_P_changeMemory_j26 x1 z9.1 z9.2.1 (-2 : Int32) cb z9.2.2.2.1 z9.2.2.2.2.1 z9.2.2.2.2.2.1 z9.2.2.2.2.2.2.1 z9.2.2.2.2.2.2.2.1 z9.2.2.2.2.2.2.2.2.1 z9.2.2.2.2.2.2.2.2.2.1 z9.2.2.2.2.2.2.2.2.2.2.1 z9.2.2.2.2.2.2.2.2.2.2.2 else tc_P_changeMemory_j26 x1 z9.1 z9.2.1 z9.2.2.1 cb z9.2.2.2.1 z9.2.2.2.2.1 z9.2.2.2.2.2.1 z9.2.2.2.2.2.2.1 z9.2.2.2.2.2.2.2.1 z9.2.2.2.2.2.2.2.2.1 z9.2.2.2.2.2.2.2.2.2.1 z9.2.2.2.2.2.2.2.2.2.2.1 z9.2.2.2.2.2.2.2.2.2.2.2
def tc_P_calculate_j167 (v3 : Int32) (v4 : Int32) (gc : Int32) : Option (Int32 × Int32) := (tc_C_plain v3 v4 gc).bind fun z11 => some (z11.1, z11.2)
def tc_P_calculate_j96 (v2 : Int32) (v3 : Int32) (v4 : Int32) (gc : Int32) : Option (Int32 × Int32) := (tc_C_plain (v2 &&& v3) v4 gc).bind fun z12 => some (z12.1, z12.2)
def tc_P_calculate_j64 (v2 : Int32) (v3 : Int32) (v4 : Int32) (gc : Int32) : Option (Int32 × Int32) := (tc_C_difference v2 v3 (0 : Int32) v4 gc).bind fun z13 => some (z13.1, z13.2)
def tc_P_calculate (x1 : Int32) (x2 : Int32) (x3 : Int32) (x4 : Int32) (gc : Int32) : Option (Int32 × Int32) := if x1 = (0 : Int32) then tc_P_calculate_j64 x2 x3 x4 gc else if x1 = (1 : Int32) then tc_P_calculate_j64 x2 x3 x4 gc else if x1 = (2 : Int32) then (tc_C_carry gc).bind fun z17 => (tc_C_difference x2 x3 z17 x4 gc).bind fun z18 => some (z18.1, z18.2) else if x1 = (3 : Int32) then tc_P_calculate_j167 x3 x4 gc else if x1 = (4 : Int32) then tc_P_calculate_j96 x2 x3 x4 gc else if x1 = (5 : Int32) then tc_P_calculate_j96 x2 x3 x4 gc else if x1 = (6 : Int32) then tc_P_calculate_j167 x3 x4 gc else if x1 = (7 : Int32) then tc_P_calculate_j167 x3 x4 gc else if x1 = (8 : Int32) then (tc_C_plain (x2 ^^^ x3) x4 gc).bind fun z25 => some (z25.1, z25.2) else if x1 = (9 : Int32) then (tc_C_carry gc).bind fun z27 => (tc_C_sum x2 x3 z27 x4 gc).bind fun z28 => some (z28.1, z28.2) else if x1 = (10 : Int32) then (tc_C_plain (x2 ||| x3) x4 gc).bind fun z30 => some (z30.1, z30.2) else if x1 = (11 : Int32) then (tc_C_sum x2 x3 (0 : Int32) x4 gc).bind fun z32 => some (z32.1, z32.2) else tc_P_calculate_j167 x3 x4 gc
def tc_P_operate_j23 (v1 : Int32) (v2 : Int32) (v3 : Int32) (v4 : Int32) (py : Int32) (po : Int32) (cb : Nat → Int32) (ga : Int32) (gb : Int32) (gd : Int32) (gc : Int32) (gx : Int32) (gy : Int32) (gu : Int32) (gs : Int32) (gp : Int32) : Option (Int32 × Int32 × (Nat → Int32) × Int32 × Int32 × Int32 × Int32 × Int32 × Int32 × Int32 × Int32 × Int32) := (tc_P_operandAddress v3 v4 py po cb ga gb gd gc gx gy gu gs gp).bind fun z10 => if z10.2.2.1 = (-2 : Int32) then some (z10.2.1, z10.2.2.1, cb, z10.2.2.2.1, z10.2.2.2.2.1, z10.2.2.2.2.2.1, z10.2.2.2.2.2.2.1, z10.2.2.2.2.2.2.2.1, z10.2.2.2.2.2.2.2.2.1, z10.2.2.2.2.2.2.2.2.2.1, z10.2.2.2.2.2.2.2.2.2.2.1, z10.2.2.2.2.2.2.2.2.2.2.2) else if v1 = (7 : Int32) then (tc_G_get v2 z10.2.2.2.1 z10.2.2.2.2.1 z10.2.2.2.2.2.1 z10.2.2.2.2.2.2.1 z10.2.2.2.2.2.2.2.1 z10.2.2.2.2.2.2.2.2.1 z10.2.2.2.2.2.2.2.2.2.1 z10.2.2.2.2.2.2.2.2.2.2.1 z10.2.2.2.2.2.2.2.2.2.2.2).bind fun z15 => (tc_C_plain z15 v4 z10.2.2.2.2.2.2.1).bind fun z16 => (tc_P_store z10.1 z16.1 v4 z10.2.1 cb).bind fun z17 => some (z17.1, z10.2.2.1, z17.2, z10.2.2.2.1, z10.2.2.2.2.1, z10.2.2.2.2.2.1, z16.2, z10.2.2.2.2.2.2.2.1, z10.2.2.2.2.2.2.2.2.1, z10.2.2.2.2.2.2.2.2.2.1, z10.2.2.2.2.2.2.2.2.2.2.1, z10.2.2.2.2.2.2.2.2.2.2.2) else (tc_P_load z10.1 v4 z10.2.1 cb).bind fun z11 => (tc_G_get v2 z10.2.2.2.1 z10.2.2.2.2.1 z10.2.2.2.2.2.1 z10.2.2.2.2.2.2.1 z10.2.2.2.2.2.2.2.1 z10.2.2.2.2.2.2.2.2.1 z10.2.2.2.2.2.2.2.2.2.1 z10.2.2.2.2.2.2.2.2.2.2.1 z10.2.2.2.2.2.2.2.2.2.2.2).bind fun z12 => (tc_P_calculate v1 z12 z11.1 v4 z10.2.2.2.2.2.2.1).bind fun z13 => if v1 = (1 : Int32) then some (z11.2, z10.2.2.1, cb, z10.2.2.2.1, z10.2.2.2.2.1, z10.2.2.2.2.2.1, z13.2, z10.2.2.2.2.2.2.2.1, z10.2.2.2.2.2.2.2.2.1, z10.2.2.2.2.2.2.2.2.2.1, z10.2.2.2.2.2.2.2.2.2.2.1, z10.2.2.2.2.2.2.2.2.2.2.2) else if v1 = (5 : Int32) then some (z11.2, z10.2.2.1, cb, z10.2.2.2.1, z10.2.2.2.2.1, z10.2.2.2.2.2.1, z13.2, z10.2.2.2.2.2.2.2.1, z10.2.2.2.2.2.2.2.2.1, z10.2.2.2.2.2.2.2.2.2.1, z10.2.2.2.2.2.2.2.2.2.2.1, z10.2.2.2.2.2.2.2.2.2.2.2) else (tc_G_set v2 z13.1 z10.2.2.2.1 z10.2.2.2.2.1 z10.2.2.2.2.2.1 z13.2 z10.2.2.2.2.2.2.2.1 z10.2.2.2.2.2.2.2.2.1 z10.2.2.2.2.2.2.2.2.2.1 z10.2.2.2.2.2.2.2.2.2.2.1 z10.2.2.2.2.2.2.2.2.2.2.2).bind fun z14 => some (z11.2, z10.2.2.1, cb, z14.1, z14.2.1, z14.2.2.1, z14.2.2.2.1, z14.2.2.2.2.1, z14.2.2.2.2.2.1, z14.2.2.2.2.2.2.1, z14.2.2.2.2.2.2.2.1, z14.2.2.2.2.2.2.2.2)
def tc_P_operate (x1 : Int32) (x2 : Int32) (x3 : Int32) (py : Int32) (po : Int32) (cb : Nat → Int32) (ga : Int32) (gb : Int32) (gd : Int32) (gc : Int32) (gx : Int32) (gy : Int32) (gu : Int32) (gs : Int32) (gp : Int32) : Option (Int32 × Int32 × (Nat → Int32) × Int32 × Int32 × Int32 × Int32 × Int32 × Int32 × Int32 × Int32 × Int32) := (tc_G_sizeOf x2).bind fun z18 => if x1 = (7 : Int32) then if x3 = (0 : Int32) then some (py, (-2 : Int32), cb, ga, gb, gd, gc, gx, gy, gu, gs, gp) else tc_P_operate_j23 x1 x2 x3 z18 py po cb ga gb gd gc gx gy gu gs gp else tc_P_operate_j23 x1 x2 x3 z18 py po cb ga gb gd gc gx gy gu gs gp
def tc_P_doSecondPage_j147 (v2 : Int32) (s0 : Int32) (py : Int32) (po : Int32) (cb : Nat → Int32) (ga : Int32) (gb : Int32) (gd : Int32) (gc : Int32) (gx : Int32) (gy : Int32) (gu : Int32) (gs : Int32) (gp : Int32) : Option (Int32 × Int32 × (Nat → Int32) × Int32 × Int32 × Int32 × Int32 × Int32 × Int32 × Int32 × Int32 × Int32) := (tc_P_operate (7 : Int32) s0 v2 py po cb ga gb gd gc gx gy gu gs gp).bind fun z7 => some (z7.1, z7.2.1, z7.2.2.1, z7.2.2.2.1, z7.2.2.2.2.1, z7.2.2.2.2.2.1, z7.2.2.2.2.2.2.1, z7.2.2.2.2.2.2.2.1, z7.2.2.2.2.2.2.2.2.1, z7.2.2.2.2.2.2.2.2.2.1, z7.2.2.2.2.2.2.2.2.2.2.1, z7.2.2.2.2.2.2.2.2.2.2.2)
def tc_P_doSecondPage_j128 (v2 : Int32) (s0 : Int32) (py : Int32) (po : Int32) (cb : Nat → Int32) (ga : Int32) (gb : Int32) (gd : Int32) (gc : Int32) (gx : Int32) (gy : Int32) (gu : Int32) (gs : Int32) (gp : Int32) : Option (Int32 × Int32 × (Nat → Int32) × Int32 × Int32 × Int32 × Int32 × Int32 × Int32 × Int32 × Int32 × Int32) := (tc_P_operate (6 : Int32) s0 v2 py po cb ga gb gd gc gx gy gu gs gp).bind fun z8 => some (z8.1, z8.2.1, z8.2.2.1, z8.2.2.2.1, z8.2.2.2.2.1, z8.2.2.2.2.2.1, z8.2.2.2.2.2.2.1, z8.2.2.2.2.2.2.2.1, z8.2.2.2.2.2.2.2.2.1, z8.2.2.2.2.2.2.2.2.2.1, z8.2.2.2.2.2.2.2.2.2.2.1, z8.2.2.2.2.2.2.2.2.2.2.2)
def tc_P_doSecondPage_j50 (v2 : Int32) (v3 : Bool) (v4 : Int32) (py : Int32) (po : Int32) (cb : Nat → Int32) (ga : Int32) (gb : Int32) (gd : Int32) (gc : Int32) (gx : Int32) (gy : Int32) (gu : Int32) (gs : Int32) (gp : Int32) : Option (Int32 × Int32 × (Nat → Int32) × Int32 × Int32 × Int32 × Int32 × Int32 × Int32 × Int32 × Int32 × Int32) := if v4 = (3 : Int32) then (tc_P_operate (1 : Int32) (0 : Int32) v2 py po cb ga gb gd gc gx gy gu gs gp).bind fun z10 => some (z10.1, z10.2.1, z10.2.2.1, z10.2.2.2.1, z10.2.2.2.2.1, z10.2.2.2.2.2.1, z10.2.2.2.2.2.2.1, z10.2.2.2.2.2.2.2.1, z10.2.2.2.2.2.2.2.2.1, z10.2.2.2.2.2.2.2.2.2.1, z10.2.2.2.2.2.2.2.2.2.2.1, z10.2.2.2.2.2.2.2.2.2.2.2) else if v4 = (12 : Int32) then (tc_P_operate (1 : Int32) (2 : Int32) v2 py po cb ga gb gd gc gx gy gu gs gp).bind fun z12 => some (z12.1, z12.2.1, z12.2.2.1, z12.2.2.2.1, z12.2.2.2.2.1, z12.2.2.2.2.2.1, z12.2.2.2.2.2.2.1, z12.2.2.2.2.2.2.2.1, z12.2.2.2.2.2.2.2.2.1, z12.2.2.2.2.2.2.2.2.2.1, z12.2.2.2.2.2.2.2.2.2.2.1, z12.2.2.2.2.2.2.2.2.2.2.2) else if v4 = (14 : Int32) then if (bz_i v3) = (0 : Int32) then tc_P_doSecondPage_j128 v2 (2 : Int32) py po cb ga gb gd gc gx gy gu gs gp else tc_P_doSecondPage_j128 v2 (4 : Int32) py po cb ga gb gd gc gx gy gu gs gp else if v4 = (15 : Int32) then if (bz_i v3) = (0 : Int32) then tc_P_doSecondPage_j147 v2 (2 : Int32) py po cb ga gb gd gc gx gy gu gs gp else tc_P_doSecondPage_j147 v2 (4 : Int32) py po cb ga gb gd gc gx gy gu gs gp else some (py, (-2 : Int32), cb, ga, gb, gd, gc, gx, gy, gu, gs, gp)
def tc_P_doSecondPage_j43 (py : Int32) (po : Int32) (cb : Nat → Int32) (ga : Int32) (gb : Int32) (gd : Int32) (gc : Int32) (gx : Int32) (gy : Int32) (gu : Int32) (gs : Int32) (gp : Int32) : Option (Int32 × Int32 × (Nat → Int32) × Int32 × Int32 × Int32 × Int32 × Int32 × Int32 × Int32 × Int32 × Int32) := some (py, (-2 : Int32), cb, ga, gb, gd, gc, gx, gy, gu, gs, gp)
def tc_P_doSecondPage_j18 (v1 : Int32) (v2 : Int32) (s0 : Bool) (py : Int32) (po : Int32) (cb : Nat → Int32) (ga : Int32) (gb : Int32) (gd : Int32) (gc : Int32) (gx : Int32) (gy : Int32) (gu : Int32) (gs : Int32) (gp : Int32) : Option (Int32 × Int32 × (Nat → Int32) × Int32 × Int32 × Int32 × Int32 × Int32 × Int32 × Int32 × Int32 × Int32) := if v1 < (128 : Int32) then tc_P_doSecondPage_j43 py po cb ga gb gd gc gx gy gu gs gp else if (bz_i s0) = (0 : Int32) then tc_P_doSecondPage_j50 v2 s0 (v1 &&& (15 : Int32)) py po cb ga gb gd gc gx gy gu gs gp else if (14 : Int32) ≤ (v1 &&& (15 : Int32)) then tc_P_doSecondPage_j50 v2 s0 (v1 &&& (15 : Int32)) py po cb ga gb gd gc gx gy gu gs gp else tc_P_doSecondPage_j43 py po cb ga gb gd gc gx gy gu gs gp
def tc_P_doSecondPage (x1 : Int32) (py : Int32) (po : Int32) (cb : Nat → Int32) (ga : Int32) (gb : Int32) (gd : Int32) (gc : Int32) (gx : Int32) (gy : Int32) (gu : Int32) (gs : Int32) (gp : Int32) : Option (Int32 × Int32 × (Nat → Int32) × Int32 × Int32 × Int32 × Int32 × Int32 × Int32 × Int32 × Int32 × Int32) := if x1 < (192 : Int32) then tc_P_doSecondPage_j18 x1 ((x1 >>> ((4 : Int32) &&& 31)) &&& (3 : Int32)) false py po cb ga gb gd gc gx gy gu gs gp else tc_P_doSecondPage_j18 x1 ((x1 >>> ((4 : Int32) &&& 31)) &&& (3 : Int32)) true py po cb ga gb gd gc gx gy gu gs gp
def tc_G_exists_j21  : Option (Bool) := some true
def tc_G_exists_j9 (v0 : Int32) : Option (Bool) := if v0 < (8 : Int32) then some false else if (11 : Int32) < v0 then some false else tc_G_exists_j21
def tc_G_exists (x1 : Int32) : Option (Bool) := if x1 < (0 : Int32) then tc_G_exists_j9 x1 else if x1 ≤ (5 : Int32) then tc_G_exists_j21 else tc_G_exists_j9 x1
def tc_P_moveRegister_j43 (py : Int32) (po : Int32) (cb : Nat → Int32) (ga : Int32) (gb : Int32) (gd : Int32) (gc : Int32) (gx : Int32) (gy : Int32) (gu : Int32) (gs : Int32) (gp : Int32) : Option (Int32 × Int32 × Int32 × Int32 × Int32 × Int32 × Int32 × Int32 × Int32 × Int32 × Int32) := some (py, (-2 : Int32), ga, gb, gd, gc, gx, gy, gu, gs, gp)
def tc_P_moveRegister (x1 : Bool) (py : Int32) (po : Int32) (cb : Nat → Int32) (ga : Int32) (gb : Int32) (gd : Int32) (gc : Int32) (gx : Int32) (gy : Int32) (gu : Int32) (gs : Int32) (gp : Int32) : Option (Int32 × Int32 × Int32 × Int32 × Int32 × Int32 × Int32 × Int32 × Int32 × Int32 × Int32) := (tc_P_fetch (1 : Int32) py cb gp).bind fun z10 => (tc_G_exists (z10.1 >>> ((4 : Int32) &&& 31))).bind fun z11 => if (bz_i z11) = (0 : Int32) then tc_P_moveRegister_j43 z10.2.1 po cb ga gb gd gc gx gy gu gs z10.2.2 else (tc_G_exists (z10.1 &&& (15 : Int32))).bind fun z12 => if (bz_i z12) = (0 : Int32) then tc_P_moveRegister_j43 z10.2.1 po cb ga gb gd gc gx gy gu gs z10.2.2 else (tc_G_sizeOf (z10.1 >>> ((4 : Int32) &&& 31))).bind fun z13 => (tc_G_sizeOf (z10.1 &&& (15 : Int32))).bind fun z14 => if z13 = z14 then (tc_G_get (z10.1 &&& (15 : Int32)) ga gb gd gc gx gy gu gs z10.2.2).bind fun z15 => (tc_G_get (z10.1 >>> ((4 : Int32) &&& 31)) ga gb gd gc gx gy gu gs z10.2.2).bind fun z16 => (tc_G_set (z10.1 &&& (15 : Int32)) z16 ga gb gd gc gx gy gu gs z10.2.2).bind fun z17 => if (bz_i x1) = (0 : Int32) then some (z10.2.1, po, z17.1, z17.2.1, z17.2.2.1, z17.2.2.2.1, z17.2.2.2.2.1, z17.2.2.2.2.2.1, z17.2.2.2.2.2.2.1, z17.2.2.2.2.2.2.2.1, z17.2.2.2.2.2.2.2.2) else (tc_G_set (z10.1 >>> ((4 : Int32) &&& 31)) z15 z17.1 z17.2.1 z17.2.2.1 z17.2.2.2.1 z17.2.2.2.2.1 z17.2.2.2.2.2.1 z17.2.2.2.2.2.2.1 z17.2.2.2.2.2.2.2.1 z17.2.2.2.2.2.2.2.2).bind fun z18 => some (z10.2.1, po, z18.1, z18.2.1, z18.2.2.1, z18.2.2.2.1, z18.2.2.2.2.1, z18.2.2.2.2.2.1, z18.2.2.2.2.2.2.1, z18.2.2.2.2.2.2.2.1, z18.2.2.2.2.2.2.2.2) else tc_P_moveRegister_j43 z10.2.1 po cb ga gb gd gc gx gy gu gs z10.2.2
def tc_P_doGroup1_j141 (py : Int32) (po : Int32) (cb : Nat → Int32) (ga : Int32) (gb : Int32) (gd : Int32) (gc : Int32) (gx : Int32) (gy : Int32) (gu : Int32) (gs : Int32) (gp : Int32) : Option (Int32 × Int32 × Int32 × Int32 × Int32 × Int32 × Int32 × Int32 × Int32 × Int32 × Int32) := some (py, (-2 : Int32), ga, gb, gd, gc, gx, gy, gu, gs, gp)
def tc_P_doGroup1 (x1 : Int32) (py : Int32) (po : Int32) (cb : Nat → Int32) (ga : Int32) (gb : Int32) (gd : Int32) (gc : Int32) (gx : Int32) (gy : Int32) (gu : Int32) (gs : Int32) (gp : Int32) : Option (Int32 × Int32 × Int32 × Int32 × Int32 × Int32 × Int32 × Int32 × Int32 × Int32 × Int32) := if x1 = (18 : Int32) then some (py, po, ga, gb, gd, gc, gx, gy, gu, gs, gp) else if x1 = (19 : Int32) then tc_P_doGroup1_j141 py po cb ga gb gd gc gx gy gu gs gp else if x1 = (20 : Int32) then tc_P_doGroup1_j141 py po cb ga gb gd gc gx gy gu gs gp else if x1 = (21 : Int32) then tc_P_doGroup1_j141 py po cb ga gb gd gc gx gy gu gs gp else if x1 = (22 : Int32) then tc_P_doGroup1_j141 py po cb ga gb gd gc gx gy gu gs gp else if x1 = (23 : Int32) then tc_P_doGroup1_j141 py po cb ga gb gd gc gx gy gu gs gp else if x1 = (24 : Int32) then tc_P_doGroup1_j141 py po cb ga gb gd gc gx gy gu gs gp else if x1 = (25 : Int32) then tc_P_doGroup1_j141 py po cb ga gb gd gc gx gy gu gs gp else if x1 = (26 : Int32) then (tc_P_fetch (1 : Int32) py cb gp).bind fun z15 => some (z15.2.1, po, ga, gb, gd, (gc ||| z15.1), gx, gy, gu, gs, z15.2.2) else if x1 = (27 : Int32) then tc_P_doGroup1_j141 py po cb ga gb gd gc gx gy gu gs gp else if x1 = (28 : Int32) then (tc_P_fetch (1 : Int32) py cb gp).bind fun z18 => some (z18.2.1, po, ga, gb, gd, (gc &&& z18.1), gx, gy, gu, gs, z18.2.2) else if x1 = (29 : Int32) then (tc_C_extendB ga gb gd gc gx gy gu gs gp).bind fun z20 => some (py, po, z20.1, z20.2.1, z20.2.2.1, z20.2.2.2.1, z20.2.2.2.2.1, z20.2.2.2.2.2.1, z20.2.2.2.2.2.2.1, z20.2.2.2.2.2.2.2.1, z20.2.2.2.2.2.2.2.2) else if x1 = (30 : Int32) then (tc_P_moveRegister true py po cb ga gb gd gc gx gy gu gs gp).bind fun z22 => some (z22.1, z22.2.1, z22.2.2.1, z22.2.2.2.1, z22.2.2.2.2.1, z22.2.2.2.2.2.1, z22.2.2.2.2.2.2.1, z22.2.2.2.2.2.2.2.1, z22.2.2.2.2.2.2.2.2.1, z22.2.2.2.2.2.2.2.2.2.1, z22.2.2.2.2.2.2.2.2.2.2) else if x1 = (31 : Int32) then (tc_P_moveRegister false py po cb ga gb gd gc gx gy gu gs gp).bind fun z24 => some (z24.1, z24.2.1, z24.2.2.1, z24.2.2.2.1, z24.2.2.2.2.1, z24.2.2.2.2.2.1, z24.2.2.2.2.2.2.1, z24.2.2.2.2.2.2.2.1, z24.2.2.2.2.2.2.2.2.1, z24.2.2.2.2.2.2.2.2.2.1, z24.2.2.2.2.2.2.2.2.2.2) else tc_P_doGroup1_j141 py po cb ga gb gd gc gx gy gu gs gp
def tc_P_holds_j246 (s0 : Bool) (s1 : Bool) (gc : Int32) : Option (Bool) := if (bz_i s1) = (bz_i s0) then some true else some false
def tc_P_holds_j245 (s0 : Bool) (gc : Int32) : Option (Bool) := tc_P_holds_j246 false s0 gc
def tc_P_holds_j219 (s0 : Bool) (s1 : Bool) (gc : Int32) : Option (Bool) := if (bz_i s1) = (bz_i s0) then some true else some false
def tc_P_holds_j197 (s0 : Bool) (s1 : Bool) (gc : Int32) : Option (Bool) := if (bz_i s1) = (bz_i s0) then some true else some false
def tc_P_holds_j176 (s0 : Bool) (s1 : Bool) (gc : Int32) : Option (Bool) := if (bz_i s1) = (bz_i s0) then some true else some false
def tc_P_holds_j156 (s0 : Bool) (s1 : Bool) (gc : Int32) : Option (Bool) := if (bz_i s1) = (bz_i s0) then some true else some false
def tc_P_holds_j135 (s0 : Bool) (s1 : Bool) (gc : Int32) : Option (Bool) := if (bz_i s1) = (bz_i s0) then some true else some false
def tc_P_holds_j115 (s0 : Bool) (s1 : Bool) (gc : Int32) : Option (Bool) := if (bz_i s1) = (bz_i s0) then some true else some false
def tc_P_holds_j114 (s0 : Bool) (gc : Int32) : Option (Bool) := tc_P_holds_j115 false s0 gc
def tc_P_holds_j50 (v1 : Int32) (v2 : Bool) (v3 : Bool) (v4 : Bool) (v5 : Bool) (s0 : Bool) (gc : Int32) : Option (Bool) := if (v1 >>> ((1 : Int32) &&& 31)) = (0 : Int32) then some s0 else if (v1 >>> ((1 : Int32) &&& 31)) = (1 : Int32) then if (bz_i v2) = (0 : Int32) then if (bz_i v4) = (0 : Int32) then tc_P_holds_j115 true s0 gc else tc_P_holds_j114 s0 gc else tc_P_holds_j114 s0 gc else if (v1 >>> ((1 : Int32) &&& 31)) = (2 : Int32) then if (bz_i v2) = (0 : Int32) then tc_P_holds_j135 true s0 gc else tc_P_holds_j135 false s0 gc else if (v1 >>> ((1 : Int32) &&& 31)) = (3 : Int32) then if (bz_i v4) = (0 : Int32) then tc_P_holds_j156 true s0 gc else tc_P_holds_j156 false s0 gc else if (v1 >>> ((1 : Int32) &&& 31)) = (4 : Int32) then if (bz_i v3) = (0 : Int32) then tc_P_holds_j176 true s0 gc else tc_P_holds_j176 false s0 gc else if (v1 >>> ((1 : Int32) &&& 31)) = (5 : Int32) then if (bz_i v5) = (0 : Int32) then tc_P_holds_j197 true s0 gc else tc_P_holds_j197 false s0 gc else if (v1 >>> ((1 : Int32) &&& 31)) = (6 : Int32) then if (bz_i v5) = (bz_i v3) then tc_P_holds_j219 true s0 gc else tc_P_holds_j219 false s0 gc else if (bz_i v5) = (bz_i v3) then if (bz_i v4) = (0 : Int32) then tc_P_holds_j246 true s0 gc else tc_P_holds_j245 s0 gc else tc_P_holds_j245 s0 gc
def tc_P_holds (x1 : Int32) (gc : Int32) : Option (Bool) := (tc_G_has (1 : Int32) gc).bind fun z12 => (tc_G_has (2 : Int32) gc).bind fun z13 => (tc_G_has (4 : Int32) gc).bind fun z14 => (tc_G_has (8 : Int32) gc).bind fun z15 => if (x1 &&& (1 : Int32)) = (0 : Int32) then tc_P_holds_j50 x1 z12 z13 z14 z15 true gc else tc_P_holds_j50 x1 z12 z13 z14 z15 false gc
def tc_P_branch (x1 : Int32) (py : Int32) (cb : Nat → Int32) (gc : Int32) (gp : Int32) : Option (Int32 × Int32) := (tc_P_fetch (1 : Int32) py cb gp).bind fun z4 => (tc_C_signed z4.1 (1 : Int32)).bind fun z5 => (tc_P_holds x1 gc).bind fun z6 => if (bz_i z6) = (0 : Int32) then some (z4.2.1, z4.2.2) else some (z4.2.1, ((z4.2.2 + z5) &&& (65535 : Int32)))
def tc_P_loadAddress_j38 (s0 : Int32) (py : Int32) (po : Int32) (cb : Nat → Int32) (ga : Int32) (gb : Int32) (gd : Int32) (gc : Int32) (gx : Int32) (gy : Int32) (gu : Int32) (gs : Int32) (gp : Int32) : Option (Int32 × Int32 × Int32 × Int32 × Int32 × Int32 × Int32 × Int32 × Int32 × Int32 × Int32) := (tc_G_setFlags (4 : Int32) s0 gc).bind fun z5 => some (py, po, ga, gb, gd, z5, gx, gy, gu, gs, gp)
def tc_P_loadAddress_j24 (v2 : Int32) (py : Int32) (po : Int32) (cb : Nat → Int32) (ga : Int32) (gb : Int32) (gd : Int32) (gc : Int32) (gx : Int32) (gy : Int32) (gu : Int32) (gs : Int32) (gp : Int32) : Option (Int32 × Int32 × Int32 × Int32 × Int32 × Int32 × Int32 × Int32 × Int32 × Int32 × Int32) := if v2 = (0 : Int32) then tc_P_loadAddress_j38 (4 : Int32) py po cb ga gb gd gc gx gy gu gs gp else tc_P_loadAddress_j38 (0 : Int32) py po cb ga gb gd gc gx gy gu gs gp
def tc_P_loadAddress (x1 : Int32) (py : Int32) (po : Int32) (cb : Nat → Int32) (ga : Int32) (gb : Int32) (gd : Int32) (gc : Int32) (gx : Int32) (gy : Int32) (gu : Int32) (gs : Int32) (gp : Int32) : Option (Int32 × Int32 × Int32 × Int32 × Int32 × Int32 × Int32 × Int32 × Int32 × Int32 × Int32) := (tc_P_indexedAddress py po cb ga gb gd gc gx gy gu gs gp).bind fun z6 => (tc_G_set x1 z6.1 z6.2.2.2.1 z6.2.2.2.2.1 z6.2.2.2.2.2.1 z6.2.2.2.2.2.2.1 z6.2.2.2.2.2.2.2.1 z6.2.2.2.2.2.2.2.2.1 z6.2.2.2.2.2.2.2.2.2.1 z6.2.2.2.2.2.2.2.2.2.2.1 z6.2.2.2.2.2.2.2.2.2.2.2).bind fun z7 => if x1 = (1 : Int32) then tc_P_loadAddress_j24 z6.1 z6.2.1 z6.2.2.1 cb z7.1 z7.2.1 z7.2.2.1 z7.2.2.2.1 z7.2.2.2.2.1 z7.2.2.2.2.2.1 z7.2.2.2.2.2.2.1 z7.2.2.2.2.2.2.2.1 z7.2.2.2.2.2.2.2.2 else if x1 = (2 : Int32) then tc_P_loadAddress_j24 z6.1 z6.2.1 z6.2.2.1 cb z7.1 z7.2.1 z7.2.2.1 z7.2.2.2.1 z7.2.2.2.2.1 z7.2.2.2.2.2.1 z7.2.2.2.2.2.2.1 z7.2.2.2.2.2.2.2.1 z7.2.2.2.2.2.2.2.2 else some (z6.2.1, z6.2.2.1, z7.1, z7.2.1, z7.2.2.1, z7.2.2.2.1, z7.2.2.2.2.1, z7.2.2.2.2.2.1, z7.2.2.2.2.2.2.1, z7.2.2.2.2.2.2.2.1, z7.2.2.2.2.2.2.2.2)
def tc_P_push (x1 : Int32) (x2 : Int32) (py : Int32) (cb : Nat → Int32) (ga : Int32) (gb : Int32) (gd : Int32) (gc : Int32) (gx : Int32) (gy : Int32) (gu : Int32) (gs : Int32) (gp : Int32) : Option (Int32 × (Nat → Int32) × Int32 × Int32 × Int32 × Int32 × Int32 × Int32 × Int32 × Int32 × Int32) := (tc_G_push x1 x2 ga gb gd gc gx gy gu gs gp cb).bind fun z2 => some ((py + z2.1), z2.2.2.2.2.2.2.2.2.2.2, z2.2.1, z2.2.2.1, z2.2.2.2.1, z2.2.2.2.2.1, z2.2.2.2.2.2.1, z2.2.2.2.2.2.2.1, z2.2.2.2.2.2.2.2.1, z2.2.2.2.2.2.2.2.2.1, z2.2.2.2.2.2.2.2.2.2.1)
def tc_P_pull (x1 : Int32) (x2 : Int32) (py : Int32) (cb : Nat → Int32) (ga : Int32) (gb : Int32) (gd : Int32) (gc : Int32) (gx : Int32) (gy : Int32) (gu : Int32) (gs : Int32) (gp : Int32) : Option (Int32 × Int32 × Int32 × Int32 × Int32 × Int32 × Int32 × Int32 × Int32 × Int32) := (tc_G_pull x1 x2 ga gb gd gc gx gy gu gs gp cb).bind fun z2 => some ((py + z2.1), z2.2.1, z2.2.2.1, z2.2.2.2.1, z2.2.2.2.2.1, z2.2.2.2.2.2.1, z2.2.2.2.2.2.2.1, z2.2.2.2.2.2.2.2.1, z2.2.2.2.2.2.2.2.2.1, z2.2.2.2.2.2.2.2.2.2)
def tc_P_doGroup3_j223 (py : Int32) (po : Int32) (cb : Nat → Int32) (ga : Int32) (gb : Int32) (gd : Int32) (gc : Int32) (gx : Int32) (gy : Int32) (gu : Int32) (gs : Int32) (gp : Int32) : Option (Int32 × Int32 × (Nat → Int32) × Int32 × Int32 × Int32 × Int32 × Int32 × Int32 × Int32 × Int32 × Int32) := some (py, (-2 : Int32), cb, ga, gb, gd, gc, gx, gy, gu, gs, gp)
def tc_P_doGroup3 (x1 : Int32) (py : Int32) (po : Int32) (cb : Nat → Int32) (ga : Int32) (gb : Int32) (gd : Int32) (gc : Int32) (gx : Int32) (gy : Int32) (gu : Int32) (gs : Int32) (gp : Int32) : Option (Int32 × Int32 × (Nat → Int32) × Int32 × Int32 × Int32 × Int32 × Int32 × Int32 × Int32 × Int32 × Int32) := if x1 = (48 : Int32) then (tc_P_loadAddress (1 : Int32) py po cb ga gb gd gc gx gy gu gs gp).bind fun z18 => some (z18.1, z18.2.1, cb, z18.2.2.1, z18.2.2.2.1, z18.2.2.2.2.1, z18.2.2.2.2.2.1, z18.2.2.2.2.2.2.1, z18.2.2.2.2.2.2.2.1, z18.2.2.2.2.2.2.2.2.1, z18.2.2.2.2.2.2.2.2.2.1, z18.2.2.2.2.2.2.2.2.2.2) else if x1 = (49 : Int32) then (tc_P_loadAddress (2 : Int32) py po cb ga gb gd gc gx gy gu gs gp).bind fun z20 => some (z20.1, z20.2.1, cb, z20.2.2.1, z20.2.2.2.1, z20.2.2.2.2.1, z20.2.2.2.2.2.1, z20.2.2.2.2.2.2.1, z20.2.2.2.2.2.2.2.1, z20.2.2.2.2.2.2.2.2.1, z20.2.2.2.2.2.2.2.2.2.1, z20.2.2.2.2.2.2.2.2.2.2) else if x1 = (50 : Int32) then (tc_P_loadAddress (4 : Int32) py po cb ga gb gd gc gx gy gu gs gp).bind fun z22 => some (z22.1, z22.2.1, cb, z22.2.2.1, z22.2.2.2.1, z22.2.2.2.2.1, z22.2.2.2.2.2.1, z22.2.2.2.2.2.2.1, z22.2.2.2.2.2.2.2.1, z22.2.2.2.2.2.2.2.2.1, z22.2.2.2.2.2.2.2.2.2.1, z22.2.2.2.2.2.2.2.2.2.2) else if x1 = (51 : Int32) then (tc_P_loadAddress (3 : Int32) py po cb ga gb gd gc gx gy gu gs gp).bind fun z24 => some (z24.1, z24.2.1, cb, z24.2.2.1, z24.2.2.2.1, z24.2.2.2.2.1, z24.2.2.2.2.2.1, z24.2.2.2.2.2.2.1, z24.2.2.2.2.2.2.2.1, z24.2.2.2.2.2.2.2.2.1, z24.2.2.2.2.2.2.2.2.2.1, z24.2.2.2.2.2.2.2.2.2.2) else if x1 = (52 : Int32) then (tc_P_fetch (1 : Int32) py cb gp).bind fun z26 => (tc_P_push (4 : Int32) z26.1 z26.2.1 cb ga gb gd gc gx gy gu gs z26.2.2).bind fun z27 => some (z27.1, po, z27.2.1, z27.2.2.1, z27.2.2.2.1, z27.2.2.2.2.1, z27.2.2.2.2.2.1, z27.2.2.2.2.2.2.1, z27.2.2.2.2.2.2.2.1, z27.2.2.2.2.2.2.2.2.1, z27.2.2.2.2.2.2.2.2.2.1, z27.2.2.2.2.2.2.2.2.2.2) else if x1 = (53 : Int32) then (tc_P_fetch (1 : Int32) py cb gp).bind fun z29 => (tc_P_pull (4 : Int32) z29.1 z29.2.1 cb ga gb gd gc gx gy gu gs z29.2.2).bind fun z30 => some (z30.1, po, cb, z30.2.1, z30.2.2.1, z30.2.2.2.1, z30.2.2.2.2.1, z30.2.2.2.2.2.1, z30.2.2.2.2.2.2.1, z30.2.2.2.2.2.2.2.1, z30.2.2.2.2.2.2.2.2.1, z30.2.2.2.2.2.2.2.2.2) else if x1 = (54 : Int32) then (tc_P_fetch (1 : Int32) py cb gp).bind fun z32 => (tc_P_push (3 : Int32) z32.1 z32.2.1 cb ga gb gd gc gx gy gu gs z32.2.2).bind fun z33 => some (z33.1, po, z33.2.1, z33.2.2.1, z33.2.2.2.1, z33.2.2.2.2.1, z33.2.2.2.2.2.1, z33.2.2.2.2.2.2.1, z33.2.2.2.2.2.2.2.1, z33.2.2.2.2.2.2.2.2.1, z33.2.2.2.2.2.2.2.2.2.1, z33.2.2.2.2.2.2.2.2.2.2) else if x1 = (55 : Int32) then (tc_P_fetch (1 : Int32) py cb gp).bind fun z35 => (tc_P_pull (3 : Int32) z35.1 z35.2.1 cb ga gb gd gc gx gy gu gs z35.2.2).bind fun z36 => some (z36.1, po, cb, z36.2.1, z36.2.2.1, z36.2.2.2.1, z36.2.2.2.2.1, z36.2.2.2.2.2.1, z36.2.2.2.2.2.2.1, z36.2.2.2.2.2.2.2.1, z36.2.2.2.2.2.2.2.2.1, z36.2.2.2.2.2.2.2.2.2) else if x1 = (56 : Int32) then tc_P_doGroup3_j223 py po cb ga gb gd gc gx gy gu gs gp else if x1 = (57 : Int32) then (tc_P_pull (4 : Int32) (128 : Int32) py cb ga gb gd gc gx gy gu gs gp).bind fun z39 => some (z39.1, po, cb, z39.2.1, z39.2.2.1, z39.2.2.2.1, z39.2.2.2.2.1, z39.2.2.2.2.2.1, z39.2.2.2.2.2.2.1, z39.2.2.2.2.2.2.2.1, z39.2.2.2.2.2.2.2.2.1, z39.2.2.2.2.2.2.2.2.2) else if x1 = (58 : Int32) then (tc_G_set (1 : Int32) (gx + gb) ga gb gd gc gx gy gu gs gp).bind fun z41 => some (py, po, cb, z41.1, z41.2.1, z41.2.2.1, z41.2.2.2.1, z41.2.2.2.2.1, z41.2.2.2.2.2.1, z41.2.2.2.2.2.2.1, z41.2.2.2.2.2.2.2.1, z41.2.2.2.2.2.2.2.2) else if x1 = (59 : Int32) then tc_P_doGroup3_j223 py po cb ga gb gd gc gx gy gu gs gp else if x1 = (60 : Int32) then tc_P_doGroup3_j223 py po cb ga gb gd gc gx gy gu gs gp else if x1 = (61 : Int32) then (tc_C_multiply ga gb gd gc gx gy gu gs gp).bind fun z45 => some (py, po, cb, z45.1, z45.2.1, z45.2.2.1, z45.2.2.2.1, z45.2.2.2.2.1, z45.2.2.2.2.2.1, z45.2.2.2.2.2.2.1, z45.2.2.2.2.2.2.2.1, z45.2.2.2.2.2.2.2.2) else if x1 = (62 : Int32) then tc_P_doGroup3_j223 py po cb ga gb gd gc gx gy gu gs gp else if x1 = (63 : Int32) then (tc_P_fetch (1 : Int32) py cb gp).bind fun z48 => some (z48.2.1, z48.1, cb, ga, gb, gd, gc, gx, gy, gu, gs, z48.2.2) else tc_P_doGroup3_j223 py po cb ga gb gd gc gx gy gu gs gp
def tc_P_changeRegister (x1 : Int32) (x2 : Int32) (po : Int32) (ga : Int32) (gb : Int32) (gd : Int32) (gc : Int32) (gx : Int32) (gy : Int32) (gu : Int32) (gs : Int32) (gp : Int32) : Option (Int32 × Int32 × Int32 × Int32 × Int32 × Int32 × Int32 × Int32 × Int32 × Int32) := (tc_P_isChange x1).bind fun z5 => if (bz_i z5) = (0 : Int32) then some ((-2 : Int32), ga, gb, gd, gc, gx, gy, gu, gs, gp) else (tc_G_get x2 ga gb gd gc gx gy gu gs gp).bind fun z6 => (tc_P_changed x1 z6 gc).bind fun z7 => (tc_G_set x2 z7.1 ga gb gd z7.2 gx gy gu gs gp).bind fun z8 => some (po, z8.1, z8.2.1, z8.2.2.1, z8.2.2.2.1, z8.2.2.2.2.1, z8.2.2.2.2.2.1, z8.2.2.2.2.2.2.1, z8.2.2.2.2.2.2.2.1, z8.2.2.2.2.2.2.2.2)
def tc_P_callAt_j35 (v2 : Int32) (py : Int32) (po : Int32) (cb : Nat → Int32) (ga : Int32) (gb : Int32) (gd : Int32) (gc : Int32) (gx : Int32) (gy : Int32) (gu : Int32) (gs : Int32) (gp : Int32) : Option (Int32 × Int32 × (Nat → Int32) × Int32 × Int32 × Int32 × Int32 × Int32 × Int32 × Int32 × Int32 × Int32) := if po = (-2 : Int32) then some (py, po, cb, ga, gb, gd, gc, gx, gy, gu, gs, gp) else (tc_P_push (4 : Int32) (128 : Int32) py cb ga gb gd gc gx gy gu gs gp).bind fun z5 => some (z5.1, po, z5.2.1, z5.2.2.1, z5.2.2.2.1, z5.2.2.2.2.1, z5.2.2.2.2.2.1, z5.2.2.2.2.2.2.1, z5.2.2.2.2.2.2.2.1, z5.2.2.2.2.2.2.2.2.1, z5.2.2.2.2.2.2.2.2.2.1, v2)
def tc_P_callAt (x1 : Int32) (py : Int32) (po : Int32) (cb : Nat → Int32) (ga : Int32) (gb : Int32) (gd : Int32) (gc : Int32) (gx : Int32) (gy : Int32) (gu : Int32) (gs : Int32) (gp : Int32) : Option (Int32 × Int32 × (Nat → Int32) × Int32 × Int32 × Int32 × Int32 × Int32 × Int32 × Int32 × Int32 × Int32) := if x1 = (0 : Int32) then (tc_P_fetch (1 : Int32) py cb gp).bind fun z7 => (tc_C_signed z7.1 (1 : Int32)).bind fun z8 => tc_P_callAt_j35 ((z8 + z7.2.2) &&& (65535 : Int32)) z7.2.1 po cb ga gb gd gc gx gy gu gs z7.2.2 else (tc_P_operandAddress x1 (1 : Int32) py po cb ga gb gd gc gx gy gu gs gp).bind fun z6 => tc_P_callAt_j35 z6.1 z6.2.1 z6.2.2.1 cb z6.2.2.2.1 z6.2.2.2.2.1 z6.2.2.2.2.2.1 z6.2.2.2.2.2.2.1 z6.2.2.2.2.2.2.2.1 z6.2.2.2.2.2.2.2.2.1 z6.2.2.2.2.2.2.2.2.2.1 z6.2.2.2.2.2.2.2.2.2.2.1 z6.2.2.2.2.2.2.2.2.2.2.2
def tc_P_doMainPage_j209 (v2 : Int32) (s0 : Int32) (s1 : Int32) (py : Int32) (po : Int32) (cb : Nat → Int32) (ga : Int32) (gb : Int32) (gd : Int32) (gc : Int32) (gx : Int32) (gy : Int32) (gu : Int32) (gs : Int32) (gp : Int32) : Option (Int32 × Int32 × (Nat → Int32) × Int32 × Int32 × Int32 × Int32 × Int32 × Int32 × Int32 × Int32 × Int32) := (tc_P_operate s1 s0 v2 py po cb ga gb gd gc gx gy gu gs gp).bind fun z17 => some (z17.1, z17.2.1, z17.2.2.1, z17.2.2.2.1, z17.2.2.2.2.1, z17.2.2.2.2.2.1, z17.2.2.2.2.2.2.1, z17.2.2.2.2.2.2.2.1, z17.2.2.2.2.2.2.2.2.1, z17.2.2.2.2.2.2.2.2.2.1, z17.2.2.2.2.2.2.2.2.2.2.1, z17.2.2.2.2.2.2.2.2.2.2.2)
def tc_P_doMainPage_j193 (v1 : Int32) (v2 : Int32) (v3 : Bool) (py : Int32) (po : Int32) (cb : Nat → Int32) (ga : Int32) (gb : Int32) (gd : Int32) (gc : Int32) (gx : Int32) (gy : Int32) (gu : Int32) (gs : Int32) (gp : Int32) : Option (Int32 × Int32 × (Nat → Int32) × Int32 × Int32 × Int32 × Int32 × Int32 × Int32 × Int32 × Int32 × Int32) := if (bz_i v3) = (0 : Int32) then tc_P_doMainPage_j209 v2 (8 : Int32) (v1 &&& (15 : Int32)) py po cb ga gb gd gc gx gy gu gs gp else tc_P_doMainPage_j209 v2 (9 : Int32) (v1 &&& (15 : Int32)) py po cb ga gb gd gc gx gy gu gs gp
def tc_P_doMainPage_j186 (v2 : Int32) (s0 : Int32) (py : Int32) (po : Int32) (cb : Nat → Int32) (ga : Int32) (gb : Int32) (gd : Int32) (gc : Int32) (gx : Int32) (gy : Int32) (gu : Int32) (gs : Int32) (gp : Int32) : Option (Int32 × Int32 × (Nat → Int32) × Int32 × Int32 × Int32 × Int32 × Int32 × Int32 × Int32 × Int32 × Int32) := (tc_P_operate (7 : Int32) s0 v2 py po cb ga gb gd gc gx gy gu gs gp).bind fun z18 => some (z18.1, z18.2.1, z18.2.2.1, z18.2.2.2.1, z18.2.2.2.2.1, z18.2.2.2.2.2.1, z18.2.2.2.2.2.2.1, z18.2.2.2.2.2.2.2.1, z18.2.2.2.2.2.2.2.2.1, z18.2.2.2.2.2.2.2.2.2.1, z18.2.2.2.2.2.2.2.2.2.2.1, z18.2.2.2.2.2.2.2.2.2.2.2)
def tc_P_doMainPage_j167 (v2 : Int32) (s0 : Int32) (py : Int32) (po : Int32) (cb : Nat → Int32) (ga : Int32) (gb : Int32) (gd : Int32) (gc : Int32) (gx : Int32) (gy : Int32) (gu : Int32) (gs : Int32) (gp : Int32) : Option (Int32 × Int32 × (Nat → Int32) × Int32 × Int32 × Int32 × Int32 × Int32 × Int32 × Int32 × Int32 × Int32) := (tc_P_operate (6 : Int32) s0 v2 py po cb ga gb gd gc gx gy gu gs gp).bind fun z19 => some (z19.1, z19.2.1, z19.2.2.1, z19.2.2.2.1, z19.2.2.2.2.1, z19.2.2.2.2.2.1, z19.2.2.2.2.2.2.1, z19.2.2.2.2.2.2.2.1, z19.2.2.2.2.2.2.2.2.1, z19.2.2.2.2.2.2.2.2.2.1, z19.2.2.2.2.2.2.2.2.2.2.1, z19.2.2.2.2.2.2.2.2.2.2.2)
def tc_P_doMainPage_j99 (v2 : Int32) (s0 : Int32) (py : Int32) (po : Int32) (cb : Nat → Int32) (ga : Int32) (gb : Int32) (gd : Int32) (gc : Int32) (gx : Int32) (gy : Int32) (gu : Int32) (gs : Int32) (gp : Int32) : Option (Int32 × Int32 × (Nat → Int32) × Int32 × Int32 × Int32 × Int32 × Int32 × Int32 × Int32 × Int32 × Int32) := (tc_P_operate s0 (0 : Int32) v2 py po cb ga gb gd gc gx gy gu gs gp).bind fun z20 => some (z20.1, z20.2.1, z20.2.2.1, z20.2.2.2.1, z20.2.2.2.2.1, z20.2.2.2.2.2.1, z20.2.2.2.2.2.2.1, z20.2.2.2.2.2.2.2.1, z20.2.2.2.2.2.2.2.2.1, z20.2.2.2.2.2.2.2.2.2.1, z20.2.2.2.2.2.2.2.2.2.2.1, z20.2.2.2.2.2.2.2.2.2.2.2)
def tc_P_doMainPage_j18 (v1 : Int32) (v2 : Int32) (s0 : Bool) (py : Int32) (po : Int32) (cb : Nat → Int32) (ga : Int32) (gb : Int32) (gd : Int32) (gc : Int32) (gx : Int32) (gy : Int32) (gu : Int32) (gs : Int32) (gp : Int32) : Option (Int32 × Int32 × (Nat → Int32) × Int32 × Int32 × Int32 × Int32 × Int32 × Int32 × Int32 × Int32 × Int32) := if (v1 &&& (15 : Int32)) = (3 : Int32) then if (bz_i s0) = (0 : Int32) then tc_P_doMainPage_j99 v2 (0 : Int32) py po cb ga gb gd gc gx gy gu gs gp else tc_P_doMainPage_j99 v2 (11 : Int32) py po cb ga gb gd gc gx gy gu gs gp else if (v1 &&& (15 : Int32)) = (4 : Int32) then tc_P_doMainPage_j193 v1 v2 s0 py po cb ga gb gd gc gx gy gu gs gp else if (v1 &&& (15 : Int32)) = (5 : Int32) then tc_P_doMainPage_j193 v1 v2 s0 py po cb ga gb gd gc gx gy gu gs gp else if (v1 &&& (15 : Int32)) = (6 : Int32) then tc_P_doMainPage_j193 v1 v2 s0 py po cb ga gb gd gc gx gy gu gs gp else if (v1 &&& (15 : Int32)) = (7 : Int32) then tc_P_doMainPage_j193 v1 v2 s0 py po cb ga gb gd gc gx gy gu gs gp else if (v1 &&& (15 : Int32)) = (8 : Int32) then tc_P_doMainPage_j193 v1 v2 s0 py po cb ga gb gd gc gx gy gu gs gp else if (v1 &&& (15 : Int32)) = (9 : Int32) then tc_P_doMainPage_j193 v1 v2 s0 py po cb ga gb gd gc gx gy gu gs gp else if (v1 &&& (15 : Int32)) = (10 : Int32) then tc_P_doMainPage_j193 v1 v2 s0 py po cb ga gb gd gc gx gy gu gs gp else if (v1 &&& (15 : Int32)) = (11 : Int32) then tc_P_doMainPage_j193 v1 v2 s0 py po cb ga gb gd gc gx gy gu gs gp else if (v1 &&& (15 : Int32)) = (12 : Int32) then if (bz_i s0) = (0 : Int32) then (tc_P_operate (1 : Int32) (1 : Int32) v2 py po cb ga gb gd gc gx gy gu gs gp).bind fun z31 => some (z31.1, z31.2.1, z31.2.2.1, z31.2.2.2.1, z31.2.2.2.2.1, z31.2.2.2.2.2.1, z31.2.2.2.2.2.2.1, z31.2.2.2.2.2.2.2.1, z31.2.2.2.2.2.2.2.2.1, z31.2.2.2.2.2.2.2.2.2.1, z31.2.2.2.2.2.2.2.2.2.2.1, z31.2.2.2.2.2.2.2.2.2.2.2) else (tc_P_operate (6 : Int32) (0 : Int32) v2 py po cb ga gb gd gc gx gy gu gs gp).bind fun z32 => some (z32.1, z32.2.1, z32.2.2.1, z32.2.2.2.1, z32.2.2.2.2.1, z32.2.2.2.2.2.1, z32.2.2.2.2.2.2.1, z32.2.2.2.2.2.2.2.1, z32.2.2.2.2.2.2.2.2.1, z32.2.2.2.2.2.2.2.2.2.1, z32.2.2.2.2.2.2.2.2.2.2.1, z32.2.2.2.2.2.2.2.2.2.2.2) else if (v1 &&& (15 : Int32)) = (13 : Int32) then if (bz_i s0) = (0 : Int32) then (tc_P_callAt v2 py po cb ga gb gd gc gx gy gu gs gp).bind fun z34 => some (z34.1, z34.2.1, z34.2.2.1, z34.2.2.2.1, z34.2.2.2.2.1, z34.2.2.2.2.2.1, z34.2.2.2.2.2.2.1, z34.2.2.2.2.2.2.2.1, z34.2.2.2.2.2.2.2.2.1, z34.2.2.2.2.2.2.2.2.2.1, z34.2.2.2.2.2.2.2.2.2.2.1, z34.2.2.2.2.2.2.2.2.2.2.2) else (tc_P_operate (7 : Int32) (0 : Int32) v2 py po cb ga gb gd gc gx gy gu gs gp).bind fun z35 => some (z35.1, z35.2.1, z35.2.2.1, z35.2.2.2.1, z35.2.2.2.2.1, z35.2.2.2.2.2.1, z35.2.2.2.2.2.2.1, z35.2.2.2.2.2.2.2.1, z35.2.2.2.2.2.2.2.2.1, z35.2.2.2.2.2.2.2.2.2.1, z35.2.2.2.2.2.2.2.2.2.2.1, z35.2.2.2.2.2.2.2.2.2.2.2) else if (v1 &&& (15 : Int32)) = (14 : Int32) then if (bz_i s0) = (0 : Int32) then tc_P_doMainPage_j167 v2 (1 : Int32) py po cb ga gb gd gc gx gy gu gs gp else tc_P_doMainPage_j167 v2 (3 : Int32) py po cb ga gb gd gc gx gy gu gs gp else if (v1 &&& (15 : Int32)) = (15 : Int32) then if (bz_i s0) = (0 : Int32) then tc_P_doMainPage_j186 v2 (1 : Int32) py po cb ga gb gd gc gx gy gu gs gp else tc_P_doMainPage_j186 v2 (3 : Int32) py po cb ga gb gd gc gx gy gu gs gp else tc_P_doMainPage_j193 v1 v2 s0 py po cb ga gb gd gc gx gy gu gs gp
def tc_P_doMainPage (x1 : Int32) (py : Int32) (po : Int32) (cb : Nat → Int32) (ga : Int32) (gb : Int32) (gd : Int32) (gc : Int32) (gx : Int32) (gy : Int32) (gu : Int32) (gs : Int32) (gp : Int32) : Option (Int32 × Int32 × (Nat → Int32) × Int32 × Int32 × Int32 × Int32 × Int32 × Int32 × Int32 × Int32 × Int32) := if x1 < (192 : Int32) then tc_P_doMainPage_j18 x1 ((x1 >>> ((4 : Int32) &&& 31)) &&& (3 : Int32)) false py po cb ga gb gd gc gx gy gu gs gp else tc_P_doMainPage_j18 x1 ((x1 >>> ((4 : Int32) &&& 31)) &&& (3 : Int32)) true py po cb ga gb gd gc gx gy gu gs gp
def tc_P_execute_j168 (py : Int32) (po : Int32) (cb : Nat → Int32) (ga : Int32) (gb : Int32) (gd : Int32) (gc : Int32) (gx : Int32) (gy : Int32) (gu : Int32) (gs : Int32) (gp : Int32) : Option (Int32 × Int32 × Int32 × (Nat → Int32) × Int32 × Int32 × Int32 × Int32 × Int32 × Int32 × Int32 × Int32 × Int32) := if po = (-2 : Int32) then some (po, (1 : Int32), po, cb, ga, gb, gd, gc, gx, gy, gu, gs, gp) else some (po, py, po, cb, ga, gb, gd, gc, gx, gy, gu, gs, gp)
def tc_P_execute_j147 (v1 : Int32) (py : Int32) (po : Int32) (cb : Nat → Int32) (ga : Int32) (gb : Int32) (gd : Int32) (gc : Int32) (gx : Int32) (gy : Int32) (gu : Int32) (gs : Int32) (gp : Int32) : Option (Int32 × Int32 × Int32 × (Nat → Int32) × Int32 × Int32 × Int32 × Int32 × Int32 × Int32 × Int32 × Int32 × Int32) := (tc_P_changeMemory (v1 &&& (15 : Int32)) ((v1 >>> ((4 : Int32) &&& 31)) &&& (3 : Int32)) py po cb ga gb gd gc gx gy gu gs gp).bind fun z12 => tc_P_execute_j168 z12.1 z12.2.1 z12.2.2.1 z12.2.2.2.1 z12.2.2.2.2.1 z12.2.2.2.2.2.1 z12.2.2.2.2.2.2.1 z12.2.2.2.2.2.2.2.1 z12.2.2.2.2.2.2.2.2.1 z12.2.2.2.2.2.2.2.2.2.1 z12.2.2.2.2.2.2.2.2.2.2.1 z12.2.2.2.2.2.2.2.2.2.2.2
def tc_P_execute (py : Int32) (po : Int32) (cb : Nat → Int32) (ga : Int32) (gb : Int32) (gd : Int32) (gc : Int32) (gx : Int32) (gy : Int32) (gu : Int32) (gs : Int32) (gp : Int32) : Option (Int32 × Int32 × Int32 × (Nat → Int32) × Int32 × Int32 × Int32 × Int32 × Int32 × Int32 × Int32 × Int32 × Int32) := (tc_P_fetch (1 : Int32) (0 : Int32) cb gp).bind fun z13 => if (z13.1 >>> ((4 : Int32) &&& 31)) = (0 : Int32) then (tc_P_changeMemory (z13.1 &&& (15 : Int32)) (1 : Int32) z13.2.1 (-1 : Int32) cb ga gb gd gc gx gy gu gs z13.2.2).bind fun z15 => tc_P_execute_j168 z15.1 z15.2.1 z15.2.2.1 z15.2.2.2.1 z15.2.2.2.2.1 z15.2.2.2.2.2.1 z15.2.2.2.2.2.2.1 z15.2.2.2.2.2.2.2.1 z15.2.2.2.2.2.2.2.2.1 z15.2.2.2.2.2.2.2.2.2.1 z15.2.2.2.2.2.2.2.2.2.2.1 z15.2.2.2.2.2.2.2.2.2.2.2 else if (z13.1 >>> ((4 : Int32) &&& 31)) = (1 : Int32) then if z13.1 = (16 : Int32) then (tc_P_fetch (1 : Int32) z13.2.1 cb z13.2.2).bind fun z18 => (tc_P_doSecondPage z18.1 z18.2.1 (-1 : Int32) cb ga gb gd gc gx gy gu gs z18.2.2).bind fun z19 => tc_P_execute_j168 z19.1 z19.2.1 z19.2.2.1 z19.2.2.2.1 z19.2.2.2.2.1 z19.2.2.2.2.2.1 z19.2.2.2.2.2.2.1 z19.2.2.2.2.2.2.2.1 z19.2.2.2.2.2.2.2.2.1 z19.2.2.2.2.2.2.2.2.2.1 z19.2.2.2.2.2.2.2.2.2.2.1 z19.2.2.2.2.2.2.2.2.2.2.2 else (tc_P_doGroup1 z13.1 z13.2.1 (-1 : Int32) cb ga gb gd gc gx gy gu gs z13.2.2).bind fun z17 => tc_P_execute_j168 z17.1 z17.2.1 cb z17.2.2.1 z17.2.2.2.1 z17.2.2.2.2.1 z17.2.2.2.2.2.1 z17.2.2.2.2.2.2.1 z17.2.2.2.2.2.2.2.1 z17.2.2.2.2.2.2.2.2.1 z17.2.2.2.2.2.2.2.2.2.1 z17.2.2.2.2.2.2.2.2.2.2 else if (z13.1 >>> ((4 : Int32) &&& 31)) = (2 : Int32) then (tc_P_branch (z13.1 &&& (15 : Int32)) z13.2.1 cb gc z13.2.2).bind fun z21 => tc_P_execute_j168 z21.1 (-1 : Int32) cb ga gb gd gc gx gy gu gs z21.2 else if (z13.1 >>> ((4 : Int32) &&& 31)) = (3 : Int32) then (tc_P_doGroup3 z13.1 z13.2.1 (-1 : Int32) cb ga gb gd gc gx gy gu gs z13.2.2).bind fun z23 => tc_P_execute_j168 z23.1 z23.2.1 z23.2.2.1 z23.2.2.2.1 z23.2.2.2.2.1 z23.2.2.2.2.2.1 z23.2.2.2.2.2.2.1 z23.2.2.2.2.2.2.2.1 z23.2.2.2.2.2.2.2.2.1 z23.2.2.2.2.2.2.2.2.2.1 z23.2.2.2.2.2.2.2.2.2.2.1 z23.2.2.2.2.2.2.2.2.2.2.2 else if (z13.1 >>> ((4 : Int32) &&& 31)) = (4 : Int32) then (tc_P_changeRegister (z13.1 &&& (15 : Int32)) (8 : Int32) (-1 : Int32) ga gb gd gc gx gy gu gs z13.2.2).bind fun z25 => tc_P_execute_j168 z13.2.1 z25.1 cb z25.2.1 z25.2.2.1 z25.2.2.2.1 z25.2.2.2.2.1 z25.2.2.2.2.2.1 z25.2.2.2.2.2.2.1 z25.2.2.2.2.2.2.2.1 z25.2.2.2.2.2.2.2.2.1 z25.2.2.2.2.2.2.2.2.2 else if (z13.1 >>> ((4 : Int32) &&& 31)) = (5 : Int32) then (tc_P_changeRegister (z13.1 &&& (15 : Int32)) (9 : Int32) (-1 : Int32) ga gb gd gc gx gy gu gs z13.2.2).bind fun z27 => tc_P_execute_j168 z13.2.1 z27.1 cb z27.2.1 z27.2.2.1 z27.2.2.2.1 z27.2.2.2.2.1 z27.2.2.2.2.2.1 z27.2.2.2.2.2.2.1 z27.2.2.2.2.2.2.2.1 z27.2.2.2.2.2.2.2.2.1 z27.2.2.2.2.2.2.2.2.2 else if (z13.1 >>> ((4 : Int32) &&& 31)) = (6 : Int32) then tc_P_execute_j147 z13.1 z13.2.1 (-1 : Int32) cb ga gb gd gc gx gy gu gs z13.2.2 else if (z13.1 >>> ((4 : Int32) &&& 31)) = (7 : Int32) then tc_P_execute_j147 z13.1 z13.2.1 (-1 : Int32) cb ga gb gd gc gx gy gu gs z13.2.2 else (tc_P_doMainPage z13.1 z13.2.1 (-1 : Int32) cb ga gb gd gc gx gy gu gs z13.2.2).bind fun z30 => tc_P_execute_j168 z30.1 z30.2.1 z30.2.2.1 z30.2.2.2.1 z30.2.2.2.2.1 z30.2.2.2.2.2.1 z30.2.2.2.2.2.2.1 z30.2.2.2.2.2.2.2.1 z30.2.2.2.2.2.2.2.2.1 z30.2.2.2.2.2.2.2.2.2.1 z30.2.2.2.2.2.2.2.2.2.2.1 z30.2.2.2.2.2.2.2.2.2.2.2
def tc_Q_numberAt (x1 : Int32) (uz : Int32) (ul : Nat → Option Nat) : Option (Int32) := if x1 < (0 : Int32) then some (-1 : Int32) else if uz ≤ x1 then some (-1 : Int32) else if in_b x1 4 = true then opt_c (ul (x1.toNatClampNeg)) none fun i6 => if i6 < 4 then some (nI i6) else none else none
def tc_I_letPass_j65 (tp : Int32) (tl : Int32) (ta : Int32) (tm : Int32) (tg : Bool) : Option (Int32 × Int32 × Int32 × Bool) := some (tl, ta, tm, true)
def tc_I_letPass (x1 : Int32) (tp : Int32) (tl : Int32) (ta : Int32) (tm : Int32) (tg : Bool) : Option (Int32 × Int32 × Int32 × Bool) := if tp = (0 : Int32) then some (tl, (ta + x1), tm, tg) else if (0 : Int32) < (tl - x1) then some ((tl - x1), (ta + x1), tm, tg) else if (bz_i tg) = (0 : Int32) then tc_I_letPass_j65 tp ((tl - x1) + tp) (ta + x1) tm tg else tc_I_letPass_j65 tp ((tl - x1) + tp) (ta + x1) (tm + (1 : Int32)) tg
def tc_I_countServed (tv : Int32) (tg : Bool) : Option (Int32 × Bool) := some ((tv + (1 : Int32)), false)
def tc_T_poke (x1 : Int32) (x2 : Int32) (cb : Nat → Int32) : Option (Int32 × (Nat → Int32)) := (tc_Y_holds x1).bind fun z4 => if (bz_i z4) = (0 : Int32) then some ((-1 : Int32), cb) else if x2 < (0 : Int32) then some ((-1 : Int32), cb) else if x2 ≤ (255 : Int32) then (tc_Y_load x1 (1 : Int32) cb).bind fun z5 => (tc_Y_store x1 x2 (1 : Int32) cb).bind fun z6 => some (z5, z6) else some ((-1 : Int32), cb)
def tc_T_peek (x1 : Int32) (cb : Nat → Int32) : Option (Int32) := (tc_Y_holds x1).bind fun z3 => if (bz_i z3) = (0 : Int32) then some (-1 : Int32) else (tc_Y_load x1 (1 : Int32) cb).bind fun z4 => some z4
def tc_T_start (x1 : Int32) (x2 : Int32) (x3 : Int32) (kr : Option Nat) (uz : Int32) (ul : Nat → Option Nat) (ks : Nat → Int32) (kv : Nat → Int32) (cb : Nat → Int32) (ga : Int32) (gb : Int32) (gd : Int32) (gc : Int32) (gx : Int32) (gy : Int32) (gu : Int32) (gs : Int32) (gp : Int32) (qa : Int32) (qb : Int32) (qd : Int32) (qc : Int32) (qx : Int32) (qy : Int32) (qu : Int32) (qs : Int32) (qp : Int32) : Option (Bool × (Option Nat) × Int32 × (Nat → Option Nat) × (Nat → Int32) × (Nat → Int32) × (Nat → Int32) × Int32 × Int32 × Int32 × Int32 × Int32 × Int32 × Int32 × Int32 × Int32 × Int32 × Int32 × Int32 × Int32 × Int32 × Int32 × Int32 × Int32 × Int32) := (tc_K_taskAt x1).bind fun z7 => opt_c z7 (some (false, kr, uz, ul, ks, kv, cb, ga, gb, gd, gc, gx, gy, gu, gs, gp, qa, qb, qd, qc, qx, qy, qu, qs, qp)) fun i8 => if i8 < 4 then if (ks i8) = (0 : Int32) then if x2 < (0 : Int32) then some (false, kr, uz, ul, ks, kv, cb, ga, gb, gd, gc, gx, gy, gu, gs, gp, qa, qb, qd, qc, qx, qy, qu, qs, qp) else if (65535 : Int32) < x2 then some (false, kr, uz, ul, ks, kv, cb, ga, gb, gd, gc, gx, gy, gu, gs, gp, qa, qb, qd, qc, qx, qy, qu, qs, qp) else if x3 < (0 : Int32) then some (false, kr, uz, ul, ks, kv, cb, ga, gb, gd, gc, gx, gy, gu, gs, gp, qa, qb, qd, qc, qx, qy, qu, qs, qp) else if x3 ≤ (255 : Int32) then (tc_K_begin i8 x2 x3 uz ul ks kv cb qa qb qd qc qx qy qu qs qp).bind fun z11 => (tc_K_takeNext kr z11.1 z11.2.1 z11.2.2.1 z11.2.2.2.1 z11.2.2.2.2.1 ga gb gd gc gx gy gu gs gp).bind fun z12 => some (true, z12.1, z12.2.1, z12.2.2.1, z12.2.2.2.1, z11.2.2.2.1, z11.2.2.2.2.1, z12.2.2.2.2.1, z12.2.2.2.2.2.1, z12.2.2.2.2.2.2.1, z12.2.2.2.2.2.2.2.1, z12.2.2.2.2.2.2.2.2.1, z12.2.2.2.2.2.2.2.2.2.1, z12.2.2.2.2.2.2.2.2.2.2.1, z12.2.2.2.2.2.2.2.2.2.2.2.1, z12.2.2.2.2.2.2.2.2.2.2.2.2, z11.2.2.2.2.2.1, z11.2.2.2.2.2.2.1, z11.2.2.2.2.2.2.2.1, z11.2.2.2.2.2.2.2.2.1, z11.2.2.2.2.2.2.2.2.2.1, z11.2.2.2.2.2.2.2.2.2.2.1, z11.2.2.2.2.2.2.2.2.2.2.2.1, z11.2.2.2.2.2.2.2.2.2.2.2.2.1, z11.2.2.2.2.2.2.2.2.2.2.2.2.2) else some (false, kr, uz, ul, ks, kv, cb, ga, gb, gd, gc, gx, gy, gu, gs, gp, qa, qb, qd, qc, qx, qy, qu, qs, qp) else some (false, kr, uz, ul, ks, kv, cb, ga, gb, gd, gc, gx, gy, gu, gs, gp, qa, qb, qd, qc, qx, qy, qu, qs, qp) else none
def tc_T_stop (x1 : Int32) (kr : Option Nat) (uz : Int32) (ul : Nat → Option Nat) (ks : Nat → Int32) (kv : Nat → Int32) (ku : Nat → Int32) (cb : Nat → Int32) (ga : Int32) (gb : Int32) (gd : Int32) (gc : Int32) (gx : Int32) (gy : Int32) (gu : Int32) (gs : Int32) (gp : Int32) : Option (Bool × (Option Nat) × Int32 × (Nat → Option Nat) × (Nat → Int32) × (Nat → Int32) × Int32 × Int32 × Int32 × Int32 × Int32 × Int32 × Int32 × Int32 × Int32) := (tc_K_taskAt x1).bind fun z7 => opt_c z7 (some (false, kr, uz, ul, ks, ku, ga, gb, gd, gc, gx, gy, gu, gs, gp)) fun i8 => if i8 < 4 then if (ks i8) = (0 : Int32) then some (false, kr, uz, ul, ks, ku, ga, gb, gd, gc, gx, gy, gu, gs, gp) else (tc_K_end i8 (254 : Int32) kr uz ul ks ku).bind fun z11 => (tc_K_takeNext z11.1 z11.2.1 z11.2.2.1 z11.2.2.2.1 kv cb ga gb gd gc gx gy gu gs gp).bind fun z12 => some (true, z12.1, z12.2.1, z12.2.2.1, z12.2.2.2.1, z11.2.2.2.2, z12.2.2.2.2.1, z12.2.2.2.2.2.1, z12.2.2.2.2.2.2.1, z12.2.2.2.2.2.2.2.1, z12.2.2.2.2.2.2.2.2.1, z12.2.2.2.2.2.2.2.2.2.1, z12.2.2.2.2.2.2.2.2.2.2.1, z12.2.2.2.2.2.2.2.2.2.2.2.1, z12.2.2.2.2.2.2.2.2.2.2.2.2) else none
def tc_T_timer_j19 (v1 : Int32) (tp : Int32) (tl : Int32) : Option (Bool × Int32 × Int32) := some (true, v1, v1)
def tc_T_timer (x1 : Int32) (tp : Int32) (tl : Int32) : Option (Bool × Int32 × Int32) := if x1 = (0 : Int32) then tc_T_timer_j19 x1 tp tl else if x1 < (16 : Int32) then some (false, tp, tl) else if x1 ≤ (1000 : Int32) then tc_T_timer_j19 x1 tp tl else some (false, tp, tl)
def tc_T_run_j124 (rec_ : Int32 → Int32 → (Option Nat) → Int32 → (Nat → Option Nat) → (Nat → Int32) → (Nat → Int32) → (Nat → Int32) → (Nat → Int32) → (Nat → Int32) → Int32 → Int32 → Int32 → Int32 → Int32 → Int32 → Int32 → Int32 → Int32 → Int32 → Int32 → Int32 → Int32 → Int32 → Int32 → Int32 → Int32 → Int32 → Int32 → Int32 → Int32 → Int32 → Int32 → Int32 → Int32 → Bool → Option (Int32 × (Option Nat) × Int32 × (Nat → Option Nat) × (Nat → Int32) × (Nat → Int32) × (Nat → Int32) × (Nat → Int32) × (Nat → Int32) × Int32 × Int32 × Int32 × Int32 × Int32 × Int32 × Int32 × Int32 × Int32 × Int32 × Int32 × Int32 × Int32 × Int32 × Int32 × Int32 × Int32 × Int32 × Int32 × Int32 × Int32 × Int32 × Int32 × Int32 × Bool)) (v1 : Int32) (v2 : Int32) (kr : Option Nat) (uz : Int32) (ul : Nat → Option Nat) (ks : Nat → Int32) (kv : Nat → Int32) (kz : Nat → Int32) (ku : Nat → Int32) (cb : Nat → Int32) (ga : Int32) (gb : Int32) (gd : Int32) (gc : Int32) (gx : Int32) (gy : Int32) (gu : Int32) (gs : Int32) (gp : Int32) (qa : Int32) (qb : Int32) (qd : Int32) (qc : Int32) (qx : Int32) (qy : Int32) (qu : Int32) (qs : Int32) (qp : Int32) (py : Int32) (po : Int32) (tp : Int32) (tl : Int32) (ta : Int32) (tv : Int32) (tm : Int32) (tg : Bool) : Option (Int32 × (Option Nat) × Int32 × (Nat → Option Nat) × (Nat → Int32) × (Nat → Int32) × (Nat → Int32) × (Nat → Int32) × (Nat → Int32) × Int32 × Int32 × Int32 × Int32 × Int32 × Int32 × Int32 × Int32 × Int32 × Int32 × Int32 × Int32 × Int32 × Int32 × Int32 × Int32 × Int32 × Int32 × Int32 × Int32 × Int32 × Int32 × Int32 × Int32 × Bool) := rec_ v1 (v2 + Int32.ofInt 1) kr uz ul ks kv kz ku cb ga gb gd gc gx gy gu gs gp qa qb qd qc qx qy qu qs qp py po tp tl ta tv tm tg
def tc_T_run_j54 (rec_ : Int32 → Int32 → (Option Nat) → Int32 → (Nat → Option Nat) → (Nat → Int32) → (Nat → Int32) → (Nat → Int32) → (Nat → Int32) → (Nat → Int32) → Int32 → Int32 → Int32 → Int32 → Int32 → Int32 → Int32 → Int32 → Int32 → Int32 → Int32 → Int32 → Int32 → Int32 → Int32 → Int32 → Int32 → Int32 → Int32 → Int32 → Int32 → Int32 → Int32 → Int32 → Int32 → Bool → Option (Int32 × (Option Nat) × Int32 × (Nat → Option Nat) × (Nat → Int32) × (Nat → Int32) × (Nat → Int32) × (Nat → Int32) × (Nat → Int32) × Int32 × Int32 × Int32 × Int32 × Int32 × Int32 × Int32 × Int32 × Int32 × Int32 × Int32 × Int32 × Int32 × Int32 × Int32 × Int32 × Int32 × Int32 × Int32 × Int32 × Int32 × Int32 × Int32 × Int32 × Bool)) (v1 : Int32) (v2 : Int32) (kr : Option Nat) (uz : Int32) (ul : Nat → Option Nat) (ks : Nat → Int32) (kv : Nat → Int32) (kz : Nat → Int32) (ku : Nat → Int32) (cb : Nat → Int32) (ga : Int32) (gb : Int32) (gd : Int32) (gc : Int32) (gx : Int32) (gy : Int32) (gu : Int32) (gs : Int32) (gp : Int32) (qa : Int32) (qb : Int32) (qd : Int32) (qc : Int32) (qx : Int32) (qy : Int32) (qu : Int32) (qs : Int32) (qp : Int32) (py : Int32) (po : Int32) (tp : Int32) (tl : Int32) (ta : Int32) (tv : Int32) (tm : Int32) (tg : Bool) : Option (Int32 × (Option Nat) × Int32 × (Nat → Option Nat) × (Nat → Int32) × (Nat → Int32) × (Nat → Int32) × (Nat → Int32) × (Nat → Int32) × Int32 × Int32 × Int32 × Int32 × Int32 × Int32 × Int32 × Int32 × Int32 × Int32 × Int32 × Int32 × Int32 × Int32 × Int32 × Int32 × Int32 × Int32 × Int32 × Int32 × Int32 × Int32 × Int32 × Int32 × Bool) := opt_c kr (if tp ≤ (0 : Int32) then some (v2, kr, uz, ul, ks, kv, kz, ku, cb, ga, gb, gd, gc, gx, gy, gu, gs, gp, qa, qb, qd, qc, qx, qy, qu, qs, qp, py, po, tl, ta, tv, tm, tg) else (tc_I_letPass tl tp tl ta tm tg).bind fun z17 => tc_T_run_j124 rec_ v1 v2 kr uz ul ks kv kz ku cb ga gb gd gc gx gy gu gs gp qa qb qd qc qx qy qu qs qp py po tp z17.1 z17.2.1 tv z17.2.2.1 z17.2.2.2) fun i15 => (tc_P_execute py po cb ga gb gd gc gx gy gu gs gp).bind fun z18 => (tc_K_settle z18.1 kr uz ul ks kv kz ku z18.2.2.2.1 z18.2.2.2.2.1 z18.2.2.2.2.2.1 z18.2.2.2.2.2.2.1 z18.2.2.2.2.2.2.2.1 z18.2.2.2.2.2.2.2.2.1 z18.2.2.2.2.2.2.2.2.2.1 z18.2.2.2.2.2.2.2.2.2.2.1 z18.2.2.2.2.2.2.2.2.2.2.2.1 z18.2.2.2.2.2.2.2.2.2.2.2.2 qa qb qd qc qx qy qu qs qp).bind fun z19 => (tc_I_letPass z18.2.1 tp tl ta tm tg).bind fun z20 => tc_T_run_j124 rec_ v1 v2 z19.1 z19.2.1 z19.2.2.1 z19.2.2.2.1 z19.2.2.2.2.1 z19.2.2.2.2.2.1 z19.2.2.2.2.2.2.1 z19.2.2.2.2.2.2.2.1 z19.2.2.2.2.2.2.2.2.1 z19.2.2.2.2.2.2.2.2.2.1 z19.2.2.2.2.2.2.2.2.2.2.1 z19.2.2.2.2.2.2.2.2.2.2.2.1 z19.2.2.2.2.2.2.2.2.2.2.2.2.1 z19.2.2.2.2.2.2.2.2.2.2.2.2.2.1 z19.2.2.2.2.2.2.2.2.2.2.2.2.2.2.1 z19.2.2.2.2.2.2.2.2.2.2.2.2.2.2.2.1 z19.2.2.2.2.2.2.2.2.2.2.2.2.2.2.2.2.1 z19.2.2.2.2.2.2.2.2.2.2.2.2.2.2.2.2.2.1 z19.2.2.2.2.2.2.2.2.2.2.2.2.2.2.2.2.2.2.1 z19.2.2.2.2.2.2.2.2.2.2.2.2.2.2.2.2.2.2.2.1 z19.2.2.2.2.2.2.2.2.2.2.2.2.2.2.2.2.2.2.2.2.1 z19.2.2.2.2.2.2.2.2.2.2.2.2.2.2.2.2.2.2.2.2.2.1 z19.2.2.2.2.2.2.2.2.2.2.2.2.2.2.2.2.2.2.2.2.2.2.1 z19.2.2.2.2.2.2.2.2.2.2.2.2.2.2.2.2.2.2.2.2.2.2.2.1 z19.2.2.2.2.2.2.2.2.2.2.2.2.2.2.2.2.2.2.2.2.2.2.2.2.1 z19.2.2.2.2.2.2.2.2.2.2.2.2.2.2.2.2.2.2.2.2.2.2.2.2.2 z18.2.1 z18.2.2.1 tp z20.1 z20.2.1 tv z20.2.2.1 z20.2.2.2
def tc_T_run_l15 : Nat → Int32 → Int32 → (Option Nat) → Int32 → (Nat → Option Nat) → (Nat → Int32) → (Nat → Int32) → (Nat → Int32) → (Nat → Int32) → (Nat → Int32) → Int32 → Int32 → Int32 → Int32 → Int32 → Int32 → Int32 → Int32 → Int32 → Int32 → Int32 → Int32 → Int32 → Int32 → Int32 → Int32 → Int32 → Int32 → Int32 → Int32 → Int32 → Int32 → Int32 → Int32 → Int32 → Bool → Option (Int32 × (Option Nat) × Int32 × (Nat → Option Nat) × (Nat → Int32) × (Nat → Int32) × (Nat → Int32) × (Nat → Int32) × (Nat → Int32) × Int32 × Int32 × Int32 × Int32 × Int32 × Int32 × Int32 × Int32 × Int32 × Int32 × Int32 × Int32 × Int32 × Int32 × Int32 × Int32 × Int32 × Int32 × Int32 × Int32 × Int32 × Int32 × Int32 × Int32 × Bool)
  | 0, _, _, _, _, _, _, _, _, _, _, _, _, _, _, _, _, _, _, _, _, _, _, _, _, _, _, _, _, _, _, _, _, _, _, _, _ => none
  | n_ + 1, v1, v2, kr, uz, ul, ks, kv, kz, ku, cb, ga, gb, gd, gc, gx, gy, gu, gs, gp, qa, qb, qd, qc, qx, qy, qu, qs, qp, py, po, tp, tl, ta, tv, tm, tg => if v1 ≤ v2 then some (v1, kr, uz, ul, ks, kv, kz, ku, cb, ga, gb, gd, gc, gx, gy, gu, gs, gp, qa, qb, qd, qc, qx, qy, qu, qs, qp, py, po, tl, ta, tv, tm, tg) else if (bz_i tg) = (0 : Int32) then tc_T_run_j54 (tc_T_run_l15 n_) v1 v2 kr uz ul ks kv kz ku cb ga gb gd gc gx gy gu gs gp qa qb qd qc qx qy qu qs qp py po tp tl ta tv tm tg else (tc_K_canServe kr gc).bind fun z21 => if (bz_i z21) = (0 : Int32) then tc_T_run_j54 (tc_T_run_l15 n_) v1 v2 kr uz ul ks kv kz ku cb ga gb gd gc gx gy gu gs gp qa qb qd qc qx qy qu qs qp py po tp tl ta tv tm tg else (tc_I_countServed tv tg).bind fun z22 => (tc_K_serveTick kr uz ul ks kv kz cb ga gb gd gc gx gy gu gs gp).bind fun z23 => tc_T_run_j54 (tc_T_run_l15 n_) v1 v2 z23.1 z23.2.1 z23.2.2.1 z23.2.2.2.1 z23.2.2.2.2.1 z23.2.2.2.2.2.1 ku z23.2.2.2.2.2.2.1 z23.2.2.2.2.2.2.2.1 z23.2.2.2.2.2.2.2.2.1 z23.2.2.2.2.2.2.2.2.2.1 z23.2.2.2.2.2.2.2.2.2.2.1 z23.2.2.2.2.2.2.2.2.2.2.2.1 z23.2.2.2.2.2.2.2.2.2.2.2.2.1 z23.2.2.2.2.2.2.2.2.2.2.2.2.2.1 z23.2.2.2.2.2.2.2.2.2.2.2.2.2.2.1 z23.2.2.2.2.2.2.2.2.2.2.2.2.2.2.2 qa qb qd qc qx qy qu qs qp py po tp tl ta z22.1 tm z22.2
theorem tc_T_run_l15_s (n_ : Nat) (v1 : Int32) (v2 : Int32) (kr : Option Nat) (uz : Int32) (ul : Nat → Option Nat) (ks : Nat → Int32) (kv : Nat → Int32) (kz : Nat → Int32) (ku : Nat → Int32) (cb : Nat → Int32) (ga : Int32) (gb : Int32) (gd : Int32) (gc : Int32) (gx : Int32) (gy : Int32) (gu : Int32) (gs : Int32) (gp : Int32) (qa : Int32) (qb : Int32) (qd : Int32) (qc : Int32) (qx : Int32) (qy : Int32) (qu : Int32) (qs : Int32) (qp : Int32) (py : Int32) (po : Int32) (tp : Int32) (tl : Int32) (ta : Int32) (tv : Int32) (tm : Int32) (tg : Bool) : tc_T_run_l15 (n_ + 1) v1 v2 kr uz ul ks kv kz ku cb ga gb gd gc gx gy gu gs gp qa qb qd qc qx qy qu qs qp py po tp tl ta tv tm tg = (if v1 ≤ v2 then some (v1, kr, uz, ul, ks, kv, kz, ku, cb, ga, gb, gd, gc, gx, gy, gu, gs, gp, qa, qb, qd, qc, qx, qy, qu, qs, qp, py, po, tl, ta, tv, tm, tg) else if (bz_i tg) = (0 : Int32) then tc_T_run_j54 (tc_T_run_l15 n_) v1 v2 kr uz ul ks kv kz ku cb ga gb gd gc gx gy gu gs gp qa qb qd qc qx qy qu qs qp py po tp tl ta tv tm tg else (tc_K_canServe kr gc).bind fun z21 => if (bz_i z21) = (0 : Int32) then tc_T_run_j54 (tc_T_run_l15 n_) v1 v2 kr uz ul ks kv kz ku cb ga gb gd gc gx gy gu gs gp qa qb qd qc qx qy qu qs qp py po tp tl ta tv tm tg else (tc_I_countServed tv tg).bind fun z22 => (tc_K_serveTick kr uz ul ks kv kz cb ga gb gd gc gx gy gu gs gp).bind fun z23 => tc_T_run_j54 (tc_T_run_l15 n_) v1 v2 z23.1 z23.2.1 z23.2.2.1 z23.2.2.2.1 z23.2.2.2.2.1 z23.2.2.2.2.2.1 ku z23.2.2.2.2.2.2.1 z23.2.2.2.2.2.2.2.1 z23.2.2.2.2.2.2.2.2.1 z23.2.2.2.2.2.2.2.2.2.1 z23.2.2.2.2.2.2.2.2.2.2.1 z23.2.2.2.2.2.2.2.2.2.2.2.1 z23.2.2.2.2.2.2.2.2.2.2.2.2.1 z23.2.2.2.2.2.2.2.2.2.2.2.2.2.1 z23.2.2.2.2.2.2.2.2.2.2.2.2.2.2.1 z23.2.2.2.2.2.2.2.2.2.2.2.2.2.2.2 qa qb qd qc qx qy qu qs qp py po tp tl ta z22.1 tm z22.2) := rfl
def tc_T_run (x1 : Int32) (kr : Option Nat) (uz : Int32) (ul : Nat → Option Nat) (ks : Nat → Int32) (kv : Nat → Int32) (kz : Nat → Int32) (ku : Nat → Int32) (cb : Nat → Int32) (ga : Int32) (gb : Int32) (gd : Int32) (gc : Int32) (gx : Int32) (gy : Int32) (gu : Int32) (gs : Int32) (gp : Int32) (qa : Int32) (qb : Int32) (qd : Int32) (qc : Int32) (qx : Int32) (qy : Int32) (qu : Int32) (qs : Int32) (qp : Int32) (py : Int32) (po : Int32) (tp : Int32) (tl : Int32) (ta : Int32) (tv : Int32) (tm : Int32) (tg : Bool) : Option (Int32 × (Option Nat) × Int32 × (Nat → Option Nat) × (Nat → Int32) × (Nat → Int32) × (Nat → Int32) × (Nat → Int32) × (Nat → Int32) × Int32 × Int32 × Int32 × Int32 × Int32 × Int32 × Int32 × Int32 × Int32 × Int32 × Int32 × Int32 × Int32 × Int32 × Int32 × Int32 × Int32 × Int32 × Int32 × Int32 × Int32 × Int32 × Int32 × Int32 × Bool) := if x1 < (0 : Int32) then some ((-1 : Int32), kr, uz, ul, ks, kv, kz, ku, cb, ga, gb, gd, gc, gx, gy, gu, gs, gp, qa, qb, qd, qc, qx, qy, qu, qs, qp, py, po, tl, ta, tv, tm, tg) else if x1 ≤ (400 : Int32) then tc_T_run_l15 401 x1 (0 : Int32) kr uz ul ks kv kz ku cb ga gb gd gc gx gy gu gs gp qa qb qd qc qx qy qu qs qp py po tp tl ta tv tm tg else some ((-1 : Int32), kr, uz, ul, ks, kv, kz, ku, cb, ga, gb, gd, gc, gx, gy, gu, gs, gp, qa, qb, qd, qc, qx, qy, qu, qs, qp, py, po, tl, ta, tv, tm, tg)
def tc_T_state (x1 : Int32) (ks : Nat → Int32) : Option (Int32) := (tc_K_taskAt x1).bind fun z5 => opt_c z5 (some (-1 : Int32)) fun i6 => if i6 < 4 then some (ks i6) else none
def tc_T_register (x1 : Int32) (x2 : Int32) (kr : Option Nat) (ks : Nat → Int32) (kv : Nat → Int32) (cb : Nat → Int32) (ga : Int32) (gb : Int32) (gd : Int32) (gc : Int32) (gx : Int32) (gy : Int32) (gu : Int32) (gs : Int32) (gp : Int32) (qa : Int32) (qb : Int32) (qd : Int32) (qc : Int32) (qx : Int32) (qy : Int32) (qu : Int32) (qs : Int32) (qp : Int32) : Option (Int32 × Int32 × Int32 × Int32 × Int32 × Int32 × Int32 × Int32 × Int32 × Int32) := (tc_K_taskAt x1).bind fun z8 => opt_c z8 (some ((-1 : Int32), qa, qb, qd, qc, qx, qy, qu, qs, qp)) fun i9 => if i9 < 4 then if (ks i9) = (0 : Int32) then some ((-1 : Int32), qa, qb, qd, qc, qx, qy, qu, qs, qp) else (tc_G_exists x2).bind fun z12 => if (bz_i z12) = (0 : Int32) then some ((-1 : Int32), qa, qb, qd, qc, qx, qy, qu, qs, qp) else (tc_K_registersOf i9 kr kv cb qa qb qd qc qx qy qu qs qp).bind fun z13 => if z13.1 = true then (tc_G_get x2 ga gb gd gc gx gy gu gs gp).bind fun z15 => some (z15, z13.2.1, z13.2.2.1, z13.2.2.2.1, z13.2.2.2.2.1, z13.2.2.2.2.2.1, z13.2.2.2.2.2.2.1, z13.2.2.2.2.2.2.2.1, z13.2.2.2.2.2.2.2.2.1, z13.2.2.2.2.2.2.2.2.2) else (tc_G_get x2 z13.2.1 z13.2.2.1 z13.2.2.2.1 z13.2.2.2.2.1 z13.2.2.2.2.2.1 z13.2.2.2.2.2.2.1 z13.2.2.2.2.2.2.2.1 z13.2.2.2.2.2.2.2.2.1 z13.2.2.2.2.2.2.2.2.2).bind fun z16 => some (z16, z13.2.1, z13.2.2.1, z13.2.2.2.1, z13.2.2.2.2.1, z13.2.2.2.2.2.1, z13.2.2.2.2.2.2.1, z13.2.2.2.2.2.2.2.1, z13.2.2.2.2.2.2.2.2.1, z13.2.2.2.2.2.2.2.2.2) else none
def tc_T_queued (x1 : Int32) (uz : Int32) (ul : Nat → Option Nat) : Option (Int32) := (tc_Q_numberAt x1 uz ul).bind fun z2 => some z2
def tc_T_sleeps_j21 (ks : Nat → Int32) (kz : Nat → Int32) : Option (Int32) := some (0 : Int32)
def tc_T_sleeps (x1 : Int32) (ks : Nat → Int32) (kz : Nat → Int32) : Option (Int32) := (tc_K_taskAt x1).bind fun z5 => opt_c z5 (tc_T_sleeps_j21 ks kz) fun i6 => if i6 < 4 then if (ks i6) = (3 : Int32) then some (kz i6) else tc_T_sleeps_j21 ks kz else none
def tc_T_status (x1 : Int32) (ku : Nat → Int32) : Option (Int32) := (tc_K_taskAt x1).bind fun z5 => opt_c z5 (some (-1 : Int32)) fun i6 => if i6 < 4 then some (ku i6) else none
def tc_T_cycles (ta : Int32) : Option (Int32) := some ta
def tc_T_ticks (tv : Int32) : Option (Int32) := some tv
def tc_T_lost (tm : Int32) (tg : Bool) : Option (Int32) := if (bz_i tg) = (0 : Int32) then some tm else some (tm + (100000 : Int32))
def tc_T_left (tl : Int32) : Option (Int32) := some tl
end
section
def bt (x : Int32) (i : Nat) : Bool := x.toBitVec.getLsbD i
theorem b_ext {x y : Int32} (h : ∀ i, i < 32 → bt x i = bt y i) : x = y := Int32.toBitVec_inj.mp (BitVec.eq_of_getLsbD_eq (fun i hi => h i hi))
theorem b_or (x y : Int32) (i : Nat) : bt (x ||| y) i = (bt x i || bt y i) := by unfold bt; rw [Int32.toBitVec_or, BitVec.getLsbD_or]
theorem b_and (x y : Int32) (i : Nat) : bt (x &&& y) i = (bt x i && bt y i) := by unfold bt; rw [Int32.toBitVec_and, BitVec.getLsbD_and]
theorem b_xor (x y : Int32) (i : Nat) : bt (x ^^^ y) i = (bt x i ^^ bt y i) := by unfold bt; rw [Int32.toBitVec_xor, BitVec.getLsbD_xor]
theorem b_big {x : Int32} {i : Nat} (h : 32 ≤ i) : bt x i = false := BitVec.getLsbD_of_ge _ _ h
theorem b_255 (i : Nat) : bt 255 i = decide (i < 8) := by
  rcases Nat.lt_or_ge i 32 with h | h
  · exact (by decide +kernel : ∀ i, i < 32 → bt 255 i = decide (i < 8)) i h
  · rw [b_big h, decide_eq_false (by omega)]
theorem b_65535 (i : Nat) : bt 65535 i = decide (i < 16) := by
  rcases Nat.lt_or_ge i 32 with h | h
  · exact (by decide +kernel : ∀ i, i < 32 → bt 65535 i = decide (i < 16)) i h
  · rw [b_big h, decide_eq_false (by omega)]
theorem b_m1 : ∀ i, i < 32 → bt (-1) i = true := by decide +kernel
theorem b_0 (i : Nat) : bt 0 i = false := BitVec.getLsbD_zero
theorem s_l : ∀ n, n < 32 → ((nI n &&& 31).toBitVec.smod 32).toNat = n := by decide +kernel
theorem s_u : ∀ n, n < 32 → (((nI n).toUInt32 &&& Int32.toUInt32 31).toBitVec % 32).toNat = n := by decide +kernel
theorem b_shl (n : Nat) (hn : n < 32) (x : Int32) {i : Nat} (hi : i < 32) : bt (x <<< (nI n &&& 31)) i = (decide (n ≤ i) && bt x (i - n)) := by
  unfold bt
  rw [Int32.toBitVec_shiftLeft]
  show (x.toBitVec <<< ((nI n &&& 31).toBitVec.smod 32).toNat).getLsbD i = _
  rw [s_l n hn, BitVec.getLsbD_shiftLeft]
  rcases Nat.lt_or_ge i n with h | h
  · simp [h, Nat.not_le.mpr h]
  · simp [hi, h, Nat.not_lt.mpr h]
theorem b_ushr (n : Nat) (hn : n < 32) (x : Int32) (i : Nat) : bt ((x.toUInt32 >>> ((nI n).toUInt32 &&& Int32.toUInt32 31)).toInt32) i = bt x (n + i) := by
  show (x.toUInt32 >>> ((nI n).toUInt32 &&& Int32.toUInt32 31)).toBitVec.getLsbD i = x.toUInt32.toBitVec.getLsbD (n + i)
  rw [UInt32.toBitVec_shiftRight]
  show (x.toUInt32.toBitVec >>> (((nI n).toUInt32 &&& Int32.toUInt32 31).toBitVec % 32).toNat).getLsbD i = _
  rw [s_u n hn, BitVec.getLsbD_ushiftRight]
theorem b_sshr (n : Nat) (hn : n < 32) (x : Int32) {i : Nat} (hi : i < 32) : bt (x >>> (nI n &&& 31)) i = if n + i < 32 then bt x (n + i) else bt x 31 := by
  unfold bt
  rw [Int32.toBitVec_shiftRight]
  show (x.toBitVec.sshiftRight ((nI n &&& 31).toBitVec.smod 32).toNat).getLsbD i = _
  rw [s_l n hn, BitVec.getLsbD_sshiftRight, BitVec.msb_eq_getLsbD_last]
  simp [hi]
theorem b_shl8 (x : Int32) {i : Nat} (hi : i < 32) : bt (x <<< ((8 : Int32) &&& 31)) i = (decide (8 ≤ i) && bt x (i - 8)) := b_shl 8 (by omega) x hi
theorem b_shl16 (x : Int32) {i : Nat} (hi : i < 32) : bt (x <<< ((16 : Int32) &&& 31)) i = (decide (16 ≤ i) && bt x (i - 16)) := b_shl 16 (by omega) x hi
theorem b_shl24 (x : Int32) {i : Nat} (hi : i < 32) : bt (x <<< ((24 : Int32) &&& 31)) i = (decide (24 ≤ i) && bt x (i - 24)) := b_shl 24 (by omega) x hi
theorem b_sshr8 (x : Int32) {i : Nat} (hi : i < 32) : bt (x >>> ((8 : Int32) &&& 31)) i = if 8 + i < 32 then bt x (8 + i) else bt x 31 := b_sshr 8 (by omega) x hi
/-! ===== nI under and, xor, >>>, one bit, 65535 ===== -/
theorem nx_and (a b : Nat) : nI a &&& nI b = nI (a &&& b) := by
  apply Int32.toBitVec_inj.1
  show BitVec.ofNat 32 a &&& BitVec.ofNat 32 b = BitVec.ofNat 32 (a &&& b)
  apply BitVec.eq_of_getLsbD_eq
  intro i hi
  simp [hi]
theorem nx_xor (a b : Nat) : nI a ^^^ nI b = nI (a ^^^ b) := by
  apply Int32.toBitVec_inj.1
  show BitVec.ofNat 32 a ^^^ BitVec.ofNat 32 b = BitVec.ofNat 32 (a ^^^ b)
  apply BitVec.eq_of_getLsbD_eq
  intro i hi
  simp [hi]
end
section
/-! Bytes and words as Int32; memory as a function: what loads and stores answer, of the class and of the reference. -/
def rb_ (x : Int32) : Prop := ∃ n : Nat, n < 256 ∧ x = nI n
def rw_ (x : Int32) : Prop := ∃ n : Nat, n < 65536 ∧ x = nI n
theorem rb_rw {x : Int32} (h : rb_ x) : rw_ x := by
  obtain ⟨n, h1, h2⟩ := h
  exact ⟨n, by omega, h2⟩
theorem and_b (x : Int32) : x &&& 255 = nI (x.toBitVec.toNat % 256) := pk_and x 8 (by decide)
theorem and_w (x : Int32) : x &&& 65535 = nI (x.toBitVec.toNat % 65536) := pk_and x 16 (by decide)
theorem rb_and (x : Int32) : rb_ (x &&& 255) := ⟨_, Nat.mod_lt _ (by decide), and_b x⟩
theorem rw_and (x : Int32) : rw_ (x &&& 65535) := ⟨_, Nat.mod_lt _ (by decide), and_w x⟩
theorem nI_b {n : Nat} (h : n < 256) : nI n &&& 255 = nI n := by
  rw [and_b, pk_tn (by omega), Nat.mod_eq_of_lt h]
theorem nI_w {n : Nat} (h : n < 65536) : nI n &&& 65535 = nI n := by
  rw [and_w, pk_tn (by omega), Nat.mod_eq_of_lt h]
theorem rb_id {x : Int32} (h : rb_ x) : x &&& 255 = x := by
  obtain ⟨n, h1, rfl⟩ := h
  exact nI_b h1
theorem rw_id {x : Int32} (h : rw_ x) : x &&& 65535 = x := by
  obtain ⟨n, h1, rfl⟩ := h
  exact nI_w h1
theorem nI_512 {n : Nat} (h : n < 65536) : ((512 : Int32) ≤ nI n) ↔ 512 ≤ n := by
  rw [show (512 : Int32) = nI 512 from by decide]
  exact nI_leI (by decide) (by omega)
theorem in_nI {n N : Nat} (h : n < N) (hN : N < 2 ^ 31) : in_b (nI n) N = true := by
  unfold in_b
  rw [nI_toInt (by omega)]
  simp only [Bool.and_eq_true, decide_eq_true_eq]
  omega
def rd_ (cb : Nat → Int32) (a : Int32) : Int32 := if (512 : Int32) ≤ (a &&& 65535) then 0 else cb (a &&& 65535).toNatClampNeg
def wr_ (cb : Nat → Int32) (a v : Int32) : Nat → Int32 := if (512 : Int32) ≤ (a &&& 65535) then cb else upd cb (a &&& 65535).toNatClampNeg (v &&& 255)
def okB (cb : Nat → Int32) : Prop := ∀ j, rb_ (cb j)
theorem rb_0 : rb_ 0 := ⟨0, by decide, by decide⟩
theorem rd_ok {cb : Nat → Int32} (h : okB cb) (a : Int32) : rb_ (rd_ cb a) := by
  unfold rd_
  split
  · exact rb_0
  · exact h _
theorem wr_ok {cb : Nat → Int32} (h : okB cb) (a v : Int32) : okB (wr_ cb a v) := by
  unfold wr_
  split
  · exact h
  · intro j
    unfold upd
    split
    · exact rb_and v
    · exact h j
theorem in_512 {a : Int32} (h : ¬ (512 : Int32) ≤ (a &&& 65535)) : in_b (a &&& 65535) 512 = true := by
  obtain ⟨n, h1, h2⟩ := rw_and a
  rw [h2] at h ⊢
  rw [nI_512 h1] at h
  exact in_nI (by omega) (by decide)
theorem mo_at_eq (a : Int32) (me : Nat → Int32) : mo_at a me = some (rd_ me a) := by
  unfold mo_at rd_
  split
  · rfl
  · rename_i h
    rw [if_pos (in_512 h)]
theorem mo_put_eq (a v : Int32) (me : Nat → Int32) : mo_put a v me = some (wr_ me a v) := by
  unfold mo_put wr_
  split
  · rfl
  · rename_i h
    rw [if_pos (in_512 h)]
theorem i_a0 (a : Int32) : a + 0 = a := Int32.add_zero a
theorem i_0i : (0 : Int32) + Int32.ofInt 1 = 1 := by decide
theorem i_1i : (1 : Int32) + Int32.ofInt 1 = 2 := by decide
theorem i_sh0 : (0 : Int32) <<< ((8 : Int32) &&& 31) = 0 := by decide
theorem i_or0 (a : Int32) : 0 ||| a = a := by simp
theorem ld_step (n : Nat) (a sz v i : Int32) (cb : Nat → Int32) (h : ¬ sz ≤ i) : tc_Y_load_l5 (n + 1) a sz v i cb = tc_Y_load_l5 n a sz ((v <<< ((8 : Int32) &&& 31)) ||| rd_ cb (a + i)) (i + Int32.ofInt 1) cb := by
  rw [tc_Y_load_l5_s, if_neg h]
  unfold rd_ tc_Y_load_j43
  split
  · rfl
  · rename_i h2
    rw [if_pos (in_512 h2)]
theorem ld_end (n : Nat) (a sz v i : Int32) (cb : Nat → Int32) (h : sz ≤ i) : tc_Y_load_l5 (n + 1) a sz v i cb = some v := by
  rw [tc_Y_load_l5_s, if_pos h]
theorem tc_load1 (a : Int32) (cb : Nat → Int32) : tc_Y_load a 1 cb = some (rd_ cb a) := by
  unfold tc_Y_load
  rw [ld_step _ _ _ _ _ _ (by decide), i_sh0, i_or0, i_a0, i_0i, ld_end _ _ _ _ _ _ (by decide)]
theorem tc_load2 (a : Int32) (cb : Nat → Int32) : tc_Y_load a 2 cb = some ((rd_ cb a <<< ((8 : Int32) &&& 31)) ||| rd_ cb (a + 1)) := by
  unfold tc_Y_load
  rw [ld_step _ _ _ _ _ _ (by decide), i_sh0, i_or0, i_a0, i_0i, ld_step _ _ _ _ _ _ (by decide), i_1i, ld_end _ _ _ _ _ _ (by decide)]
theorem or_add {a b : Nat} (hb : b < 256) : (a * 256) ||| b = a * 256 + b := by
  have := Nat.two_pow_add_eq_or_of_lt (i := 8) (b := b) (by omega) a
  rw [show (2 : Nat) ^ 8 = 256 by decide] at this
  rw [Nat.mul_comm a 256]
  exact this.symm
theorem nI_or (a b : Nat) : nI a ||| nI b = nI (a ||| b) := by
  apply Int32.toBitVec_inj.mp
  show _ = BitVec.ofNat 32 _
  rw [Int32.toBitVec_or, BitVec.ofNat_or]
  rfl
theorem hl_eq {x y : Int32} (hx : rb_ x) (hy : rb_ y) : (x <<< ((8 : Int32) &&& 31)) ||| y = 256 * x + y := by
  obtain ⟨a, ha, rfl⟩ := hx
  obtain ⟨b, hb, rfl⟩ := hy
  rw [pk_shlN _ 8 (by decide) (by omega), nI_or, show (2 : Nat) ^ 8 = 256 by decide, or_add hb, show (256 : Int32) = nI 256 by decide, pk_mul, nI_add, Nat.mul_comm]
theorem hl_rw {x y : Int32} (hx : rb_ x) (hy : rb_ y) : rw_ (256 * x + y) := by
  obtain ⟨a, ha, rfl⟩ := hx
  obtain ⟨b, hb, rfl⟩ := hy
  refine ⟨256 * a + b, by omega, ?_⟩
  rw [show (256 : Int32) = nI 256 by decide, pk_mul, nI_add]
def rd2_ (cb : Nat → Int32) (a : Int32) : Int32 := 256 * rd_ cb a + rd_ cb (a + 1)
theorem rd2_ok {cb : Nat → Int32} (h : okB cb) (a : Int32) : rw_ (rd2_ cb a) := hl_rw (rd_ok h _) (rd_ok h _)
theorem tc_load2' {cb : Nat → Int32} (h : okB cb) (a : Int32) : tc_Y_load a 2 cb = some (rd2_ cb a) := by
  rw [tc_load2, hl_eq (rd_ok h _) (rd_ok h _)]
  rfl
theorem mo_load1 (a : Int32) (me : Nat → Int32) (sp : Int32) : mo_load a false me sp = some (rd_ me a, sp + 1) := by
  simp [mo_load, mo_load_j14, bz_i, mo_at_eq]
theorem mo_load2 (a : Int32) (me : Nat → Int32) (sp : Int32) : mo_load a true me sp = some (rd2_ me a, sp + 2) := by
  simp [mo_load, mo_load_j14, bz_i, mo_at_eq, rd2_]
end
section
/-! Stores; the registers as one function. -/
theorem i_sub11 : (1 : Int32) - 1 = 0 := by decide
theorem i_sub21 : (2 : Int32) - 1 = 1 := by decide
theorem i_m1 : (0 : Int32) + Int32.ofInt (-1) = -1 := by decide
theorem i_m2 : (1 : Int32) + Int32.ofInt (-1) = 0 := by decide
theorem so_step (n : Nat) (a v i : Int32) (cb : Nat → Int32) (h : ¬ i < 0) : tc_Y_store_l8 (n + 1) a v i cb = tc_Y_store_l8 n a (v >>> ((8 : Int32) &&& 31)) (i + Int32.ofInt (-1)) (wr_ cb (a + i) v) := by
  rw [tc_Y_store_l8_s, if_neg h]
  unfold wr_ tc_Y_store_j43
  split
  · rfl
  · rename_i h2
    rw [if_pos (in_512 h2)]
theorem so_end (n : Nat) (a v i : Int32) (cb : Nat → Int32) (h : i < 0) : tc_Y_store_l8 (n + 1) a v i cb = some cb := by
  rw [tc_Y_store_l8_s, if_pos h]
theorem tc_store1 (a v : Int32) (cb : Nat → Int32) : tc_Y_store a v 1 cb = some (wr_ cb a v) := by
  unfold tc_Y_store
  rw [i_sub11, so_step _ _ _ _ _ (by decide), i_a0, i_m1, so_end _ _ _ _ _ (by decide)]
/-- the two bytes of a word lie at two places -/
theorem at_ne (a : Int32) : ((a + 1) &&& 65535).toNatClampNeg ≠ (a &&& 65535).toNatClampNeg := by
  rw [and_w, and_w, nI_clamp (by have := Nat.mod_lt (a + 1).toBitVec.toNat (show 0 < 65536 by decide); omega), nI_clamp (by have := Nat.mod_lt a.toBitVec.toNat (show 0 < 65536 by decide); omega)]
  have e : (a + 1).toBitVec.toNat = (a.toBitVec.toNat + 1) % 2 ^ 32 := by
    rw [Int32.toBitVec_add, BitVec.toNat_add]
    rfl
  rw [e]
  omega
theorem upd_comm {f : Nat → Int32} {i j : Nat} {x y : Int32} (h : i ≠ j) : upd (upd f i x) j y = upd (upd f j y) i x := by
  funext k
  unfold upd
  by_cases h1 : k = j
  · by_cases h2 : k = i
    · omega
    · simp [h1, h2]
      intro h3
      omega
  · by_cases h2 : k = i
    · simp [h1, h2]
      intro h3
      omega
    · simp [h1, h2]
theorem wr_comm (cb : Nat → Int32) (a v w : Int32) : wr_ (wr_ cb (a + 1) v) a w = wr_ (wr_ cb a w) (a + 1) v := by
  unfold wr_
  by_cases h1 : (512 : Int32) ≤ ((a + 1) &&& 65535)
  · simp only [h1, if_true]
  · by_cases h2 : (512 : Int32) ≤ (a &&& 65535)
    · simp only [h2, if_true]
    · simp only [h1, h2, if_false]
      exact upd_comm (at_ne a)
def wr2_ (cb : Nat → Int32) (a v : Int32) : Nat → Int32 := wr_ (wr_ cb a (v >>> ((8 : Int32) &&& 31))) (a + 1) v
theorem wr2_ok {cb : Nat → Int32} (h : okB cb) (a v : Int32) : okB (wr2_ cb a v) := wr_ok (wr_ok h _ _) _ _
theorem tc_store2 (a v : Int32) (cb : Nat → Int32) : tc_Y_store a v 2 cb = some (wr2_ cb a v) := by
  unfold tc_Y_store wr2_
  rw [i_sub21, so_step _ _ _ _ _ (by decide), i_m2, so_step _ _ _ _ _ (by decide), i_a0, i_m1, so_end _ _ _ _ _ (by decide), wr_comm]
theorem mo_store1 (a v : Int32) (me : Nat → Int32) (sp : Int32) : mo_store a v false me sp = some (wr_ me a v, sp + 1) := by
  simp [mo_store, mo_store_j14, bz_i, mo_put_eq]
theorem mo_store2 (a v : Int32) (me : Nat → Int32) (sp : Int32) : mo_store a v true me sp = some (wr2_ me a v, sp + 2) := by
  simp [mo_store, mo_store_j14, bz_i, mo_put_eq, wr2_]
/-- the registers by their numbers: a b dp cc x y u s pc -/
def rf_ (a b d c x y u s p : Int32) : Nat → Int32 := fun k => match k with
  | 1 => x
  | 2 => y
  | 3 => u
  | 4 => s
  | 5 => p
  | 8 => a
  | 9 => b
  | 10 => c
  | 11 => d
  | _ => 0
section RF
variable (a b d c x y u s p v : Int32)
theorem rf_1 : upd (rf_ a b d c x y u s p) 1 v = rf_ a b d c v y u s p := by
  funext k
  by_cases h : k = 1
  · subst h; rfl
  · simp only [upd, if_neg h]
    unfold rf_
    split <;> first | rfl | contradiction | simp_all
theorem rf_2 : upd (rf_ a b d c x y u s p) 2 v = rf_ a b d c x v u s p := by
  funext k
  by_cases h : k = 2
  · subst h; rfl
  · simp only [upd, if_neg h]
    unfold rf_
    split <;> first | rfl | contradiction | simp_all
theorem rf_3 : upd (rf_ a b d c x y u s p) 3 v = rf_ a b d c x y v s p := by
  funext k
  by_cases h : k = 3
  · subst h; rfl
  · simp only [upd, if_neg h]
    unfold rf_
    split <;> first | rfl | contradiction | simp_all
theorem rf_4 : upd (rf_ a b d c x y u s p) 4 v = rf_ a b d c x y u v p := by
  funext k
  by_cases h : k = 4
  · subst h; rfl
  · simp only [upd, if_neg h]
    unfold rf_
    split <;> first | rfl | contradiction | simp_all
theorem rf_5 : upd (rf_ a b d c x y u s p) 5 v = rf_ a b d c x y u s v := by
  funext k
  by_cases h : k = 5
  · subst h; rfl
  · simp only [upd, if_neg h]
    unfold rf_
    split <;> first | rfl | contradiction | simp_all
theorem rf_8 : upd (rf_ a b d c x y u s p) 8 v = rf_ v b d c x y u s p := by
  funext k
  by_cases h : k = 8
  · subst h; rfl
  · simp only [upd, if_neg h]
    unfold rf_
    split <;> first | rfl | contradiction | simp_all
theorem rf_9 : upd (rf_ a b d c x y u s p) 9 v = rf_ a v d c x y u s p := by
  funext k
  by_cases h : k = 9
  · subst h; rfl
  · simp only [upd, if_neg h]
    unfold rf_
    split <;> first | rfl | contradiction | simp_all
theorem rf_10 : upd (rf_ a b d c x y u s p) 10 v = rf_ a b d v x y u s p := by
  funext k
  by_cases h : k = 10
  · subst h; rfl
  · simp only [upd, if_neg h]
    unfold rf_
    split <;> first | rfl | contradiction | simp_all
theorem rf_11 : upd (rf_ a b d c x y u s p) 11 v = rf_ a b v c x y u s p := by
  funext k
  by_cases h : k = 11
  · subst h; rfl
  · simp only [upd, if_neg h]
    unfold rf_
    split <;> first | rfl | contradiction | simp_all
end RF
/-- register numbers that are -/
def vk_ (k : Int32) : Prop := k = 0 ∨ k = 1 ∨ k = 2 ∨ k = 3 ∨ k = 4 ∨ k = 5 ∨ k = 8 ∨ k = 9 ∨ k = 10 ∨ k = 11
def ok_ (a b d c x y u s p : Int32) : Prop := rb_ a ∧ rb_ b ∧ rb_ d ∧ rb_ c ∧ rw_ x ∧ rw_ y ∧ rw_ u ∧ rw_ s ∧ rw_ p
abbrev R9 : Type := Int32 × Int32 × Int32 × Int32 × Int32 × Int32 × Int32 × Int32 × Int32
abbrev rg_ (g : R9) : Nat → Int32 := rf_ g.1 g.2.1 g.2.2.1 g.2.2.2.1 g.2.2.2.2.1 g.2.2.2.2.2.1 g.2.2.2.2.2.2.1 g.2.2.2.2.2.2.2.1 g.2.2.2.2.2.2.2.2
abbrev og_ (g : R9) : Prop := ok_ g.1 g.2.1 g.2.2.1 g.2.2.2.1 g.2.2.2.2.1 g.2.2.2.2.2.1 g.2.2.2.2.2.2.1 g.2.2.2.2.2.2.2.1 g.2.2.2.2.2.2.2.2
theorem hi_b (v : Int32) : (v &&& 65535) >>> ((8 : Int32) &&& 31) = (v >>> ((8 : Int32) &&& 31)) &&& 255 := by
  apply b_ext
  intro i hi
  rw [b_sshr8 _ hi, b_and, b_and, b_and, b_65535, b_65535, b_255, b_sshr8 _ hi]
  by_cases h8 : i < 8
  · rw [if_pos (by omega), if_pos (by omega), decide_eq_true (show 8 + i < 16 by omega), decide_eq_true h8]
  · rw [decide_eq_false h8, Bool.and_false]
    split
    · rw [decide_eq_false (by omega), Bool.and_false]
    · rw [decide_eq_false (by omega), Bool.and_false]
theorem rb_hi (v : Int32) : rb_ ((v >>> ((8 : Int32) &&& 31)) &&& 255) := rb_and _
/-- a register's value: the class's and the reference's -/
theorem get_eq {k a b d c x y u s p : Int32} (hk : vk_ k) (ha : rb_ a) (hb : rb_ b) : mo_get k (rf_ a b d c x y u s p) = tc_G_get k a b d c x y u s p := by
  rcases hk with rfl | rfl | rfl | rfl | rfl | rfl | rfl | rfl | rfl | rfl
  · simp only [mo_get, tc_G_get, if_true, hl_eq ha hb]
    rfl
  all_goals rfl
theorem set_eq {k v a b d c x y u s p : Int32} (hk : vk_ k) (ho : ok_ a b d c x y u s p) : ∃ g : R9, tc_G_set k v a b d c x y u s p = some g ∧ mo_set k v (rf_ a b d c x y u s p) = some (rg_ g) ∧ og_ g := by
  obtain ⟨ha, hb, hd, hc, hx, hy, hu, hs, hp⟩ := ho
  rcases hk with rfl | rfl | rfl | rfl | rfl | rfl | rfl | rfl | rfl | rfl
  · refine ⟨_, rfl, ?_, ?_⟩
    · show some (upd (upd _ 8 _) 9 _) = _
      rw [rf_8, rf_9, ← hi_b]
    · exact ⟨by show rb_ ((v &&& 65535) >>> _); rw [hi_b]; exact rb_and _, rb_and _, hd, hc, hx, hy, hu, hs, hp⟩
  · exact ⟨_, rfl, congrArg some (rf_1 ..), ha, hb, hd, hc, rw_and _, hy, hu, hs, hp⟩
  · exact ⟨_, rfl, congrArg some (rf_2 ..), ha, hb, hd, hc, hx, rw_and _, hu, hs, hp⟩
  · exact ⟨_, rfl, congrArg some (rf_3 ..), ha, hb, hd, hc, hx, hy, rw_and _, hs, hp⟩
  · exact ⟨_, rfl, congrArg some (rf_4 ..), ha, hb, hd, hc, hx, hy, hu, rw_and _, hp⟩
  · exact ⟨_, rfl, congrArg some (rf_5 ..), ha, hb, hd, hc, hx, hy, hu, hs, rw_and _⟩
  · exact ⟨_, rfl, congrArg some (rf_8 ..), rb_and _, hb, hd, hc, hx, hy, hu, hs, hp⟩
  · exact ⟨_, rfl, congrArg some (rf_9 ..), ha, rb_and _, hd, hc, hx, hy, hu, hs, hp⟩
  · exact ⟨_, rfl, congrArg some (rf_10 ..), ha, hb, hd, rb_and _, hx, hy, hu, hs, hp⟩
  · exact ⟨_, rfl, congrArg some (rf_11 ..), ha, hb, rb_and _, hc, hx, hy, hu, hs, hp⟩
end
section
/-! Fetches, signs. -/
theorem mask_id (x : Int32) : (x &&& 65535) &&& 65535 = x &&& 65535 := rw_id (rw_and x)
theorem rd_mask (cb : Nat → Int32) (a : Int32) : rd_ cb (a &&& 65535) = rd_ cb a := by
  unfold rd_
  rw [mask_id]
theorem mask_add (x y : Int32) : ((x &&& 65535) + y) &&& 65535 = (x + y) &&& 65535 := by
  rw [and_w, and_w (x + y), and_w x]
  congr 1
  rw [Int32.toBitVec_add, Int32.toBitVec_add, BitVec.toNat_add, BitVec.toNat_add]
  rw [show (nI (x.toBitVec.toNat % 65536)).toBitVec.toNat = x.toBitVec.toNat % 65536 from pk_tn (by omega)]
  omega
theorem rd_mask1 (cb : Nat → Int32) (a : Int32) : rd_ cb ((a &&& 65535) + 1) = rd_ cb (a + 1) := by
  unfold rd_
  rw [mask_add]
theorem rd2_mask (cb : Nat → Int32) (a : Int32) : rd2_ cb (a &&& 65535) = rd2_ cb a := by
  unfold rd2_
  rw [rd_mask, rd_mask1]
theorem i_11 (x : Int32) : x + 1 + 1 = x + 2 := by rw [Int32.add_assoc]; rfl
theorem tc_fetch1 (py p : Int32) (cb : Nat → Int32) : tc_P_fetch 1 py cb p = some (rd_ cb p, py + 1, (p + 1) &&& 65535) := by
  simp only [tc_P_fetch, tc_P_skip, tc_load1, Option.bind_some]
theorem tc_fetch2 {cb : Nat → Int32} (h : okB cb) (py p : Int32) : tc_P_fetch 2 py cb p = some (rd2_ cb p, py + 2, (p + 2) &&& 65535) := by
  simp only [tc_P_fetch, tc_P_skip, tc_load2' h, Option.bind_some]
theorem mo_set5 (v a b d c x y u s p : Int32) : mo_set 5 v (rf_ a b d c x y u s p) = some (rf_ a b d c x y u s (v &&& 65535)) := by
  show some (upd _ 5 _) = _
  rw [rf_5]
theorem mo_fetch_eq (me : Nat → Int32) (a b d c x y u s p sp : Int32) : mo_fetch me (rf_ a b d c x y u s p) sp = some (rd_ me p, rf_ a b d c x y u s ((p + 1) &&& 65535), sp + 1) := by
  simp only [mo_fetch, mo_load1, Option.bind_some, mo_set5]
  rfl
theorem mo_fetchWord_eq (me : Nat → Int32) (a b d c x y u s p sp : Int32) : mo_fetchWord me (rf_ a b d c x y u s p) sp = some (rd2_ me p, rf_ a b d c x y u s ((p + 2) &&& 65535), sp + 2) := by
  unfold mo_fetchWord
  rw [mo_fetch_eq]
  simp only [Option.bind_some, mo_fetch_eq, mask_add, i_11, rd_mask]
  rfl
theorem sg_all : ∀ n, n < 256 → mo_signed (nI n) = some (nI n).toInt8.toInt32 := by decide +kernel
theorem mo_signed_eq {v : Int32} (h : rb_ v) : mo_signed v = some v.toInt8.toInt32 := by
  obtain ⟨n, h1, rfl⟩ := h
  exact sg_all n h1
theorem tc_signed1 (v : Int32) : tc_C_signed v 1 = some v.toInt8.toInt32 := by rfl
theorem tc_signed2 (v : Int32) : tc_C_signed v 2 = some v.toInt16.toInt32 := by rfl
theorem c16 (v : Int32) : v &&& 15 = 0 ∨ v &&& 15 = 1 ∨ v &&& 15 = 2 ∨ v &&& 15 = 3 ∨ v &&& 15 = 4 ∨ v &&& 15 = 5 ∨ v &&& 15 = 6 ∨ v &&& 15 = 7 ∨ v &&& 15 = 8 ∨ v &&& 15 = 9 ∨ v &&& 15 = 10 ∨ v &&& 15 = 11 ∨ v &&& 15 = 12 ∨ v &&& 15 = 13 ∨ v &&& 15 = 14 ∨ v &&& 15 = 15 := by
  obtain ⟨j, h1, h2⟩ := pk_andE v (m := 15) 4 (by decide)
  rw [h2]
  exact (by decide +kernel : ∀ j, j < 2 ^ 4 → nI j = 0 ∨ nI j = 1 ∨ nI j = 2 ∨ nI j = 3 ∨ nI j = 4 ∨ nI j = 5 ∨ nI j = 6 ∨ nI j = 7 ∨ nI j = 8 ∨ nI j = 9 ∨ nI j = 10 ∨ nI j = 11 ∨ nI j = 12 ∨ nI j = 13 ∨ nI j = 14 ∨ nI j = 15) j h1
theorem c4 (v : Int32) : v &&& 3 = 0 ∨ v &&& 3 = 1 ∨ v &&& 3 = 2 ∨ v &&& 3 = 3 := by
  obtain ⟨j, h1, h2⟩ := pk_andE v (m := 3) 2 (by decide)
  rw [h2]
  exact (by decide +kernel : ∀ j, j < 2 ^ 2 → nI j = 0 ∨ nI j = 1 ∨ nI j = 2 ∨ nI j = 3) j h1
/-- the index registers -/
def ir_ (r : Int32) : Prop := r = 1 ∨ r = 2 ∨ r = 3 ∨ r = 4
theorem ir_of (v : Int32) : ir_ (1 + (v &&& 3)) := by
  rcases c4 v with h | h | h | h <;> rw [h]
  · exact Or.inl (by decide)
  · exact Or.inr (Or.inl (by decide))
  · exact Or.inr (Or.inr (Or.inl (by decide)))
  · exact Or.inr (Or.inr (Or.inr (by decide)))
theorem ir_in {r : Int32} (h : ir_ r) : in_b r 12 = true := by
  rcases h with rfl | rfl | rfl | rfl <;> decide
theorem ir_get {r a b d c x y u s p : Int32} (h : ir_ r) : tc_G_get r a b d c x y u s p = some (rf_ a b d c x y u s p r.toNatClampNeg) := by
  rcases h with rfl | rfl | rfl | rfl <;> rfl
theorem ir_set {r v a b d c x y u s p : Int32} (h : ir_ r) (ho : ok_ a b d c x y u s p) : ∃ g : R9, tc_G_set r v a b d c x y u s p = some g ∧ mo_set r v (rf_ a b d c x y u s p) = some (rg_ g) ∧ og_ g ∧ rg_ g r.toNatClampNeg = v &&& 65535 := by
  have hv : vk_ r := by
    rcases h with rfl | rfl | rfl | rfl <;> (unfold vk_; decide)
  obtain ⟨g, h1, h2, h3⟩ := set_eq (v := v) hv ho
  refine ⟨g, h1, h2, h3, ?_⟩
  rcases h with rfl | rfl | rfl | rfl <;> (cases h1; rfl)
end
section
/-! The indexed address: the class's indexedAddress, the reference's address(2). -/
/-- what the reference says, given what the class said -/
def ad_ok (z : Int32 × Int32 × Int32 × R9) (m : Option (Int32 × (Nat → Int32) × Int32 × Bool)) : Prop :=
  (z.2.2.1 = -1 ∧ rw_ z.1 ∧ og_ z.2.2.2 ∧ m = some (z.1, rg_ z.2.2.2, z.2.1, false)) ∨ (z.2.2.1 = -2 ∧ ∃ (w : Int32) (g0 : R9) (sp : Int32), m = some (w, rg_ g0, sp, true))
theorem j327 {cb : Nat → Int32} (hB : okB cb) (v5 : Bool) (v6 py : Int32) {g : R9} (hg : og_ g) (me : Int32) (h : me = v6 &&& 65535 ∨ me = v6) : ∃ z, tc_P_indexedAddress_j327 v5 v6 py (-1) cb g.1 g.2.1 g.2.2.1 g.2.2.2.1 g.2.2.2.2.1 g.2.2.2.2.2.1 g.2.2.2.2.2.2.1 g.2.2.2.2.2.2.2.1 g.2.2.2.2.2.2.2.2 = some z ∧ ad_ok z (mo_address_j191 v5 me cb (rg_ g) py false) := by
  have hm : me &&& 65535 = v6 &&& 65535 := by
    rcases h with rfl | rfl
    · exact mask_id _
    · rfl
  unfold tc_P_indexedAddress_j327 mo_address_j191
  cases v5 with
  | false =>
    refine ⟨_, rfl, Or.inl ⟨rfl, rw_and _, hg, ?_⟩⟩
    simp only [bz_i, if_true, hm]
  | true =>
    refine ⟨(rd2_ cb v6, py + 2, -1, g), ?_, Or.inl ⟨rfl, rd2_ok hB _, hg, ?_⟩⟩
    · rw [if_neg (by decide)]
      simp only [tc_P_load, tc_load2' hB, Option.bind_some]
    · rw [if_neg (by decide), mo_load2, hm, rd2_mask]
      rfl
theorem st_1 (x : Int32) : x + 0 + 1 = x + (1 + (0 &&& 1)) := by
  rw [show (1 : Int32) + (0 &&& 1) = 1 by decide, i_a0]
theorem st_2 (x : Int32) : x + 1 + 1 = x + (1 + (1 &&& 1)) := by
  rw [i_11, show (1 : Int32) + (1 &&& 1) = 2 by decide]
theorem st_3 (x : Int32) : x - 2 + 1 = x - (1 + (2 &&& 1)) := by
  rw [show (1 : Int32) + (2 &&& 1) = 1 by decide, Int32.sub_eq_add_neg, Int32.sub_eq_add_neg, Int32.add_assoc]
  rfl
theorem st_4 (x : Int32) : x - 3 + 1 = x - (1 + (3 &&& 1)) := by
  rw [show (1 : Int32) + (3 &&& 1) = 2 by decide, Int32.sub_eq_add_neg, Int32.sub_eq_add_neg, Int32.add_assoc]
  rfl
section J63
variable {cb : Nat → Int32} {r a b d c x y u s p py : Int32}
theorem j63_bad (v4 : Int32) (s0 : Bool) (h1 : tc_P_isIndexedForm v4 s0 = some false) (h2 : mo_address_j99 r v4 s0 cb (rf_ a b d c x y u s p) py false = some (-1, rf_ a b d c x y u s p, py, true)) : ∃ z, tc_P_indexedAddress_j63 r (rf_ a b d c x y u s p r.toNatClampNeg) v4 s0 py (-1) cb a b d c x y u s p = some z ∧ ad_ok z (mo_address_j99 r v4 s0 cb (rf_ a b d c x y u s p) py false) := by
  refine ⟨(0, py, -2, a, b, d, c, x, y, u, s, p), ?_, Or.inr ⟨rfl, _, (a, b, d, c, x, y, u, s, p), _, h2⟩⟩
  unfold tc_P_indexedAddress_j63
  rw [h1]
  rfl
theorem j63_good (hB : okB cb) (v4 v6 py' me : Int32) (s0 : Bool) (g : R9) (hg : og_ g) (h : me = v6 &&& 65535 ∨ me = v6) (h1 : tc_P_indexedAddress_j63 r (rf_ a b d c x y u s p r.toNatClampNeg) v4 s0 py (-1) cb a b d c x y u s p = tc_P_indexedAddress_j327 s0 v6 py' (-1) cb g.1 g.2.1 g.2.2.1 g.2.2.2.1 g.2.2.2.2.1 g.2.2.2.2.2.1 g.2.2.2.2.2.2.1 g.2.2.2.2.2.2.2.1 g.2.2.2.2.2.2.2.2)
    (h2 : mo_address_j99 r v4 s0 cb (rf_ a b d c x y u s p) py false = mo_address_j191 s0 me cb (rg_ g) py' false) : ∃ z, tc_P_indexedAddress_j63 r (rf_ a b d c x y u s p r.toNatClampNeg) v4 s0 py (-1) cb a b d c x y u s p = some z ∧ ad_ok z (mo_address_j99 r v4 s0 cb (rf_ a b d c x y u s p) py false) := by
  rw [h1, h2]
  exact j327 hB s0 v6 py' hg me h
theorem jo_ (v4 : Int32) {s0 : Bool} {rg : Nat → Int32} (h0 : v4 ≠ 0) (h2 : v4 ≠ 2) (h7 : v4 ≠ 7) (h10 : v4 ≠ 10) (h14 : v4 ≠ 14) (h15 : v4 ≠ 15) (h4 : (4 : Int32) ≤ v4) : mo_address_j99 r v4 s0 cb rg py false = (mo_offset r v4 cb rg py).bind fun z11 => mo_address_j191 s0 z11.1 cb z11.2.1 z11.2.2 false := by
  simp only [mo_address_j99, mo_address_j139, mo_address_j151, mo_address_j155, mo_address_j156, if_neg h0, if_neg h2, if_neg h7, if_neg h10, if_neg h14, if_neg h15, if_pos h4, bz_i]
  cases s0 <;> rfl
theorem ok_p {a b d c x y u s p : Int32} (ho : ok_ a b d c x y u s p) (v : Int32) : ok_ a b d c x y u s (v &&& 65535) := by
  obtain ⟨ha, hb, hd, hc, hx, hy, hu, hs, hp⟩ := ho
  exact ⟨ha, hb, hd, hc, hx, hy, hu, hs, rw_and _⟩
theorem j63_ok (hB : okB cb) (hr : ir_ r) (ho : ok_ a b d c x y u s p) (v4 : Int32) (s0 : Bool) (h4 : v4 = 0 ∨ v4 = 1 ∨ v4 = 2 ∨ v4 = 3 ∨ v4 = 4 ∨ v4 = 5 ∨ v4 = 6 ∨ v4 = 7 ∨ v4 = 8 ∨ v4 = 9 ∨ v4 = 10 ∨ v4 = 11 ∨ v4 = 12 ∨ v4 = 13 ∨ v4 = 14 ∨ v4 = 15) : ∃ z, tc_P_indexedAddress_j63 r (rf_ a b d c x y u s p r.toNatClampNeg) v4 s0 py (-1) cb a b d c x y u s p = some z ∧ ad_ok z (mo_address_j99 r v4 s0 cb (rf_ a b d c x y u s p) py false) := by
  have hin := ir_in hr
  have hb := ho.2.1
  have ha := ho.1
  rcases h4 with rfl | rfl | rfl | rfl | rfl | rfl | rfl | rfl | rfl | rfl | rfl | rfl | rfl | rfl | rfl | rfl
  · cases s0 with
    | true => exact j63_bad _ _ rfl rfl
    | false =>
      obtain ⟨g, g1, g2, g3, g4⟩ := ir_set (v := rf_ a b d c x y u s p r.toNatClampNeg + 0 + 1) hr ho
      refine j63_good hB 0 (rf_ a b d c x y u s p r.toNatClampNeg) py _ false g g3 (Or.inr rfl) ?_ ?_
      · simp only [tc_P_indexedAddress_j63, tc_P_isIndexedForm, tc_P_isIndexedForm_j80, tc_P_indexedAddress_j160, g1, bz_i, Option.bind_some]
        rfl
      · rw [st_1] at g2
        show (mo_stepping r 0 _).bind _ = _
        unfold mo_stepping mo_stepping_j32
        rw [if_pos hin, if_neg (by decide), g2]
        rfl
  · obtain ⟨g, g1, g2, g3, g4⟩ := ir_set (v := rf_ a b d c x y u s p r.toNatClampNeg + 1 + 1) hr ho
    refine j63_good hB 1 (rf_ a b d c x y u s p r.toNatClampNeg) py _ s0 g g3 (Or.inr rfl) ?_ ?_
    · simp only [tc_P_indexedAddress_j63, tc_P_isIndexedForm, tc_P_isIndexedForm_j80, tc_P_indexedAddress_j160, g1, bz_i, Option.bind_some]
      rfl
    · rw [st_2] at g2
      have e : mo_address_j99 r 1 s0 cb (rf_ a b d c x y u s p) py false = (mo_stepping r 1 (rf_ a b d c x y u s p)).bind fun z12 => mo_address_j191 s0 z12.1 cb z12.2 py false := by cases s0 <;> rfl
      rw [e]
      unfold mo_stepping mo_stepping_j32
      rw [if_pos hin, if_neg (by decide), g2]
      rfl
  · cases s0 with
    | true => exact j63_bad _ _ rfl rfl
    | false =>
      obtain ⟨g, g1, g2, g3, g4⟩ := ir_set (v := rf_ a b d c x y u s p r.toNatClampNeg - 2 + 1) hr ho
      refine j63_good hB 2 (rf_ a b d c x y u s p r.toNatClampNeg - 2 + 1) py _ false g g3 (Or.inl g4) ?_ ?_
      · simp only [tc_P_indexedAddress_j63, tc_P_isIndexedForm, tc_P_isIndexedForm_j80, tc_P_indexedAddress_j177, g1, bz_i, Option.bind_some]
        rfl
      · rw [st_3] at g2
        show (mo_stepping r 2 _).bind _ = _
        unfold mo_stepping mo_stepping_j32
        rw [if_pos hin, if_pos (by decide), g2, Option.bind_some, if_pos (by decide), if_pos hin]
        rfl
  · obtain ⟨g, g1, g2, g3, g4⟩ := ir_set (v := rf_ a b d c x y u s p r.toNatClampNeg - 3 + 1) hr ho
    refine j63_good hB 3 (rf_ a b d c x y u s p r.toNatClampNeg - 3 + 1) py _ s0 g g3 (Or.inl g4) ?_ ?_
    · simp only [tc_P_indexedAddress_j63, tc_P_isIndexedForm, tc_P_isIndexedForm_j80, tc_P_indexedAddress_j177, g1, bz_i, Option.bind_some]
      rfl
    · rw [st_4] at g2
      have e : mo_address_j99 r 3 s0 cb (rf_ a b d c x y u s p) py false = (mo_stepping r 3 (rf_ a b d c x y u s p)).bind fun z12 => mo_address_j191 s0 z12.1 cb z12.2 py false := by cases s0 <;> rfl
      rw [e]
      unfold mo_stepping mo_stepping_j32
      rw [if_pos hin, if_pos (by decide), g2, Option.bind_some, if_pos (by decide), if_pos hin]
      rfl
  · refine j63_good hB 4 (rf_ a b d c x y u s p r.toNatClampNeg) py _ s0 (a, b, d, c, x, y, u, s, p) ho (Or.inr rfl) rfl ?_
    rw [jo_ 4 (by decide) (by decide) (by decide) (by decide) (by decide) (by decide) (by decide)]
    unfold mo_offset
    rw [if_pos hin]
    rfl
  · refine j63_good hB 5 (rf_ a b d c x y u s p r.toNatClampNeg + b.toInt8.toInt32) py _ s0 (a, b, d, c, x, y, u, s, p) ho (Or.inr rfl) rfl ?_
    rw [jo_ 5 (by decide) (by decide) (by decide) (by decide) (by decide) (by decide) (by decide)]
    unfold mo_offset
    rw [if_pos hin, if_pos rfl]
    show (((mo_signed b).bind _).bind _) = _
    rw [mo_signed_eq hb]
    rfl
  · refine j63_good hB 6 (rf_ a b d c x y u s p r.toNatClampNeg + a.toInt8.toInt32) py _ s0 (a, b, d, c, x, y, u, s, p) ho (Or.inr rfl) rfl ?_
    rw [jo_ 6 (by decide) (by decide) (by decide) (by decide) (by decide) (by decide) (by decide)]
    unfold mo_offset
    rw [if_pos hin, if_neg (by decide), if_pos rfl]
    show (((mo_signed a).bind _).bind _) = _
    rw [mo_signed_eq ha]
    rfl
  · exact j63_bad _ _ (by cases s0 <;> rfl) (by cases s0 <;> rfl)
  · refine j63_good hB 8 (rf_ a b d c x y u s p r.toNatClampNeg + (rd_ cb p).toInt8.toInt32) (py + 1) _ s0 (a, b, d, c, x, y, u, s, (p + 1) &&& 65535) (ok_p ho _) (Or.inr rfl) ?_ ?_
    · show ((tc_P_fetch 1 py cb p).bind _) = _
      rw [tc_fetch1]
      rfl
    · rw [jo_ 8 (by decide) (by decide) (by decide) (by decide) (by decide) (by decide) (by decide)]
      unfold mo_offset
      rw [if_pos hin]
      show (((mo_fetch _ _ _).bind _).bind _) = _
      rw [mo_fetch_eq, Option.bind_some, mo_signed_eq (rd_ok hB _)]
      rfl
  · refine j63_good hB 9 (rf_ a b d c x y u s p r.toNatClampNeg + rd2_ cb p) (py + 2) _ s0 (a, b, d, c, x, y, u, s, (p + 2) &&& 65535) (ok_p ho _) (Or.inr rfl) ?_ ?_
    · show ((tc_P_fetch 2 py cb p).bind _) = _
      rw [tc_fetch2 hB]
      rfl
    · rw [jo_ 9 (by decide) (by decide) (by decide) (by decide) (by decide) (by decide) (by decide)]
      unfold mo_offset
      rw [if_pos hin]
      show (((mo_fetchWord _ _ _).bind _).bind _) = _
      rw [mo_fetchWord_eq]
      rfl
  · exact j63_bad _ _ (by cases s0 <;> rfl) (by cases s0 <;> rfl)
  · refine j63_good hB 11 (rf_ a b d c x y u s p r.toNatClampNeg + ((a <<< ((8 : Int32) &&& 31)) ||| b)) py _ s0 (a, b, d, c, x, y, u, s, p) ho (Or.inr rfl) rfl ?_
    rw [jo_ 11 (by decide) (by decide) (by decide) (by decide) (by decide) (by decide) (by decide)]
    unfold mo_offset
    rw [if_pos hin, if_neg (by decide), if_neg (by decide), if_neg (by decide), if_neg (by decide), if_neg (by decide), if_neg (by decide), if_pos rfl, get_eq (Or.inl rfl) ha hb]
    rfl
  · refine j63_good hB 12 ((rd_ cb p).toInt8.toInt32 + ((p + 1) &&& 65535)) (py + 1) _ s0 (a, b, d, c, x, y, u, s, (p + 1) &&& 65535) (ok_p ho _) (Or.inr (Int32.add_comm _ _)) ?_ ?_
    · show ((tc_P_fetch 1 py cb p).bind _) = _
      rw [tc_fetch1]
      rfl
    · rw [jo_ 12 (by decide) (by decide) (by decide) (by decide) (by decide) (by decide) (by decide)]
      unfold mo_offset
      rw [if_pos hin]
      show (((mo_fetch _ _ _).bind _).bind _) = _
      rw [mo_fetch_eq, Option.bind_some, mo_signed_eq (rd_ok hB _)]
      rfl
  · refine j63_good hB 13 (rd2_ cb p + ((p + 2) &&& 65535)) (py + 2) _ s0 (a, b, d, c, x, y, u, s, (p + 2) &&& 65535) (ok_p ho _) (Or.inr (Int32.add_comm _ _)) ?_ ?_
    · show ((tc_P_fetch 2 py cb p).bind _) = _
      rw [tc_fetch2 hB]
      rfl
    · rw [jo_ 13 (by decide) (by decide) (by decide) (by decide) (by decide) (by decide) (by decide)]
      unfold mo_offset
      rw [if_pos hin]
      show (((mo_fetchWord _ _ _).bind _).bind _) = _
      rw [mo_fetchWord_eq]
      rfl
  · exact j63_bad _ _ (by cases s0 <;> rfl) (by cases s0 <;> rfl)
  · cases s0 with
    | false => exact j63_bad _ _ rfl rfl
    | true =>
      refine j63_good hB 15 (rd2_ cb p) (py + 2) _ true (a, b, d, c, x, y, u, s, (p + 2) &&& 65535) (ok_p ho _) (Or.inr rfl) ?_ ?_
      · show ((tc_P_fetch 2 py cb p).bind _) = _
        rw [tc_fetch2 hB]
        rfl
      · show ((mo_offset r 15 cb _ py).bind _) = _
        unfold mo_offset
        rw [if_pos hin]
        show (((mo_fetchWord _ _ _).bind _).bind _) = _
        rw [mo_fetchWord_eq]
        rfl
end J63
theorem i_s0 (x : Int32) : x - 0 = x := Int32.sub_zero x
theorem p5_ : ∀ n, n < 256 → (nI n &&& 16 = 0 → nI n &&& 31 = nI n &&& 15 ∧ nI n &&& 16 = 0) ∧ (¬ nI n &&& 16 = 0 → nI n &&& 31 = (nI n &&& 15) + 16 ∧ nI n &&& 16 = 16) := by decide +kernel
theorem off_eq (w : Int32) {v : Int32} (hv : rb_ v) : (w + (v &&& 15) - (v &&& 16)) = (if v &&& 16 = 0 then w + (v &&& 31) - 0 else w + (v &&& 31) - 32) := by
  obtain ⟨n, h, rfl⟩ := hv
  by_cases h16 : nI n &&& 16 = 0
  · rw [if_pos h16, ((p5_ n h).1 h16).1, h16]
  · rw [if_neg h16, ((p5_ n h).2 h16).1, ((p5_ n h).2 h16).2, Int32.sub_eq_add_neg, Int32.sub_eq_add_neg, Int32.add_assoc, Int32.add_assoc, Int32.add_assoc]
    rfl
theorem ix_ok {cb : Nat → Int32} (hB : okB cb) {a b d c x y u s p : Int32} (ho : ok_ a b d c x y u s p) (py : Int32) : ∃ z, tc_P_indexedAddress py (-1) cb a b d c x y u s p = some z ∧ ad_ok z (mo_address 2 cb (rf_ a b d c x y u s p) py false) := by
  have hv : rb_ (rd_ cb p) := rd_ok hB p
  have hr : ir_ (1 + ((rd_ cb p >>> ((5 : Int32) &&& 31)) &&& 3)) := ir_of _
  unfold tc_P_indexedAddress
  rw [show mo_address 2 cb (rf_ a b d c x y u s p) py false = ((mo_fetch cb (rf_ a b d c x y u s p) py).bind _) from rfl, tc_fetch1, mo_fetch_eq]
  simp only [Option.bind_some]
  rw [ir_get hr]
  simp only [Option.bind_some, if_pos (ir_in hr)]
  by_cases h128 : (128 : Int32) ≤ rd_ cb p
  · simp only [if_pos h128]
    by_cases h16 : rd_ cb p &&& 16 = 0
    · simp only [if_pos h16]
      exact j63_ok hB hr (ok_p ho _) _ _ (c16 _)
    · simp only [if_neg h16]
      exact j63_ok hB hr (ok_p ho _) _ _ (c16 _)
  · simp only [if_neg h128]
    refine ⟨_, rfl, Or.inl ⟨rfl, rw_and _, ok_p ho _, ?_⟩⟩
    rw [off_eq _ hv]
    by_cases h16 : rd_ cb p &&& 16 = 0
    · simp only [if_pos h16]
    · simp only [if_neg h16]
end
section
/-! Calculations and flags. -/
def iI (z : Int) : Int32 := Int32.ofInt z
theorem iI_add (a b : Int) : iI a + iI b = iI (a + b) := (Int32.ofInt_add a b).symm
theorem iI_sub (a b : Int) : iI a - iI b = iI (a - b) := (Int32.ofInt_sub a b).symm
theorem nI_iI (n : Nat) : nI n = iI (n : Int) := by
  unfold nI iI
  rw [Int32.ofInt_eq_ofNat]
theorem iI_toInt {z : Int} (h : -2147483648 ≤ z) (h2 : z < 2147483648) : (iI z).toInt = z := Int32.toInt_ofInt_of_le (by simpa using h) (by simpa using h2)
theorem iI_eq {a b : Int} (h1 : -2147483648 ≤ a) (h2 : a < 2147483648) (h3 : -2147483648 ≤ b) (h4 : b < 2147483648) : iI a = iI b ↔ a = b := by
  constructor
  · intro h
    have := congrArg Int32.toInt h
    rwa [iI_toInt h1 h2, iI_toInt h3 h4] at this
  · intro h
    rw [h]
theorem iI_le {a b : Int} (h1 : -2147483648 ≤ a) (h2 : a < 2147483648) (h3 : -2147483648 ≤ b) (h4 : b < 2147483648) : iI a ≤ iI b ↔ a ≤ b := by
  rw [Int32.le_iff_toInt_le, iI_toInt h1 h2, iI_toInt h3 h4]
theorem iI_lt {a b : Int} (h1 : -2147483648 ≤ a) (h2 : a < 2147483648) (h3 : -2147483648 ≤ b) (h4 : b < 2147483648) : iI a < iI b ↔ a < b := by
  rw [Int32.lt_iff_toInt_lt, iI_toInt h1 h2, iI_toInt h3 h4]
def s8_ (n : Nat) : Int := if n < 128 then n else (n : Int) - 256
def s16_ (n : Nat) : Int := if n < 32768 then n else (n : Int) - 65536
theorem t8_ : ∀ n, n < 256 → (nI n).toInt8.toInt32 = iI (s8_ n) := by decide +kernel
theorem t16_ {n : Nat} (h : n < 65536) : (nI n).toInt16.toInt32 = iI (s16_ n) := by
  apply Int32.toInt_inj.mp
  rw [Int16.toInt_toInt32, Int32.toInt_toInt16, nI_toInt (by omega), iI_toInt (by unfold s16_; split <;> omega) (by unfold s16_; split <;> omega)]
  have hb : ∀ k : Int, Int.bmod k (2 ^ 16) = if k % 65536 < 32768 then k % 65536 else k % 65536 - 65536 := fun k => rfl
  rw [hb]
  unfold s16_
  split <;> split <;> omega
def mk_ (bit : Int32) (on : Bool) (c : Int32) : Int32 := bif on then c ||| bit else c &&& (bit ^^^ -1)
section MK
variable (a b d c x y u s p : Int32)
theorem mo_mark_eq (bit : Int32) (on : Bool) : mo_mark bit on (rf_ a b d c x y u s p) = some (rf_ a b d (mk_ bit on c) x y u s p) := by
  unfold mo_mark mo_mark_j33 mk_
  cases on
  · rw [if_pos (by decide), rf_10]; rfl
  · rw [if_neg (by decide), rf_10]; rfl
def sn_ (v bits : Int32) : Bool := decide (((v >>> ((bits - 1) &&& 31)) &&& 1) = 1)
def sz_ (v bits : Int32) : Bool := decide ((v &&& (((1 : Int32) <<< (bits &&& 31)) - 1)) = 0)
theorem mo_sign_eq (v bits : Int32) : mo_sign v bits (rf_ a b d c x y u s p) = some (rf_ a b d (mk_ 4 (sz_ v bits) (mk_ 8 (sn_ v bits) c)) x y u s p) := by
  unfold mo_sign mo_sign_j19 mo_sign_j39 sn_ sz_
  by_cases h1 : ((v >>> ((bits - 1) &&& 31)) &&& 1) = 1 <;> by_cases h2 : (v &&& (((1 : Int32) <<< (bits &&& 31)) - 1)) = 0
  · simp only [if_pos h1, if_pos h2, decide_eq_true h1, decide_eq_true h2, mo_mark_eq, Option.bind_some]
  · simp only [if_pos h1, if_neg h2, decide_eq_true h1, decide_eq_false h2, mo_mark_eq, Option.bind_some]
  · simp only [if_neg h1, if_pos h2, decide_eq_false h1, decide_eq_true h2, mo_mark_eq, Option.bind_some]
  · simp only [if_neg h1, if_neg h2, decide_eq_false h1, decide_eq_false h2, mo_mark_eq, Option.bind_some]
theorem mo_plain_eq (v bits : Int32) : mo_plain v bits (rf_ a b d c x y u s p) = some (v, rf_ a b d (mk_ 2 false (mk_ 4 (sz_ v bits) (mk_ 8 (sn_ v bits) c))) x y u s p) := by
  unfold mo_plain
  rw [mo_sign_eq, Option.bind_some, mo_mark_eq, Option.bind_some]
end MK
def fl_ (n z : Bool) : Int32 := bif z then 4 else bif n then 8 else 0
theorem so8_all : ∀ n, n < 256 → tc_C_signOf (nI n) 1 = some (fl_ (sn_ (nI n) 8) (sz_ (nI n) 8)) ∧ (sz_ (nI n) 8 = true → sn_ (nI n) 8 = false) := by decide +kernel
theorem so8 {v : Int32} (h : rb_ v) : tc_C_signOf v 1 = some (fl_ (sn_ v 8) (sz_ v 8)) ∧ (sz_ v 8 = true → sn_ v 8 = false) := by
  obtain ⟨n, h1, rfl⟩ := h
  exact so8_all n h1
theorem nI_m1 {n : Nat} : nI n &&& 1 = nI (n % 2) := by
  rw [show (1 : Int32) = nI 1 by decide, nx_and, Nat.and_one_is_mod]
theorem so16 {v : Int32} (h : rw_ v) : tc_C_signOf v 2 = some (fl_ (sn_ v 16) (sz_ v 16)) ∧ (sz_ v 16 = true → sn_ v 16 = false) := by
  obtain ⟨n, h1, rfl⟩ := h
  have e1 : sz_ (nI n) 16 = decide (n = 0) := by
    unfold sz_
    rw [show ((1 : Int32) <<< ((16 : Int32) &&& 31)) - 1 = 65535 by decide, nI_w h1, ← nI_0]
    exact decide_eq_decide.mpr (nI_eq (by omega) (by omega))
  have e2 : sn_ (nI n) 16 = decide (32768 ≤ n) := by
    unfold sn_
    rw [pk_shrN (by omega) _ 15 (by decide), nI_m1, show (1 : Int32) = nI 1 by decide]
    refine decide_eq_decide.mpr ((nI_eq (by omega) (by omega)).trans ?_)
    omega
  rw [e1, e2]
  constructor
  · unfold tc_C_signOf
    by_cases h0 : n = 0
    · subst h0
      rfl
    · rw [if_neg (fun q => h0 ((nI_eq (by omega) (by decide)).mp (q.trans nI_0.symm))), tc_signed2, Option.bind_some, t16_ h1, show (0 : Int32) = iI 0 by decide]
      unfold fl_
      rw [decide_eq_false h0]
      by_cases h2 : 32768 ≤ n
      · rw [if_neg (by rw [iI_le (by omega) (by omega) (by unfold s16_; split <;> omega) (by unfold s16_; split <;> omega)]; unfold s16_; split <;> omega), decide_eq_true h2]
        rfl
      · rw [if_pos (by rw [iI_le (by omega) (by omega) (by unfold s16_; split <;> omega) (by unfold s16_; split <;> omega)]; unfold s16_; split <;> omega), decide_eq_false h2]
        rfl
  · intro hz
    have := of_decide_eq_true hz
    exact decide_eq_false (by omega)
theorem fl4_all : ∀ m, m < 256 → ∀ n z v k : Bool, (z = true → n = false) → mk_ 2 v (mk_ 1 k (mk_ 4 z (mk_ 8 n (nI m)))) = (nI m &&& ((15 : Int32) ^^^ -1)) ||| (bif v then (bif k then fl_ n z ||| 1 else fl_ n z) ||| 2 else (bif k then fl_ n z ||| 1 else fl_ n z)) := by decide +kernel
theorem fl4 {c : Int32} (h : rb_ c) (n z v k : Bool) (hz : z = true → n = false) : mk_ 2 v (mk_ 1 k (mk_ 4 z (mk_ 8 n c))) = (c &&& ((15 : Int32) ^^^ -1)) ||| (bif v then (bif k then fl_ n z ||| 1 else fl_ n z) ||| 2 else (bif k then fl_ n z ||| 1 else fl_ n z)) := by
  obtain ⟨m, h1, rfl⟩ := h
  exact fl4_all m h1 n z v k hz
theorem fl3_all : ∀ m, m < 256 → ∀ n z : Bool, (z = true → n = false) → mk_ 2 false (mk_ 4 z (mk_ 8 n (nI m))) = (nI m &&& ((14 : Int32) ^^^ -1)) ||| fl_ n z := by decide +kernel
theorem fl3 {c : Int32} (h : rb_ c) (n z : Bool) (hz : z = true → n = false) : mk_ 2 false (mk_ 4 z (mk_ 8 n c)) = (c &&& ((14 : Int32) ^^^ -1)) ||| fl_ n z := by
  obtain ⟨m, h1, rfl⟩ := h
  exact fl3_all m h1 n z hz
theorem mk_all : ∀ m, m < 256 → ∀ v : Bool, (mk_ 1 v (nI m)).toBitVec.toNat < 256 ∧ (mk_ 2 v (nI m)).toBitVec.toNat < 256 ∧ (mk_ 4 v (nI m)).toBitVec.toNat < 256 ∧ (mk_ 8 v (nI m)).toBitVec.toNat < 256 ∧ (mk_ 128 v (nI m)).toBitVec.toNat < 256 := by decide +kernel
theorem rb_of {x : Int32} (h : x.toBitVec.toNat < 256) : rb_ x := by
  refine ⟨_, h, ?_⟩
  apply Int32.toBitVec_inj.mp
  show _ = BitVec.ofNat 32 _
  simp
theorem rb_mk1 {c : Int32} (h : rb_ c) (v : Bool) : rb_ (mk_ 1 v c) := by
  obtain ⟨m, h1, rfl⟩ := h
  exact rb_of (mk_all m h1 v).1
theorem rb_mk2 {c : Int32} (h : rb_ c) (v : Bool) : rb_ (mk_ 2 v c) := by
  obtain ⟨m, h1, rfl⟩ := h
  exact rb_of (mk_all m h1 v).2.1
theorem rb_mk4 {c : Int32} (h : rb_ c) (v : Bool) : rb_ (mk_ 4 v c) := by
  obtain ⟨m, h1, rfl⟩ := h
  exact rb_of (mk_all m h1 v).2.2.1
theorem rb_mk8 {c : Int32} (h : rb_ c) (v : Bool) : rb_ (mk_ 8 v c) := by
  obtain ⟨m, h1, rfl⟩ := h
  exact rb_of (mk_all m h1 v).2.2.2.1
theorem rb_mk128 {c : Int32} (h : rb_ c) (v : Bool) : rb_ (mk_ 128 v c) := by
  obtain ⟨m, h1, rfl⟩ := h
  exact rb_of (mk_all m h1 v).2.2.2.2
/-- plain: both sides -/
theorem plain8 {v c : Int32} (hv : rb_ v) (hc : rb_ c) (a b d x y u s p : Int32) : ∃ c', tc_C_plain v 1 c = some (v, c') ∧ rb_ c' ∧ mo_plain v 8 (rf_ a b d c x y u s p) = some (v, rf_ a b d c' x y u s p) := by
  refine ⟨_, ?_, rb_mk2 (rb_mk4 (rb_mk8 hc _) _) _, mo_plain_eq ..⟩
  unfold tc_C_plain tc_G_setFlags
  rw [(so8 hv).1, Option.bind_some, Option.bind_some, fl3 hc _ _ (so8 hv).2]
theorem plain16 {v c : Int32} (hv : rw_ v) (hc : rb_ c) (a b d x y u s p : Int32) : ∃ c', tc_C_plain v 2 c = some (v, c') ∧ rb_ c' ∧ mo_plain v 16 (rf_ a b d c x y u s p) = some (v, rf_ a b d c' x y u s p) := by
  refine ⟨_, ?_, rb_mk2 (rb_mk4 (rb_mk8 hc _) _) _, mo_plain_eq ..⟩
  unfold tc_C_plain tc_G_setFlags
  rw [(so16 hv).1, Option.bind_some, Option.bind_some, fl3 hc _ _ (so16 hv).2]
end
section
/-! Sums and differences in 8 and 16 bits. -/
theorem num8 {n : Nat} (h : n < 256) : mo_number (nI n) 8 = some (iI (s8_ n)) := by
  unfold mo_number s8_
  rw [pk_shrN (by omega) _ 7 (by decide), show (1 : Int32) <<< ((8 : Int32) &&& 31) = iI 256 by decide, ← nI_0]
  by_cases h2 : n < 128
  · rw [if_pos ((nI_eq (by omega) (by decide)).mpr (by omega)), if_pos h2, nI_iI]
  · rw [if_neg (fun q => h2 (by have := (nI_eq (by omega) (by decide)).mp q; omega)), if_neg h2, nI_iI, iI_sub]
theorem sum8 {x y k c : Int32} (hx : rb_ x) (hy : rb_ y) (hk : k = 0 ∨ k = 1) (hc : rb_ c) (a b d x' y' u s p : Int32) : ∃ v c', tc_C_sum x y k 1 c = some (v, c') ∧ rb_ v ∧ rb_ c' ∧ mo_sum x y k 8 (rf_ a b d c x' y' u s p) = some (v, rf_ a b d c' x' y' u s p) := by
  obtain ⟨X, hX, rfl⟩ := hx
  obtain ⟨Y, hY, rfl⟩ := hy
  obtain ⟨K, hK, rfl⟩ : ∃ K : Nat, K ≤ 1 ∧ k = nI K := by
    rcases hk with rfl | rfl
    · exact ⟨0, by omega, by decide⟩
    · exact ⟨1, by omega, by decide⟩
  have hs1 : -128 ≤ s8_ X ∧ s8_ X < 128 := by unfold s8_; split <;> omega
  have hs2 : -128 ≤ s8_ Y ∧ s8_ Y < 128 := by unfold s8_; split <;> omega
  have hs3 : -128 ≤ s8_ ((X + Y + K) % 256) ∧ s8_ ((X + Y + K) % 256) < 128 := by unfold s8_; split <;> omega
  have eT : nI X + nI Y + nI K = nI (X + Y + K) := by rw [nI_add, nI_add]
  have eE : iI (s8_ X) + iI (s8_ Y) + nI K = iI (s8_ X + s8_ Y + K) := by rw [nI_iI, iI_add, iI_add]
  have hv : rb_ (nI ((X + Y + K) % 256)) := ⟨_, Nat.mod_lt _ (by decide), rfl⟩
  have key : (s8_ X + s8_ Y + K = s8_ ((X + Y + K) % 256)) ↔ ¬ (s8_ X + s8_ Y + K < -128 ∨ 128 ≤ s8_ X + s8_ Y + K) := by
    unfold s8_
    split <;> split <;> split <;> omega
  have so := so8 hv
  refine ⟨nI ((X + Y + K) % 256), mk_ 2 (decide (¬ (s8_ X + s8_ Y + K = s8_ ((X + Y + K) % 256)))) (mk_ 1 (decide (256 ≤ X + Y + K)) (mk_ 4 (sz_ (nI ((X + Y + K) % 256)) 8) (mk_ 8 (sn_ (nI ((X + Y + K) % 256)) 8) c))), ?_, hv, rb_mk2 (rb_mk1 (rb_mk4 (rb_mk8 hc _) _) _) _, ?_⟩
  · rw [fl4 hc _ _ _ _ so.2]
    unfold tc_C_sum tc_C_sum_j42 tc_C_sum_j73 tc_G_setFlags
    rw [show tc_C_maskOf 1 = some 255 from rfl, Option.bind_some, eT, pk_andN (by omega) 8 (by decide), show (2 : Nat) ^ 8 = 256 by decide, so.1, Option.bind_some]
    simp only [tc_signed1, Option.bind_some, t8_ _ hX, t8_ _ hY, t8_ _ (Nat.mod_lt (X + Y + K) (show 0 < 256 by decide)), eE]
    rw [show (255 : Int32) = nI 255 by decide]
    by_cases h1 : 256 ≤ X + Y + K <;> by_cases h2 : s8_ X + s8_ Y + K = s8_ ((X + Y + K) % 256)
    · rw [if_neg (by rw [nI_leI (by omega) (by omega)]; omega), if_pos ((iI_eq (by omega) (by omega) (by omega) (by omega)).mpr h2), decide_eq_true h1, decide_eq_false (not_not_intro h2)]
      rfl
    · rw [if_neg (by rw [nI_leI (by omega) (by omega)]; omega), if_neg (fun q => h2 ((iI_eq (by omega) (by omega) (by omega) (by omega)).mp q)), decide_eq_true h1, decide_eq_true h2]
      rfl
    · rw [if_pos (by rw [nI_leI (by omega) (by omega)]; omega), if_pos ((iI_eq (by omega) (by omega) (by omega) (by omega)).mpr h2), decide_eq_false h1, decide_eq_false (not_not_intro h2)]
      rfl
    · rw [if_pos (by rw [nI_leI (by omega) (by omega)]; omega), if_neg (fun q => h2 ((iI_eq (by omega) (by omega) (by omega) (by omega)).mp q)), decide_eq_false h1, decide_eq_true h2]
      rfl
  · unfold mo_sum mo_sum_j58 mo_sum_j82 mo_sum_j87
    rw [num8 hX, num8 hY, show (1 : Int32) <<< ((8 : Int32) &&& 31) = nI 256 by decide, eT, pk_rem (by omega) (by decide) (by decide)]
    simp only [Option.bind_some, mo_sign_eq, mo_mark_eq, eE]
    rw [if_neg (by decide), show (-(nI 256)) / (2 : Int32) = iI (-128) by decide, show nI 256 / (2 : Int32) = iI 128 by decide]
    by_cases h1 : 256 ≤ X + Y + K
    · rw [if_neg (by rw [nI_ltI (by omega) (by omega)]; omega), decide_eq_true h1]
      by_cases h2 : s8_ X + s8_ Y + K < -128
      · rw [if_pos ((iI_lt (by omega) (by omega) (by omega) (by omega)).mpr h2), decide_eq_true (mt key.mp (not_not_intro (Or.inl h2)))]
      · rw [if_neg (fun q => h2 ((iI_lt (by omega) (by omega) (by omega) (by omega)).mp q))]
        by_cases h3 : 128 ≤ s8_ X + s8_ Y + K
        · rw [if_neg (fun q => by have := (iI_lt (by omega) (by omega) (by omega) (by omega)).mp q; omega), decide_eq_true (mt key.mp (not_not_intro (Or.inr h3)))]
        · rw [if_pos ((iI_lt (by omega) (by omega) (by omega) (by omega)).mpr (by omega)), decide_eq_false (not_not_intro (key.mpr (by omega)))]
    · rw [if_pos (by rw [nI_ltI (by omega) (by omega)]; omega), decide_eq_false h1]
      by_cases h2 : s8_ X + s8_ Y + K < -128
      · rw [if_pos ((iI_lt (by omega) (by omega) (by omega) (by omega)).mpr h2), decide_eq_true (mt key.mp (not_not_intro (Or.inl h2)))]
      · rw [if_neg (fun q => h2 ((iI_lt (by omega) (by omega) (by omega) (by omega)).mp q))]
        by_cases h3 : 128 ≤ s8_ X + s8_ Y + K
        · rw [if_neg (fun q => by have := (iI_lt (by omega) (by omega) (by omega) (by omega)).mp q; omega), decide_eq_true (mt key.mp (not_not_intro (Or.inr h3)))]
        · rw [if_pos ((iI_lt (by omega) (by omega) (by omega) (by omega)).mpr (by omega)), decide_eq_false (not_not_intro (key.mpr (by omega)))]
theorem and_a8 (w : Int32) : (w + nI (2 * 256)) &&& 255 = w &&& 255 := by
  rw [and_b, and_b w]
  refine congrArg nI ?_
  rw [Int32.toBitVec_add, BitVec.toNat_add, show (nI (2 * 256)).toBitVec.toNat = 2 * 256 from pk_tn (by decide)]
  omega
theorem diff8 {x y k c : Int32} (hx : rb_ x) (hy : rb_ y) (hk : k = 0 ∨ k = 1) (hc : rb_ c) (a b d x' y' u s p : Int32) : ∃ v c', tc_C_difference x y k 1 c = some (v, c') ∧ rb_ v ∧ rb_ c' ∧ mo_difference x y k 8 (rf_ a b d c x' y' u s p) = some (v, rf_ a b d c' x' y' u s p) ∧ ∃ V q : Bool, c' = mk_ 2 V (mk_ 1 q (mk_ 4 (sz_ v 8) (mk_ 8 (sn_ v 8) c))) := by
  obtain ⟨X, hX, rfl⟩ := hx
  obtain ⟨Y, hY, rfl⟩ := hy
  obtain ⟨K, hK, rfl⟩ : ∃ K : Nat, K ≤ 1 ∧ k = nI K := by
    rcases hk with rfl | rfl
    · exact ⟨0, by omega, by decide⟩
    · exact ⟨1, by omega, by decide⟩
  obtain ⟨T, hT⟩ : ∃ T : Nat, T = X + 2 * 256 - Y - K := ⟨_, rfl⟩
  have hs1 : -128 ≤ s8_ X ∧ s8_ X < 128 := by unfold s8_; split <;> omega
  have hs2 : -128 ≤ s8_ Y ∧ s8_ Y < 128 := by unfold s8_; split <;> omega
  have hs3 : -128 ≤ s8_ (T % 256) ∧ s8_ (T % 256) < 128 := by unfold s8_; split <;> omega
  have eT : nI X - nI Y - nI K + nI (2 * 256) = nI T := by
    rw [nI_iI, nI_iI, nI_iI, nI_iI, nI_iI, iI_sub, iI_sub, iI_add]
    congr 1
    omega
  have eA : (nI X - nI Y - nI K) &&& 255 = nI (T % 256) := by
    rw [← and_a8, eT, pk_andN (by omega) 8 (by decide)]
  have eE : iI (s8_ X) - iI (s8_ Y) - nI K = iI (s8_ X - s8_ Y - K) := by rw [nI_iI, iI_sub, iI_sub]
  have hv : rb_ (nI (T % 256)) := ⟨_, Nat.mod_lt _ (by decide), rfl⟩
  have key : (s8_ X - s8_ Y - K = s8_ (T % 256)) ↔ ¬ (s8_ X - s8_ Y - K < -128 ∨ 128 ≤ s8_ X - s8_ Y - K) := by
    unfold s8_
    split <;> split <;> split <;> omega
  have so := so8 hv
  refine ⟨nI (T % 256), mk_ 2 (decide (¬ (s8_ X - s8_ Y - K = s8_ (T % 256)))) (mk_ 1 (decide (¬ (Y + K ≤ X))) (mk_ 4 (sz_ (nI (T % 256)) 8) (mk_ 8 (sn_ (nI (T % 256)) 8) c))), ?_, hv, rb_mk2 (rb_mk1 (rb_mk4 (rb_mk8 hc _) _) _) _, ?_, _, _, rfl⟩
  · rw [fl4 hc _ _ _ _ so.2]
    unfold tc_C_difference tc_C_difference_j35 tc_C_difference_j66 tc_G_setFlags
    rw [show tc_C_maskOf 1 = some 255 from rfl, Option.bind_some, eA, so.1, Option.bind_some, nI_add]
    simp only [tc_signed1, Option.bind_some, t8_ _ hX, t8_ _ hY, t8_ _ (Nat.mod_lt T (show 0 < 256 by decide)), eE]
    by_cases h1 : Y + K ≤ X <;> by_cases h2 : s8_ X - s8_ Y - K = s8_ (T % 256)
    · rw [if_pos ((nI_leI (by omega) (by omega)).mpr h1), if_pos ((iI_eq (by omega) (by omega) (by omega) (by omega)).mpr h2), decide_eq_false (not_not_intro h1), decide_eq_false (not_not_intro h2)]
      rfl
    · rw [if_pos ((nI_leI (by omega) (by omega)).mpr h1), if_neg (fun q => h2 ((iI_eq (by omega) (by omega) (by omega) (by omega)).mp q)), decide_eq_false (not_not_intro h1), decide_eq_true h2]
      rfl
    · rw [if_neg (fun q => h1 ((nI_leI (by omega) (by omega)).mp q)), if_pos ((iI_eq (by omega) (by omega) (by omega) (by omega)).mpr h2), decide_eq_true h1, decide_eq_false (not_not_intro h2)]
      rfl
    · rw [if_neg (fun q => h1 ((nI_leI (by omega) (by omega)).mp q)), if_neg (fun q => h2 ((iI_eq (by omega) (by omega) (by omega) (by omega)).mp q)), decide_eq_true h1, decide_eq_true h2]
      rfl
  · unfold mo_difference mo_difference_j60 mo_difference_j84 mo_difference_j89
    rw [num8 hX, num8 hY, show (1 : Int32) <<< ((8 : Int32) &&& 31) = nI 256 by decide, show (2 : Int32) * nI 256 = nI (2 * 256) by decide, eT, pk_rem (by omega) (by decide) (by decide), nI_add]
    simp only [Option.bind_some, mo_sign_eq, mo_mark_eq, eE]
    rw [if_neg (by decide), show (-(nI 256)) / (2 : Int32) = iI (-128) by decide, show nI 256 / (2 : Int32) = iI 128 by decide]
    by_cases h1 : Y + K ≤ X
    · rw [if_pos ((nI_leI (by omega) (by omega)).mpr h1), decide_eq_false (not_not_intro h1)]
      by_cases h2 : s8_ X - s8_ Y - K < -128
      · rw [if_pos ((iI_lt (by omega) (by omega) (by omega) (by omega)).mpr h2), decide_eq_true (mt key.mp (not_not_intro (Or.inl h2)))]
      · rw [if_neg (fun q => h2 ((iI_lt (by omega) (by omega) (by omega) (by omega)).mp q))]
        by_cases h3 : 128 ≤ s8_ X - s8_ Y - K
        · rw [if_neg (fun q => by have := (iI_lt (by omega) (by omega) (by omega) (by omega)).mp q; omega), decide_eq_true (mt key.mp (not_not_intro (Or.inr h3)))]
        · rw [if_pos ((iI_lt (by omega) (by omega) (by omega) (by omega)).mpr (by omega)), decide_eq_false (not_not_intro (key.mpr (by omega)))]
    · rw [if_neg (fun q => h1 ((nI_leI (by omega) (by omega)).mp q)), decide_eq_true h1]
      by_cases h2 : s8_ X - s8_ Y - K < -128
      · rw [if_pos ((iI_lt (by omega) (by omega) (by omega) (by omega)).mpr h2), decide_eq_true (mt key.mp (not_not_intro (Or.inl h2)))]
      · rw [if_neg (fun q => h2 ((iI_lt (by omega) (by omega) (by omega) (by omega)).mp q))]
        by_cases h3 : 128 ≤ s8_ X - s8_ Y - K
        · rw [if_neg (fun q => by have := (iI_lt (by omega) (by omega) (by omega) (by omega)).mp q; omega), decide_eq_true (mt key.mp (not_not_intro (Or.inr h3)))]
        · rw [if_pos ((iI_lt (by omega) (by omega) (by omega) (by omega)).mpr (by omega)), decide_eq_false (not_not_intro (key.mpr (by omega)))]
theorem num16 {n : Nat} (h : n < 65536) : mo_number (nI n) 16 = some (iI (s16_ n)) := by
  unfold mo_number s16_
  rw [pk_shrN (by omega) _ 15 (by decide), show (1 : Int32) <<< ((16 : Int32) &&& 31) = iI 65536 by decide, ← nI_0]
  by_cases h2 : n < 32768
  · rw [if_pos ((nI_eq (by omega) (by decide)).mpr (by omega)), if_pos h2, nI_iI]
  · rw [if_neg (fun q => h2 (by have := (nI_eq (by omega) (by decide)).mp q; omega)), if_neg h2, nI_iI, iI_sub]
theorem sum16 {x y k c : Int32} (hx : rw_ x) (hy : rw_ y) (hk : k = 0 ∨ k = 1) (hc : rb_ c) (a b d x' y' u s p : Int32) : ∃ v c', tc_C_sum x y k 2 c = some (v, c') ∧ rw_ v ∧ rb_ c' ∧ mo_sum x y k 16 (rf_ a b d c x' y' u s p) = some (v, rf_ a b d c' x' y' u s p) := by
  obtain ⟨X, hX, rfl⟩ := hx
  obtain ⟨Y, hY, rfl⟩ := hy
  obtain ⟨K, hK, rfl⟩ : ∃ K : Nat, K ≤ 1 ∧ k = nI K := by
    rcases hk with rfl | rfl
    · exact ⟨0, by omega, by decide⟩
    · exact ⟨1, by omega, by decide⟩
  have hs1 : -32768 ≤ s16_ X ∧ s16_ X < 32768 := by unfold s16_; split <;> omega
  have hs2 : -32768 ≤ s16_ Y ∧ s16_ Y < 32768 := by unfold s16_; split <;> omega
  have hs3 : -32768 ≤ s16_ ((X + Y + K) % 65536) ∧ s16_ ((X + Y + K) % 65536) < 32768 := by unfold s16_; split <;> omega
  have eT : nI X + nI Y + nI K = nI (X + Y + K) := by rw [nI_add, nI_add]
  have eE : iI (s16_ X) + iI (s16_ Y) + nI K = iI (s16_ X + s16_ Y + K) := by rw [nI_iI, iI_add, iI_add]
  have hv : rw_ (nI ((X + Y + K) % 65536)) := ⟨_, Nat.mod_lt _ (by decide), rfl⟩
  have key : (s16_ X + s16_ Y + K = s16_ ((X + Y + K) % 65536)) ↔ ¬ (s16_ X + s16_ Y + K < -32768 ∨ 32768 ≤ s16_ X + s16_ Y + K) := by
    unfold s16_
    split <;> split <;> split <;> omega
  have so := so16 hv
  refine ⟨nI ((X + Y + K) % 65536), mk_ 2 (decide (¬ (s16_ X + s16_ Y + K = s16_ ((X + Y + K) % 65536)))) (mk_ 1 (decide (65536 ≤ X + Y + K)) (mk_ 4 (sz_ (nI ((X + Y + K) % 65536)) 16) (mk_ 8 (sn_ (nI ((X + Y + K) % 65536)) 16) c))), ?_, hv, rb_mk2 (rb_mk1 (rb_mk4 (rb_mk8 hc _) _) _) _, ?_⟩
  · rw [fl4 hc _ _ _ _ so.2]
    unfold tc_C_sum tc_C_sum_j42 tc_C_sum_j73 tc_G_setFlags
    rw [show tc_C_maskOf 2 = some 65535 from rfl, Option.bind_some, eT, pk_andN (by omega) 16 (by decide), show (2 : Nat) ^ 16 = 65536 by decide, so.1, Option.bind_some]
    simp only [tc_signed2, Option.bind_some, t16_ hX, t16_ hY, t16_ (Nat.mod_lt (X + Y + K) (show 0 < 65536 by decide)), eE]
    rw [show (65535 : Int32) = nI 65535 by decide]
    by_cases h1 : 65536 ≤ X + Y + K <;> by_cases h2 : s16_ X + s16_ Y + K = s16_ ((X + Y + K) % 65536)
    · rw [if_neg (by rw [nI_leI (by omega) (by omega)]; omega), if_pos ((iI_eq (by omega) (by omega) (by omega) (by omega)).mpr h2), decide_eq_true h1, decide_eq_false (not_not_intro h2)]
      rfl
    · rw [if_neg (by rw [nI_leI (by omega) (by omega)]; omega), if_neg (fun q => h2 ((iI_eq (by omega) (by omega) (by omega) (by omega)).mp q)), decide_eq_true h1, decide_eq_true h2]
      rfl
    · rw [if_pos (by rw [nI_leI (by omega) (by omega)]; omega), if_pos ((iI_eq (by omega) (by omega) (by omega) (by omega)).mpr h2), decide_eq_false h1, decide_eq_false (not_not_intro h2)]
      rfl
    · rw [if_pos (by rw [nI_leI (by omega) (by omega)]; omega), if_neg (fun q => h2 ((iI_eq (by omega) (by omega) (by omega) (by omega)).mp q)), decide_eq_false h1, decide_eq_true h2]
      rfl
  · unfold mo_sum mo_sum_j58 mo_sum_j82 mo_sum_j87
    rw [num16 hX, num16 hY, show (1 : Int32) <<< ((16 : Int32) &&& 31) = nI 65536 by decide, eT, pk_rem (by omega) (by decide) (by decide)]
    simp only [Option.bind_some, mo_sign_eq, mo_mark_eq, eE]
    rw [if_neg (by decide), show (-(nI 65536)) / (2 : Int32) = iI (-32768) by decide, show nI 65536 / (2 : Int32) = iI 32768 by decide]
    by_cases h1 : 65536 ≤ X + Y + K
    · rw [if_neg (by rw [nI_ltI (by omega) (by omega)]; omega), decide_eq_true h1]
      by_cases h2 : s16_ X + s16_ Y + K < -32768
      · rw [if_pos ((iI_lt (by omega) (by omega) (by omega) (by omega)).mpr h2), decide_eq_true (mt key.mp (not_not_intro (Or.inl h2)))]
      · rw [if_neg (fun q => h2 ((iI_lt (by omega) (by omega) (by omega) (by omega)).mp q))]
        by_cases h3 : 32768 ≤ s16_ X + s16_ Y + K
        · rw [if_neg (fun q => by have := (iI_lt (by omega) (by omega) (by omega) (by omega)).mp q; omega), decide_eq_true (mt key.mp (not_not_intro (Or.inr h3)))]
        · rw [if_pos ((iI_lt (by omega) (by omega) (by omega) (by omega)).mpr (by omega)), decide_eq_false (not_not_intro (key.mpr (by omega)))]
    · rw [if_pos (by rw [nI_ltI (by omega) (by omega)]; omega), decide_eq_false h1]
      by_cases h2 : s16_ X + s16_ Y + K < -32768
      · rw [if_pos ((iI_lt (by omega) (by omega) (by omega) (by omega)).mpr h2), decide_eq_true (mt key.mp (not_not_intro (Or.inl h2)))]
      · rw [if_neg (fun q => h2 ((iI_lt (by omega) (by omega) (by omega) (by omega)).mp q))]
        by_cases h3 : 32768 ≤ s16_ X + s16_ Y + K
        · rw [if_neg (fun q => by have := (iI_lt (by omega) (by omega) (by omega) (by omega)).mp q; omega), decide_eq_true (mt key.mp (not_not_intro (Or.inr h3)))]
        · rw [if_pos ((iI_lt (by omega) (by omega) (by omega) (by omega)).mpr (by omega)), decide_eq_false (not_not_intro (key.mpr (by omega)))]
theorem and_a16 (w : Int32) : (w + nI (2 * 65536)) &&& 65535 = w &&& 65535 := by
  rw [and_w, and_w w]
  refine congrArg nI ?_
  rw [Int32.toBitVec_add, BitVec.toNat_add, show (nI (2 * 65536)).toBitVec.toNat = 2 * 65536 from pk_tn (by decide)]
  omega
theorem diff16 {x y k c : Int32} (hx : rw_ x) (hy : rw_ y) (hk : k = 0 ∨ k = 1) (hc : rb_ c) (a b d x' y' u s p : Int32) : ∃ v c', tc_C_difference x y k 2 c = some (v, c') ∧ rw_ v ∧ rb_ c' ∧ mo_difference x y k 16 (rf_ a b d c x' y' u s p) = some (v, rf_ a b d c' x' y' u s p) ∧ ∃ V q : Bool, c' = mk_ 2 V (mk_ 1 q (mk_ 4 (sz_ v 16) (mk_ 8 (sn_ v 16) c))) := by
  obtain ⟨X, hX, rfl⟩ := hx
  obtain ⟨Y, hY, rfl⟩ := hy
  obtain ⟨K, hK, rfl⟩ : ∃ K : Nat, K ≤ 1 ∧ k = nI K := by
    rcases hk with rfl | rfl
    · exact ⟨0, by omega, by decide⟩
    · exact ⟨1, by omega, by decide⟩
  obtain ⟨T, hT⟩ : ∃ T : Nat, T = X + 2 * 65536 - Y - K := ⟨_, rfl⟩
  have hs1 : -32768 ≤ s16_ X ∧ s16_ X < 32768 := by unfold s16_; split <;> omega
  have hs2 : -32768 ≤ s16_ Y ∧ s16_ Y < 32768 := by unfold s16_; split <;> omega
  have hs3 : -32768 ≤ s16_ (T % 65536) ∧ s16_ (T % 65536) < 32768 := by unfold s16_; split <;> omega
  have eT : nI X - nI Y - nI K + nI (2 * 65536) = nI T := by
    rw [nI_iI, nI_iI, nI_iI, nI_iI, nI_iI, iI_sub, iI_sub, iI_add]
    congr 1
    omega
  have eA : (nI X - nI Y - nI K) &&& 65535 = nI (T % 65536) := by
    rw [← and_a16, eT, pk_andN (by omega) 16 (by decide)]
  have eE : iI (s16_ X) - iI (s16_ Y) - nI K = iI (s16_ X - s16_ Y - K) := by rw [nI_iI, iI_sub, iI_sub]
  have hv : rw_ (nI (T % 65536)) := ⟨_, Nat.mod_lt _ (by decide), rfl⟩
  have key : (s16_ X - s16_ Y - K = s16_ (T % 65536)) ↔ ¬ (s16_ X - s16_ Y - K < -32768 ∨ 32768 ≤ s16_ X - s16_ Y - K) := by
    unfold s16_
    split <;> split <;> split <;> omega
  have so := so16 hv
  refine ⟨nI (T % 65536), mk_ 2 (decide (¬ (s16_ X - s16_ Y - K = s16_ (T % 65536)))) (mk_ 1 (decide (¬ (Y + K ≤ X))) (mk_ 4 (sz_ (nI (T % 65536)) 16) (mk_ 8 (sn_ (nI (T % 65536)) 16) c))), ?_, hv, rb_mk2 (rb_mk1 (rb_mk4 (rb_mk8 hc _) _) _) _, ?_, _, _, rfl⟩
  · rw [fl4 hc _ _ _ _ so.2]
    unfold tc_C_difference tc_C_difference_j35 tc_C_difference_j66 tc_G_setFlags
    rw [show tc_C_maskOf 2 = some 65535 from rfl, Option.bind_some, eA, so.1, Option.bind_some, nI_add]
    simp only [tc_signed2, Option.bind_some, t16_ hX, t16_ hY, t16_ (Nat.mod_lt T (show 0 < 65536 by decide)), eE]
    by_cases h1 : Y + K ≤ X <;> by_cases h2 : s16_ X - s16_ Y - K = s16_ (T % 65536)
    · rw [if_pos ((nI_leI (by omega) (by omega)).mpr h1), if_pos ((iI_eq (by omega) (by omega) (by omega) (by omega)).mpr h2), decide_eq_false (not_not_intro h1), decide_eq_false (not_not_intro h2)]
      rfl
    · rw [if_pos ((nI_leI (by omega) (by omega)).mpr h1), if_neg (fun q => h2 ((iI_eq (by omega) (by omega) (by omega) (by omega)).mp q)), decide_eq_false (not_not_intro h1), decide_eq_true h2]
      rfl
    · rw [if_neg (fun q => h1 ((nI_leI (by omega) (by omega)).mp q)), if_pos ((iI_eq (by omega) (by omega) (by omega) (by omega)).mpr h2), decide_eq_true h1, decide_eq_false (not_not_intro h2)]
      rfl
    · rw [if_neg (fun q => h1 ((nI_leI (by omega) (by omega)).mp q)), if_neg (fun q => h2 ((iI_eq (by omega) (by omega) (by omega) (by omega)).mp q)), decide_eq_true h1, decide_eq_true h2]
      rfl
  · unfold mo_difference mo_difference_j60 mo_difference_j84 mo_difference_j89
    rw [num16 hX, num16 hY, show (1 : Int32) <<< ((16 : Int32) &&& 31) = nI 65536 by decide, show (2 : Int32) * nI 65536 = nI (2 * 65536) by decide, eT, pk_rem (by omega) (by decide) (by decide), nI_add]
    simp only [Option.bind_some, mo_sign_eq, mo_mark_eq, eE]
    rw [if_neg (by decide), show (-(nI 65536)) / (2 : Int32) = iI (-32768) by decide, show nI 65536 / (2 : Int32) = iI 32768 by decide]
    by_cases h1 : Y + K ≤ X
    · rw [if_pos ((nI_leI (by omega) (by omega)).mpr h1), decide_eq_false (not_not_intro h1)]
      by_cases h2 : s16_ X - s16_ Y - K < -32768
      · rw [if_pos ((iI_lt (by omega) (by omega) (by omega) (by omega)).mpr h2), decide_eq_true (mt key.mp (not_not_intro (Or.inl h2)))]
      · rw [if_neg (fun q => h2 ((iI_lt (by omega) (by omega) (by omega) (by omega)).mp q))]
        by_cases h3 : 32768 ≤ s16_ X - s16_ Y - K
        · rw [if_neg (fun q => by have := (iI_lt (by omega) (by omega) (by omega) (by omega)).mp q; omega), decide_eq_true (mt key.mp (not_not_intro (Or.inr h3)))]
        · rw [if_pos ((iI_lt (by omega) (by omega) (by omega) (by omega)).mpr (by omega)), decide_eq_false (not_not_intro (key.mpr (by omega)))]
    · rw [if_neg (fun q => h1 ((nI_leI (by omega) (by omega)).mp q)), decide_eq_true h1]
      by_cases h2 : s16_ X - s16_ Y - K < -32768
      · rw [if_pos ((iI_lt (by omega) (by omega) (by omega) (by omega)).mpr h2), decide_eq_true (mt key.mp (not_not_intro (Or.inl h2)))]
      · rw [if_neg (fun q => h2 ((iI_lt (by omega) (by omega) (by omega) (by omega)).mp q))]
        by_cases h3 : 32768 ≤ s16_ X - s16_ Y - K
        · rw [if_neg (fun q => by have := (iI_lt (by omega) (by omega) (by omega) (by omega)).mp q; omega), decide_eq_true (mt key.mp (not_not_intro (Or.inr h3)))]
        · rw [if_pos ((iI_lt (by omega) (by omega) (by omega) (by omega)).mpr (by omega)), decide_eq_false (not_not_intro (key.mpr (by omega)))]
end
section
/-! Changes of one operand: the class's changed, the reference's changed. -/
def kc_ (k : Int32) : Prop := k = 0 ∨ k = 3 ∨ k = 4 ∨ k = 6 ∨ k = 7 ∨ k = 8 ∨ k = 9 ∨ k = 10 ∨ k = 12 ∨ k = 13 ∨ k = 15
def cy_ (c : Int32) : Bool := decide (¬ (c &&& 1) = 0)
theorem mo_flag_eq (bit : Int32) (a b d c x y u s p : Int32) : mo_flag bit (rf_ a b d c x y u s p) = some (decide (¬ (c &&& bit) = 0)) := by
  unfold mo_flag
  show (if (c &&& bit) = 0 then _ else _) = _
  by_cases h : (c &&& bit) = 0
  · rw [if_pos h, decide_eq_false (not_not_intro h)]
  · rw [if_neg h, decide_eq_true h]
theorem cy_all : ∀ m, m < 256 → nI m &&& 1 = bz_i (cy_ (nI m)) := by decide +kernel
theorem cy_eq {c : Int32} (h : rb_ c) : c &&& 1 = bz_i (cy_ c) := by
  obtain ⟨m, h1, rfl⟩ := h
  exact cy_all m h1
theorem mo_changed_eq (k m : Int32) (a b d c x y u s p : Int32) : mo_changed k m (rf_ a b d c x y u s p) = mo_changed_j13 k m (cy_ c) (rf_ a b d c x y u s p) := by
  unfold mo_changed cy_
  rw [mo_flag_eq, Option.bind_some]
  by_cases h : (c &&& 1) = 0
  · rw [decide_eq_false (not_not_intro h)]; rfl
  · rw [decide_eq_true h]; rfl
section CH
variable (a b d c x y u s p : Int32)
theorem sr_eq (k m v : Int32) (hk : k = 4 ∨ k = 6 ∨ k = 7) : mo_changed_j187 k m v (rf_ a b d c x y u s p) = some (v, rf_ a b d (mk_ 1 (decide ((m &&& 1) = 1)) (mk_ 4 (sz_ v 8) (mk_ 8 (sn_ v 8) c))) x y u s p) := by
  have e : mo_changed_j187 k m v (rf_ a b d c x y u s p) = (mo_sign v 8 (rf_ a b d c x y u s p)).bind fun z => if (m &&& 1) = 1 then (mo_mark 1 true z).bind fun w => some (v, w) else (mo_mark 1 false z).bind fun w => some (v, w) := by
    rcases hk with rfl | rfl | rfl <;> rfl
  rw [e, mo_sign_eq, Option.bind_some]
  by_cases h : (m &&& 1) = 1
  · rw [if_pos h, mo_mark_eq, decide_eq_true h]; rfl
  · rw [if_neg h, mo_mark_eq, decide_eq_false h]; rfl
theorem sl_eq (k m v : Int32) (hk : k = 8 ∨ k = 9) : mo_changed_j187 k m v (rf_ a b d c x y u s p) = some (v, rf_ a b d (mk_ 2 (decide (¬ decide (¬ (mk_ 1 (decide (¬ m ≤ 127)) (mk_ 4 (sz_ v 8) (mk_ 8 (sn_ v 8) c)) &&& 8) = 0) = decide (¬ (mk_ 1 (decide (¬ m ≤ 127)) (mk_ 4 (sz_ v 8) (mk_ 8 (sn_ v 8) c)) &&& 1) = 0))) (mk_ 1 (decide (¬ m ≤ 127)) (mk_ 4 (sz_ v 8) (mk_ 8 (sn_ v 8) c)))) x y u s p) := by
  have e : mo_changed_j187 k m v (rf_ a b d c x y u s p) = (mo_sign v 8 (rf_ a b d c x y u s p)).bind fun z => if m ≤ 127 then mo_changed_j273 k m v false z else mo_changed_j273 k m v true z := by
    rcases hk with rfl | rfl <;> rfl
  have e2 : ∀ t z, mo_changed_j297 k m v t z = (mo_mark 2 t z).bind fun w => some (v, w) := by
    rcases hk with rfl | rfl <;> (intro t z; rfl)
  have e3 : ∀ (q : Bool) (c1 : Int32), mo_changed_j273 k m v q (rf_ a b d c1 x y u s p) = some (v, rf_ a b d (mk_ 2 (decide (¬ decide (¬ (mk_ 1 q c1 &&& 8) = 0) = decide (¬ (mk_ 1 q c1 &&& 1) = 0))) (mk_ 1 q c1)) x y u s p) := by
    intro q c1
    unfold mo_changed_j273
    rw [mo_mark_eq, Option.bind_some, mo_flag_eq, Option.bind_some, mo_flag_eq, Option.bind_some, e2, e2, mo_mark_eq, mo_mark_eq]
    cases decide (¬ (mk_ 1 q c1 &&& 8) = 0) <;> cases decide (¬ (mk_ 1 q c1 &&& 1) = 0) <;> rfl
  rw [e, mo_sign_eq, Option.bind_some, e3, e3]
  by_cases h : m ≤ 127
  · rw [if_pos h, decide_eq_false (not_not_intro h)]
  · rw [if_neg h, decide_eq_true h]
theorem dc_eq (m v : Int32) : mo_changed_j187 10 m v (rf_ a b d c x y u s p) = some (v, rf_ a b d (mk_ 2 (decide (m = 128)) (mk_ 4 (sz_ v 8) (mk_ 8 (sn_ v 8) c))) x y u s p) := by
  have e : mo_changed_j187 10 m v (rf_ a b d c x y u s p) = (mo_sign v 8 (rf_ a b d c x y u s p)).bind fun z => if m = 128 then (mo_mark 2 true z).bind fun w => some (v, w) else (mo_mark 2 false z).bind fun w => some (v, w) := rfl
  rw [e, mo_sign_eq, Option.bind_some]
  by_cases h : m = 128
  · rw [if_pos h, mo_mark_eq, decide_eq_true h]; rfl
  · rw [if_neg h, mo_mark_eq, decide_eq_false h]; rfl
theorem ic_eq (m v : Int32) : mo_changed_j187 12 m v (rf_ a b d c x y u s p) = some (v, rf_ a b d (mk_ 2 (decide (m = 127)) (mk_ 4 (sz_ v 8) (mk_ 8 (sn_ v 8) c))) x y u s p) := by
  have e : mo_changed_j187 12 m v (rf_ a b d c x y u s p) = (mo_sign v 8 (rf_ a b d c x y u s p)).bind fun z => if m = 127 then (mo_mark 2 true z).bind fun w => some (v, w) else (mo_mark 2 false z).bind fun w => some (v, w) := rfl
  rw [e, mo_sign_eq, Option.bind_some]
  by_cases h : m = 127
  · rw [if_pos h, mo_mark_eq, decide_eq_true h]; rfl
  · rw [if_neg h, mo_mark_eq, decide_eq_false h]; rfl
theorem pl_eq (k m v : Int32) (hk : k = 0 ∨ k = 13) : mo_changed_j187 k m v (rf_ a b d c x y u s p) = some (v, rf_ a b d (mk_ 4 (sz_ v 8) (mk_ 8 (sn_ v 8) c)) x y u s p) := by
  have e : mo_changed_j187 k m v (rf_ a b d c x y u s p) = (mo_sign v 8 (rf_ a b d c x y u s p)).bind fun z => some (v, z) := by
    rcases hk with rfl | rfl <;> rfl
  rw [e, mo_sign_eq, Option.bind_some]
theorem cm_eq3 (m v : Int32) : mo_changed_j187 3 m v (rf_ a b d c x y u s p) = some (v, rf_ a b d (mk_ 1 true (mk_ 4 (sz_ v 8) (mk_ 8 (sn_ v 8) c))) x y u s p) := by
  have e : mo_changed_j187 3 m v (rf_ a b d c x y u s p) = (mo_sign v 8 (rf_ a b d c x y u s p)).bind fun z => (mo_mark 1 true z).bind fun w => some (v, w) := rfl
  rw [e, mo_sign_eq, Option.bind_some, mo_mark_eq, Option.bind_some]
theorem cl_eq15 (m v : Int32) : mo_changed_j187 15 m v (rf_ a b d c x y u s p) = some (v, rf_ a b d (mk_ 1 false (mk_ 4 (sz_ v 8) (mk_ 8 (sn_ v 8) c))) x y u s p) := by
  have e : mo_changed_j187 15 m v (rf_ a b d c x y u s p) = (mo_sign v 8 (rf_ a b d c x y u s p)).bind fun z => (mo_mark 1 false z).bind fun w => some (v, w) := rfl
  rw [e, mo_sign_eq, Option.bind_some, mo_mark_eq, Option.bind_some]
end CH
theorem fl13_all : ∀ m, m < 256 → ∀ n z k : Bool, (z = true → n = false) → mk_ 1 k (mk_ 4 z (mk_ 8 n (nI m))) = (nI m &&& ((13 : Int32) ^^^ -1)) ||| (fl_ n z ||| bz_i k) := by decide +kernel
theorem fl14_all : ∀ m, m < 256 → ∀ n z v : Bool, (z = true → n = false) → mk_ 2 v (mk_ 4 z (mk_ 8 n (nI m))) = (nI m &&& ((14 : Int32) ^^^ -1)) ||| (fl_ n z ||| (bif v then 2 else 0)) := by decide +kernel
theorem fl15_all : ∀ m, m < 256 → ∀ n z k : Bool, (z = true → n = false) → mk_ 1 k (mk_ 4 z (mk_ 8 n (mk_ 2 false (mk_ 4 z (mk_ 8 n (nI m)))))) = (nI m &&& ((15 : Int32) ^^^ -1)) ||| (fl_ n z ||| bz_i k) := by decide +kernel
theorem flS_all : ∀ m, m < 256 → ∀ n z k : Bool, (z = true → n = false) → mk_ 2 (decide (¬ decide (¬ (mk_ 1 k (mk_ 4 z (mk_ 8 n (nI m))) &&& 8) = 0) = decide (¬ (mk_ 1 k (mk_ 4 z (mk_ 8 n (nI m))) &&& 1) = 0))) (mk_ 1 k (mk_ 4 z (mk_ 8 n (nI m)))) = (nI m &&& ((15 : Int32) ^^^ -1)) ||| ((fl_ n z ||| (bif n ^^ k then 2 else 0)) ||| bz_i k) := by decide +kernel
theorem flI_all : ∀ m, m < 256 → ∀ n z v k : Bool, mk_ 4 z (mk_ 8 n (mk_ 2 v (mk_ 1 k (mk_ 4 z (mk_ 8 n (nI m)))))) = mk_ 2 v (mk_ 1 k (mk_ 4 z (mk_ 8 n (nI m)))) := by decide +kernel
theorem flJ_all : ∀ m, m < 256 → ∀ n z v : Bool, mk_ 4 z (mk_ 8 n (mk_ 2 v (mk_ 4 z (mk_ 8 n (nI m))))) = mk_ 2 v (mk_ 4 z (mk_ 8 n (nI m))) := by decide +kernel
end
section
theorem sr_all : ∀ n, n < 256 → (nI n >>> ((1 : Int32) &&& 31)) ||| 0 = nI n / 2 ∧ (nI n >>> ((1 : Int32) &&& 31)) ||| (nI n &&& 128) = nI n / 2 + (nI n &&& 128) ∧ (∀ q : Bool, (nI n >>> ((1 : Int32) &&& 31)) ||| (bz_i q <<< ((7 : Int32) &&& 31)) = nI n / 2 + 128 * bz_i q) ∧ (nI n / 2).toBitVec.toNat < 256 ∧ (nI n / 2 + (nI n &&& 128)).toBitVec.toNat < 256 ∧ (∀ q : Bool, (nI n / 2 + 128 * bz_i q).toBitVec.toNat < 256) ∧ nI n &&& 1 = bz_i (decide ((nI n &&& 1) = 1)) := by decide +kernel
theorem sl_all : ∀ n, n < 256 → ∀ q : Bool, ((nI n <<< ((1 : Int32) &&& 31)) &&& 255) ||| bz_i q = ((2 * nI n) &&& 255) + bz_i q ∧ (((2 * nI n) &&& 255) + bz_i q).toBitVec.toNat < 256 ∧ nI n >>> ((7 : Int32) &&& 31) = bz_i (decide (¬ nI n ≤ 127)) ∧ ((((((2 * nI n) &&& 255) + bz_i q) >>> ((7 : Int32) &&& 31)) ^^^ (nI n >>> ((7 : Int32) &&& 31))) = 1 ↔ (sn_ (((2 * nI n) &&& 255) + bz_i q) 8 ^^ decide (¬ nI n ≤ 127)) = true) := by decide +kernel
theorem ot_all : ∀ n, n < 256 → (255 : Int32) - nI n = nI n ^^^ 255 ∧ (nI n ^^^ 255).toBitVec.toNat < 256 ∧ (nI n - 1) &&& 255 = (nI n + 255) &&& 255 := by decide +kernel
theorem fl13 {c : Int32} (h : rb_ c) (n z k : Bool) (hz : z = true → n = false) : mk_ 1 k (mk_ 4 z (mk_ 8 n c)) = (c &&& ((13 : Int32) ^^^ -1)) ||| (fl_ n z ||| bz_i k) := by
  obtain ⟨m, h1, rfl⟩ := h
  exact fl13_all m h1 n z k hz
/-- shifts to the right -/
theorem sr_ok {m c h v : Int32} (hm : rb_ m) (hc : rb_ c) (hv : (m >>> ((1 : Int32) &&& 31)) ||| h = v) (hb : rb_ v) : tc_C_shiftRight m h c = some (v, mk_ 1 (decide ((m &&& 1) = 1)) (mk_ 4 (sz_ v 8) (mk_ 8 (sn_ v 8) c))) := by
  unfold tc_C_shiftRight tc_G_setFlags
  rw [hv, (so8 hb).1, Option.bind_some, Option.bind_some, fl13 hc _ _ _ (so8 hb).2]
  obtain ⟨n, h1, rfl⟩ := hm
  rw [← (sr_all n h1).2.2.2.2.2.2]
theorem sl_ok {m c : Int32} {q : Bool} (hm : rb_ m) (hc : rb_ c) : tc_C_shiftLeft m (bz_i q) c = some (((2 * m) &&& 255) + bz_i q, mk_ 2 (decide (¬ decide (¬ (mk_ 1 (decide (¬ m ≤ 127)) (mk_ 4 (sz_ (((2 * m) &&& 255) + bz_i q) 8) (mk_ 8 (sn_ (((2 * m) &&& 255) + bz_i q) 8) c)) &&& 8) = 0) = decide (¬ (mk_ 1 (decide (¬ m ≤ 127)) (mk_ 4 (sz_ (((2 * m) &&& 255) + bz_i q) 8) (mk_ 8 (sn_ (((2 * m) &&& 255) + bz_i q) 8) c)) &&& 1) = 0))) (mk_ 1 (decide (¬ m ≤ 127)) (mk_ 4 (sz_ (((2 * m) &&& 255) + bz_i q) 8) (mk_ 8 (sn_ (((2 * m) &&& 255) + bz_i q) 8) c)))) := by
  obtain ⟨n, h1, rfl⟩ := hm
  obtain ⟨k, h2, rfl⟩ := hc
  obtain ⟨e1, e2, e3, e4⟩ := sl_all n h1 q
  have hb : rb_ (((2 * nI n) &&& 255) + bz_i q) := rb_of e2
  rw [flS_all k h2 _ _ _ (so8 hb).2]
  unfold tc_C_shiftLeft tc_C_shiftLeft_j32 tc_G_setFlags
  rw [e1, (so8 hb).1]
  simp only [Option.bind_some]
  by_cases h : ((((((2 * nI n) &&& 255) + bz_i q) >>> ((7 : Int32) &&& 31)) ^^^ (nI n >>> ((7 : Int32) &&& 31))) = 1)
  · rw [if_pos h, e4.mp h, e3]
    rfl
  · rw [if_neg h, eq_false_of_ne_true (fun z => h (e4.mpr z)), e3]
    rfl
theorem ch_ok {k m c : Int32} (hk : kc_ k) (hm : rb_ m) (hc : rb_ c) (a b d x y u s p : Int32) : ∃ v c', tc_P_changed k m c = some (v, c') ∧ rb_ v ∧ rb_ c' ∧ mo_changed k m (rf_ a b d c x y u s p) = some (v, rf_ a b d c' x y u s p) := by
  rw [mo_changed_eq]
  have hcy := cy_eq hc
  rcases hk with rfl | rfl | rfl | rfl | rfl | rfl | rfl | rfl | rfl | rfl | rfl
  · obtain ⟨v, c', h1, h2, h3, h4, V, q, h5⟩ := diff8 rb_0 hm (Or.inl rfl) hc a b d x y u s p
    refine ⟨v, c', ?_, h2, h3, ?_⟩
    · show ((tc_C_difference 0 m 0 1 c).bind _) = _
      rw [h1]; rfl
    · show ((mo_difference 0 m 0 8 _).bind _) = _
      rw [h4, Option.bind_some, pl_eq _ _ _ _ _ _ _ _ _ 0 m v (Or.inl rfl), h5]
      obtain ⟨n, hn, rfl⟩ := hc
      rw [flI_all n hn]
  · obtain ⟨n, h1, rfl⟩ := hm
    obtain ⟨e1, e2, e3⟩ := ot_all n h1
    have hb : rb_ (nI n ^^^ 255) := rb_of e2
    refine ⟨nI n ^^^ 255, mk_ 1 true (mk_ 4 (sz_ (nI n ^^^ 255) 8) (mk_ 8 (sn_ (nI n ^^^ 255) 8) (mk_ 2 false (mk_ 4 (sz_ (nI n ^^^ 255) 8) (mk_ 8 (sn_ (nI n ^^^ 255) 8) c))))), ?_, hb, rb_mk1 (rb_mk4 (rb_mk8 (rb_mk2 (rb_mk4 (rb_mk8 hc _) _) _) _) _) _, ?_⟩
    · obtain ⟨j, h2, rfl⟩ := hc
      rw [fl15_all j h2 _ _ _ (so8 hb).2]
      show ((tc_C_plainWithCarry _ 1 _).bind _) = _
      unfold tc_C_plainWithCarry tc_G_setFlags
      rw [(so8 hb).1]
      rfl
    · show ((mo_plain (255 - nI n) 8 _).bind _) = _
      rw [e1, mo_plain_eq, Option.bind_some, cm_eq3]
  · obtain ⟨n, h1, rfl⟩ := hm
    obtain ⟨e1, e2, e3, e4, e5, e6, e7⟩ := sr_all n h1
    refine ⟨_, _, ?_, rb_of e4, rb_mk1 (rb_mk4 (rb_mk8 hc _) _) _, sr_eq _ _ _ _ _ _ _ _ _ 4 _ _ (Or.inl rfl)⟩
    show ((tc_C_shiftRight _ 0 _).bind _) = _
    rw [sr_ok ⟨n, h1, rfl⟩ hc e1 (rb_of e4)]
    rfl
  · obtain ⟨n, h1, rfl⟩ := hm
    obtain ⟨e1, e2, e3, e4, e5, e6, e7⟩ := sr_all n h1
    refine ⟨_, _, ?_, rb_of (e6 (cy_ c)), rb_mk1 (rb_mk4 (rb_mk8 hc _) _) _, sr_eq _ _ _ _ _ _ _ _ _ 6 _ _ (Or.inr (Or.inl rfl))⟩
    have e : tc_P_changed 6 (nI n) c = (tc_C_shiftRight (nI n) ((c &&& 1) <<< ((7 : Int32) &&& 31)) c).bind fun z26 => some (z26.1, z26.2) := rfl
    rw [e, hcy, sr_ok ⟨n, h1, rfl⟩ hc (e3 (cy_ c)) (rb_of (e6 (cy_ c)))]
    rfl
  · obtain ⟨n, h1, rfl⟩ := hm
    obtain ⟨e1, e2, e3, e4, e5, e6, e7⟩ := sr_all n h1
    refine ⟨_, _, ?_, rb_of e5, rb_mk1 (rb_mk4 (rb_mk8 hc _) _) _, sr_eq _ _ _ _ _ _ _ _ _ 7 _ _ (Or.inr (Or.inr rfl))⟩
    show ((tc_C_shiftRight _ _ _).bind _) = _
    rw [sr_ok ⟨n, h1, rfl⟩ hc e2 (rb_of e5)]
    rfl
  · have hz : ((2 * m) &&& 255) + bz_i false = (2 * m) &&& 255 := Int32.add_zero _
    refine ⟨_, _, ?_, ?_, ?_, sl_eq _ _ _ _ _ _ _ _ _ 8 _ _ (Or.inl rfl)⟩
    · show ((tc_C_shiftLeft m (bz_i false) _).bind _) = _
      rw [sl_ok hm hc, hz]
      rfl
    · exact rb_and _
    · exact rb_mk2 (rb_mk1 (rb_mk4 (rb_mk8 hc _) _) _) _
  · refine ⟨_, _, ?_, ?_, ?_, sl_eq _ _ _ _ _ _ _ _ _ 9 _ _ (Or.inr rfl)⟩
    · have e : tc_P_changed 9 m c = (tc_C_shiftLeft m (c &&& 1) c).bind fun z26 => some (z26.1, z26.2) := rfl
      rw [e, hcy, sl_ok hm hc]
      rfl
    · obtain ⟨n, h1, rfl⟩ := hm
      exact rb_of (sl_all n h1 (cy_ c)).2.1
    · exact rb_mk2 (rb_mk1 (rb_mk4 (rb_mk8 hc _) _) _) _
  · obtain ⟨n, h1, rfl⟩ := hm
    obtain ⟨e1, e2, e3⟩ := ot_all n h1
    refine ⟨_, _, ?_, rb_and _, rb_mk2 (rb_mk4 (rb_mk8 hc _) _) _, dc_eq _ _ _ _ _ _ _ _ _ _ _⟩
    obtain ⟨j, h2, rfl⟩ := hc
    rw [fl14_all j h2 _ _ _ (so8 (rb_and _)).2]
    show ((tc_C_decrement _ _).bind _) = _
    unfold tc_C_decrement tc_C_decrement_j31 tc_G_setFlags
    rw [e3, (so8 (rb_and _)).1]
    simp only [Option.bind_some]
    by_cases h : nI n = 128
    · rw [if_pos h, decide_eq_true h]; rfl
    · rw [if_neg h, decide_eq_false h]; rfl
  · obtain ⟨n, h1, rfl⟩ := hm
    refine ⟨_, _, ?_, rb_and _, rb_mk2 (rb_mk4 (rb_mk8 hc _) _) _, ic_eq _ _ _ _ _ _ _ _ _ _ _⟩
    obtain ⟨j, h2, rfl⟩ := hc
    rw [fl14_all j h2 _ _ _ (so8 (rb_and _)).2]
    show ((tc_C_increment _ _).bind _) = _
    unfold tc_C_increment tc_C_increment_j30 tc_G_setFlags
    rw [(so8 (rb_and _)).1]
    simp only [Option.bind_some]
    by_cases h : nI n = 127
    · rw [if_pos h, decide_eq_true h]; rfl
    · rw [if_neg h, decide_eq_false h]; rfl
  · obtain ⟨c', h1, h2, h3⟩ := plain8 hm hc a b d x y u s p
    have h4 := mo_plain_eq a b d c x y u s p m 8
    refine ⟨m, mk_ 2 false (mk_ 4 (sz_ m 8) (mk_ 8 (sn_ m 8) c)), ?_, hm, rb_mk2 (rb_mk4 (rb_mk8 hc _) _) _, ?_⟩
    · show ((tc_C_plain _ 1 _).bind _) = _
      unfold tc_C_plain tc_G_setFlags
      rw [(so8 hm).1, fl3 hc _ _ (so8 hm).2]
      rfl
    · show ((mo_plain m 8 _).bind _) = _
      rw [h4, Option.bind_some, pl_eq _ _ _ _ _ _ _ _ _ 13 m m (Or.inr rfl)]
      obtain ⟨n, hn, rfl⟩ := hc
      rw [flJ_all n hn]
  · refine ⟨0, mk_ 1 false (mk_ 4 (sz_ 0 8) (mk_ 8 (sn_ 0 8) (mk_ 2 false (mk_ 4 (sz_ 0 8) (mk_ 8 (sn_ 0 8) c))))), ?_, rb_0, rb_mk1 (rb_mk4 (rb_mk8 (rb_mk2 (rb_mk4 (rb_mk8 hc _) _) _) _) _) _, ?_⟩
    · obtain ⟨j, h2, rfl⟩ := hc
      rw [fl15_all j h2 _ _ _ (so8 rb_0).2]
      show ((tc_C_plainWithCarry 0 0 _).bind _) = _
      unfold tc_C_plainWithCarry tc_G_setFlags
      rw [(so8 rb_0).1]
      rfl
    · have e : ∀ rg, mo_changed_j13 15 m (cy_ c) rg = (mo_plain 0 8 rg).bind fun z37 => mo_changed_j187 15 m z37.1 z37.2 := fun rg => rfl
      rw [e, mo_plain_eq, Option.bind_some, cl_eq15]
end
section
/-! Operands: their addresses and values; what is done with a register and an operand. -/
def md_ (m : Int32) : Prop := m = 0 ∨ m = 1 ∨ m = 2 ∨ m = 3
theorem md_of (v : Int32) : md_ (v &&& 3) := c4 v
section OPA
variable {cb : Nat → Int32} {a b d c x y u s p : Int32}
theorem oa_ok (hB : okB cb) (ho : ok_ a b d c x y u s p) (mode size py : Int32) (hm : mode = 1 ∨ mode = 2 ∨ mode = 3) : ∃ z, tc_P_operandAddress mode size py (-1) cb a b d c x y u s p = some z ∧ ad_ok z (mo_address mode cb (rf_ a b d c x y u s p) py false) := by
  rcases hm with rfl | rfl | rfl
  · refine ⟨(256 * d + rd_ cb p, py + 1, -1, a, b, d, c, x, y, u, s, (p + 1) &&& 65535), ?_, Or.inl ⟨rfl, hl_rw ho.2.2.1 (rd_ok hB _), ok_p ho _, ?_⟩⟩
    · show ((tc_P_fetch 1 py cb p).bind _) = _
      rw [tc_fetch1, Option.bind_some, hl_eq ho.2.2.1 (rd_ok hB _)]
    · show ((mo_fetch cb _ py).bind _) = _
      rw [mo_fetch_eq]
      rfl
  · obtain ⟨z, h1, h2⟩ := ix_ok hB ho py
    refine ⟨z, ?_, h2⟩
    show ((tc_P_indexedAddress py (-1) cb a b d c x y u s p).bind _) = _
    rw [h1]
    rfl
  · refine ⟨(rd2_ cb p, py + 2, -1, a, b, d, c, x, y, u, s, (p + 2) &&& 65535), ?_, Or.inl ⟨rfl, rd2_ok hB _, ok_p ho _, ?_⟩⟩
    · show ((tc_P_fetch 2 py cb p).bind _) = _
      rw [tc_fetch2 hB]
      rfl
    · show ((mo_fetchWord cb _ py).bind _) = _
      rw [mo_fetchWord_eq]
      rfl
/-- the operand itself: address, then load (the class); operand (the reference) -/
theorem on_ok (hB : okB cb) (ho : ok_ a b d c x y u s p) (mode py : Int32) (word : Bool) (hm : md_ mode) : ∃ z, tc_P_operandAddress mode (bif word then 2 else 1) py (-1) cb a b d c x y u s p = some z ∧
    ((z.2.2.1 = -1 ∧ og_ z.2.2.2 ∧ ∃ m py', tc_P_load z.1 (bif word then 2 else 1) z.2.1 cb = some (m, py') ∧ (bif word then rw_ m else rb_ m) ∧ mo_operand mode word cb (rf_ a b d c x y u s p) py false = some (m, rg_ z.2.2.2, py', false)) ∨
     (z.2.2.1 = -2 ∧ ∃ (w : Int32) (g0 : R9) (sp : Int32), mo_operand mode word cb (rf_ a b d c x y u s p) py false = some (w, rg_ g0, sp, true))) := by
  rcases hm with rfl | hm
  · cases word with
    | false =>
      refine ⟨(p, py, -1, a, b, d, c, x, y, u, s, (p + 1) &&& 65535), rfl, Or.inl ⟨rfl, ok_p ho _, rd_ cb p, py + 1, ?_, rd_ok hB _, ?_⟩⟩
      · show ((tc_Y_load p 1 cb).bind _) = _
        rw [tc_load1]
        rfl
      · show ((mo_fetch cb _ py).bind _) = _
        rw [mo_fetch_eq]
        rfl
    | true =>
      refine ⟨(p, py, -1, a, b, d, c, x, y, u, s, (p + 2) &&& 65535), rfl, Or.inl ⟨rfl, ok_p ho _, rd2_ cb p, py + 2, ?_, rd2_ok hB _, ?_⟩⟩
      · show ((tc_Y_load p 2 cb).bind _) = _
        rw [tc_load2' hB]
        rfl
      · show ((mo_fetchWord cb _ py).bind _) = _
        rw [mo_fetchWord_eq]
        rfl
  · obtain ⟨z, h1, h2⟩ := oa_ok hB ho mode (bif word then 2 else 1) py hm
    refine ⟨z, h1, ?_⟩
    have e : mo_operand mode word cb (rf_ a b d c x y u s p) py false = (mo_address mode cb (rf_ a b d c x y u s p) py false).bind fun z5 => if (bz_i z5.2.2.2) = (0 : Int32) then (mo_load z5.1 word cb z5.2.2.1).bind fun z6 => some (z6.1, z5.2.1, z6.2, z5.2.2.2) else some ((0 : Int32), z5.2.1, z5.2.2.1, z5.2.2.2) := by
      unfold mo_operand
      rw [if_neg (by rcases hm with rfl | rfl | rfl <;> decide)]
    rw [e]
    rcases h2 with ⟨g1, g2, g3, g4⟩ | ⟨g1, w, rg, sp, g4⟩
    · refine Or.inl ⟨g1, g3, ?_⟩
      rw [g4]
      cases word with
      | false =>
        refine ⟨rd_ cb z.1, z.2.1 + 1, ?_, rd_ok hB _, ?_⟩
        · show ((tc_Y_load z.1 1 cb).bind _) = _
          rw [tc_load1]
          rfl
        · show ((mo_load z.1 false cb z.2.1).bind _) = _
          rw [mo_load1]
          rfl
      | true =>
        refine ⟨rd2_ cb z.1, z.2.1 + 2, ?_, rd2_ok hB _, ?_⟩
        · show ((tc_Y_load z.1 2 cb).bind _) = _
          rw [tc_load2' hB]
          rfl
        · show ((mo_load z.1 true cb z.2.1).bind _) = _
          rw [mo_load2]
          rfl
    · refine Or.inr ⟨g1, 0, rg, sp, ?_⟩
      rw [g4]
      rfl
end OPA
theorem rb_band {x y : Int32} (hx : rb_ x) (hy : rb_ y) : rb_ (x &&& y) := by
  obtain ⟨a, ha, rfl⟩ := hx
  obtain ⟨b, hb, rfl⟩ := hy
  exact ⟨a &&& b, Nat.lt_of_le_of_lt Nat.and_le_left ha, nx_and a b⟩
theorem rb_bor {x y : Int32} (hx : rb_ x) (hy : rb_ y) : rb_ (x ||| y) := by
  obtain ⟨a, ha, rfl⟩ := hx
  obtain ⟨b, hb, rfl⟩ := hy
  exact ⟨a ||| b, Nat.or_lt_two_pow (n := 8) ha hb, nI_or a b⟩
theorem rb_bxor {x y : Int32} (hx : rb_ x) (hy : rb_ y) : rb_ (x ^^^ y) := by
  obtain ⟨a, ha, rfl⟩ := hx
  obtain ⟨b, hb, rfl⟩ := hy
  exact ⟨a ^^^ b, Nat.xor_lt_two_pow (n := 8) ha hb, nx_xor a b⟩
def a8_ (k : Int32) : Prop := k = 0 ∨ k = 1 ∨ k = 2 ∨ k = 4 ∨ k = 5 ∨ k = 6 ∨ k = 8 ∨ k = 9 ∨ k = 10 ∨ k = 11
theorem cy_01 (q : Bool) : bz_i q = 0 ∨ bz_i q = 1 := by cases q; exact Or.inl rfl; exact Or.inr rfl
/-- a calculation in 8 bits: the class's calculate; the reference's byteOp behind its operand -/
theorem cal8 {k r m c : Int32} (hk : a8_ k) (hr : rb_ r) (hm : rb_ m) (hc : rb_ c) (q : Int32) (me : Nat → Int32) (a b d x y u s p sp : Int32) : ∃ v c', tc_P_calculate k r m 1 c = some (v, c') ∧ rb_ v ∧ rb_ c' ∧ mo_byteOp_j58 q k m r (cy_ c) me (rf_ a b d c x y u s p) sp false = mo_byteOp_j202 q k v me (rf_ a b d c' x y u s p) sp false := by
  have hcy := cy_eq hc
  rcases hk with rfl | rfl | rfl | rfl | rfl | rfl | rfl | rfl | rfl | rfl
  · obtain ⟨v, c', h1, h2, h3, h4, -⟩ := diff8 hr hm (Or.inl rfl) hc a b d x y u s p
    refine ⟨v, c', ?_, h2, h3, ?_⟩
    · show ((tc_C_difference r m 0 1 c).bind _) = _
      rw [h1]; rfl
    · show ((mo_difference r m 0 8 _).bind _) = _
      rw [h4]; rfl
  · obtain ⟨v, c', h1, h2, h3, h4, -⟩ := diff8 hr hm (Or.inl rfl) hc a b d x y u s p
    refine ⟨v, c', ?_, h2, h3, ?_⟩
    · show ((tc_C_difference r m 0 1 c).bind _) = _
      rw [h1]; rfl
    · show ((mo_difference r m 0 8 _).bind _) = _
      rw [h4]; rfl
  · obtain ⟨v, c', h1, h2, h3, h4, -⟩ := diff8 hr hm (cy_01 (cy_ c)) hc a b d x y u s p
    refine ⟨v, c', ?_, h2, h3, ?_⟩
    · have e : tc_P_calculate 2 r m 1 c = (tc_C_difference r m (c &&& 1) 1 c).bind fun z18 => some (z18.1, z18.2) := rfl
      rw [e, hcy, h1]; rfl
    · show ((mo_difference r m _ 8 _).bind _) = _
      rw [h4]; rfl
  · obtain ⟨c', h1, h2, h3⟩ := plain8 (rb_band hr hm) hc a b d x y u s p
    refine ⟨_, c', ?_, rb_band hr hm, h2, ?_⟩
    · show ((tc_C_plain (r &&& m) 1 c).bind _) = _
      rw [h1]; rfl
    · show ((mo_plain (r &&& m) 8 _).bind _) = _
      rw [h3]; rfl
  · obtain ⟨c', h1, h2, h3⟩ := plain8 (rb_band hr hm) hc a b d x y u s p
    refine ⟨_, c', ?_, rb_band hr hm, h2, ?_⟩
    · show ((tc_C_plain (r &&& m) 1 c).bind _) = _
      rw [h1]; rfl
    · show ((mo_plain (r &&& m) 8 _).bind _) = _
      rw [h3]; rfl
  · obtain ⟨c', h1, h2, h3⟩ := plain8 hm hc a b d x y u s p
    refine ⟨_, c', ?_, hm, h2, ?_⟩
    · show ((tc_C_plain m 1 c).bind _) = _
      rw [h1]; rfl
    · show ((mo_plain m 8 _).bind _) = _
      rw [h3]; rfl
  · obtain ⟨c', h1, h2, h3⟩ := plain8 (rb_bxor hr hm) hc a b d x y u s p
    refine ⟨_, c', ?_, rb_bxor hr hm, h2, ?_⟩
    · show ((tc_C_plain (r ^^^ m) 1 c).bind _) = _
      rw [h1]; rfl
    · show ((mo_plain (r ^^^ m) 8 _).bind _) = _
      rw [h3]; rfl
  · obtain ⟨v, c', h1, h2, h3, h4⟩ := sum8 hr hm (cy_01 (cy_ c)) hc a b d x y u s p
    refine ⟨v, c', ?_, h2, h3, ?_⟩
    · have e : tc_P_calculate 9 r m 1 c = (tc_C_sum r m (c &&& 1) 1 c).bind fun z18 => some (z18.1, z18.2) := rfl
      rw [e, hcy, h1]; rfl
    · show ((mo_sum r m _ 8 _).bind _) = _
      rw [h4]; rfl
  · obtain ⟨c', h1, h2, h3⟩ := plain8 (rb_bor hr hm) hc a b d x y u s p
    refine ⟨_, c', ?_, rb_bor hr hm, h2, ?_⟩
    · show ((tc_C_plain (r ||| m) 1 c).bind _) = _
      rw [h1]; rfl
    · show ((mo_plain (r ||| m) 8 _).bind _) = _
      rw [h3]; rfl
  · obtain ⟨v, c', h1, h2, h3, h4⟩ := sum8 hr hm (Or.inl rfl) hc a b d x y u s p
    refine ⟨v, c', ?_, h2, h3, ?_⟩
    · show ((tc_C_sum r m 0 1 c).bind _) = _
      rw [h1]; rfl
    · show ((mo_sum r m 0 8 _).bind _) = _
      rw [h4]; rfl
end
section
/-! operate: the class's; byteOp, wordOp, save: the reference's. -/
def cp_ok (z : Int32 × Int32 × (Nat → Int32) × R9) (m : Option ((Nat → Int32) × (Nat → Int32) × Int32 × Bool)) : Prop :=
  (z.2.1 = -1 ∧ okB z.2.2.1 ∧ og_ z.2.2.2 ∧ m = some (z.2.2.1, rg_ z.2.2.2, z.1, false)) ∨ (z.2.1 = -2 ∧ okB z.2.2.1 ∧ ∃ (g0 : R9) (sp : Int32), m = some (z.2.2.1, rg_ g0, sp, true))
theorem cy_if {α : Type} (c : Int32) (f : Bool → Option α) : ((some (decide (¬ (c &&& 1) = 0))).bind fun z25 => if (bz_i z25) = (0 : Int32) then f false else f true) = f (cy_ c) := by
  unfold cy_
  by_cases h : (c &&& 1) = 0
  · rw [decide_eq_false (not_not_intro h)]; rfl
  · rw [decide_eq_true h]; rfl
section OP8
variable {cb : Nat → Int32} {a b d c x y u s p : Int32}
theorem a8_7 {k : Int32} (h : a8_ k) : ¬ k = 7 := by
  rcases h with rfl | rfl | rfl | rfl | rfl | rfl | rfl | rfl | rfl | rfl <;> decide
theorem op8_ok (hB : okB cb) (ho : ok_ a b d c x y u s p) {k q mode op : Int32} (py : Int32) (hk : a8_ k) (hq : q = 8 ∨ q = 9) (hm : md_ mode) (hop : op &&& 15 = k) : ∃ z, tc_P_operate k q mode py (-1) cb a b d c x y u s p = some z ∧ cp_ok z ((mo_byteOp_j14 op mode q cb (rf_ a b d c x y u s p) py false).bind fun t => some (cb, t.1, t.2.1, t.2.2)) := by
  have e1 : tc_P_operate k q mode py (-1) cb a b d c x y u s p = tc_P_operate_j23 k q mode 1 py (-1) cb a b d c x y u s p := by
    unfold tc_P_operate
    rw [show tc_G_sizeOf q = some 1 by rcases hq with rfl | rfl <;> rfl, Option.bind_some, if_neg (a8_7 hk)]
  obtain ⟨z, h1, h2⟩ := on_ok hB ho mode py false hm
  rw [e1]
  unfold tc_P_operate_j23
  have h1 : tc_P_operandAddress mode 1 py (-1) cb a b d c x y u s p = some z := h1
  rw [h1, Option.bind_some]
  unfold mo_byteOp_j14
  obtain ⟨ad, py1, po, a', b', d', c1, x', y', u', s', p'⟩ := z
  rcases h2 with ⟨g1, g2, m, py', g3, g4, g5⟩ | ⟨g1, w, rg, sp, g5⟩
  · dsimp only at g1 g2 g3 g5 ⊢
    have g3 : tc_P_load ad 1 py1 cb = some (m, py') := g3
    have g4 : rb_ m := g4
    have hr : ∃ r, tc_G_get q a' b' d' c1 x' y' u' s' p' = some r ∧ rb_ r ∧ rf_ a' b' d' c1 x' y' u' s' p' q.toNatClampNeg = r ∧ in_b q 12 = true ∧ vk_ q := by
      rcases hq with rfl | rfl
      · exact ⟨a', rfl, g2.1, rfl, rfl, by unfold vk_; decide⟩
      · exact ⟨b', rfl, g2.2.1, rfl, rfl, by unfold vk_; decide⟩
    obtain ⟨r, r1, r2, r3, r4, r5⟩ := hr
    obtain ⟨v, c', k1, k2, k3, k4⟩ := cal8 hk r2 g4 g2.2.2.2.1 q cb a' b' d' x' y' u' s' p' py'
    have hg' : ok_ a' b' d' c' x' y' u' s' p' := ⟨g2.1, g2.2.1, g2.2.2.1, k3, g2.2.2.2.2⟩
    obtain ⟨g9, n1, n2, n3⟩ := set_eq (v := v) r5 hg'
    rw [g5, Option.bind_some]
    dsimp only
    rw [if_pos (show bz_i false = 0 from rfl), if_pos r4, mo_flag_eq, cy_if c1 (fun t => mo_byteOp_j58 q (op &&& 15) m (rf_ a' b' d' c1 x' y' u' s' p' q.toNatClampNeg) t cb (rf_ a' b' d' c1 x' y' u' s' p') py' false), hop, r3, k4]
    rw [if_neg (by rw [g1]; decide), if_neg (a8_7 hk), g3, Option.bind_some, r1, Option.bind_some]
    dsimp only
    rw [k1, Option.bind_some]
    unfold mo_byteOp_j202
    by_cases q1 : k = 1
    · rw [if_pos q1, if_pos q1]
      exact ⟨_, rfl, Or.inl ⟨g1, hB, hg', rfl⟩⟩
    · by_cases q5 : k = 5
      · rw [if_neg q1, if_pos q5, if_neg q1, if_pos q5]
        exact ⟨_, rfl, Or.inl ⟨g1, hB, hg', rfl⟩⟩
      · rw [if_neg q1, if_neg q5, if_neg q1, if_neg q5, n1, n2]
        exact ⟨_, rfl, Or.inl ⟨g1, hB, n3, rfl⟩⟩
  · dsimp only at g1 g5 ⊢
    rw [if_pos g1, g5]
    exact ⟨_, rfl, Or.inr ⟨g1, hB, rg, sp, rfl⟩⟩
end OP8
end
section
/-! Words: loads, compares, sums of D; stores. -/
def wq_ (q : Int32) : Prop := q = 0 ∨ q = 1 ∨ q = 2 ∨ q = 3 ∨ q = 4
section W16
variable {cb : Nat → Int32} {a b d c x y u s p : Int32}
theorem gw_ (ho : ok_ a b d c x y u s p) {q : Int32} (hq : wq_ q) : ∃ r, tc_G_get q a b d c x y u s p = some r ∧ rw_ r ∧ mo_get q (rf_ a b d c x y u s p) = some r ∧ vk_ q ∧ tc_G_sizeOf q = some 2 := by
  obtain ⟨ha, hb, hd, hc, hx, hy, hu, hs, hp⟩ := ho
  have hv : vk_ q := by rcases hq with rfl | rfl | rfl | rfl | rfl <;> (unfold vk_; decide)
  have e := get_eq (d := d) (c := c) (x := x) (y := y) (u := u) (s := s) (p := p) hv ha hb
  rcases hq with rfl | rfl | rfl | rfl | rfl
  · refine ⟨_, rfl, ?_, e, hv, rfl⟩
    rw [hl_eq ha hb]
    exact hl_rw ha hb
  · exact ⟨_, rfl, hx, e, hv, rfl⟩
  · exact ⟨_, rfl, hy, e, hv, rfl⟩
  · exact ⟨_, rfl, hu, e, hv, rfl⟩
  · exact ⟨_, rfl, hs, e, hv, rfl⟩
theorem wl_ok (hB : okB cb) (ho : ok_ a b d c x y u s p) {q mode : Int32} (py : Int32) (hq : wq_ q) (hm : md_ mode) : ∃ z, tc_P_operate 6 q mode py (-1) cb a b d c x y u s p = some z ∧ cp_ok z ((mo_wordOp q mode false cb (rf_ a b d c x y u s p) py false).bind fun t => some (cb, t.1, t.2.1, t.2.2)) := by
  obtain ⟨-, -, -, -, -, hsz⟩ := gw_ ho hq
  have e1 : tc_P_operate 6 q mode py (-1) cb a b d c x y u s p = tc_P_operate_j23 6 q mode 2 py (-1) cb a b d c x y u s p := by
    unfold tc_P_operate
    rw [hsz, Option.bind_some, if_neg (by decide)]
  obtain ⟨z, h1, h2⟩ := on_ok hB ho mode py true hm
  have h1 : tc_P_operandAddress mode 2 py (-1) cb a b d c x y u s p = some z := h1
  rw [e1]
  unfold tc_P_operate_j23 mo_wordOp
  rw [h1, Option.bind_some]
  obtain ⟨ad, py1, po, a', b', d', c1, x', y', u', s', p'⟩ := z
  rcases h2 with ⟨g1, g2, m, py', g3, g4, g5⟩ | ⟨g1, w, rg, sp, g5⟩
  · dsimp only at g1 g2 g3 g5 ⊢
    have g3 : tc_P_load ad 2 py1 cb = some (m, py') := g3
    have g4 : rw_ m := g4
    obtain ⟨r, r1, r2, r3, r4, -⟩ := gw_ g2 hq
    obtain ⟨c', k1, k2, k3⟩ := plain16 g4 g2.2.2.2.1 a' b' d' x' y' u' s' p'
    have hg' : ok_ a' b' d' c' x' y' u' s' p' := ⟨g2.1, g2.2.1, g2.2.2.1, k2, g2.2.2.2.2⟩
    obtain ⟨g9, n1, n2, n3⟩ := set_eq (v := m) r4 hg'
    have ec : tc_P_calculate 6 r m 2 c1 = some (m, c') := by
      show ((tc_C_plain m 2 c1).bind _) = _
      rw [k1]; rfl
    rw [g5, Option.bind_some, if_neg (by rw [g1]; decide), if_neg (by decide), g3, Option.bind_some, r1, Option.bind_some]
    dsimp only
    rw [ec, Option.bind_some, if_neg (by decide), if_neg (by decide), n1, if_pos (show bz_i false = 0 from rfl), if_pos (show bz_i false = 0 from rfl), k3, Option.bind_some, Option.bind_some]
    dsimp only
    rw [n2]
    exact ⟨_, rfl, Or.inl ⟨g1, hB, n3, rfl⟩⟩
  · dsimp only at g1 g5 ⊢
    rw [if_pos g1, g5]
    exact ⟨_, rfl, Or.inr ⟨g1, hB, rg, sp, rfl⟩⟩
theorem wc_ok (hB : okB cb) (ho : ok_ a b d c x y u s p) {q mode : Int32} (py : Int32) (hq : wq_ q) (hm : md_ mode) : ∃ z, tc_P_operate 1 q mode py (-1) cb a b d c x y u s p = some z ∧ cp_ok z ((mo_wordOp q mode true cb (rf_ a b d c x y u s p) py false).bind fun t => some (cb, t.1, t.2.1, t.2.2)) := by
  obtain ⟨-, -, -, -, -, hsz⟩ := gw_ ho hq
  have e1 : tc_P_operate 1 q mode py (-1) cb a b d c x y u s p = tc_P_operate_j23 1 q mode 2 py (-1) cb a b d c x y u s p := by
    unfold tc_P_operate
    rw [hsz, Option.bind_some, if_neg (by decide)]
  obtain ⟨z, h1, h2⟩ := on_ok hB ho mode py true hm
  have h1 : tc_P_operandAddress mode 2 py (-1) cb a b d c x y u s p = some z := h1
  rw [e1]
  unfold tc_P_operate_j23 mo_wordOp
  rw [h1, Option.bind_some]
  obtain ⟨ad, py1, po, a', b', d', c1, x', y', u', s', p'⟩ := z
  rcases h2 with ⟨g1, g2, m, py', g3, g4, g5⟩ | ⟨g1, w, rg, sp, g5⟩
  · dsimp only at g1 g2 g3 g5 ⊢
    have g3 : tc_P_load ad 2 py1 cb = some (m, py') := g3
    have g4 : rw_ m := g4
    obtain ⟨r, r1, r2, r3, r4, -⟩ := gw_ g2 hq
    obtain ⟨v, c', k1, k2, k3, k4, -⟩ := diff16 r2 g4 (Or.inl rfl) g2.2.2.2.1 a' b' d' x' y' u' s' p'
    have hg' : ok_ a' b' d' c' x' y' u' s' p' := ⟨g2.1, g2.2.1, g2.2.2.1, k3, g2.2.2.2.2⟩
    have ec : tc_P_calculate 1 r m 2 c1 = some (v, c') := by
      show ((tc_C_difference r m 0 2 c1).bind _) = _
      rw [k1]; rfl
    rw [g5, Option.bind_some, if_neg (by rw [g1]; decide), if_neg (by decide), g3, Option.bind_some, r1, Option.bind_some]
    dsimp only
    rw [ec, Option.bind_some, if_pos rfl, if_pos (show bz_i false = 0 from rfl), if_neg (by decide), r3, Option.bind_some, k4]
    exact ⟨_, rfl, Or.inl ⟨g1, hB, hg', rfl⟩⟩
  · dsimp only at g1 g5 ⊢
    rw [if_pos g1, g5]
    exact ⟨_, rfl, Or.inr ⟨g1, hB, rg, sp, rfl⟩⟩
/-- D and a word: SUBD (low), ADDD -/
theorem wd_ok (hB : okB cb) (ho : ok_ a b d c x y u s p) {mode : Int32} (py : Int32) (low : Bool) (hm : md_ mode) : ∃ z, tc_P_operate (bif low then 0 else 11) 0 mode py (-1) cb a b d c x y u s p = some z ∧ cp_ok z ((mo_operand mode true cb (rf_ a b d c x y u s p) py false).bind fun z30 => (mo_get 0 z30.2.1).bind fun z31 => if (bz_i z30.2.2.2) = 0 then if (bz_i low) = 0 then (mo_sum z31 z30.1 0 16 z30.2.1).bind fun z32 => mo_upper_j141 z32.1 cb z32.2 z30.2.2.1 z30.2.2.2 else (mo_difference z31 z30.1 0 16 z30.2.1).bind fun z33 => mo_upper_j141 z33.1 cb z33.2 z30.2.2.1 z30.2.2.2 else some (cb, z30.2.1, z30.2.2.1, z30.2.2.2)) := by
  have e1 : tc_P_operate (bif low then 0 else 11) 0 mode py (-1) cb a b d c x y u s p = tc_P_operate_j23 (bif low then 0 else 11) 0 mode 2 py (-1) cb a b d c x y u s p := by
    cases low <;> rfl
  obtain ⟨z, h1, h2⟩ := on_ok hB ho mode py true hm
  have h1 : tc_P_operandAddress mode 2 py (-1) cb a b d c x y u s p = some z := h1
  rw [e1]
  unfold tc_P_operate_j23
  rw [h1, Option.bind_some]
  obtain ⟨ad, py1, po, a', b', d', c1, x', y', u', s', p'⟩ := z
  rcases h2 with ⟨g1, g2, m, py', g3, g4, g5⟩ | ⟨g1, w, rg, sp, g5⟩
  · dsimp only at g1 g2 g3 g5 ⊢
    have g3 : tc_P_load ad 2 py1 cb = some (m, py') := g3
    have g4 : rw_ m := g4
    obtain ⟨r, r1, r2, r3, r4, -⟩ := gw_ g2 (Or.inl rfl)
    rw [g5, Option.bind_some, if_neg (by rw [g1]; decide), if_neg (by cases low <;> decide), g3, Option.bind_some, r1, Option.bind_some]
    dsimp only
    rw [r3, Option.bind_some, if_pos (show bz_i false = 0 from rfl)]
    cases low with
    | true =>
      obtain ⟨v, c', k1, k2, k3, k4, -⟩ := diff16 r2 g4 (Or.inl rfl) g2.2.2.2.1 a' b' d' x' y' u' s' p'
      have hg' : ok_ a' b' d' c' x' y' u' s' p' := ⟨g2.1, g2.2.1, g2.2.2.1, k3, g2.2.2.2.2⟩
      obtain ⟨g9, n1, n2, n3⟩ := set_eq (v := v) r4 hg'
      have ec : tc_P_calculate 0 r m 2 c1 = some (v, c') := by
        show ((tc_C_difference r m 0 2 c1).bind _) = _
        rw [k1]; rfl
      rw [show (bif true then (0 : Int32) else 11) = 0 from rfl, ec, Option.bind_some, if_neg (by decide), if_neg (by decide), n1, if_neg (show ¬ bz_i true = 0 by decide), k4, Option.bind_some, Option.bind_some]
      unfold mo_upper_j141
      dsimp only
      rw [n2]
      exact ⟨_, rfl, Or.inl ⟨g1, hB, n3, rfl⟩⟩
    | false =>
      obtain ⟨v, c', k1, k2, k3, k4⟩ := sum16 r2 g4 (Or.inl rfl) g2.2.2.2.1 a' b' d' x' y' u' s' p'
      have hg' : ok_ a' b' d' c' x' y' u' s' p' := ⟨g2.1, g2.2.1, g2.2.2.1, k3, g2.2.2.2.2⟩
      obtain ⟨g9, n1, n2, n3⟩ := set_eq (v := v) r4 hg'
      have ec : tc_P_calculate 11 r m 2 c1 = some (v, c') := by
        show ((tc_C_sum r m 0 2 c1).bind _) = _
        rw [k1]; rfl
      rw [show (bif false then (0 : Int32) else 11) = 11 from rfl, ec, Option.bind_some, if_neg (by decide), if_neg (by decide), n1, if_pos (show bz_i false = 0 from rfl), k4, Option.bind_some, Option.bind_some]
      unfold mo_upper_j141
      dsimp only
      rw [n2]
      exact ⟨_, rfl, Or.inl ⟨g1, hB, n3, rfl⟩⟩
  · dsimp only at g1 g5 ⊢
    rw [if_pos g1, g5]
    exact ⟨_, rfl, Or.inr ⟨g1, hB, rg, sp, rfl⟩⟩
/-- stores -/
theorem sv_bad (hB : okB cb) (q py : Int32) (hq : vk_ q) : ∃ z, tc_P_operate 7 q 0 py (-1) cb a b d c x y u s p = some z ∧ cp_ok z (mo_save 0 q cb (rf_ a b d c x y u s p) py false) := by
  refine ⟨(py, -2, cb, a, b, d, c, x, y, u, s, p), ?_, Or.inr ⟨rfl, hB, (a, b, d, c, x, y, u, s, p), py, rfl⟩⟩
  unfold tc_P_operate
  rw [show tc_G_sizeOf q = some (if 5 < q then 1 else 2) by unfold tc_G_sizeOf; split <;> rfl]
  rfl
theorem sv16 (hB : okB cb) (ho : ok_ a b d c x y u s p) {q mode : Int32} (py : Int32) (hq : wq_ q) (hm : mode = 1 ∨ mode = 2 ∨ mode = 3) : ∃ z, tc_P_operate 7 q mode py (-1) cb a b d c x y u s p = some z ∧ cp_ok z (mo_save mode q cb (rf_ a b d c x y u s p) py false) := by
  obtain ⟨-, -, -, -, -, hsz⟩ := gw_ ho hq
  have hm0 : ¬ mode = 0 := by rcases hm with rfl | rfl | rfl <;> decide
  have e1 : tc_P_operate 7 q mode py (-1) cb a b d c x y u s p = tc_P_operate_j23 7 q mode 2 py (-1) cb a b d c x y u s p := by
    unfold tc_P_operate
    rw [hsz, Option.bind_some, if_pos rfl, if_neg hm0]
  have e2 : mo_save mode q cb (rf_ a b d c x y u s p) py false = (mo_address mode cb (rf_ a b d c x y u s p) py false).bind fun z11 => mo_save_j36 q z11.1 cb z11.2.1 z11.2.2.1 z11.2.2.2 := by
    unfold mo_save
    rw [if_pos (show bz_i false = 0 from rfl), if_neg hm0]
    rfl
  obtain ⟨z, h1, h2⟩ := oa_ok hB ho mode 2 py hm
  rw [e1, e2]
  unfold tc_P_operate_j23
  rw [h1, Option.bind_some]
  obtain ⟨ad, py1, po, a', b', d', c1, x', y', u', s', p'⟩ := z
  rcases h2 with ⟨g1, g2, g3, g4⟩ | ⟨g1, w, rg, sp, g4⟩
  · dsimp only at g1 g2 g3 g4 ⊢
    obtain ⟨r, r1, r2, r3, r4, -⟩ := gw_ g3 hq
    obtain ⟨c', k1, k2, k3⟩ := plain16 r2 g3.2.2.2.1 a' b' d' x' y' u' s' p'
    have hg' : ok_ a' b' d' c' x' y' u' s' p' := ⟨g3.1, g3.2.1, g3.2.2.1, k2, g3.2.2.2.2⟩
    rw [g4, Option.bind_some, if_neg (by rw [g1]; decide), if_pos rfl, r1, Option.bind_some, k1, Option.bind_some]
    dsimp only
    unfold tc_P_store mo_save_j36
    rw [tc_store2, Option.bind_some, Option.bind_some, if_pos (show bz_i false = 0 from rfl), r3, Option.bind_some, if_neg (by rcases hq with rfl | rfl | rfl | rfl | rfl <;> decide)]
    unfold mo_save_j67
    rw [mo_store2, Option.bind_some, if_neg (by rcases hq with rfl | rfl | rfl | rfl | rfl <;> decide)]
    unfold mo_save_j86
    rw [k3]
    exact ⟨_, rfl, Or.inl ⟨g1, wr2_ok hB _ _, hg', rfl⟩⟩
  · dsimp only at g1 g4 ⊢
    rw [if_pos g1, g4]
    exact ⟨_, rfl, Or.inr ⟨g1, hB, rg, sp, rfl⟩⟩
theorem sv8 (hB : okB cb) (ho : ok_ a b d c x y u s p) {q mode : Int32} (py : Int32) (hq : q = 8 ∨ q = 9) (hm : mode = 1 ∨ mode = 2 ∨ mode = 3) : ∃ z, tc_P_operate 7 q mode py (-1) cb a b d c x y u s p = some z ∧ cp_ok z (mo_save mode q cb (rf_ a b d c x y u s p) py false) := by
  have hm0 : ¬ mode = 0 := by rcases hm with rfl | rfl | rfl <;> decide
  have e1 : tc_P_operate 7 q mode py (-1) cb a b d c x y u s p = tc_P_operate_j23 7 q mode 1 py (-1) cb a b d c x y u s p := by
    unfold tc_P_operate
    rw [show tc_G_sizeOf q = some 1 by rcases hq with rfl | rfl <;> rfl, Option.bind_some, if_pos rfl, if_neg hm0]
  have e2 : mo_save mode q cb (rf_ a b d c x y u s p) py false = (mo_address mode cb (rf_ a b d c x y u s p) py false).bind fun z11 => mo_save_j36 q z11.1 cb z11.2.1 z11.2.2.1 z11.2.2.2 := by
    unfold mo_save
    rw [if_pos (show bz_i false = 0 from rfl), if_neg hm0]
    rfl
  obtain ⟨z, h1, h2⟩ := oa_ok hB ho mode 1 py hm
  rw [e1, e2]
  unfold tc_P_operate_j23
  rw [h1, Option.bind_some]
  obtain ⟨ad, py1, po, a', b', d', c1, x', y', u', s', p'⟩ := z
  rcases h2 with ⟨g1, g2, g3, g4⟩ | ⟨g1, w, rg, sp, g4⟩
  · dsimp only at g1 g2 g3 g4 ⊢
    have hr : ∃ r, tc_G_get q a' b' d' c1 x' y' u' s' p' = some r ∧ rb_ r ∧ mo_get q (rf_ a' b' d' c1 x' y' u' s' p') = some r := by
      rcases hq with rfl | rfl
      · exact ⟨a', rfl, g3.1, rfl⟩
      · exact ⟨b', rfl, g3.2.1, rfl⟩
    obtain ⟨r, r1, r2, r3⟩ := hr
    obtain ⟨c', k1, k2, k3⟩ := plain8 r2 g3.2.2.2.1 a' b' d' x' y' u' s' p'
    have hg' : ok_ a' b' d' c' x' y' u' s' p' := ⟨g3.1, g3.2.1, g3.2.2.1, k2, g3.2.2.2.2⟩
    rw [g4, Option.bind_some, if_neg (by rw [g1]; decide), if_pos rfl, r1, Option.bind_some, k1, Option.bind_some]
    dsimp only
    unfold tc_P_store mo_save_j36
    rw [tc_store1, Option.bind_some, Option.bind_some, if_pos (show bz_i false = 0 from rfl), r3, Option.bind_some, if_pos (by rcases hq with rfl | rfl <;> decide)]
    unfold mo_save_j67
    rw [mo_store1, Option.bind_some, if_pos (by rcases hq with rfl | rfl <;> decide)]
    unfold mo_save_j86
    rw [k3]
    exact ⟨_, rfl, Or.inl ⟨g1, wr_ok hB _ _, hg', rfl⟩⟩
  · dsimp only at g1 g4 ⊢
    rw [if_pos g1, g4]
    exact ⟨_, rfl, Or.inr ⟨g1, hB, rg, sp, rfl⟩⟩
end W16
end
section
/-! One push, one pull; then the lists of them. -/
def pn_ (n : Int32) : Prop := n = 10 ∨ n = 8 ∨ n = 9 ∨ n = 11 ∨ n = 1 ∨ n = 2 ∨ n = 3 ∨ n = 4 ∨ n = 5
def ts_ (st : Int32) : Prop := st = 4 ∨ st = 3
theorem pn_vk {n : Int32} (h : pn_ n) : vk_ n := by
  rcases h with rfl | rfl | rfl | rfl | rfl | rfl | rfl | rfl | rfl <;> (unfold vk_; decide)
theorem ts_vk {n : Int32} (h : ts_ n) : vk_ n := by
  rcases h with rfl | rfl <;> (unfold vk_; decide)
/-- a register that isn't D: the class's get is the reference's array -/
theorem get_rg {n : Int32} (h : pn_ n) (g : R9) : tc_G_get n g.1 g.2.1 g.2.2.1 g.2.2.2.1 g.2.2.2.2.1 g.2.2.2.2.2.1 g.2.2.2.2.2.2.1 g.2.2.2.2.2.2.2.1 g.2.2.2.2.2.2.2.2 = some (rg_ g n.toNatClampNeg) ∧ in_b n 12 = true ∧ tc_G_sizeOf n = some (if (8 : Int32) ≤ n then 1 else 2) := by
  rcases h with rfl | rfl | rfl | rfl | rfl | rfl | rfl | rfl | rfl <;> exact ⟨rfl, rfl, rfl⟩
theorem ts_pn {n : Int32} (h : ts_ n) : pn_ n := by
  rcases h with rfl | rfl
  · exact Or.inr (Or.inr (Or.inr (Or.inr (Or.inr (Or.inr (Or.inr (Or.inl rfl)))))))
  · exact Or.inr (Or.inr (Or.inr (Or.inr (Or.inr (Or.inr (Or.inl rfl))))))
/-- a set without ranges -/
theorem set_rg {k : Int32} (v : Int32) (hk : pn_ k) (g : R9) : ∃ g' : R9, tc_G_set k v g.1 g.2.1 g.2.2.1 g.2.2.2.1 g.2.2.2.2.1 g.2.2.2.2.2.1 g.2.2.2.2.2.2.1 g.2.2.2.2.2.2.2.1 g.2.2.2.2.2.2.2.2 = some g' ∧ mo_set k v (rg_ g) = some (rg_ g') ∧ rg_ g' = upd (rg_ g) k.toNatClampNeg (if (8 : Int32) ≤ k then v &&& 255 else v &&& 65535) := by
  rcases hk with rfl | rfl | rfl | rfl | rfl | rfl | rfl | rfl | rfl
  · exact ⟨_, rfl, congrArg some (rf_10 ..), (rf_10 ..).symm⟩
  · exact ⟨_, rfl, congrArg some (rf_8 ..), (rf_8 ..).symm⟩
  · exact ⟨_, rfl, congrArg some (rf_9 ..), (rf_9 ..).symm⟩
  · exact ⟨_, rfl, congrArg some (rf_11 ..), (rf_11 ..).symm⟩
  · exact ⟨_, rfl, congrArg some (rf_1 ..), (rf_1 ..).symm⟩
  · exact ⟨_, rfl, congrArg some (rf_2 ..), (rf_2 ..).symm⟩
  · exact ⟨_, rfl, congrArg some (rf_3 ..), (rf_3 ..).symm⟩
  · exact ⟨_, rfl, congrArg some (rf_4 ..), (rf_4 ..).symm⟩
  · exact ⟨_, rfl, congrArg some (rf_5 ..), (rf_5 ..).symm⟩
theorem mo_set_pn {k : Int32} (v : Int32) (hk : pn_ k) (rg : Nat → Int32) : mo_set k v rg = some (upd rg k.toNatClampNeg (if (8 : Int32) ≤ k then v &&& 255 else v &&& 65535)) := by
  rcases hk with rfl | rfl | rfl | rfl | rfl | rfl | rfl | rfl | rfl <;> rfl
theorem push1 {cb : Nat → Int32} (hB : okB cb) {st n : Int32} (hs : ts_ st) (hn : pn_ n) (g : R9) (sp : Int32) : ∃ (sz v1 v2 v3 : Int32) (g' : R9) (cb' : Nat → Int32), tc_G_sizeOf n = some sz ∧
    tc_G_get st g.1 g.2.1 g.2.2.1 g.2.2.2.1 g.2.2.2.2.1 g.2.2.2.2.2.1 g.2.2.2.2.2.2.1 g.2.2.2.2.2.2.2.1 g.2.2.2.2.2.2.2.2 = some v1 ∧
    tc_G_set st (v1 - sz) g.1 g.2.1 g.2.2.1 g.2.2.2.1 g.2.2.2.2.1 g.2.2.2.2.2.1 g.2.2.2.2.2.2.1 g.2.2.2.2.2.2.2.1 g.2.2.2.2.2.2.2.2 = some g' ∧
    tc_G_get st g'.1 g'.2.1 g'.2.2.1 g'.2.2.2.1 g'.2.2.2.2.1 g'.2.2.2.2.2.1 g'.2.2.2.2.2.2.1 g'.2.2.2.2.2.2.2.1 g'.2.2.2.2.2.2.2.2 = some v2 ∧
    tc_G_get n g'.1 g'.2.1 g'.2.2.1 g'.2.2.2.1 g'.2.2.2.2.1 g'.2.2.2.2.2.1 g'.2.2.2.2.2.2.1 g'.2.2.2.2.2.2.2.1 g'.2.2.2.2.2.2.2.2 = some v3 ∧
    tc_Y_store v2 v3 sz cb = some cb' ∧ okB cb' ∧ (og_ g → og_ g') ∧ mo_push st n cb (rg_ g) sp = some (cb', rg_ g', sp + sz) := by
  obtain ⟨e1, e2, -⟩ := get_rg (ts_pn hs) g
  obtain ⟨-, e5, e6⟩ := get_rg hn g
  have key : ∀ sz : Int32, sz = (if (8 : Int32) ≤ n then 1 else 2) → ∃ g' : R9, tc_G_set st (rg_ g st.toNatClampNeg - sz) g.1 g.2.1 g.2.2.1 g.2.2.2.1 g.2.2.2.2.1 g.2.2.2.2.2.1 g.2.2.2.2.2.2.1 g.2.2.2.2.2.2.2.1 g.2.2.2.2.2.2.2.2 = some g' ∧ mo_set st (rg_ g st.toNatClampNeg - sz) (rg_ g) = some (rg_ g') ∧ (og_ g → og_ g') := by
    intro sz _
    obtain ⟨g', h1, h2, -⟩ := set_rg (rg_ g st.toNatClampNeg - sz) (ts_pn hs) g
    refine ⟨g', h1, h2, fun ho => ?_⟩
    obtain ⟨g2, q1, q2, q3⟩ := set_eq (v := rg_ g st.toNatClampNeg - sz) (ts_vk hs) ho
    rw [h1] at q1
    cases q1
    exact q3
  by_cases h8 : (8 : Int32) ≤ n
  · obtain ⟨g', h1, h2, h3⟩ := key 1 (by rw [if_pos h8])
    obtain ⟨f1, -, -⟩ := get_rg (ts_pn hs) g'
    obtain ⟨f2, -, -⟩ := get_rg hn g'
    refine ⟨1, _, _, _, g', _, by rw [e6, if_pos h8], e1, h1, f1, f2, tc_store1 .., wr_ok hB _ _, h3, ?_⟩
    unfold mo_push
    rw [if_pos h8]
    unfold mo_push_j11 mo_push_j29
    rw [if_pos e2, if_pos (show bz_i false = 0 from rfl), h2, Option.bind_some, if_pos e2, if_pos e5, mo_store1]
    rfl
  · obtain ⟨g', h1, h2, h3⟩ := key 2 (by rw [if_neg h8])
    obtain ⟨f1, -, -⟩ := get_rg (ts_pn hs) g'
    obtain ⟨f2, -, -⟩ := get_rg hn g'
    refine ⟨2, _, _, _, g', _, by rw [e6, if_neg h8], e1, h1, f1, f2, tc_store2 .., wr2_ok hB _ _, h3, ?_⟩
    unfold mo_push
    rw [if_neg h8]
    unfold mo_push_j11 mo_push_j29
    rw [if_pos e2, if_neg (show ¬ bz_i true = 0 by decide), h2, Option.bind_some, if_pos e2, if_pos e5, mo_store2]
    rfl
theorem upd_ne {f : Nat → Int32} {i j : Nat} {v : Int32} (h : j ≠ i) : upd f i v j = f j := by
  unfold upd
  rw [if_neg h]
theorem upd_eq {f : Nat → Int32} {i : Nat} {v : Int32} : upd f i v i = v := by
  unfold upd
  rw [if_pos rfl]
def okN (k : Nat) (rg : Nat → Int32) : Prop := if k < 8 then rw_ (rg k) else rb_ (rg k)
theorem okN_upd {rg : Nat → Int32} {k : Int32} (hk : pn_ k) (v : Int32) : okN k.toNatClampNeg (upd rg k.toNatClampNeg (if (8 : Int32) ≤ k then v &&& 255 else v &&& 65535)) := by
  unfold okN
  rw [upd_eq]
  rcases hk with rfl | rfl | rfl | rfl | rfl | rfl | rfl | rfl | rfl
  · exact rb_and v
  · exact rb_and v
  · exact rb_and v
  · exact rb_and v
  · exact rw_and v
  · exact rw_and v
  · exact rw_and v
  · exact rw_and v
  · exact rw_and v
theorem okN_keep {rg : Nat → Int32} {i : Nat} {k : Int32} (hk : pn_ k) (v : Int32) (h : okN i rg) : okN i (upd rg k.toNatClampNeg (if (8 : Int32) ≤ k then v &&& 255 else v &&& 65535)) := by
  by_cases q : i = k.toNatClampNeg
  · rw [q]
    exact okN_upd hk v
  · unfold okN at h ⊢
    rw [upd_ne q]
    exact h
theorem pull1 {cb : Nat → Int32} (hB : okB cb) {st n : Int32} (hs : ts_ st) (hn : pn_ n) (hne : n ≠ st) (g : R9) (sp : Int32) : ∃ (sz v1 v2 v3 : Int32) (g1 g' : R9), tc_G_sizeOf n = some sz ∧
    tc_G_get st g.1 g.2.1 g.2.2.1 g.2.2.2.1 g.2.2.2.2.1 g.2.2.2.2.2.1 g.2.2.2.2.2.2.1 g.2.2.2.2.2.2.2.1 g.2.2.2.2.2.2.2.2 = some v1 ∧
    tc_Y_load v1 sz cb = some v2 ∧
    tc_G_set n v2 g.1 g.2.1 g.2.2.1 g.2.2.2.1 g.2.2.2.2.1 g.2.2.2.2.2.1 g.2.2.2.2.2.2.1 g.2.2.2.2.2.2.2.1 g.2.2.2.2.2.2.2.2 = some g1 ∧
    tc_G_get st g1.1 g1.2.1 g1.2.2.1 g1.2.2.2.1 g1.2.2.2.2.1 g1.2.2.2.2.2.1 g1.2.2.2.2.2.2.1 g1.2.2.2.2.2.2.2.1 g1.2.2.2.2.2.2.2.2 = some v3 ∧
    tc_G_set st (v3 + sz) g1.1 g1.2.1 g1.2.2.1 g1.2.2.2.1 g1.2.2.2.2.1 g1.2.2.2.2.2.1 g1.2.2.2.2.2.2.1 g1.2.2.2.2.2.2.2.1 g1.2.2.2.2.2.2.2.2 = some g' ∧
    mo_pull st n cb (rg_ g) sp = some (rg_ g', sp + sz) ∧ okN n.toNatClampNeg (rg_ g') ∧ okN st.toNatClampNeg (rg_ g') ∧ (∀ i, okN i (rg_ g) → okN i (rg_ g')) := by
  obtain ⟨e1, e2, -⟩ := get_rg (ts_pn hs) g
  obtain ⟨-, e5, e6⟩ := get_rg hn g
  have hneN : st.toNatClampNeg ≠ n.toNatClampNeg := by
    rcases hs with rfl | rfl <;> rcases hn with rfl | rfl | rfl | rfl | rfl | rfl | rfl | rfl | rfl <;> first | decide | exact absurd rfl hne
  have key : ∀ (sz v2 : Int32), ∃ g1 g' : R9, tc_G_set n v2 g.1 g.2.1 g.2.2.1 g.2.2.2.1 g.2.2.2.2.1 g.2.2.2.2.2.1 g.2.2.2.2.2.2.1 g.2.2.2.2.2.2.2.1 g.2.2.2.2.2.2.2.2 = some g1 ∧
      tc_G_get st g1.1 g1.2.1 g1.2.2.1 g1.2.2.2.1 g1.2.2.2.2.1 g1.2.2.2.2.2.1 g1.2.2.2.2.2.2.1 g1.2.2.2.2.2.2.2.1 g1.2.2.2.2.2.2.2.2 = some (rg_ g st.toNatClampNeg) ∧
      tc_G_set st (rg_ g st.toNatClampNeg + sz) g1.1 g1.2.1 g1.2.2.1 g1.2.2.2.1 g1.2.2.2.2.1 g1.2.2.2.2.2.1 g1.2.2.2.2.2.2.1 g1.2.2.2.2.2.2.2.1 g1.2.2.2.2.2.2.2.2 = some g' ∧
      ((mo_set st (rg_ g st.toNatClampNeg + sz) (rg_ g)).bind fun z9 => mo_set n v2 z9) = some (rg_ g') ∧ okN n.toNatClampNeg (rg_ g') ∧ okN st.toNatClampNeg (rg_ g') ∧ (∀ i, okN i (rg_ g) → okN i (rg_ g')) := by
    intro sz v2
    obtain ⟨g1, h1, -, h3⟩ := set_rg v2 hn g
    obtain ⟨f1, -, -⟩ := get_rg (ts_pn hs) g1
    obtain ⟨g', k1, -, k3⟩ := set_rg (rg_ g st.toNatClampNeg + sz) (ts_pn hs) g1
    refine ⟨g1, g', h1, ?_, k1, ?_, ?_, ?_, ?_⟩
    · rw [f1, h3, upd_ne hneN]
    · rw [mo_set_pn _ (ts_pn hs), Option.bind_some, mo_set_pn _ hn, k3, h3, upd_comm hneN]
    · rw [k3]
      exact okN_keep (ts_pn hs) _ (by rw [h3]; exact okN_upd hn _)
    · rw [k3]
      exact okN_upd (ts_pn hs) _
    · intro i hi
      rw [k3]
      exact okN_keep (ts_pn hs) _ (by rw [h3]; exact okN_keep hn _ hi)
  by_cases h8 : (8 : Int32) ≤ n
  · obtain ⟨g1, g', h1, h2, h3, h4, h5⟩ := key 1 (rd_ cb (rg_ g st.toNatClampNeg))
    refine ⟨1, _, _, _, g1, g', by rw [e6, if_pos h8], e1, tc_load1 .., h1, h2, h3, ?_, h5⟩
    obtain ⟨z9, q1, q2⟩ := Option.bind_eq_some_iff.mp h4
    unfold mo_pull
    rw [if_pos h8]
    unfold mo_pull_j11 mo_pull_j42
    rw [if_pos e2, mo_load1, Option.bind_some, if_pos (show bz_i false = 0 from rfl)]
    dsimp only
    rw [q1, Option.bind_some, q2]
    rfl
  · obtain ⟨g1, g', h1, h2, h3, h4, h5⟩ := key 2 (rd2_ cb (rg_ g st.toNatClampNeg))
    refine ⟨2, _, _, _, g1, g', by rw [e6, if_neg h8], e1, tc_load2' hB _, h1, h2, h3, ?_, h5⟩
    obtain ⟨z9, q1, q2⟩ := Option.bind_eq_some_iff.mp h4
    unfold mo_pull
    rw [if_neg h8]
    unfold mo_pull_j11 mo_pull_j42
    rw [if_pos e2, mo_load2, Option.bind_some, if_neg (show ¬ bz_i true = 0 by decide)]
    dsimp only
    rw [q1, Option.bind_some, q2]
    rfl
end
section
/-! Lists of pushes and pulls: the loops of both sides are one recursion. -/
def nm_ (st : Int32) (t : Nat) : Int32 := match t with
  | 0 => 10
  | 1 => 8
  | 2 => 9
  | 3 => 11
  | 4 => 1
  | 5 => 2
  | 6 => if st = 3 then 4 else 3
  | _ => 5
def pu_ (st ch : Int32) : Nat → (Nat → Int32) → (Nat → Int32) → Int32 → Option ((Nat → Int32) × (Nat → Int32) × Int32)
  | 0, me, rg, sp => some (me, rg, sp)
  | t + 1, me, rg, sp => if ((ch >>> (nI t &&& 31)) &&& 1) = 1 then (mo_push st (nm_ st t) me rg sp).bind fun z => pu_ st ch t z.1 z.2.1 z.2.2 else pu_ st ch t me rg sp
def pl_ (st ch : Int32) : Nat → (Nat → Int32) → (Nat → Int32) → Int32 → Option ((Nat → Int32) × Int32)
  | 0, _, rg, sp => some (rg, sp)
  | t + 1, me, rg, sp => if ((ch >>> (nI (7 - t) &&& 31)) &&& 1) = 1 then (mo_pull st (nm_ st (7 - t)) me rg sp).bind fun z => pl_ st ch t me z.1 z.2 else pl_ st ch t me rg sp
theorem pa_4 : ∀ t, t < 8 → tc_G_pushedAt (nI t) 4 = some (nm_ 4 t) ∧ mo_listed (nI t) 4 = some (nm_ 4 t) ∧ mo_framed (nI t) = some (nm_ 4 t) ∧ ((255 : Int32) >>> (nI t &&& 31)) &&& 1 = 1 ∧ nm_ 4 t ≠ 4 := by decide +kernel
theorem pa_3 : ∀ t, t < 8 → tc_G_pushedAt (nI t) 3 = some (nm_ 3 t) ∧ mo_listed (nI t) 3 = some (nm_ 3 t) ∧ nm_ 3 t ≠ 3 := by decide +kernel
theorem pa_ {st : Int32} (hs : ts_ st) {t : Nat} (ht : t < 8) : tc_G_pushedAt (nI t) st = some (nm_ st t) ∧ mo_listed (nI t) st = some (nm_ st t) ∧ nm_ st t ≠ st := by
  rcases hs with rfl | rfl
  · exact ⟨(pa_4 t ht).1, (pa_4 t ht).2.1, (pa_4 t ht).2.2.2.2⟩
  · exact pa_3 t ht
theorem nm_pn {st : Int32} (t : Nat) (ht : t < 8) : pn_ (nm_ st t) := by
  have h : t = 0 ∨ t = 1 ∨ t = 2 ∨ t = 3 ∨ t = 4 ∨ t = 5 ∨ t = 6 ∨ t = 7 := by omega
  rcases h with rfl | rfl | rfl | rfl | rfl | rfl | rfl | rfl
  · exact Or.inl rfl
  · exact Or.inr (Or.inl rfl)
  · exact Or.inr (Or.inr (Or.inl rfl))
  · exact Or.inr (Or.inr (Or.inr (Or.inl rfl)))
  · exact Or.inr (Or.inr (Or.inr (Or.inr (Or.inl rfl))))
  · exact Or.inr (Or.inr (Or.inr (Or.inr (Or.inr (Or.inl rfl)))))
  · show pn_ (if st = 3 then 4 else 3)
    split
    · exact Or.inr (Or.inr (Or.inr (Or.inr (Or.inr (Or.inr (Or.inr (Or.inl rfl)))))))
    · exact Or.inr (Or.inr (Or.inr (Or.inr (Or.inr (Or.inr (Or.inl rfl))))))
  · exact Or.inr (Or.inr (Or.inr (Or.inr (Or.inr (Or.inr (Or.inr (Or.inr rfl)))))))
/-- the bit's number as the loops count it: one below t -/
def dn_ (t : Nat) : Int32 := iI ((t : Int) - 1)
theorem dn_s (t : Nat) : dn_ (t + 1) = nI t := by
  unfold dn_
  rw [nI_iI]
  congr 1
  omega
theorem dn_d (t : Nat) : dn_ (t + 1) + Int32.ofInt (-1) = dn_ t := by
  unfold dn_
  show iI _ + iI (-1) = _
  rw [iI_add]
  congr 1
  omega
theorem dn_0 : dn_ 0 < 0 := by decide
theorem dn_n {t : Nat} (h : t < 100) : ¬ dn_ (t + 1) < 0 := by
  rw [dn_s]
  exact nI_pos (by omega)
theorem i_ass (e m z : Int32) : e + m + z = e + (m + z) := Int32.add_assoc e m z
theorem push_loop {st ch : Int32} (hs : ts_ st) : ∀ (t : Nat), t ≤ 8 → ∀ (mv : Int32) (g : R9) (cb : Nat → Int32), okB cb → ∃ (mv' : Int32) (g' : R9) (cb' : Nat → Int32), tc_G_push_l7 (t + 1) st ch mv (dn_ t) g.1 g.2.1 g.2.2.1 g.2.2.2.1 g.2.2.2.2.1 g.2.2.2.2.2.1 g.2.2.2.2.2.2.1 g.2.2.2.2.2.2.2.1 g.2.2.2.2.2.2.2.2 cb = some (mv', g'.1, g'.2.1, g'.2.2.1, g'.2.2.2.1, g'.2.2.2.2.1, g'.2.2.2.2.2.1, g'.2.2.2.2.2.2.1, g'.2.2.2.2.2.2.2.1, g'.2.2.2.2.2.2.2.2, cb') ∧ okB cb' ∧ (og_ g → og_ g') ∧ ∀ e, pu_ st ch t cb (rg_ g) (e + mv) = some (cb', rg_ g', e + mv') := by
  intro t
  induction t with
  | zero =>
    intro _ mv g cb hB
    refine ⟨mv, g, cb, ?_, hB, id, fun e => rfl⟩
    rw [tc_G_push_l7_s, if_pos dn_0]
  | succ t ih =>
    intro ht mv g cb hB
    rw [tc_G_push_l7_s, if_neg (dn_n (by omega)), dn_s]
    unfold tc_G_push_j74
    by_cases hb : ((ch >>> (nI t &&& 31)) &&& 1) = 1
    · obtain ⟨sz, v1, v2, v3, g1, cb1, q1, q2, q3, q4, q5, q6, q7, q8, -⟩ := push1 hB hs (nm_pn (st := st) t (by omega)) g 0
      obtain ⟨mv', g', cb', p1, p2, p3, p4⟩ := ih (by omega) (mv + sz) g1 cb1 q7
      refine ⟨mv', g', cb', ?_, p2, fun h => p3 (q8 h), fun e => ?_⟩
      · rw [if_pos hb, (pa_ hs (by omega)).1, Option.bind_some, q1, Option.bind_some, q2, Option.bind_some, q3, Option.bind_some, q4, Option.bind_some, q5, Option.bind_some, q6, Option.bind_some, ← dn_s, dn_d, p1]
      · obtain ⟨sz', w1, w2, w3, g2, cb2, r1, r2, r3, r4, r5, r6, -, -, r9⟩ := push1 hB hs (nm_pn (st := st) t (by omega)) g (e + mv)
        rw [q1] at r1
        cases r1
        rw [q2] at r2
        cases r2
        rw [q3] at r3
        cases r3
        rw [q4] at r4
        cases r4
        rw [q5] at r5
        cases r5
        rw [q6] at r6
        cases r6
        show (if _ then _ else _) = _
        rw [if_pos hb, r9, Option.bind_some]
        dsimp only
        rw [i_ass]
        exact p4 e
    · obtain ⟨mv', g', cb', p1, p2, p3, p4⟩ := ih (by omega) mv g cb hB
      refine ⟨mv', g', cb', ?_, p2, p3, fun e => ?_⟩
      · rw [if_neg hb, ← dn_s, dn_d, p1]
      · show (if _ then _ else _) = _
        rw [if_neg hb]
        exact p4 e
theorem many_push {st ch op : Int32} (hs : ts_ st) (hop : op - op / 2 * 2 = 0) : ∀ (t : Nat), t ≤ 8 → ∀ (me rg : Nat → Int32) (sp : Int32), mo_many_l21 (t + 1) op ch st (dn_ t) me rg sp = pu_ st ch t me rg sp := by
  have e59 : ∀ me rg sp, mo_many_j59 op ch st me rg sp = some (me, rg, sp) := by
    intro me rg sp
    unfold mo_many_j59
    rw [mo_many_l62_s, if_neg (by decide), if_neg (by rw [hop]; decide)]
  intro t
  induction t with
  | zero =>
    intro _ me rg sp
    rw [mo_many_l21_s, if_pos dn_0, e59]
    rfl
  | succ t ih =>
    intro ht me rg sp
    rw [mo_many_l21_s, if_neg (dn_n (by omega)), if_pos hop, dn_s]
    unfold mo_many_j53
    show _ = (if _ then _ else _)
    by_cases hb : ((ch >>> (nI t &&& 31)) &&& 1) = 1
    · rw [if_pos hb, if_pos hb, (pa_ hs (by omega)).2.1, Option.bind_some, ← dn_s, dn_d]
      congr 1
      funext z
      exact ih (by omega) _ _ _
    · rw [if_neg hb, if_neg hb, ← dn_s, dn_d]
      exact ih (by omega) _ _ _
theorem stack_push (v1 ru : Int32) (sv : Nat → Int32) : ∀ (t : Nat), t ≤ 8 → ∀ (me rg : Nat → Int32) (sp : Int32), mo_stack_l16 (t + 1) v1 (dn_ t) me rg sv ru sp = (pu_ 4 255 t me rg sp).bind fun z => if in_b ru 4 = true then some (z.1, z.2.1, upd sv ru.toNatClampNeg (z.2.1 4), (-1 : Int32), v1) else none := by
  intro t
  induction t with
  | zero =>
    intro _ me rg sp
    rw [mo_stack_l16_s, if_pos dn_0]
    rfl
  | succ t ih =>
    intro ht me rg sp
    rw [mo_stack_l16_s, if_neg (dn_n (by omega)), dn_s, (pa_4 t (by omega)).2.2.1, Option.bind_some]
    show _ = Option.bind (if _ then _ else _) _
    rw [if_pos (pa_4 t (by omega)).2.2.2.1, Option.bind_assoc, ← dn_s, dn_d]
    congr 1
    funext z
    exact ih (by omega) _ _ _
/-- the bit's number as the loops of pulls count it: t bits are left -/
theorem up_n {t : Nat} (ht : t < 8) : ¬ (8 : Int32) ≤ nI (8 - (t + 1)) := by
  rw [show (8 : Int32) = nI 8 by decide, nI_leI (by omega) (by omega)]
  omega
theorem up_7 {t : Nat} (ht : t < 8) : ¬ (7 : Int32) < nI (8 - (t + 1)) := by
  rw [show (7 : Int32) = nI 7 by decide, nI_ltI (by omega) (by omega)]
  omega
theorem up_s {t : Nat} (ht : t < 8) : nI (8 - (t + 1)) + Int32.ofInt 1 = nI (8 - t) := by
  show nI _ + nI 1 = _
  rw [nI_add]
  congr 1
  omega
theorem up_e {t : Nat} : 8 - (t + 1) = 7 - t := by omega
theorem pull_loop {st ch : Int32} (hs : ts_ st) {cb : Nat → Int32} (hB : okB cb) : ∀ (t : Nat), t ≤ 8 → ∀ (mv : Int32) (g : R9), ∃ (mv' : Int32) (g' : R9), tc_G_pull_l6 (t + 1) st ch mv (nI (8 - t)) g.1 g.2.1 g.2.2.1 g.2.2.2.1 g.2.2.2.2.1 g.2.2.2.2.2.1 g.2.2.2.2.2.2.1 g.2.2.2.2.2.2.2.1 g.2.2.2.2.2.2.2.2 cb = some (mv', g'.1, g'.2.1, g'.2.2.1, g'.2.2.2.1, g'.2.2.2.2.1, g'.2.2.2.2.2.1, g'.2.2.2.2.2.2.1, g'.2.2.2.2.2.2.2.1, g'.2.2.2.2.2.2.2.2) ∧ (∀ i, okN i (rg_ g) → okN i (rg_ g')) ∧ (∀ e, pl_ st ch t cb (rg_ g) (e + mv) = some (rg_ g', e + mv')) ∧ (ch = 255 → st = 4 → ∀ j, 8 - t ≤ j → j < 8 → okN (nm_ 4 j).toNatClampNeg (rg_ g') ∧ okN 4 (rg_ g')) := by
  intro t
  induction t with
  | zero =>
    intro _ mv g
    refine ⟨mv, g, ?_, fun i h => h, fun e => rfl, fun _ _ j h1 h2 => by omega⟩
    rw [tc_G_pull_l6_s, if_pos (by decide)]
  | succ t ih =>
    intro ht mv g
    rw [tc_G_pull_l6_s, if_neg (up_7 (by omega))]
    unfold tc_G_pull_j75
    by_cases hb : ((ch >>> (nI (8 - (t + 1)) &&& 31)) &&& 1) = 1
    · obtain ⟨sz, v1, v2, v3, g1, g2, q1, q2, q3, q4, q5, q6, -, q8, q9, q10⟩ := pull1 hB hs (nm_pn (st := st) (8 - (t + 1)) (by omega)) (pa_ hs (by omega)).2.2 g 0
      obtain ⟨mv', g', p1, p2, p3, p4⟩ := ih (by omega) (mv + sz) g2
      refine ⟨mv', g', ?_, fun i h => p2 i (q10 i h), fun e => ?_, fun h1 h2 j h3 h4 => ?_⟩
      · rw [if_pos hb, (pa_ hs (by omega)).1, Option.bind_some, q1, Option.bind_some, q2, Option.bind_some, q3, Option.bind_some, q4, Option.bind_some, q5, Option.bind_some, q6, Option.bind_some, up_s (by omega), p1]
      · obtain ⟨sz', w1, w2, w3, g3, g4, r1, r2, r3, r4, r5, r6, r7, -⟩ := pull1 hB hs (nm_pn (st := st) (8 - (t + 1)) (by omega)) (pa_ hs (by omega)).2.2 g (e + mv)
        rw [q1] at r1
        cases r1
        rw [q2] at r2
        cases r2
        rw [q3] at r3
        cases r3
        rw [q4] at r4
        cases r4
        rw [q5] at r5
        cases r5
        rw [q6] at r6
        cases r6
        show (if _ then _ else _) = _
        rw [up_e] at hb r7
        rw [if_pos hb, r7, Option.bind_some]
        dsimp only
        rw [i_ass]
        exact p3 e
      · by_cases hj : 8 - t ≤ j
        · exact p4 h1 h2 j hj h4
        · have ej : j = 8 - (t + 1) := by omega
          subst ej
          subst h2
          exact ⟨p2 _ q8, p2 _ q9⟩
    · obtain ⟨mv', g', p1, p2, p3, p4⟩ := ih (by omega) mv g
      refine ⟨mv', g', ?_, p2, fun e => ?_, fun h1 h2 j h3 h4 => ?_⟩
      · rw [if_neg hb, up_s (by omega), p1]
      · show (if _ then _ else _) = _
        rw [up_e] at hb
        rw [if_neg hb]
        exact p3 e
      · subst h1
        exact absurd (pa_4 (8 - (t + 1)) (by omega)).2.2.2.1 hb
theorem many_pull {st ch op : Int32} (hs : ts_ st) (hop : op - op / 2 * 2 = 1) : ∀ (t : Nat), t ≤ 8 → ∀ (me rg : Nat → Int32) (sp : Int32), mo_many_l62 (t + 1) op ch st (nI (8 - t)) me rg sp = (pl_ st ch t me rg sp).bind fun z => some (me, z.1, z.2) := by
  intro t
  induction t with
  | zero =>
    intro _ me rg sp
    rw [mo_many_l62_s, if_pos (by decide)]
    rfl
  | succ t ih =>
    intro ht me rg sp
    rw [mo_many_l62_s, if_neg (up_n (by omega)), if_pos hop]
    unfold mo_many_j97
    show _ = Option.bind (if _ then _ else _) _
    rw [up_s (by omega), up_e]
    by_cases hb : ((ch >>> (nI (7 - t) &&& 31)) &&& 1) = 1
    · rw [if_pos hb, if_pos hb, (pa_ hs (by omega)).2.1, Option.bind_some, Option.bind_assoc]
      congr 1
      funext z
      exact ih (by omega) _ _ _
    · rw [if_neg hb, if_neg hb]
      exact ih (by omega) _ _ _
theorem take_pull (v1 v2 ru : Int32) (so sv : Nat → Int32) : ∀ (t : Nat), t ≤ 8 → ∀ (me rg : Nat → Int32) (sp : Int32), mo_take_l19 (t + 1) v1 v2 (nI (8 - t)) me rg so sv ru sp = (pl_ 4 255 t me rg sp).bind fun z => if in_b v1 4 = true then some (z.1, upd so v1.toNatClampNeg 1, v1, v2) else none := by
  intro t
  induction t with
  | zero =>
    intro _ me rg sp
    rw [mo_take_l19_s, if_pos (by decide)]
    rfl
  | succ t ih =>
    intro ht me rg sp
    rw [mo_take_l19_s, if_neg (up_n (by omega)), up_s (by omega), up_e, (pa_4 (7 - t) (by omega)).2.2.1, Option.bind_some]
    show _ = Option.bind (if _ then _ else _) _
    rw [if_pos (pa_4 (7 - t) (by omega)).2.2.2.1, Option.bind_assoc]
    congr 1
    funext z
    exact ih (by omega) _ _ _
theorem og_of {g : R9} (h1 : okN 1 (rg_ g)) (h2 : okN 2 (rg_ g)) (h3 : okN 3 (rg_ g)) (h4 : okN 4 (rg_ g)) (h5 : okN 5 (rg_ g)) (h8 : okN 8 (rg_ g)) (h9 : okN 9 (rg_ g)) (h10 : okN 10 (rg_ g)) (h11 : okN 11 (rg_ g)) : og_ g := ⟨h8, h9, h11, h10, h1, h2, h3, h4, h5⟩
theorem og_N {g : R9} (h : og_ g) : okN 1 (rg_ g) ∧ okN 2 (rg_ g) ∧ okN 3 (rg_ g) ∧ okN 4 (rg_ g) ∧ okN 5 (rg_ g) ∧ okN 8 (rg_ g) ∧ okN 9 (rg_ g) ∧ okN 10 (rg_ g) ∧ okN 11 (rg_ g) := by
  obtain ⟨ha, hb, hd, hc, hx, hy, hu, hs, hp⟩ := h
  exact ⟨hx, hy, hu, hs, hp, ha, hb, hc, hd⟩
end
section
/-! Calls, the main page, the second page. -/
theorem pu_128 (me rg : Nat → Int32) (sp : Int32) : pu_ 4 128 8 me rg sp = (mo_push 4 5 me rg sp).bind fun z => some (z.1, z.2.1, z.2.2) := rfl
theorem pl_128 (me rg : Nat → Int32) (sp : Int32) : pl_ 4 128 8 me rg sp = (mo_pull 4 5 me rg sp).bind fun z => some (z.1, z.2) := rfl
section MAIN
variable {cb : Nat → Int32} {a b d c x y u s p : Int32}
/-- the class's push of a list, with cycles; the reference's -/
theorem tp_push (hB : okB cb) {st ch : Int32} (hs : ts_ st) (g : R9) (py : Int32) : ∃ (py' : Int32) (g' : R9) (cb' : Nat → Int32), tc_P_push st ch py cb g.1 g.2.1 g.2.2.1 g.2.2.2.1 g.2.2.2.2.1 g.2.2.2.2.2.1 g.2.2.2.2.2.2.1 g.2.2.2.2.2.2.2.1 g.2.2.2.2.2.2.2.2 = some (py', cb', g') ∧ okB cb' ∧ (og_ g → og_ g') ∧ pu_ st ch 8 cb (rg_ g) py = some (cb', rg_ g', py') := by
  obtain ⟨mv', g', cb', h1, h2, h3, h4⟩ := push_loop (ch := ch) hs 8 (by omega) 0 g cb hB
  refine ⟨py + mv', g', cb', ?_, h2, h3, ?_⟩
  · unfold tc_P_push tc_G_push
    rw [show (7 : Int32) = dn_ 8 by decide, h1]
    rfl
  · have := h4 py
    rwa [i_a0] at this
theorem tp_pull (hB : okB cb) {st ch : Int32} (hs : ts_ st) (g : R9) (py : Int32) : ∃ (py' : Int32) (g' : R9), tc_P_pull st ch py cb g.1 g.2.1 g.2.2.1 g.2.2.2.1 g.2.2.2.2.1 g.2.2.2.2.2.1 g.2.2.2.2.2.2.1 g.2.2.2.2.2.2.2.1 g.2.2.2.2.2.2.2.2 = some (py', g') ∧ (og_ g → og_ g') ∧ pl_ st ch 8 cb (rg_ g) py = some (rg_ g', py') := by
  obtain ⟨mv', g', h1, h2, h3, -⟩ := pull_loop (ch := ch) hs hB 8 (by omega) 0 g
  refine ⟨py + mv', g', ?_, ?_, ?_⟩
  · unfold tc_P_pull tc_G_pull
    rw [show (0 : Int32) = nI (8 - 8) by decide]
    rw [show tc_G_pull_l6 9 st ch (nI (8 - 8)) (nI (8 - 8)) g.1 g.2.1 g.2.2.1 g.2.2.2.1 g.2.2.2.2.1 g.2.2.2.2.2.1 g.2.2.2.2.2.2.1 g.2.2.2.2.2.2.2.1 g.2.2.2.2.2.2.2.2 cb = _ from h1]
    rfl
  · intro h
    obtain ⟨k1, k2, k3, k4, k5, k8, k9, k10, k11⟩ := og_N h
    exact og_of (h2 _ k1) (h2 _ k2) (h2 _ k3) (h2 _ k4) (h2 _ k5) (h2 _ k8) (h2 _ k9) (h2 _ k10) (h2 _ k11)
  · have := h3 py
    rwa [i_a0] at this
theorem mo_push_of {me rg me' rg' : Nat → Int32} {sp sp' : Int32} (h : pu_ 4 128 8 me rg sp = some (me', rg', sp')) : mo_push 4 5 me rg sp = some (me', rg', sp') := by
  rw [pu_128] at h
  obtain ⟨z, h1, h2⟩ := Option.bind_eq_some_iff.mp h
  rw [h1]
  exact h2
theorem mo_pull_of {me rg rg' : Nat → Int32} {sp sp' : Int32} (h : pl_ 4 128 8 me rg sp = some (rg', sp')) : mo_pull 4 5 me rg sp = some (rg', sp') := by
  rw [pl_128] at h
  obtain ⟨z, h1, h2⟩ := Option.bind_eq_some_iff.mp h
  rw [h1]
  exact h2
theorem call_in (hB : okB cb) (g : R9) (hg : og_ g) (v w py : Int32) (hw : v = w &&& 65535) : ∃ z, tc_P_callAt_j35 v py (-1) cb g.1 g.2.1 g.2.2.1 g.2.2.2.1 g.2.2.2.2.1 g.2.2.2.2.2.1 g.2.2.2.2.2.2.1 g.2.2.2.2.2.2.2.1 g.2.2.2.2.2.2.2.2 = some z ∧ cp_ok z (mo_call_j32 w cb (rg_ g) py false) := by
  obtain ⟨py', g', cb', h1, h2, h3, h4⟩ := tp_push (ch := 128) hB (Or.inl rfl) g py
  unfold tc_P_callAt_j35 mo_call_j32
  rw [if_neg (by decide), h1, if_pos (show bz_i false = 0 from rfl), mo_push_of h4, Option.bind_some, Option.bind_some]
  dsimp only
  rw [mo_set5, ← hw]
  refine ⟨_, rfl, Or.inl ⟨rfl, h2, ?_, rfl⟩⟩
  rw [hw]
  exact ok_p (h3 hg) w
theorem call_ok (hB : okB cb) (ho : ok_ a b d c x y u s p) {mode : Int32} (py : Int32) (hm : md_ mode) : ∃ z, tc_P_callAt mode py (-1) cb a b d c x y u s p = some z ∧ cp_ok z (mo_call mode cb (rf_ a b d c x y u s p) py false) := by
  rcases hm with rfl | hm
  · have e1 : tc_P_callAt 0 py (-1) cb a b d c x y u s p = tc_P_callAt_j35 (((rd_ cb p).toInt8.toInt32 + ((p + 1) &&& 65535)) &&& 65535) (py + 1) (-1) cb a b d c x y u s ((p + 1) &&& 65535) := by
      show ((tc_P_fetch 1 py cb p).bind _) = _
      rw [tc_fetch1]
      rfl
    have e2 : mo_call 0 cb (rf_ a b d c x y u s p) py false = mo_call_j32 (((p + 1) &&& 65535) + (rd_ cb p).toInt8.toInt32) cb (rf_ a b d c x y u s ((p + 1) &&& 65535)) (py + 1) false := by
      show ((mo_fetch cb _ py).bind _) = _
      rw [mo_fetch_eq, Option.bind_some, mo_signed_eq (rd_ok hB _)]
      rfl
    rw [e1, e2]
    exact call_in hB (a, b, d, c, x, y, u, s, (p + 1) &&& 65535) (ok_p ho _) _ _ _ (by rw [Int32.add_comm])
  · have hm0 : ¬ mode = 0 := by rcases hm with rfl | rfl | rfl <;> decide
    obtain ⟨z, h1, h2⟩ := oa_ok hB ho mode 1 py hm
    unfold tc_P_callAt mo_call
    rw [if_neg hm0, if_neg hm0, h1, Option.bind_some]
    obtain ⟨ad, py1, po, g⟩ := z
    rcases h2 with ⟨g1, g2, g3, g4⟩ | ⟨g1, w, g0, sp, g4⟩
    · dsimp only at g1 g2 g3 g4 ⊢
      rw [g4, Option.bind_some, g1]
      exact call_in hB g g3 ad ad py1 (rw_id g2).symm
    · dsimp only at g1 g4 ⊢
      rw [g4, Option.bind_some, g1]
      refine ⟨(py1, -2, cb, g), ?_, Or.inr ⟨rfl, hB, g0, sp, rfl⟩⟩
      rfl
theorem mp_in (hB : okB cb) (ho : ok_ a b d c x y u s p) {op mode : Int32} (py : Int32) (low : Bool) (hm : md_ mode) (hl : (192 : Int32) ≤ op ↔ low = false) : ∃ z, tc_P_doMainPage_j18 op mode (!low) py (-1) cb a b d c x y u s p = some z ∧ cp_ok z (mo_upper_j18 op mode low cb (rf_ a b d c x y u s p) py false) := by
  have byte : ∀ k, a8_ k → op &&& 15 = k → ∃ z, tc_P_doMainPage_j193 op mode (!low) py (-1) cb a b d c x y u s p = some z ∧ cp_ok z (mo_upper_j240 op mode cb (rf_ a b d c x y u s p) py false) := by
    intro k hk h
    cases low with
    | true =>
      obtain ⟨z, h1, h2⟩ := op8_ok hB ho py hk (Or.inl rfl) hm h
      refine ⟨z, ?_, ?_⟩
      · show ((tc_P_operate (op &&& 15) 8 mode py (-1) cb a b d c x y u s p).bind _) = _
        rw [h, h1]
        rfl
      · unfold mo_upper_j240 mo_byteOp
        rw [if_neg (fun q => Bool.noConfusion (hl.mp q))]
        exact h2
    | false =>
      obtain ⟨z, h1, h2⟩ := op8_ok hB ho py hk (Or.inr rfl) hm h
      refine ⟨z, ?_, ?_⟩
      · show ((tc_P_operate (op &&& 15) 9 mode py (-1) cb a b d c x y u s p).bind _) = _
        rw [h, h1]
        rfl
      · unfold mo_upper_j240 mo_byteOp
        rw [if_pos (hl.mpr rfl)]
        exact h2
  have save : ∀ q, (wq_ q ∨ q = 8 ∨ q = 9) → ∃ z, ((tc_P_operate 7 q mode py (-1) cb a b d c x y u s p).bind fun z17 => some (z17.1, z17.2.1, z17.2.2.1, z17.2.2.2.1, z17.2.2.2.2.1, z17.2.2.2.2.2.1, z17.2.2.2.2.2.2.1, z17.2.2.2.2.2.2.2.1, z17.2.2.2.2.2.2.2.2.1, z17.2.2.2.2.2.2.2.2.2.1, z17.2.2.2.2.2.2.2.2.2.2.1, z17.2.2.2.2.2.2.2.2.2.2.2)) = some z ∧ cp_ok z ((mo_save mode q cb (rf_ a b d c x y u s p) py false).bind fun z => some (z.1, z.2.1, z.2.2.1, z.2.2.2)) := by
    intro q hq
    have key : ∃ z, tc_P_operate 7 q mode py (-1) cb a b d c x y u s p = some z ∧ cp_ok z (mo_save mode q cb (rf_ a b d c x y u s p) py false) := by
      rcases hm with rfl | hm
      · refine sv_bad hB q py ?_
        rcases hq with hq | hq
        · rcases hq with rfl | rfl | rfl | rfl | rfl <;> (unfold vk_; decide)
        · rcases hq with rfl | rfl <;> (unfold vk_; decide)
      · rcases hq with hq | hq
        · exact sv16 hB ho py hq hm
        · exact sv8 hB ho py hq hm
    obtain ⟨z, h1, h2⟩ := key
    refine ⟨z, by rw [h1]; rfl, ?_⟩
    have e : ∀ o : Option ((Nat → Int32) × (Nat → Int32) × Int32 × Bool), (o.bind fun z => some (z.1, z.2.1, z.2.2.1, z.2.2.2)) = o := by
      intro o
      cases o <;> rfl
    rw [e]
    exact h2
  have hw1 : wq_ 1 := Or.inr (Or.inl rfl)
  have hw0 : wq_ 0 := Or.inl rfl
  have hw3 : wq_ 3 := Or.inr (Or.inr (Or.inr (Or.inl rfl)))
  rcases c16 op with h | h | h | h | h | h | h | h | h | h | h | h | h | h | h | h
  · have := byte 0 (Or.inl rfl) h
    unfold tc_P_doMainPage_j18 mo_upper_j18
    rw [h]
    exact this
  · have := byte 1 (Or.inr (Or.inl rfl)) h
    unfold tc_P_doMainPage_j18 mo_upper_j18
    rw [h]
    exact this
  · have := byte 2 (Or.inr (Or.inr (Or.inl rfl))) h
    unfold tc_P_doMainPage_j18 mo_upper_j18
    rw [h]
    exact this
  · obtain ⟨z, h1, h2⟩ := wd_ok hB ho py low hm
    refine ⟨z, ?_, ?_⟩
    · unfold tc_P_doMainPage_j18
      rw [h]
      cases low with
      | true =>
        show ((tc_P_operate 0 0 mode py (-1) cb a b d c x y u s p).bind _) = _
        rw [show tc_P_operate 0 0 mode py (-1) cb a b d c x y u s p = some z from h1]
        rfl
      | false =>
        show ((tc_P_operate 11 0 mode py (-1) cb a b d c x y u s p).bind _) = _
        rw [show tc_P_operate 11 0 mode py (-1) cb a b d c x y u s p = some z from h1]
        rfl
    · unfold mo_upper_j18
      rw [h]
      exact h2
  · have := byte 4 (Or.inr (Or.inr (Or.inr (Or.inl rfl)))) h
    unfold tc_P_doMainPage_j18 mo_upper_j18
    rw [h]
    exact this
  · have := byte 5 (Or.inr (Or.inr (Or.inr (Or.inr (Or.inl rfl))))) h
    unfold tc_P_doMainPage_j18 mo_upper_j18
    rw [h]
    exact this
  · have := byte 6 (Or.inr (Or.inr (Or.inr (Or.inr (Or.inr (Or.inl rfl)))))) h
    unfold tc_P_doMainPage_j18 mo_upper_j18
    rw [h]
    exact this
  · unfold tc_P_doMainPage_j18 mo_upper_j18
    rw [h]
    cases low with
    | true =>
      have := save 8 (Or.inr (Or.inl rfl))
      show ∃ z, tc_P_doMainPage_j209 mode 8 (op &&& 15) py (-1) cb a b d c x y u s p = some z ∧ _
      unfold tc_P_doMainPage_j209
      rw [h]
      exact this
    | false =>
      have := save 9 (Or.inr (Or.inr rfl))
      show ∃ z, tc_P_doMainPage_j209 mode 9 (op &&& 15) py (-1) cb a b d c x y u s p = some z ∧ _
      unfold tc_P_doMainPage_j209
      rw [h]
      exact this
  · have := byte 8 (Or.inr (Or.inr (Or.inr (Or.inr (Or.inr (Or.inr (Or.inl rfl))))))) h
    unfold tc_P_doMainPage_j18 mo_upper_j18
    rw [h]
    exact this
  · have := byte 9 (Or.inr (Or.inr (Or.inr (Or.inr (Or.inr (Or.inr (Or.inr (Or.inl rfl)))))))) h
    unfold tc_P_doMainPage_j18 mo_upper_j18
    rw [h]
    exact this
  · have := byte 10 (Or.inr (Or.inr (Or.inr (Or.inr (Or.inr (Or.inr (Or.inr (Or.inr (Or.inl rfl))))))))) h
    unfold tc_P_doMainPage_j18 mo_upper_j18
    rw [h]
    exact this
  · have := byte 11 (Or.inr (Or.inr (Or.inr (Or.inr (Or.inr (Or.inr (Or.inr (Or.inr (Or.inr rfl))))))))) h
    unfold tc_P_doMainPage_j18 mo_upper_j18
    rw [h]
    exact this
  · unfold tc_P_doMainPage_j18 mo_upper_j18
    rw [h]
    cases low with
    | true =>
      obtain ⟨z, h1, h2⟩ := wc_ok hB ho py hw1 hm
      refine ⟨z, ?_, h2⟩
      show ((tc_P_operate 1 1 mode py (-1) cb a b d c x y u s p).bind _) = _
      rw [h1]
      rfl
    | false =>
      obtain ⟨z, h1, h2⟩ := wl_ok hB ho py hw0 hm
      refine ⟨z, ?_, h2⟩
      show ((tc_P_operate 6 0 mode py (-1) cb a b d c x y u s p).bind _) = _
      rw [h1]
      rfl
  · unfold tc_P_doMainPage_j18 mo_upper_j18
    rw [h]
    cases low with
    | true =>
      obtain ⟨z, h1, h2⟩ := call_ok hB ho py hm
      refine ⟨z, ?_, ?_⟩
      · show ((tc_P_callAt mode py (-1) cb a b d c x y u s p).bind _) = _
        rw [h1]
        rfl
      · have e : ∀ o : Option ((Nat → Int32) × (Nat → Int32) × Int32 × Bool), (o.bind fun z => some (z.1, z.2.1, z.2.2.1, z.2.2.2)) = o := by
          intro o
          cases o <;> rfl
        show cp_ok z ((mo_call mode cb (rf_ a b d c x y u s p) py false).bind _)
        rw [e]
        exact h2
    | false => exact save 0 (Or.inl hw0)
  · unfold tc_P_doMainPage_j18 mo_upper_j18
    rw [h]
    cases low with
    | true =>
      obtain ⟨z, h1, h2⟩ := wl_ok hB ho py hw1 hm
      refine ⟨z, ?_, h2⟩
      show ((tc_P_operate 6 1 mode py (-1) cb a b d c x y u s p).bind _) = _
      rw [h1]
      rfl
    | false =>
      obtain ⟨z, h1, h2⟩ := wl_ok hB ho py hw3 hm
      refine ⟨z, ?_, h2⟩
      show ((tc_P_operate 6 3 mode py (-1) cb a b d c x y u s p).bind _) = _
      rw [h1]
      rfl
  · unfold tc_P_doMainPage_j18 mo_upper_j18
    rw [h]
    cases low with
    | true => exact save 1 (Or.inl hw1)
    | false => exact save 3 (Or.inl hw3)
end MAIN
end
section
/-! The second page, changes in memory and in registers, branches. -/
section LOW
variable {cb : Nat → Int32} {a b d c x y u s p : Int32}
theorem sv_all (hB : okB cb) (ho : ok_ a b d c x y u s p) {q mode : Int32} (py : Int32) (hq : wq_ q) (hm : md_ mode) : ∃ z, tc_P_operate 7 q mode py (-1) cb a b d c x y u s p = some z ∧ cp_ok z (mo_save mode q cb (rf_ a b d c x y u s p) py false) := by
  rcases hm with rfl | hm
  · refine sv_bad hB q py ?_
    rcases hq with rfl | rfl | rfl | rfl | rfl <;> (unfold vk_; decide)
  · exact sv16 hB ho py hq hm
theorem o_eta4 (o : Option ((Nat → Int32) × (Nat → Int32) × Int32 × Bool)) : (o.bind fun z => some (z.1, z.2.1, z.2.2.1, z.2.2.2)) = o := by
  cases o <;> rfl
theorem sp_bad (hB : okB cb) (py : Int32) : ∃ z, tc_P_doSecondPage_j43 py (-1) cb a b d c x y u s p = some z ∧ cp_ok z (some (cb, rf_ a b d c x y u s p, py, true)) :=
  ⟨_, rfl, Or.inr ⟨rfl, hB, (a, b, d, c, x, y, u, s, p), py, rfl⟩⟩
theorem sp_in (hB : okB cb) (ho : ok_ a b d c x y u s p) {v mode : Int32} (py : Int32) (low : Bool) (hm : md_ mode) : ∃ z, tc_P_doSecondPage_j18 v mode (!low) py (-1) cb a b d c x y u s p = some z ∧ cp_ok z (mo_second_j28 v mode (v &&& 15) low cb (rf_ a b d c x y u s p) py false) := by
  have hw0 : wq_ 0 := Or.inl rfl
  have hw2 : wq_ 2 := Or.inr (Or.inr (Or.inl rfl))
  have hw4 : wq_ 4 := Or.inr (Or.inr (Or.inr (Or.inr rfl)))
  unfold tc_P_doSecondPage_j18 mo_second_j28
  by_cases h128 : (128 : Int32) ≤ v
  · rw [if_neg (Int32.not_lt.mpr h128), if_pos h128]
    cases low with
    | false =>
      rw [if_neg (show ¬ bz_i (!false) = 0 by decide), if_pos (show bz_i false = 0 from rfl)]
      rcases c16 v with h | h | h | h | h | h | h | h | h | h | h | h | h | h | h | h
      all_goals rw [h]
      all_goals first
        | exact sp_bad hB py
        | skip
      · obtain ⟨z, h1, h2⟩ := wl_ok hB ho py hw4 hm
        refine ⟨z, ?_, h2⟩
        show ((tc_P_operate 6 4 mode py (-1) cb a b d c x y u s p).bind _) = _
        rw [h1]
        rfl
      · obtain ⟨z, h1, h2⟩ := sv_all hB ho py hw4 hm
        refine ⟨z, ?_, ?_⟩
        · show ((tc_P_operate 7 4 mode py (-1) cb a b d c x y u s p).bind _) = _
          rw [h1]
          rfl
        · show cp_ok z ((mo_save mode 4 cb (rf_ a b d c x y u s p) py false).bind _)
          rw [o_eta4]
          exact h2
    | true =>
      rw [if_pos (show bz_i (!true) = 0 from rfl), if_neg (show ¬ bz_i true = 0 by decide)]
      rcases c16 v with h | h | h | h | h | h | h | h | h | h | h | h | h | h | h | h
      all_goals rw [h]
      all_goals first
        | exact sp_bad hB py
        | skip
      · obtain ⟨z, h1, h2⟩ := wc_ok hB ho py hw0 hm
        refine ⟨z, ?_, h2⟩
        show ((tc_P_operate 1 0 mode py (-1) cb a b d c x y u s p).bind _) = _
        rw [h1]
        rfl
      · obtain ⟨z, h1, h2⟩ := wc_ok hB ho py hw2 hm
        refine ⟨z, ?_, h2⟩
        show ((tc_P_operate 1 2 mode py (-1) cb a b d c x y u s p).bind _) = _
        rw [h1]
        rfl
      · obtain ⟨z, h1, h2⟩ := wl_ok hB ho py hw2 hm
        refine ⟨z, ?_, h2⟩
        show ((tc_P_operate 6 2 mode py (-1) cb a b d c x y u s p).bind _) = _
        rw [h1]
        rfl
      · obtain ⟨z, h1, h2⟩ := sv_all hB ho py hw2 hm
        refine ⟨z, ?_, ?_⟩
        · show ((tc_P_operate 7 2 mode py (-1) cb a b d c x y u s p).bind _) = _
          rw [h1]
          rfl
        · show cp_ok z ((mo_save mode 2 cb (rf_ a b d c x y u s p) py false).bind _)
          rw [o_eta4]
          exact h2
  · rw [if_pos (Int32.not_le.mp h128), if_neg h128]
    exact sp_bad hB py
/-- a change in memory -/
theorem cm_bad (hB : okB cb) (ho : ok_ a b d c x y u s p) {k mode gv : Int32} (py : Int32) (hm : mode = 1 ∨ mode = 2 ∨ mode = 3) (hk : tc_P_isChange k = some false) (h14 : ¬ k = 14) (hmo : mo_lower_j24 k gv false cb (rf_ a b d c x y u s p) py false = some (cb, rf_ a b d c x y u s p, py, true)) : ∃ z, tc_P_changeMemory k mode py (-1) cb a b d c x y u s p = some z ∧ cp_ok z (mo_lower_j24 k gv false cb (rf_ a b d c x y u s p) py false) := by
  obtain ⟨z, h1, -⟩ := oa_ok hB ho mode 1 py hm
  refine ⟨(z.2.1, -2, cb, z.2.2.2), ?_, Or.inr ⟨rfl, hB, (a, b, d, c, x, y, u, s, p), py, hmo⟩⟩
  unfold tc_P_changeMemory
  rw [h1, Option.bind_some, hk, Option.bind_some, if_pos (show bz_i false = 0 from rfl), if_neg h14]
  rfl
theorem cm_good (hB : okB cb) (ho : ok_ a b d c x y u s p) {k mode gv : Int32} (py : Int32) (hm : mode = 1 ∨ mode = 2 ∨ mode = 3) (hk : kc_ k) (hc : tc_P_isChange k = some true) (hmo : mo_lower_j24 k gv false cb (rf_ a b d c x y u s p) py false = mo_lower_j143 k mode cb (rf_ a b d c x y u s p) py false) : ∃ z, tc_P_changeMemory k mode py (-1) cb a b d c x y u s p = some z ∧ cp_ok z (mo_lower_j24 k gv false cb (rf_ a b d c x y u s p) py false) := by
  have h14 : ¬ k = 14 := by rcases hk with rfl | rfl | rfl | rfl | rfl | rfl | rfl | rfl | rfl | rfl | rfl <;> decide
  obtain ⟨z, h1, h2⟩ := oa_ok hB ho mode 1 py hm
  rw [hmo]
  unfold tc_P_changeMemory mo_lower_j143
  rw [h1, Option.bind_some, hc, Option.bind_some, if_neg (show ¬ bz_i true = 0 by decide)]
  unfold tc_P_changeMemory_j26
  obtain ⟨ad, py1, po, a', b', d', c1, x', y', u', s', p'⟩ := z
  rcases h2 with ⟨g1, g2, g3, g4⟩ | ⟨g1, w, g0, sp, g4⟩
  · dsimp only at g1 g2 g3 g4 ⊢
    rw [g4, Option.bind_some, if_neg (by rw [g1]; decide), if_neg h14]
    dsimp only
    rw [if_pos (show bz_i false = 0 from rfl), if_neg h14]
    have tail : ∀ (m py2 : Int32), rb_ m → ∃ z, tc_P_changeMemory_j69 k ad m k py2 po cb a' b' d' c1 x' y' u' s' p' = some z ∧ cp_ok z (mo_lower_j187 k ad m cb (rf_ a' b' d' c1 x' y' u' s' p') py2 false) := by
      intro m py2 hm2
      obtain ⟨v, c', k1, k2, k3, k4⟩ := ch_ok hk hm2 g3.2.2.2.1 a' b' d' x' y' u' s' p'
      have hg' : ok_ a' b' d' c' x' y' u' s' p' := ⟨g3.1, g3.2.1, g3.2.2.1, k3, g3.2.2.2.2⟩
      unfold tc_P_changeMemory_j69 mo_lower_j187
      rw [k1, Option.bind_some, k4, Option.bind_some]
      dsimp only
      by_cases h13 : k = 13
      · rw [if_pos h13, if_pos h13]
        exact ⟨_, rfl, Or.inl ⟨g1, hB, hg', rfl⟩⟩
      · rw [if_neg h13, if_neg h13]
        unfold tc_P_store
        rw [tc_store1, mo_store1]
        exact ⟨_, rfl, Or.inl ⟨g1, wr_ok hB _ _, hg', rfl⟩⟩
    by_cases h15 : k = 15
    · rw [if_pos h15, if_pos h15]
      exact tail 0 py1 rb_0
    · rw [if_neg h15, if_neg h15]
      unfold tc_P_load
      rw [tc_load1, mo_load1]
      exact tail (rd_ cb ad) (py1 + 1) (rd_ok hB _)
  · dsimp only at g1 g4 ⊢
    rw [g4, Option.bind_some, if_pos g1]
    exact ⟨_, rfl, Or.inr ⟨g1, hB, g0, sp, rfl⟩⟩
theorem cm_jump (hB : okB cb) (ho : ok_ a b d c x y u s p) {mode gv : Int32} (py : Int32) (hm : mode = 1 ∨ mode = 2 ∨ mode = 3) (hmo : mo_lower_j24 14 gv false cb (rf_ a b d c x y u s p) py false = mo_lower_j143 14 mode cb (rf_ a b d c x y u s p) py false) : ∃ z, tc_P_changeMemory 14 mode py (-1) cb a b d c x y u s p = some z ∧ cp_ok z (mo_lower_j24 14 gv false cb (rf_ a b d c x y u s p) py false) := by
  obtain ⟨z, h1, h2⟩ := oa_ok hB ho mode 1 py hm
  rw [hmo]
  unfold tc_P_changeMemory mo_lower_j143
  rw [h1, Option.bind_some, show tc_P_isChange 14 = some false from rfl, Option.bind_some, if_pos (show bz_i false = 0 from rfl), if_pos rfl]
  unfold tc_P_changeMemory_j26
  obtain ⟨ad, py1, po, a', b', d', c1, x', y', u', s', p'⟩ := z
  rcases h2 with ⟨g1, g2, g3, g4⟩ | ⟨g1, w, g0, sp, g4⟩
  · dsimp only at g1 g2 g3 g4 ⊢
    rw [g4, Option.bind_some, if_neg (by rw [g1]; decide), if_pos rfl]
    dsimp only
    rw [if_pos (show bz_i false = 0 from rfl), if_pos rfl, mo_set5, rw_id g2]
    refine ⟨_, rfl, Or.inl ⟨g1, hB, ?_, rfl⟩⟩
    exact ⟨g3.1, g3.2.1, g3.2.2.1, g3.2.2.2.1, g3.2.2.2.2.1, g3.2.2.2.2.2.1, g3.2.2.2.2.2.2.1, g3.2.2.2.2.2.2.2.1, g2⟩
  · dsimp only at g1 g4 ⊢
    rw [g4, Option.bind_some, if_pos g1]
    exact ⟨_, rfl, Or.inr ⟨g1, hB, g0, sp, rfl⟩⟩
theorem cm_ok (hB : okB cb) (ho : ok_ a b d c x y u s p) {mode gv : Int32} (op py : Int32) (hg : (gv = 0 ∧ mode = 1) ∨ (gv = 6 ∧ mode = 2) ∨ (gv = 7 ∧ mode = 3)) : ∃ z, tc_P_changeMemory (op &&& 15) mode py (-1) cb a b d c x y u s p = some z ∧ cp_ok z (mo_lower_j24 (op &&& 15) gv false cb (rf_ a b d c x y u s p) py false) := by
  have hm : mode = 1 ∨ mode = 2 ∨ mode = 3 := by
    rcases hg with ⟨-, h⟩ | ⟨-, h⟩ | ⟨-, h⟩
    · exact Or.inl h
    · exact Or.inr (Or.inl h)
    · exact Or.inr (Or.inr h)
  have kc : ∀ k, (k = 0 ∨ k = 3 ∨ k = 4 ∨ k = 6 ∨ k = 7 ∨ k = 8 ∨ k = 9 ∨ k = 10 ∨ k = 12 ∨ k = 13 ∨ k = 14 ∨ k = 15) → mo_lower_j24 k gv false cb (rf_ a b d c x y u s p) py false = mo_lower_j143 k mode cb (rf_ a b d c x y u s p) py false := by
    intro k hk
    rcases hg with ⟨rfl, rfl⟩ | ⟨rfl, rfl⟩ | ⟨rfl, rfl⟩ <;> rcases hk with rfl | rfl | rfl | rfl | rfl | rfl | rfl | rfl | rfl | rfl | rfl | rfl <;> rfl
  rcases c16 op with h | h | h | h | h | h | h | h | h | h | h | h | h | h | h | h
  all_goals rw [h]
  all_goals first
    | exact cm_bad hB ho py hm rfl (by decide) (by rfl)
    | exact cm_jump hB ho py hm (kc 14 (by decide))
    | exact cm_good hB ho py hm (by unfold kc_; decide) rfl (kc _ (by decide))
/-- a change in A or B -/
theorem cr_ok (ho : ok_ a b d c x y u s p) {q gv : Int32} (op py : Int32) (hg : (gv = 4 ∧ q = 8) ∨ (gv = 5 ∧ q = 9)) : ∃ (po' : Int32) (g' : R9), tc_P_changeRegister (op &&& 15) q (-1) a b d c x y u s p = some (po', g') ∧ ((po' = -1 ∧ og_ g' ∧ mo_lower_j24 (op &&& 15) gv true cb (rf_ a b d c x y u s p) py false = some (cb, rg_ g', py, false)) ∨ (po' = -2 ∧ ∃ (g0 : R9) (sp : Int32), mo_lower_j24 (op &&& 15) gv true cb (rf_ a b d c x y u s p) py false = some (cb, rg_ g0, sp, true))) := by
  have bad : ∀ k, tc_P_isChange k = some false → mo_lower_j24 k gv true cb (rf_ a b d c x y u s p) py false = some (cb, rf_ a b d c x y u s p, py, true) → ∃ (po' : Int32) (g' : R9), tc_P_changeRegister k q (-1) a b d c x y u s p = some (po', g') ∧ ((po' = -1 ∧ og_ g' ∧ mo_lower_j24 k gv true cb (rf_ a b d c x y u s p) py false = some (cb, rg_ g', py, false)) ∨ (po' = -2 ∧ ∃ (g0 : R9) (sp : Int32), mo_lower_j24 k gv true cb (rf_ a b d c x y u s p) py false = some (cb, rg_ g0, sp, true))) := by
    intro k h1 h2
    refine ⟨-2, (a, b, d, c, x, y, u, s, p), ?_, Or.inr ⟨rfl, (a, b, d, c, x, y, u, s, p), py, h2⟩⟩
    unfold tc_P_changeRegister
    rw [h1]
    rfl
  have good : ∀ k, kc_ k → tc_P_isChange k = some true → mo_lower_j24 k gv true cb (rf_ a b d c x y u s p) py false = ((mo_changed k (rf_ a b d c x y u s p q.toNatClampNeg) (rf_ a b d c x y u s p)).bind fun z24 => if k = (13 : Int32) then some (cb, z24.2, py, false) else (mo_set q z24.1 z24.2).bind fun z25 => some (cb, z25, py, false)) → ∃ (po' : Int32) (g' : R9), tc_P_changeRegister k q (-1) a b d c x y u s p = some (po', g') ∧ ((po' = -1 ∧ og_ g' ∧ mo_lower_j24 k gv true cb (rf_ a b d c x y u s p) py false = some (cb, rg_ g', py, false)) ∨ (po' = -2 ∧ ∃ (g0 : R9) (sp : Int32), mo_lower_j24 k gv true cb (rf_ a b d c x y u s p) py false = some (cb, rg_ g0, sp, true))) := by
    intro k hk h1 h2
    have hr : ∃ r, tc_G_get q a b d c x y u s p = some r ∧ rb_ r ∧ rf_ a b d c x y u s p q.toNatClampNeg = r ∧ vk_ q := by
      rcases hg with ⟨-, rfl⟩ | ⟨-, rfl⟩
      · exact ⟨a, rfl, ho.1, rfl, by unfold vk_; decide⟩
      · exact ⟨b, rfl, ho.2.1, rfl, by unfold vk_; decide⟩
    obtain ⟨r, r1, r2, r3, r4⟩ := hr
    obtain ⟨v, c', k1, k2, k3, k4⟩ := ch_ok hk r2 ho.2.2.2.1 a b d x y u s p
    have hg' : ok_ a b d c' x y u s p := ⟨ho.1, ho.2.1, ho.2.2.1, k3, ho.2.2.2.2⟩
    obtain ⟨g9, n1, n2, n3⟩ := set_eq (v := v) r4 hg'
    refine ⟨-1, g9, ?_, Or.inl ⟨rfl, n3, ?_⟩⟩
    · unfold tc_P_changeRegister
      rw [h1, Option.bind_some, if_neg (show ¬ bz_i true = 0 by decide), r1, Option.bind_some, k1, Option.bind_some]
      dsimp only
      rw [n1]
      rfl
    · rw [h2, r3, k4, Option.bind_some]
      dsimp only
      by_cases h13 : k = 13
      · rw [if_pos h13]
        subst h13
        have hv : v = r := by
          obtain ⟨c2, q1, -⟩ := plain8 r2 ho.2.2.2.1 a b d x y u s p
          have : tc_P_changed 13 r c = (tc_C_plain r 1 c).bind fun z40 => some (z40.1, z40.2) := rfl
          rw [this, q1] at k1
          cases k1
          rfl
        subst hv
        have e : rg_ g9 = rf_ a b d c' x y u s p := by
          have : mo_set q v (rf_ a b d c' x y u s p) = some (rf_ a b d c' x y u s p) := by
            rcases hg with ⟨-, rfl⟩ | ⟨-, rfl⟩
            · have : v = a := r3.symm
              subst this
              show some (upd _ 8 _) = _
              rw [rf_8, rb_id r2]
            · have : v = b := r3.symm
              subst this
              show some (upd _ 9 _) = _
              rw [rf_9, rb_id r2]
          rw [n2] at this
          exact Option.some.inj this
        rw [e]
      · rw [if_neg h13, n2]
        rfl
  rcases c16 op with h | h | h | h | h | h | h | h | h | h | h | h | h | h | h | h
  all_goals rw [h]
  all_goals first
    | exact bad _ rfl (by rfl)
    | exact good _ (by unfold kc_; decide) rfl (by rcases hg with ⟨rfl, rfl⟩ | ⟨rfl, rfl⟩ <;> rfl)
end LOW
theorem ho_all : ∀ k, k < 16 → ∀ m, m < 256 → (mo_holds (nI k &&& 14) (fun _ => nI m)).bind (fun t => some (t == decide ((nI k - nI k / 2 * 2) = 0))) = tc_P_holds (nI k) (nI m) := by decide +kernel
end
section
/-! Branches; the groups 1 and 3. -/
abbrev MS : Type := (Nat → Int32) × (Nat → Int32) × (Nat → Int32) × (Nat → Int32) × (Nat → Int32) × (Nat → Int32) × (Nat → Int32) × Int32 × Int32 × Int32 × Bool
def sg_ok (so sv tl su qu : Nat → Int32) (wa ru : Int32) (z : Int32 × Int32 × (Nat → Int32) × R9) (m : Option MS) : Prop :=
  (z.2.1 = -1 ∧ okB z.2.2.1 ∧ og_ z.2.2.2 ∧ m = some (z.2.2.1, rg_ z.2.2.2, so, sv, tl, su, qu, wa, ru, z.1, false)) ∨ (z.2.1 = -2 ∧ okB z.2.2.1 ∧ ∃ (g0 : R9) (sp : Int32), m = some (z.2.2.1, rg_ g0, so, sv, tl, su, qu, wa, ru, sp, true))
theorem ho_rg (v a b d c x y u s p : Int32) : mo_holds v (rf_ a b d c x y u s p) = mo_holds v (fun _ => c) := rfl
theorem fl12_all : ∀ m, m < 256 → ∀ n z : Bool, (z = true → n = false) → mk_ 4 z (mk_ 8 n (nI m)) = (nI m &&& ((12 : Int32) ^^^ -1)) ||| fl_ n z := by decide +kernel
theorem fl5_all : ∀ m, m < 256 → ∀ z k : Bool, mk_ 1 k (mk_ 4 z (nI m)) = (nI m &&& ((5 : Int32) ^^^ -1)) ||| ((bif z then 4 else 0) ||| bz_i k) := by decide +kernel
theorem fl4_1 : ∀ m, m < 256 → ∀ z : Bool, mk_ 4 z (nI m) = (nI m &&& ((4 : Int32) ^^^ -1)) ||| (bif z then 4 else 0) := by decide +kernel
theorem sex_all : ∀ n, n < 256 → ((nI n).toInt8.toInt32 &&& 65535).toBitVec.toNat < 65536 ∧ (256 : Int32) * (((nI n).toInt8.toInt32 >>> ((8 : Int32) &&& 31)) &&& 255) + ((nI n).toInt8.toInt32 &&& 255) = (nI n).toInt8.toInt32 &&& 65535 ∧ (((nI n).toInt8.toInt32 &&& 65535) &&& 65535) >>> ((8 : Int32) &&& 31) = ((nI n).toInt8.toInt32 >>> ((8 : Int32) &&& 31)) &&& 255 ∧ ((nI n).toInt8.toInt32 &&& 65535) &&& 255 = (nI n).toInt8.toInt32 &&& 255 := by decide +kernel
theorem b7_all : ∀ n, n < 256 → nI n >>> ((7 : Int32) &&& 31) = bz_i (decide (¬ nI n ≤ 127)) := by decide +kernel
/-- what trade allows: the numbers exist and are of one size -/
theorem ex_all : ∀ i, i < 16 → (tc_G_exists (nI i) = some true ∧ ¬ nI i = 6 ∧ ¬ nI i = 7 ∧ ¬ 11 < nI i) ∨ (tc_G_exists (nI i) = some false ∧ (nI i = 6 ∨ nI i = 7 ∨ 11 < nI i)) := by decide +kernel
theorem exv_all : ∀ i, i < 16 → tc_G_exists (nI i) = some true → (nI i = 0 ∨ nI i = 1 ∨ nI i = 2 ∨ nI i = 3 ∨ nI i = 4 ∨ nI i = 5 ∨ nI i = 8 ∨ nI i = 9 ∨ nI i = 10 ∨ nI i = 11) := by decide +kernel
theorem exs_all : ∀ i, i < 16 → tc_G_exists (nI i) = some true → tc_G_sizeOf (nI i) = some (if (8 : Int32) ≤ nI i then 1 else 2) := by decide +kernel
theorem ho_some : ∀ k, k < 16 → ∀ m, m < 256 → (mo_holds (nI k &&& 14) (fun _ => nI m)).isSome = true := by decide +kernel
theorem nib_all : ∀ n, n < 256 → ∃ i, i < 16 ∧ nI n >>> ((4 : Int32) &&& 31) = nI i := by
  intro n h
  exact ⟨n / 16, by omega, pk_shrN (by omega) _ 4 (by decide)⟩
section GR
variable {cb : Nat → Int32} {a b d c x y u s p : Int32}
theorem br_ok (hB : okB cb) (ho : ok_ a b d c x y u s p) (op py : Int32) : ∃ py' p', tc_P_branch (op &&& 15) py cb c p = some (py', p') ∧ rw_ p' ∧ mo_branch op cb (rf_ a b d c x y u s p) py = some (rf_ a b d c x y u s p', py') := by
  obtain ⟨k, hk, ek⟩ := pk_andE op (m := 15) 4 (by decide)
  obtain ⟨m, hm, ec⟩ := ho.2.2.2.1
  have hh := ho_all k hk m hm
  unfold tc_P_branch mo_branch
  rw [tc_fetch1, mo_fetch_eq, Option.bind_some, Option.bind_some]
  dsimp only
  rw [tc_signed1, mo_signed_eq (rd_ok hB _), Option.bind_some, Option.bind_some, ho_rg, ek, ec, ← hh]
  cases hz : mo_holds (nI k &&& 14) (fun _ => nI m) with
  | none =>
    have := ho_some k hk m hm
    rw [hz] at this
    cases this
  | some t =>
    rw [Option.bind_some, Option.bind_some, Option.bind_some]
    unfold mo_branch_j32 mo_branch_j40
    by_cases he : (nI k - nI k / 2 * 2) = 0
    · rw [if_pos he, decide_eq_true he]
      cases t
      · exact ⟨_, _, rfl, rw_and _, rfl⟩
      · refine ⟨_, _, rfl, rw_and _, ?_⟩
        rw [if_pos rfl, if_neg (by decide), mo_set5]
        rfl
    · rw [if_neg he, decide_eq_false he]
      cases t
      · refine ⟨_, _, rfl, rw_and _, ?_⟩
        rw [if_pos rfl, if_neg (by decide), mo_set5]
        rfl
      · exact ⟨_, _, rfl, rw_and _, rfl⟩
theorem td_ok (hB : okB cb) (ho : ok_ a b d c x y u s p) (py : Int32) (ex : Bool) : ∃ (py' po' : Int32) (g' : R9), tc_P_moveRegister ex py (-1) cb a b d c x y u s p = some (py', po', g') ∧ ((po' = -1 ∧ og_ g' ∧ mo_trade (bif ex then 30 else 31) cb (rf_ a b d c x y u s p) py false = some (rg_ g', py', false)) ∨ (po' = -2 ∧ ∃ (g0 : R9) (sp : Int32), mo_trade (bif ex then 30 else 31) cb (rf_ a b d c x y u s p) py false = some (rg_ g0, sp, true))) := by
  obtain ⟨n, hn, en⟩ := rd_ok hB p
  obtain ⟨i, hi, ei⟩ := nib_all n hn
  obtain ⟨j, hj, ej⟩ := pk_andE (nI n) (m := 15) 4 (by decide)
  have ho' := ok_p ho (p + 1)
  unfold tc_P_moveRegister mo_trade
  rw [tc_fetch1, mo_fetch_eq, Option.bind_some, Option.bind_some]
  dsimp only
  rw [en, ei, ej]
  have bad : ∃ (py' po' : Int32) (g' : R9), tc_P_moveRegister_j43 (py + 1) (-1) cb a b d c x y u s ((p + 1) &&& 65535) = some (py', po', g') ∧ ((po' = -1 ∧ og_ g' ∧ mo_trade_j81 (bif ex then 30 else 31) (nI i) (nI j) cb (rf_ a b d c x y u s ((p + 1) &&& 65535)) (py + 1) false = some (rg_ g', py', false)) ∨ (po' = -2 ∧ ∃ (g0 : R9) (sp : Int32), mo_trade_j81 (bif ex then 30 else 31) (nI i) (nI j) cb (rf_ a b d c x y u s ((p + 1) &&& 65535)) (py + 1) false = some (rg_ g0, sp, true))) :=
    ⟨_, _, (a, b, d, c, x, y, u, s, (p + 1) &&& 65535), rfl, Or.inr ⟨rfl, (a, b, d, c, x, y, u, s, (p + 1) &&& 65535), _, rfl⟩⟩
  rcases ex_all i hi with ⟨x1, x2, x3, x4⟩ | ⟨x1, x2⟩
  · rw [x1, Option.bind_some, if_neg (show ¬ bz_i true = 0 by decide), if_neg x2, if_neg x3, if_neg x4]
    rcases ex_all j hj with ⟨y1, y2, y3, y4⟩ | ⟨y1, y2⟩
    · rw [y1, Option.bind_some, if_neg (show ¬ bz_i true = 0 by decide), if_neg y2, if_neg y3, if_neg y4, exs_all i hi x1, exs_all j hj y1, Option.bind_some, Option.bind_some]
      unfold mo_trade_j66 mo_trade_j78
      by_cases h8 : ((8 : Int32) ≤ nI i ∧ (8 : Int32) ≤ nI j) ∨ (¬ (8 : Int32) ≤ nI i ∧ ¬ (8 : Int32) ≤ nI j)
      · have vi : vk_ (nI i) := exv_all i hi x1
        have vj : vk_ (nI j) := exv_all j hj y1
        have gi := get_eq (d := d) (c := c) (x := x) (y := y) (u := u) (s := s) (p := (p + 1) &&& 65535) vi ho.1 ho.2.1
        have gj := get_eq (d := d) (c := c) (x := x) (y := y) (u := u) (s := s) (p := (p + 1) &&& 65535) vj ho.1 ho.2.1
        have get_some : ∀ {k : Int32}, vk_ k → ∃ r, tc_G_get k a b d c x y u s ((p + 1) &&& 65535) = some r := by
          intro k hk
          rcases hk with rfl | rfl | rfl | rfl | rfl | rfl | rfl | rfl | rfl | rfl <;> exact ⟨_, rfl⟩
        obtain ⟨ri, hri⟩ := get_some vi
        obtain ⟨rj, hrj⟩ := get_some vj
        rw [hri] at gi
        rw [hrj] at gj
        obtain ⟨g1, q1, q2, q3⟩ := set_eq (v := ri) vj ho'
        obtain ⟨g2, r1, r2, r3⟩ := set_eq (v := rj) vi q3
        have fin : ∃ (py' po' : Int32) (g' : R9), ((tc_G_get (nI j) a b d c x y u s ((p + 1) &&& 65535)).bind fun z15 => (tc_G_get (nI i) a b d c x y u s ((p + 1) &&& 65535)).bind fun z16 => (tc_G_set (nI j) z16 a b d c x y u s ((p + 1) &&& 65535)).bind fun z17 => if (bz_i ex) = (0 : Int32) then some (py + 1, (-1 : Int32), z17.1, z17.2.1, z17.2.2.1, z17.2.2.2.1, z17.2.2.2.2.1, z17.2.2.2.2.2.1, z17.2.2.2.2.2.2.1, z17.2.2.2.2.2.2.2.1, z17.2.2.2.2.2.2.2.2) else (tc_G_set (nI i) z15 z17.1 z17.2.1 z17.2.2.1 z17.2.2.2.1 z17.2.2.2.2.1 z17.2.2.2.2.2.1 z17.2.2.2.2.2.2.1 z17.2.2.2.2.2.2.2.1 z17.2.2.2.2.2.2.2.2).bind fun z18 => some (py + 1, (-1 : Int32), z18.1, z18.2.1, z18.2.2.1, z18.2.2.2.1, z18.2.2.2.2.1, z18.2.2.2.2.2.1, z18.2.2.2.2.2.2.1, z18.2.2.2.2.2.2.2.1, z18.2.2.2.2.2.2.2.2)) = some (py', po', g') ∧ ((po' = -1 ∧ og_ g' ∧ mo_trade_j86 (bif ex then 30 else 31) (nI i) (nI j) false cb (rf_ a b d c x y u s ((p + 1) &&& 65535)) (py + 1) false = some (rg_ g', py', false)) ∨ (po' = -2 ∧ ∃ (g0 : R9) (sp : Int32), mo_trade_j86 (bif ex then 30 else 31) (nI i) (nI j) false cb (rf_ a b d c x y u s ((p + 1) &&& 65535)) (py + 1) false = some (rg_ g0, sp, true))) := by
          unfold mo_trade_j86
          rw [hri, hrj, Option.bind_some, Option.bind_some, q1, if_pos (show bz_i false = 0 from rfl), gi, gj, Option.bind_some, Option.bind_some, Option.bind_some, q2, Option.bind_some]
          cases ex with
          | true =>
            rw [if_neg (show ¬ bz_i true = 0 by decide), r1, if_pos (show (bif true then (30 : Int32) else 31) = 30 from rfl), r2]
            exact ⟨_, _, g2, rfl, Or.inl ⟨rfl, r3, rfl⟩⟩
          | false =>
            rw [if_pos (show bz_i false = 0 from rfl), if_neg (show ¬ (bif false then (30 : Int32) else 31) = 30 by decide)]
            exact ⟨_, _, g1, rfl, Or.inl ⟨rfl, q3, rfl⟩⟩
        rcases h8 with ⟨h1, h2⟩ | ⟨h1, h2⟩
        · simp only [if_pos h1, if_pos h2]
          exact fin
        · simp only [if_neg h1, if_neg h2]
          exact fin
      · have : ((8 : Int32) ≤ nI i ∧ ¬ (8 : Int32) ≤ nI j) ∨ (¬ (8 : Int32) ≤ nI i ∧ (8 : Int32) ≤ nI j) := by
          by_cases h1 : (8 : Int32) ≤ nI i <;> by_cases h2 : (8 : Int32) ≤ nI j
          · exact absurd (Or.inl ⟨h1, h2⟩) h8
          · exact Or.inl ⟨h1, h2⟩
          · exact Or.inr ⟨h1, h2⟩
          · exact absurd (Or.inr ⟨h1, h2⟩) h8
        rcases this with ⟨h1, h2⟩ | ⟨h1, h2⟩
        · simp only [if_pos h1, if_neg h2]
          exact bad
        · simp only [if_neg h1, if_pos h2]
          exact bad
    · rw [y1, Option.bind_some, if_pos (show bz_i false = 0 from rfl)]
      by_cases z6 : nI j = 6
      · rw [if_pos z6]
        exact bad
      · by_cases z7 : nI j = 7
        · rw [if_neg z6, if_pos z7]
          exact bad
        · rw [if_neg z6, if_neg z7, if_pos (by rcases y2 with h | h | h; exact absurd h z6; exact absurd h z7; exact h)]
          exact bad
  · rw [x1, Option.bind_some, if_pos (show bz_i false = 0 from rfl)]
    by_cases z6 : nI i = 6
    · rw [if_pos z6]
      exact bad
    · by_cases z7 : nI i = 7
      · rw [if_neg z6, if_pos z7]
        exact bad
      · rw [if_neg z6, if_neg z7, if_pos (by rcases x2 with h | h | h; exact absurd h z6; exact absurd h z7; exact h)]
        exact bad
end GR
end
section
section GS
variable {cb : Nat → Int32} {a b d c x y u s p : Int32} {so sv tl su qu : Nat → Int32} {wa ru : Int32}
/-- group 1 but 16 -/
theorem g1_ok (hB : okB cb) (ho : ok_ a b d c x y u s p) (op py : Int32) (hop : op = 17 ∨ op = 18 ∨ op = 19 ∨ op = 20 ∨ op = 21 ∨ op = 22 ∨ op = 23 ∨ op = 24 ∨ op = 25 ∨ op = 26 ∨ op = 27 ∨ op = 28 ∨ op = 29 ∨ op = 30 ∨ op = 31) : ∃ (py' po' : Int32) (g' : R9), tc_P_doGroup1 op py (-1) cb a b d c x y u s p = some (py', po', g') ∧ sg_ok so sv tl su qu wa ru (py', po', cb, g') (mo_single op cb (rf_ a b d c x y u s p) so sv tl su qu wa ru py false) := by
  have bad : ∃ (py' po' : Int32) (g' : R9), tc_P_doGroup1_j141 py (-1) cb a b d c x y u s p = some (py', po', g') ∧ sg_ok so sv tl su qu wa ru (py', po', cb, g') (some (cb, rf_ a b d c x y u s p, so, sv, tl, su, qu, wa, ru, py, true)) :=
    ⟨_, _, (a, b, d, c, x, y, u, s, p), rfl, Or.inr ⟨rfl, hB, (a, b, d, c, x, y, u, s, p), _, rfl⟩⟩
  have tr : ∀ ex : Bool, ∃ (py' po' : Int32) (g' : R9), ((tc_P_moveRegister ex py (-1) cb a b d c x y u s p).bind fun z22 => some (z22.1, z22.2.1, z22.2.2.1, z22.2.2.2.1, z22.2.2.2.2.1, z22.2.2.2.2.2.1, z22.2.2.2.2.2.2.1, z22.2.2.2.2.2.2.2.1, z22.2.2.2.2.2.2.2.2.1, z22.2.2.2.2.2.2.2.2.2.1, z22.2.2.2.2.2.2.2.2.2.2)) = some (py', po', g') ∧ sg_ok so sv tl su qu wa ru (py', po', cb, g') (mo_single_j108 (bif ex then 30 else 31) cb (rf_ a b d c x y u s p) so sv tl su qu wa ru py false) := by
    intro ex
    obtain ⟨py', po', g', h1, h2⟩ := td_ok hB ho py ex
    refine ⟨py', po', g', by rw [h1]; rfl, ?_⟩
    unfold mo_single_j108
    rcases h2 with ⟨k1, k2, k3⟩ | ⟨k1, g0, sp, k3⟩
    · rw [k3]
      exact Or.inl ⟨k1, hB, k2, rfl⟩
    · rw [k3]
      exact Or.inr ⟨k1, hB, g0, sp, rfl⟩
  rcases hop with rfl | rfl | rfl | rfl | rfl | rfl | rfl | rfl | rfl | rfl | rfl | rfl | rfl | rfl | rfl
  · exact bad
  · exact ⟨_, _, (a, b, d, c, x, y, u, s, p), rfl, Or.inl ⟨rfl, hB, ho, rfl⟩⟩
  · exact bad
  · exact bad
  · exact bad
  · exact bad
  · exact bad
  · exact bad
  · exact bad
  · refine ⟨py + 1, -1, (a, b, d, c ||| rd_ cb p, x, y, u, s, (p + 1) &&& 65535), ?_, Or.inl ⟨rfl, hB, ?_, ?_⟩⟩
    · show ((tc_P_fetch 1 py cb p).bind _) = _
      rw [tc_fetch1]
      rfl
    · obtain ⟨ha, hb, hd, hc, hx, hy, hu, hs, hp⟩ := ok_p ho (p + 1)
      exact ⟨ha, hb, hd, rb_bor hc (rd_ok hB _), hx, hy, hu, hs, hp⟩
    · show ((mo_fetch cb _ py).bind _) = _
      rw [mo_fetch_eq, Option.bind_some]
      show ((mo_set 10 (c ||| rd_ cb p) (rf_ a b d c x y u s ((p + 1) &&& 65535))).bind _) = _
      rw [show mo_set 10 (c ||| rd_ cb p) (rf_ a b d c x y u s ((p + 1) &&& 65535)) = some (upd (rf_ a b d c x y u s ((p + 1) &&& 65535)) 10 ((c ||| rd_ cb p) &&& 255)) from rfl, rf_10, rb_id (rb_bor ho.2.2.2.1 (rd_ok hB _))]
      rfl
  · exact bad
  · refine ⟨py + 1, -1, (a, b, d, c &&& rd_ cb p, x, y, u, s, (p + 1) &&& 65535), ?_, Or.inl ⟨rfl, hB, ?_, ?_⟩⟩
    · show ((tc_P_fetch 1 py cb p).bind _) = _
      rw [tc_fetch1]
      rfl
    · obtain ⟨ha, hb, hd, hc, hx, hy, hu, hs, hp⟩ := ok_p ho (p + 1)
      exact ⟨ha, hb, hd, rb_band hc (rd_ok hB _), hx, hy, hu, hs, hp⟩
    · show ((mo_fetch cb _ py).bind _) = _
      rw [mo_fetch_eq, Option.bind_some]
      show ((mo_set 10 (c &&& rd_ cb p) (rf_ a b d c x y u s ((p + 1) &&& 65535))).bind _) = _
      rw [show mo_set 10 (c &&& rd_ cb p) (rf_ a b d c x y u s ((p + 1) &&& 65535)) = some (upd (rf_ a b d c x y u s ((p + 1) &&& 65535)) 10 ((c &&& rd_ cb p) &&& 255)) from rfl, rf_10, rb_id (rb_band ho.2.2.2.1 (rd_ok hB _))]
      rfl
  · obtain ⟨n, hn, rfl⟩ := ho.2.1
    obtain ⟨e1, e2, e3, e4⟩ := sex_all n hn
    obtain ⟨m, hm, rfl⟩ := ho.2.2.2.1
    have hw : rw_ ((nI n).toInt8.toInt32 &&& 65535) := rw_and _
    refine ⟨py, -1, (((nI n).toInt8.toInt32 >>> ((8 : Int32) &&& 31)) &&& 255, (nI n).toInt8.toInt32 &&& 255, d, mk_ 4 (sz_ ((nI n).toInt8.toInt32 &&& 65535) 16) (mk_ 8 (sn_ ((nI n).toInt8.toInt32 &&& 65535) 16) (nI m)), x, y, u, s, p), ?_, Or.inl ⟨rfl, hB, ?_, ?_⟩⟩
    · show ((tc_C_extendB a (nI n) d (nI m) x y u s p).bind _) = _
      unfold tc_C_extendB
      rw [tc_signed1, Option.bind_some, show tc_G_set 0 ((nI n).toInt8.toInt32 &&& 65535) a (nI n) d (nI m) x y u s p = some ((((nI n).toInt8.toInt32 &&& 65535) &&& 65535) >>> ((8 : Int32) &&& 31), ((nI n).toInt8.toInt32 &&& 65535) &&& 255, d, nI m, x, y, u, s, p) from rfl, Option.bind_some, e3, e4, (so16 hw).1, Option.bind_some, fl12_all m hm _ _ (so16 hw).2]
      rfl
    · obtain ⟨ha, hb, hd, hc, hx, hy, hu, hs, hp⟩ := ho
      exact ⟨rb_and _, rb_and _, hd, rb_mk4 (rb_mk8 hc _) _, hx, hy, hu, hs, hp⟩
    · show ((mo_signed (nI n)).bind _) = _
      rw [mo_signed_eq ⟨n, hn, rfl⟩, Option.bind_some, show mo_set 0 (nI n).toInt8.toInt32 (rf_ a (nI n) d (nI m) x y u s p) = some (upd (upd (rf_ a (nI n) d (nI m) x y u s p) 8 (((nI n).toInt8.toInt32 >>> ((8 : Int32) &&& 31)) &&& 255)) 9 ((nI n).toInt8.toInt32 &&& 255)) from rfl, rf_8, rf_9, Option.bind_some]
      rw [show mo_get 0 (rf_ (((nI n).toInt8.toInt32 >>> ((8 : Int32) &&& 31)) &&& 255) ((nI n).toInt8.toInt32 &&& 255) d (nI m) x y u s p) = some ((256 : Int32) * (((nI n).toInt8.toInt32 >>> ((8 : Int32) &&& 31)) &&& 255) + ((nI n).toInt8.toInt32 &&& 255)) from rfl, e2, Option.bind_some, mo_sign_eq]
      rfl
  · exact tr true
  · exact tr false
/-- an address into a register -/
theorem la_ok (hB : okB cb) (ho : ok_ a b d c x y u s p) (op q py : Int32) (hq : (op = 48 ∧ q = 1) ∨ (op = 49 ∧ q = 2) ∨ (op = 50 ∧ q = 4) ∨ (op = 51 ∧ q = 3)) : ∃ (py' po' : Int32) (g' : R9), tc_P_loadAddress q py (-1) cb a b d c x y u s p = some (py', po', g') ∧ sg_ok so sv tl su qu wa ru (py', po', cb, g') (mo_single op cb (rf_ a b d c x y u s p) so sv tl su qu wa ru py false) := by
  have vq : vk_ q := by rcases hq with ⟨-, rfl⟩ | ⟨-, rfl⟩ | ⟨-, rfl⟩ | ⟨-, rfl⟩ <;> (unfold vk_; decide)
  have pq : pn_ q := by rcases hq with ⟨-, rfl⟩ | ⟨-, rfl⟩ | ⟨-, rfl⟩ | ⟨-, rfl⟩ <;> (unfold pn_; decide)
  have e : mo_single op cb (rf_ a b d c x y u s p) so sv tl su qu wa ru py false = (mo_address 2 cb (rf_ a b d c x y u s p) py false).bind fun z36 => mo_single_j165 op z36.1 q cb z36.2.1 so sv tl su qu wa ru z36.2.2.1 z36.2.2.2 := by
    rcases hq with ⟨rfl, rfl⟩ | ⟨rfl, rfl⟩ | ⟨rfl, rfl⟩ | ⟨rfl, rfl⟩ <;> rfl
  obtain ⟨z, h1, h2⟩ := ix_ok hB ho py
  rw [e]
  unfold tc_P_loadAddress
  rw [h1, Option.bind_some]
  obtain ⟨ad, py1, po, g⟩ := z
  rcases h2 with ⟨g1, g2, g3, g4⟩ | ⟨g1, w, g0, sp, g4⟩
  · dsimp only at g1 g2 g3 g4 ⊢
    obtain ⟨g9, n1, n2, n3⟩ := set_eq (v := ad) vq g3
    rw [g4, Option.bind_some, n1, Option.bind_some]
    unfold mo_single_j165
    rw [if_pos (show bz_i false = 0 from rfl), n2, Option.bind_some]
    have flag : ∀ t : Bool, ∃ c', rb_ c' ∧ tc_P_loadAddress_j38 (bif t then 4 else 0) py1 po cb g9.1 g9.2.1 g9.2.2.1 g9.2.2.2.1 g9.2.2.2.2.1 g9.2.2.2.2.2.1 g9.2.2.2.2.2.2.1 g9.2.2.2.2.2.2.2.1 g9.2.2.2.2.2.2.2.2 = some (py1, po, g9.1, g9.2.1, g9.2.2.1, c', g9.2.2.2.2.1, g9.2.2.2.2.2.1, g9.2.2.2.2.2.2.1, g9.2.2.2.2.2.2.2.1, g9.2.2.2.2.2.2.2.2) ∧ mo_single_j197 t cb (rg_ g9) so sv tl su qu wa ru py1 false = some (cb, rf_ g9.1 g9.2.1 g9.2.2.1 c' g9.2.2.2.2.1 g9.2.2.2.2.2.1 g9.2.2.2.2.2.2.1 g9.2.2.2.2.2.2.2.1 g9.2.2.2.2.2.2.2.2, so, sv, tl, su, qu, wa, ru, py1, false) := by
      intro t
      obtain ⟨m, hm, em⟩ := n3.2.2.2.1
      refine ⟨mk_ 4 t g9.2.2.2.1, rb_mk4 n3.2.2.2.1 _, ?_, ?_⟩
      · unfold tc_P_loadAddress_j38 tc_G_setFlags
        rw [em, fl4_1 m hm]
        rfl
      · unfold mo_single_j197 mo_single_j200
        rw [mo_mark_eq]
        rfl
    have fin : ∀ t : Bool, ∃ (py' po' : Int32) (g' : R9), tc_P_loadAddress_j38 (bif t then 4 else 0) py1 po cb g9.1 g9.2.1 g9.2.2.1 g9.2.2.2.1 g9.2.2.2.2.1 g9.2.2.2.2.2.1 g9.2.2.2.2.2.2.1 g9.2.2.2.2.2.2.2.1 g9.2.2.2.2.2.2.2.2 = some (py', po', g') ∧ sg_ok so sv tl su qu wa ru (py', po', cb, g') (mo_single_j197 t cb (rg_ g9) so sv tl su qu wa ru py1 false) := by
      intro t
      obtain ⟨c', k1, k2, k3⟩ := flag t
      refine ⟨_, _, (g9.1, g9.2.1, g9.2.2.1, c', g9.2.2.2.2.1, g9.2.2.2.2.2.1, g9.2.2.2.2.2.2.1, g9.2.2.2.2.2.2.2.1, g9.2.2.2.2.2.2.2.2), k2, Or.inl ⟨g1, hB, ?_, k3⟩⟩
      exact ⟨n3.1, n3.2.1, n3.2.2.1, k1, n3.2.2.2.2⟩
    have low : (op = 48 ∨ op = 49) → (q = 1 ∨ q = 2) → ∃ (py' po' : Int32) (g' : R9), tc_P_loadAddress_j24 ad py1 po cb g9.1 g9.2.1 g9.2.2.1 g9.2.2.2.1 g9.2.2.2.2.1 g9.2.2.2.2.2.1 g9.2.2.2.2.2.2.1 g9.2.2.2.2.2.2.2.1 g9.2.2.2.2.2.2.2.2 = some (py', po', g') ∧ sg_ok so sv tl su qu wa ru (py', po', cb, g') (if ad = 0 then mo_single_j197 true cb (rg_ g9) so sv tl su qu wa ru py1 false else mo_single_j197 false cb (rg_ g9) so sv tl su qu wa ru py1 false) := by
      intro _ _
      unfold tc_P_loadAddress_j24
      by_cases h0 : ad = 0
      · rw [if_pos h0, if_pos h0]
        exact fin true
      · rw [if_neg h0, if_neg h0]
        exact fin false
    rcases hq with ⟨rfl, rfl⟩ | ⟨rfl, rfl⟩ | ⟨rfl, rfl⟩ | ⟨rfl, rfl⟩
    · rw [if_neg (show ¬ (50 : Int32) ≤ 48 by decide), if_pos rfl]
      exact low (Or.inl rfl) (Or.inl rfl)
    · rw [if_neg (show ¬ (50 : Int32) ≤ 49 by decide), if_neg (by decide), if_pos rfl]
      exact low (Or.inr rfl) (Or.inr rfl)
    · rw [if_pos (show (50 : Int32) ≤ 50 by decide), if_neg (by decide), if_neg (by decide)]
      exact ⟨_, _, g9, rfl, Or.inl ⟨g1, hB, n3, rfl⟩⟩
    · rw [if_pos (show (50 : Int32) ≤ 51 by decide), if_neg (by decide), if_neg (by decide)]
      exact ⟨_, _, g9, rfl, Or.inl ⟨g1, hB, n3, rfl⟩⟩
  · dsimp only at g1 g4 ⊢
    obtain ⟨g9, n1, -, -⟩ := set_rg ad pq g
    rw [g4, Option.bind_some, n1, Option.bind_some]
    have bad : ∀ g' : R9, sg_ok so sv tl su qu wa ru (py1, po, cb, g') (mo_single_j165 op w q cb (rg_ g0) so sv tl su qu wa ru sp true) := by
      intro g'
      exact Or.inr ⟨g1, hB, g0, sp, rfl⟩
    have any : ∃ g' : R9, tc_P_loadAddress_j24 ad py1 po cb g9.1 g9.2.1 g9.2.2.1 g9.2.2.2.1 g9.2.2.2.2.1 g9.2.2.2.2.2.1 g9.2.2.2.2.2.2.1 g9.2.2.2.2.2.2.2.1 g9.2.2.2.2.2.2.2.2 = some (py1, po, g') := by
      unfold tc_P_loadAddress_j24
      by_cases h0 : ad = 0
      · rw [if_pos h0]
        exact ⟨_, rfl⟩
      · rw [if_neg h0]
        exact ⟨_, rfl⟩
    obtain ⟨g', hg'⟩ := any
    by_cases h1 : q = 1
    · rw [if_pos h1]
      exact ⟨_, _, g', hg', bad g'⟩
    · by_cases h2 : q = 2
      · rw [if_neg h1, if_pos h2]
        exact ⟨_, _, g', hg', bad g'⟩
      · rw [if_neg h1, if_neg h2]
        exact ⟨_, _, g9, rfl, bad g9⟩
end GS
end
section
/-! Dispatch: each number of group 3, and of the reference's single. -/
theorem dg_48 (py : Int32) (po : Int32) (cb : Nat → Int32) (ga : Int32) (gb : Int32) (gd : Int32) (gc : Int32) (gx : Int32) (gy : Int32) (gu : Int32) (gs : Int32) (gp : Int32) : tc_P_doGroup3 48 py po cb ga gb gd gc gx gy gu gs gp = ((tc_P_loadAddress (1 : Int32) py po cb ga gb gd gc gx gy gu gs gp).bind fun z18 => some (z18.1, z18.2.1, cb, z18.2.2.1, z18.2.2.2.1, z18.2.2.2.2.1, z18.2.2.2.2.2.1, z18.2.2.2.2.2.2.1, z18.2.2.2.2.2.2.2.1, z18.2.2.2.2.2.2.2.2.1, z18.2.2.2.2.2.2.2.2.2.1, z18.2.2.2.2.2.2.2.2.2.2)) := by
  unfold tc_P_doGroup3
  rw [if_pos rfl]
theorem dg_49 (py : Int32) (po : Int32) (cb : Nat → Int32) (ga : Int32) (gb : Int32) (gd : Int32) (gc : Int32) (gx : Int32) (gy : Int32) (gu : Int32) (gs : Int32) (gp : Int32) : tc_P_doGroup3 49 py po cb ga gb gd gc gx gy gu gs gp = ((tc_P_loadAddress (2 : Int32) py po cb ga gb gd gc gx gy gu gs gp).bind fun z20 => some (z20.1, z20.2.1, cb, z20.2.2.1, z20.2.2.2.1, z20.2.2.2.2.1, z20.2.2.2.2.2.1, z20.2.2.2.2.2.2.1, z20.2.2.2.2.2.2.2.1, z20.2.2.2.2.2.2.2.2.1, z20.2.2.2.2.2.2.2.2.2.1, z20.2.2.2.2.2.2.2.2.2.2)) := by
  unfold tc_P_doGroup3
  rw [if_neg (by decide), if_pos rfl]
theorem dg_50 (py : Int32) (po : Int32) (cb : Nat → Int32) (ga : Int32) (gb : Int32) (gd : Int32) (gc : Int32) (gx : Int32) (gy : Int32) (gu : Int32) (gs : Int32) (gp : Int32) : tc_P_doGroup3 50 py po cb ga gb gd gc gx gy gu gs gp = ((tc_P_loadAddress (4 : Int32) py po cb ga gb gd gc gx gy gu gs gp).bind fun z22 => some (z22.1, z22.2.1, cb, z22.2.2.1, z22.2.2.2.1, z22.2.2.2.2.1, z22.2.2.2.2.2.1, z22.2.2.2.2.2.2.1, z22.2.2.2.2.2.2.2.1, z22.2.2.2.2.2.2.2.2.1, z22.2.2.2.2.2.2.2.2.2.1, z22.2.2.2.2.2.2.2.2.2.2)) := by
  unfold tc_P_doGroup3
  rw [if_neg (by decide), if_neg (by decide), if_pos rfl]
theorem dg_51 (py : Int32) (po : Int32) (cb : Nat → Int32) (ga : Int32) (gb : Int32) (gd : Int32) (gc : Int32) (gx : Int32) (gy : Int32) (gu : Int32) (gs : Int32) (gp : Int32) : tc_P_doGroup3 51 py po cb ga gb gd gc gx gy gu gs gp = ((tc_P_loadAddress (3 : Int32) py po cb ga gb gd gc gx gy gu gs gp).bind fun z24 => some (z24.1, z24.2.1, cb, z24.2.2.1, z24.2.2.2.1, z24.2.2.2.2.1, z24.2.2.2.2.2.1, z24.2.2.2.2.2.2.1, z24.2.2.2.2.2.2.2.1, z24.2.2.2.2.2.2.2.2.1, z24.2.2.2.2.2.2.2.2.2.1, z24.2.2.2.2.2.2.2.2.2.2)) := by
  unfold tc_P_doGroup3
  rw [if_neg (by decide), if_neg (by decide), if_neg (by decide), if_pos rfl]
theorem dg_52 (py : Int32) (po : Int32) (cb : Nat → Int32) (ga : Int32) (gb : Int32) (gd : Int32) (gc : Int32) (gx : Int32) (gy : Int32) (gu : Int32) (gs : Int32) (gp : Int32) : tc_P_doGroup3 52 py po cb ga gb gd gc gx gy gu gs gp = ((tc_P_fetch (1 : Int32) py cb gp).bind fun z26 => (tc_P_push (4 : Int32) z26.1 z26.2.1 cb ga gb gd gc gx gy gu gs z26.2.2).bind fun z27 => some (z27.1, po, z27.2.1, z27.2.2.1, z27.2.2.2.1, z27.2.2.2.2.1, z27.2.2.2.2.2.1, z27.2.2.2.2.2.2.1, z27.2.2.2.2.2.2.2.1, z27.2.2.2.2.2.2.2.2.1, z27.2.2.2.2.2.2.2.2.2.1, z27.2.2.2.2.2.2.2.2.2.2)) := by
  unfold tc_P_doGroup3
  rw [if_neg (by decide), if_neg (by decide), if_neg (by decide), if_neg (by decide), if_pos rfl]
theorem dg_53 (py : Int32) (po : Int32) (cb : Nat → Int32) (ga : Int32) (gb : Int32) (gd : Int32) (gc : Int32) (gx : Int32) (gy : Int32) (gu : Int32) (gs : Int32) (gp : Int32) : tc_P_doGroup3 53 py po cb ga gb gd gc gx gy gu gs gp = ((tc_P_fetch (1 : Int32) py cb gp).bind fun z29 => (tc_P_pull (4 : Int32) z29.1 z29.2.1 cb ga gb gd gc gx gy gu gs z29.2.2).bind fun z30 => some (z30.1, po, cb, z30.2.1, z30.2.2.1, z30.2.2.2.1, z30.2.2.2.2.1, z30.2.2.2.2.2.1, z30.2.2.2.2.2.2.1, z30.2.2.2.2.2.2.2.1, z30.2.2.2.2.2.2.2.2.1, z30.2.2.2.2.2.2.2.2.2)) := by
  unfold tc_P_doGroup3
  rw [if_neg (by decide), if_neg (by decide), if_neg (by decide), if_neg (by decide), if_neg (by decide), if_pos rfl]
theorem dg_54 (py : Int32) (po : Int32) (cb : Nat → Int32) (ga : Int32) (gb : Int32) (gd : Int32) (gc : Int32) (gx : Int32) (gy : Int32) (gu : Int32) (gs : Int32) (gp : Int32) : tc_P_doGroup3 54 py po cb ga gb gd gc gx gy gu gs gp = ((tc_P_fetch (1 : Int32) py cb gp).bind fun z32 => (tc_P_push (3 : Int32) z32.1 z32.2.1 cb ga gb gd gc gx gy gu gs z32.2.2).bind fun z33 => some (z33.1, po, z33.2.1, z33.2.2.1, z33.2.2.2.1, z33.2.2.2.2.1, z33.2.2.2.2.2.1, z33.2.2.2.2.2.2.1, z33.2.2.2.2.2.2.2.1, z33.2.2.2.2.2.2.2.2.1, z33.2.2.2.2.2.2.2.2.2.1, z33.2.2.2.2.2.2.2.2.2.2)) := by
  unfold tc_P_doGroup3
  rw [if_neg (by decide), if_neg (by decide), if_neg (by decide), if_neg (by decide), if_neg (by decide), if_neg (by decide), if_pos rfl]
theorem dg_55 (py : Int32) (po : Int32) (cb : Nat → Int32) (ga : Int32) (gb : Int32) (gd : Int32) (gc : Int32) (gx : Int32) (gy : Int32) (gu : Int32) (gs : Int32) (gp : Int32) : tc_P_doGroup3 55 py po cb ga gb gd gc gx gy gu gs gp = ((tc_P_fetch (1 : Int32) py cb gp).bind fun z35 => (tc_P_pull (3 : Int32) z35.1 z35.2.1 cb ga gb gd gc gx gy gu gs z35.2.2).bind fun z36 => some (z36.1, po, cb, z36.2.1, z36.2.2.1, z36.2.2.2.1, z36.2.2.2.2.1, z36.2.2.2.2.2.1, z36.2.2.2.2.2.2.1, z36.2.2.2.2.2.2.2.1, z36.2.2.2.2.2.2.2.2.1, z36.2.2.2.2.2.2.2.2.2)) := by
  unfold tc_P_doGroup3
  rw [if_neg (by decide), if_neg (by decide), if_neg (by decide), if_neg (by decide), if_neg (by decide), if_neg (by decide), if_neg (by decide), if_pos rfl]
theorem dg_56 (py : Int32) (po : Int32) (cb : Nat → Int32) (ga : Int32) (gb : Int32) (gd : Int32) (gc : Int32) (gx : Int32) (gy : Int32) (gu : Int32) (gs : Int32) (gp : Int32) : tc_P_doGroup3 56 py po cb ga gb gd gc gx gy gu gs gp = (tc_P_doGroup3_j223 py po cb ga gb gd gc gx gy gu gs gp) := by
  unfold tc_P_doGroup3
  rw [if_neg (by decide), if_neg (by decide), if_neg (by decide), if_neg (by decide), if_neg (by decide), if_neg (by decide), if_neg (by decide), if_neg (by decide), if_pos rfl]
theorem dg_57 (py : Int32) (po : Int32) (cb : Nat → Int32) (ga : Int32) (gb : Int32) (gd : Int32) (gc : Int32) (gx : Int32) (gy : Int32) (gu : Int32) (gs : Int32) (gp : Int32) : tc_P_doGroup3 57 py po cb ga gb gd gc gx gy gu gs gp = ((tc_P_pull (4 : Int32) (128 : Int32) py cb ga gb gd gc gx gy gu gs gp).bind fun z39 => some (z39.1, po, cb, z39.2.1, z39.2.2.1, z39.2.2.2.1, z39.2.2.2.2.1, z39.2.2.2.2.2.1, z39.2.2.2.2.2.2.1, z39.2.2.2.2.2.2.2.1, z39.2.2.2.2.2.2.2.2.1, z39.2.2.2.2.2.2.2.2.2)) := by
  unfold tc_P_doGroup3
  rw [if_neg (by decide), if_neg (by decide), if_neg (by decide), if_neg (by decide), if_neg (by decide), if_neg (by decide), if_neg (by decide), if_neg (by decide), if_neg (by decide), if_pos rfl]
theorem dg_58 (py : Int32) (po : Int32) (cb : Nat → Int32) (ga : Int32) (gb : Int32) (gd : Int32) (gc : Int32) (gx : Int32) (gy : Int32) (gu : Int32) (gs : Int32) (gp : Int32) : tc_P_doGroup3 58 py po cb ga gb gd gc gx gy gu gs gp = ((tc_G_set (1 : Int32) (gx + gb) ga gb gd gc gx gy gu gs gp).bind fun z41 => some (py, po, cb, z41.1, z41.2.1, z41.2.2.1, z41.2.2.2.1, z41.2.2.2.2.1, z41.2.2.2.2.2.1, z41.2.2.2.2.2.2.1, z41.2.2.2.2.2.2.2.1, z41.2.2.2.2.2.2.2.2)) := by
  unfold tc_P_doGroup3
  rw [if_neg (by decide), if_neg (by decide), if_neg (by decide), if_neg (by decide), if_neg (by decide), if_neg (by decide), if_neg (by decide), if_neg (by decide), if_neg (by decide), if_neg (by decide), if_pos rfl]
theorem dg_59 (py : Int32) (po : Int32) (cb : Nat → Int32) (ga : Int32) (gb : Int32) (gd : Int32) (gc : Int32) (gx : Int32) (gy : Int32) (gu : Int32) (gs : Int32) (gp : Int32) : tc_P_doGroup3 59 py po cb ga gb gd gc gx gy gu gs gp = (tc_P_doGroup3_j223 py po cb ga gb gd gc gx gy gu gs gp) := by
  unfold tc_P_doGroup3
  rw [if_neg (by decide), if_neg (by decide), if_neg (by decide), if_neg (by decide), if_neg (by decide), if_neg (by decide), if_neg (by decide), if_neg (by decide), if_neg (by decide), if_neg (by decide), if_neg (by decide), if_pos rfl]
theorem dg_60 (py : Int32) (po : Int32) (cb : Nat → Int32) (ga : Int32) (gb : Int32) (gd : Int32) (gc : Int32) (gx : Int32) (gy : Int32) (gu : Int32) (gs : Int32) (gp : Int32) : tc_P_doGroup3 60 py po cb ga gb gd gc gx gy gu gs gp = (tc_P_doGroup3_j223 py po cb ga gb gd gc gx gy gu gs gp) := by
  unfold tc_P_doGroup3
  rw [if_neg (by decide), if_neg (by decide), if_neg (by decide), if_neg (by decide), if_neg (by decide), if_neg (by decide), if_neg (by decide), if_neg (by decide), if_neg (by decide), if_neg (by decide), if_neg (by decide), if_neg (by decide), if_pos rfl]
theorem dg_61 (py : Int32) (po : Int32) (cb : Nat → Int32) (ga : Int32) (gb : Int32) (gd : Int32) (gc : Int32) (gx : Int32) (gy : Int32) (gu : Int32) (gs : Int32) (gp : Int32) : tc_P_doGroup3 61 py po cb ga gb gd gc gx gy gu gs gp = ((tc_C_multiply ga gb gd gc gx gy gu gs gp).bind fun z45 => some (py, po, cb, z45.1, z45.2.1, z45.2.2.1, z45.2.2.2.1, z45.2.2.2.2.1, z45.2.2.2.2.2.1, z45.2.2.2.2.2.2.1, z45.2.2.2.2.2.2.2.1, z45.2.2.2.2.2.2.2.2)) := by
  unfold tc_P_doGroup3
  rw [if_neg (by decide), if_neg (by decide), if_neg (by decide), if_neg (by decide), if_neg (by decide), if_neg (by decide), if_neg (by decide), if_neg (by decide), if_neg (by decide), if_neg (by decide), if_neg (by decide), if_neg (by decide), if_neg (by decide), if_pos rfl]
theorem dg_62 (py : Int32) (po : Int32) (cb : Nat → Int32) (ga : Int32) (gb : Int32) (gd : Int32) (gc : Int32) (gx : Int32) (gy : Int32) (gu : Int32) (gs : Int32) (gp : Int32) : tc_P_doGroup3 62 py po cb ga gb gd gc gx gy gu gs gp = (tc_P_doGroup3_j223 py po cb ga gb gd gc gx gy gu gs gp) := by
  unfold tc_P_doGroup3
  rw [if_neg (by decide), if_neg (by decide), if_neg (by decide), if_neg (by decide), if_neg (by decide), if_neg (by decide), if_neg (by decide), if_neg (by decide), if_neg (by decide), if_neg (by decide), if_neg (by decide), if_neg (by decide), if_neg (by decide), if_neg (by decide), if_pos rfl]
theorem dg_63 (py : Int32) (po : Int32) (cb : Nat → Int32) (ga : Int32) (gb : Int32) (gd : Int32) (gc : Int32) (gx : Int32) (gy : Int32) (gu : Int32) (gs : Int32) (gp : Int32) : tc_P_doGroup3 63 py po cb ga gb gd gc gx gy gu gs gp = ((tc_P_fetch (1 : Int32) py cb gp).bind fun z48 => some (z48.2.1, z48.1, cb, ga, gb, gd, gc, gx, gy, gu, gs, z48.2.2)) := by
  unfold tc_P_doGroup3
  rw [if_neg (by decide), if_neg (by decide), if_neg (by decide), if_neg (by decide), if_neg (by decide), if_neg (by decide), if_neg (by decide), if_neg (by decide), if_neg (by decide), if_neg (by decide), if_neg (by decide), if_neg (by decide), if_neg (by decide), if_neg (by decide), if_neg (by decide), if_pos rfl]
theorem sl_52 (me : Nat → Int32) (rg : Nat → Int32) (so : Nat → Int32) (sv : Nat → Int32) (tl : Nat → Int32) (su : Nat → Int32) (qu : Nat → Int32) (wa : Int32) (ru : Int32) (sp : Int32) (iv : Bool) : mo_single 52 me rg so sv tl su qu wa ru sp iv = ((mo_many 52 me rg sp).bind fun z32 => some (z32.1, z32.2.1, so, sv, tl, su, qu, wa, ru, z32.2.2, iv)) := by
  unfold mo_single
  rw [if_neg (by decide), if_neg (by decide), if_neg (by decide), if_neg (by decide), if_neg (by decide), if_neg (by decide), if_neg (by decide), if_pos (by decide)]
  unfold mo_single_j203
  rw [if_neg (by decide), if_neg (by decide)]
theorem sl_53 (me : Nat → Int32) (rg : Nat → Int32) (so : Nat → Int32) (sv : Nat → Int32) (tl : Nat → Int32) (su : Nat → Int32) (qu : Nat → Int32) (wa : Int32) (ru : Int32) (sp : Int32) (iv : Bool) : mo_single 53 me rg so sv tl su qu wa ru sp iv = ((mo_many 53 me rg sp).bind fun z32 => some (z32.1, z32.2.1, so, sv, tl, su, qu, wa, ru, z32.2.2, iv)) := by
  unfold mo_single
  rw [if_neg (by decide), if_neg (by decide), if_neg (by decide), if_neg (by decide), if_neg (by decide), if_neg (by decide), if_neg (by decide), if_pos (by decide)]
  unfold mo_single_j203
  rw [if_neg (by decide), if_neg (by decide)]
theorem sl_54 (me : Nat → Int32) (rg : Nat → Int32) (so : Nat → Int32) (sv : Nat → Int32) (tl : Nat → Int32) (su : Nat → Int32) (qu : Nat → Int32) (wa : Int32) (ru : Int32) (sp : Int32) (iv : Bool) : mo_single 54 me rg so sv tl su qu wa ru sp iv = ((mo_many 54 me rg sp).bind fun z32 => some (z32.1, z32.2.1, so, sv, tl, su, qu, wa, ru, z32.2.2, iv)) := by
  unfold mo_single
  rw [if_neg (by decide), if_neg (by decide), if_neg (by decide), if_neg (by decide), if_neg (by decide), if_neg (by decide), if_neg (by decide), if_pos (by decide)]
  unfold mo_single_j203
  rw [if_neg (by decide), if_neg (by decide)]
theorem sl_55 (me : Nat → Int32) (rg : Nat → Int32) (so : Nat → Int32) (sv : Nat → Int32) (tl : Nat → Int32) (su : Nat → Int32) (qu : Nat → Int32) (wa : Int32) (ru : Int32) (sp : Int32) (iv : Bool) : mo_single 55 me rg so sv tl su qu wa ru sp iv = ((mo_many 55 me rg sp).bind fun z32 => some (z32.1, z32.2.1, so, sv, tl, su, qu, wa, ru, z32.2.2, iv)) := by
  unfold mo_single
  rw [if_neg (by decide), if_neg (by decide), if_neg (by decide), if_neg (by decide), if_neg (by decide), if_neg (by decide), if_neg (by decide), if_pos (by decide)]
  unfold mo_single_j203
  rw [if_neg (by decide), if_neg (by decide)]
theorem sl_56 (me : Nat → Int32) (rg : Nat → Int32) (so : Nat → Int32) (sv : Nat → Int32) (tl : Nat → Int32) (su : Nat → Int32) (qu : Nat → Int32) (wa : Int32) (ru : Int32) (sp : Int32) (iv : Bool) : mo_single 56 me rg so sv tl su qu wa ru sp iv = mo_single_j223 56 me rg so sv tl su qu wa ru sp iv := by
  unfold mo_single
  rw [if_neg (by decide), if_neg (by decide), if_neg (by decide), if_neg (by decide), if_neg (by decide), if_neg (by decide), if_neg (by decide), if_pos (by decide)]
  unfold mo_single_j203
  rw [if_neg (by decide), if_pos (by decide)]
theorem sl_57 (me : Nat → Int32) (rg : Nat → Int32) (so : Nat → Int32) (sv : Nat → Int32) (tl : Nat → Int32) (su : Nat → Int32) (qu : Nat → Int32) (wa : Int32) (ru : Int32) (sp : Int32) (iv : Bool) : mo_single 57 me rg so sv tl su qu wa ru sp iv = mo_single_j223 57 me rg so sv tl su qu wa ru sp iv := by
  unfold mo_single
  rw [if_neg (by decide), if_neg (by decide), if_neg (by decide), if_neg (by decide), if_neg (by decide), if_neg (by decide), if_neg (by decide), if_pos (by decide)]
  unfold mo_single_j203
  rw [if_neg (by decide), if_pos (by decide)]
theorem sl_58 (me : Nat → Int32) (rg : Nat → Int32) (so : Nat → Int32) (sv : Nat → Int32) (tl : Nat → Int32) (su : Nat → Int32) (qu : Nat → Int32) (wa : Int32) (ru : Int32) (sp : Int32) (iv : Bool) : mo_single 58 me rg so sv tl su qu wa ru sp iv = mo_single_j223 58 me rg so sv tl su qu wa ru sp iv := by
  unfold mo_single
  rw [if_neg (by decide), if_neg (by decide), if_neg (by decide), if_neg (by decide), if_neg (by decide), if_neg (by decide), if_neg (by decide), if_pos (by decide)]
  unfold mo_single_j203
  rw [if_neg (by decide), if_pos (by decide)]
theorem sl_59 (me : Nat → Int32) (rg : Nat → Int32) (so : Nat → Int32) (sv : Nat → Int32) (tl : Nat → Int32) (su : Nat → Int32) (qu : Nat → Int32) (wa : Int32) (ru : Int32) (sp : Int32) (iv : Bool) : mo_single 59 me rg so sv tl su qu wa ru sp iv = mo_single_j223 59 me rg so sv tl su qu wa ru sp iv := by
  unfold mo_single
  rw [if_neg (by decide), if_neg (by decide), if_neg (by decide), if_neg (by decide), if_neg (by decide), if_neg (by decide), if_neg (by decide), if_pos (by decide)]
  unfold mo_single_j203
  rw [if_neg (by decide), if_pos (by decide)]
theorem sl_60 (me : Nat → Int32) (rg : Nat → Int32) (so : Nat → Int32) (sv : Nat → Int32) (tl : Nat → Int32) (su : Nat → Int32) (qu : Nat → Int32) (wa : Int32) (ru : Int32) (sp : Int32) (iv : Bool) : mo_single 60 me rg so sv tl su qu wa ru sp iv = mo_single_j223 60 me rg so sv tl su qu wa ru sp iv := by
  unfold mo_single
  rw [if_neg (by decide), if_neg (by decide), if_neg (by decide), if_neg (by decide), if_neg (by decide), if_neg (by decide), if_neg (by decide), if_pos (by decide)]
  unfold mo_single_j203
  rw [if_neg (by decide), if_pos (by decide)]
theorem sl_61 (me : Nat → Int32) (rg : Nat → Int32) (so : Nat → Int32) (sv : Nat → Int32) (tl : Nat → Int32) (su : Nat → Int32) (qu : Nat → Int32) (wa : Int32) (ru : Int32) (sp : Int32) (iv : Bool) : mo_single 61 me rg so sv tl su qu wa ru sp iv = mo_single_j223 61 me rg so sv tl su qu wa ru sp iv := by
  unfold mo_single
  rw [if_neg (by decide), if_neg (by decide), if_neg (by decide), if_neg (by decide), if_neg (by decide), if_neg (by decide), if_neg (by decide), if_pos (by decide)]
  unfold mo_single_j203
  rw [if_neg (by decide), if_pos (by decide)]
theorem sl_62 (me : Nat → Int32) (rg : Nat → Int32) (so : Nat → Int32) (sv : Nat → Int32) (tl : Nat → Int32) (su : Nat → Int32) (qu : Nat → Int32) (wa : Int32) (ru : Int32) (sp : Int32) (iv : Bool) : mo_single 62 me rg so sv tl su qu wa ru sp iv = mo_single_j223 62 me rg so sv tl su qu wa ru sp iv := by
  unfold mo_single
  rw [if_neg (by decide), if_neg (by decide), if_neg (by decide), if_neg (by decide), if_neg (by decide), if_neg (by decide), if_neg (by decide), if_pos (by decide)]
  unfold mo_single_j203
  rw [if_neg (by decide), if_pos (by decide)]
theorem sl_63 (me : Nat → Int32) (rg : Nat → Int32) (so : Nat → Int32) (sv : Nat → Int32) (tl : Nat → Int32) (su : Nat → Int32) (qu : Nat → Int32) (wa : Int32) (ru : Int32) (sp : Int32) (iv : Bool) : mo_single 63 me rg so sv tl su qu wa ru sp iv = mo_single_j223 63 me rg so sv tl su qu wa ru sp iv := by
  unfold mo_single
  rw [if_neg (by decide), if_neg (by decide), if_neg (by decide), if_neg (by decide), if_neg (by decide), if_neg (by decide), if_neg (by decide), if_pos (by decide)]
  unfold mo_single_j203
  rw [if_neg (by decide), if_pos (by decide)]
end
section
section GT
variable {cb : Nat → Int32} {a b d c x y u s p : Int32} {so sv tl su qu : Nat → Int32} {wa ru : Int32}
theorem mny_push (op st v : Int32) (me rg : Nat → Int32) (sp : Int32) (hs : ts_ st) (hop : op - op / 2 * 2 = 0) : mo_many_j16 op v st me rg sp = pu_ st v 8 me rg sp := by
  unfold mo_many_j16
  rw [show (7 : Int32) = dn_ 8 by decide]
  exact many_push hs hop 8 (by omega) me rg sp
theorem mny_pull (op st v : Int32) (me rg : Nat → Int32) (sp : Int32) (hs : ts_ st) (hop : op - op / 2 * 2 = 1) : mo_many_j16 op v st me rg sp = (pl_ st v 8 me rg sp).bind fun z => some (me, z.1, z.2) := by
  unfold mo_many_j16
  rw [mo_many_l21_s, if_neg (by decide), if_neg (by rw [hop]; decide)]
  unfold mo_many_j59
  exact many_pull hs hop 8 (by omega) me rg sp
theorem mul_nat {n m : Nat} (h1 : n < 256) (h2 : m < 256) : n * m < 65536 := by
  have := Nat.mul_le_mul (Nat.le_of_lt_succ (show n < 255 + 1 from h1)) (Nat.le_of_lt_succ (show m < 255 + 1 from h2))
  omega
theorem g3_ok (hB : okB cb) (ho : ok_ a b d c x y u s p) (op py : Int32) (hop : op = 48 ∨ op = 49 ∨ op = 50 ∨ op = 51 ∨ op = 52 ∨ op = 53 ∨ op = 54 ∨ op = 55 ∨ op = 56 ∨ op = 57 ∨ op = 58 ∨ op = 59 ∨ op = 60 ∨ op = 61 ∨ op = 62) : ∃ z, tc_P_doGroup3 op py (-1) cb a b d c x y u s p = some z ∧ sg_ok so sv tl su qu wa ru z (mo_single op cb (rf_ a b d c x y u s p) so sv tl su qu wa ru py false) := by
  have bad : ∃ z, tc_P_doGroup3_j223 py (-1) cb a b d c x y u s p = some z ∧ sg_ok so sv tl su qu wa ru z (some (cb, rf_ a b d c x y u s p, so, sv, tl, su, qu, wa, ru, py, true)) :=
    ⟨_, rfl, Or.inr ⟨rfl, hB, (a, b, d, c, x, y, u, s, p), _, rfl⟩⟩
  have lea : ∀ q, ((op = 48 ∧ q = 1) ∨ (op = 49 ∧ q = 2) ∨ (op = 50 ∧ q = 4) ∨ (op = 51 ∧ q = 3)) → ∃ z, ((tc_P_loadAddress q py (-1) cb a b d c x y u s p).bind fun z18 => some (z18.1, z18.2.1, cb, z18.2.2.1, z18.2.2.2.1, z18.2.2.2.2.1, z18.2.2.2.2.2.1, z18.2.2.2.2.2.2.1, z18.2.2.2.2.2.2.2.1, z18.2.2.2.2.2.2.2.2.1, z18.2.2.2.2.2.2.2.2.2.1, z18.2.2.2.2.2.2.2.2.2.2)) = some z ∧ sg_ok so sv tl su qu wa ru z (mo_single op cb (rf_ a b d c x y u s p) so sv tl su qu wa ru py false) := by
    intro q hq
    obtain ⟨py', po', g', h1, h2⟩ := la_ok (so := so) (sv := sv) (tl := tl) (su := su) (qu := qu) (wa := wa) (ru := ru) hB ho op q py hq
    exact ⟨(py', po', cb, g'), by rw [h1]; rfl, h2⟩
  have push : ∀ st, ts_ st → op - op / 2 * 2 = 0 → (mo_single op cb (rf_ a b d c x y u s p) so sv tl su qu wa ru py false = ((mo_fetch cb (rf_ a b d c x y u s p) py).bind fun z14 => mo_many_j16 op z14.1 st cb z14.2.1 z14.2.2).bind fun z32 => some (z32.1, z32.2.1, so, sv, tl, su, qu, wa, ru, z32.2.2, false)) → ∃ z, ((tc_P_fetch 1 py cb p).bind fun z26 => (tc_P_push st z26.1 z26.2.1 cb a b d c x y u s z26.2.2).bind fun z27 => some (z27.1, (-1 : Int32), z27.2.1, z27.2.2.1, z27.2.2.2.1, z27.2.2.2.2.1, z27.2.2.2.2.2.1, z27.2.2.2.2.2.2.1, z27.2.2.2.2.2.2.2.1, z27.2.2.2.2.2.2.2.2.1, z27.2.2.2.2.2.2.2.2.2.1, z27.2.2.2.2.2.2.2.2.2.2)) = some z ∧ sg_ok so sv tl su qu wa ru z (mo_single op cb (rf_ a b d c x y u s p) so sv tl su qu wa ru py false) := by
    intro st hs hev e
    obtain ⟨py', g', cb', h1, h2, h3, h4⟩ := tp_push (ch := rd_ cb p) hB hs (a, b, d, c, x, y, u, s, (p + 1) &&& 65535) (py + 1)
    refine ⟨(py', -1, cb', g'), ?_, Or.inl ⟨rfl, h2, h3 (ok_p ho _), ?_⟩⟩
    · rw [tc_fetch1, Option.bind_some, show tc_P_push st (rd_ cb p) (py + 1) cb a b d c x y u s ((p + 1) &&& 65535) = some (py', cb', g') from h1]
      rfl
    · rw [e, mo_fetch_eq, Option.bind_some]
      dsimp only
      rw [mny_push op st _ _ _ _ hs hev, show pu_ st (rd_ cb p) 8 cb (rf_ a b d c x y u s ((p + 1) &&& 65535)) (py + 1) = some (cb', rg_ g', py') from h4]
      rfl
  have pull : ∀ st, ts_ st → op - op / 2 * 2 = 1 → (mo_single op cb (rf_ a b d c x y u s p) so sv tl su qu wa ru py false = ((mo_fetch cb (rf_ a b d c x y u s p) py).bind fun z14 => mo_many_j16 op z14.1 st cb z14.2.1 z14.2.2).bind fun z32 => some (z32.1, z32.2.1, so, sv, tl, su, qu, wa, ru, z32.2.2, false)) → ∃ z, ((tc_P_fetch 1 py cb p).bind fun z26 => (tc_P_pull st z26.1 z26.2.1 cb a b d c x y u s z26.2.2).bind fun z30 => some (z30.1, (-1 : Int32), cb, z30.2.1, z30.2.2.1, z30.2.2.2.1, z30.2.2.2.2.1, z30.2.2.2.2.2.1, z30.2.2.2.2.2.2.1, z30.2.2.2.2.2.2.2.1, z30.2.2.2.2.2.2.2.2.1, z30.2.2.2.2.2.2.2.2.2)) = some z ∧ sg_ok so sv tl su qu wa ru z (mo_single op cb (rf_ a b d c x y u s p) so sv tl su qu wa ru py false) := by
    intro st hs hod e
    obtain ⟨py', g', h1, h3, h4⟩ := tp_pull (ch := rd_ cb p) hB hs (a, b, d, c, x, y, u, s, (p + 1) &&& 65535) (py + 1)
    refine ⟨(py', -1, cb, g'), ?_, Or.inl ⟨rfl, hB, h3 (ok_p ho _), ?_⟩⟩
    · rw [tc_fetch1, Option.bind_some, show tc_P_pull st (rd_ cb p) (py + 1) cb a b d c x y u s ((p + 1) &&& 65535) = some (py', g') from h1]
      rfl
    · rw [e, mo_fetch_eq, Option.bind_some]
      dsimp only
      rw [mny_pull op st _ _ _ _ hs hod, show pl_ st (rd_ cb p) 8 cb (rf_ a b d c x y u s ((p + 1) &&& 65535)) (py + 1) = some (rg_ g', py') from h4]
      rfl
  have many : ∀ st : Int32, ((54 : Int32) ≤ op ∧ st = 3) ∨ (¬ (54 : Int32) ≤ op ∧ st = 4) → mo_many op cb (rf_ a b d c x y u s p) py = (mo_fetch cb (rf_ a b d c x y u s p) py).bind fun z14 => mo_many_j16 op z14.1 st cb z14.2.1 z14.2.2 := by
    intro st h
    unfold mo_many
    rcases h with ⟨h, rfl⟩ | ⟨h, rfl⟩
    · simp only [if_pos h]
    · simp only [if_neg h]
  rcases hop with rfl | rfl | rfl | rfl | rfl | rfl | rfl | rfl | rfl | rfl | rfl | rfl | rfl | rfl | rfl
  · rw [dg_48]
    exact lea 1 (Or.inl ⟨rfl, rfl⟩)
  · rw [dg_49]
    exact lea 2 (Or.inr (Or.inl ⟨rfl, rfl⟩))
  · rw [dg_50]
    exact lea 4 (Or.inr (Or.inr (Or.inl ⟨rfl, rfl⟩)))
  · rw [dg_51]
    exact lea 3 (Or.inr (Or.inr (Or.inr ⟨rfl, rfl⟩)))
  · rw [dg_52]
    exact push 4 (Or.inl rfl) (by decide) (by rw [sl_52, many 4 (Or.inr ⟨by decide, rfl⟩)])
  · rw [dg_53]
    exact pull 4 (Or.inl rfl) (by decide) (by rw [sl_53, many 4 (Or.inr ⟨by decide, rfl⟩)])
  · rw [dg_54]
    exact push 3 (Or.inr rfl) (by decide) (by rw [sl_54, many 3 (Or.inl ⟨by decide, rfl⟩)])
  · rw [dg_55]
    exact pull 3 (Or.inr rfl) (by decide) (by rw [sl_55, many 3 (Or.inl ⟨by decide, rfl⟩)])
  · rw [dg_56, sl_56]
    exact bad
  · rw [dg_57, sl_57]
    unfold mo_single_j223
    obtain ⟨py', g', h1, h3, h4⟩ := tp_pull (ch := 128) hB (Or.inl rfl) (a, b, d, c, x, y, u, s, p) py
    rw [if_pos rfl, show mo_pull 4 5 cb (rf_ a b d c x y u s p) py = some (rg_ g', py') from mo_pull_of h4, show tc_P_pull 4 128 py cb a b d c x y u s p = some (py', g') from h1]
    exact ⟨(py', -1, cb, g'), rfl, Or.inl ⟨rfl, hB, h3 ho, rfl⟩⟩
  · rw [dg_58, sl_58]
    unfold mo_single_j223
    obtain ⟨g9, n1, n2, n3⟩ := set_eq (k := 1) (v := x + b) (Or.inr (Or.inl rfl)) ho
    rw [if_neg (by decide), if_pos rfl, n1, show mo_set 1 (rf_ a b d c x y u s p 1 + rf_ a b d c x y u s p 9) (rf_ a b d c x y u s p) = some (rg_ g9) from n2]
    exact ⟨(py, -1, cb, g9), rfl, Or.inl ⟨rfl, hB, n3, rfl⟩⟩
  · rw [dg_59, sl_59]
    exact bad
  · rw [dg_60, sl_60]
    exact bad
  · obtain ⟨n, hn, rfl⟩ := ho.1
    obtain ⟨m, hm, rfl⟩ := ho.2.1
    obtain ⟨k, hk, rfl⟩ := ho.2.2.2.1
    have hlt := mul_nat hn hm
    have ew : rw_ (nI n * nI m) := ⟨n * m, hlt, pk_mul n m⟩
    obtain ⟨B', hB', eB⟩ := rb_and (nI n * nI m)
    have eA : ((nI n * nI m) &&& 65535) >>> ((8 : Int32) &&& 31) = ((nI n * nI m) >>> ((8 : Int32) &&& 31)) &&& 255 := hi_b _
    have eD : (256 : Int32) * (((nI n * nI m) >>> ((8 : Int32) &&& 31)) &&& 255) + ((nI n * nI m) &&& 255) = nI n * nI m := by
      rw [← hl_eq (rb_and _) (rb_and _)]
      rw [pk_mul, pk_shrN (by omega) _ 8 (by decide), and_b, and_b, pk_tn (by omega), pk_tn (by omega), pk_shlN _ 8 (by decide) (by omega), nI_or, show (2 : Nat) ^ 8 = 256 by decide, or_add (Nat.mod_lt _ (by decide))]
      congr 1
      omega
    refine ⟨(py, -1, cb, ((nI n * nI m) >>> ((8 : Int32) &&& 31)) &&& 255, (nI n * nI m) &&& 255, d, mk_ 1 (decide (¬ ((nI n * nI m) &&& 255) ≤ 127)) (mk_ 4 (decide (nI n * nI m = 0)) (nI k)), x, y, u, s, p), ?_, Or.inl ⟨rfl, hB, ?_, ?_⟩⟩
    · rw [dg_61]
      unfold tc_C_multiply
      rw [show tc_G_set 0 (nI n * nI m) (nI n) (nI m) d (nI k) x y u s p = some (((nI n * nI m) &&& 65535) >>> ((8 : Int32) &&& 31), (nI n * nI m) &&& 255, d, nI k, x, y, u, s, p) from rfl, Option.bind_some, eA]
      dsimp only
      unfold tc_C_multiply_j34 tc_G_setFlags
      rw [fl5_all k hk]
      by_cases h0 : nI n * nI m = 0
      · rw [if_pos h0, decide_eq_true h0, eB, b7_all B' hB']
        rfl
      · rw [if_neg h0, decide_eq_false h0, eB, b7_all B' hB']
        rfl
    · obtain ⟨ha, hb, hd, hc, hx, hy, hu, hs, hp⟩ := ho
      exact ⟨rb_and _, rb_and _, hd, rb_mk1 (rb_mk4 hc _) _, hx, hy, hu, hs, hp⟩
    · rw [sl_61]
      unfold mo_single_j223
      rw [if_neg (by decide), if_neg (by decide), if_pos rfl]
      rw [show mo_set 0 (rf_ (nI n) (nI m) d (nI k) x y u s p 8 * rf_ (nI n) (nI m) d (nI k) x y u s p 9) (rf_ (nI n) (nI m) d (nI k) x y u s p) = mo_set 0 (nI n * nI m) (rf_ (nI n) (nI m) d (nI k) x y u s p) from rfl, show mo_set 0 (nI n * nI m) (rf_ (nI n) (nI m) d (nI k) x y u s p) = some (upd (upd (rf_ (nI n) (nI m) d (nI k) x y u s p) 8 (((nI n * nI m) >>> ((8 : Int32) &&& 31)) &&& 255)) 9 ((nI n * nI m) &&& 255)) from rfl, rf_8, rf_9, Option.bind_some]
      rw [show mo_get 0 (rf_ (((nI n * nI m) >>> ((8 : Int32) &&& 31)) &&& 255) ((nI n * nI m) &&& 255) d (nI k) x y u s p) = some ((256 : Int32) * (((nI n * nI m) >>> ((8 : Int32) &&& 31)) &&& 255) + ((nI n * nI m) &&& 255)) from rfl, eD, Option.bind_some]
      have tail : ∀ t : Bool, mo_single_j307 t cb (rf_ (((nI n * nI m) >>> ((8 : Int32) &&& 31)) &&& 255) ((nI n * nI m) &&& 255) d (nI k) x y u s p) so sv tl su qu wa ru py false = some (cb, rf_ (((nI n * nI m) >>> ((8 : Int32) &&& 31)) &&& 255) ((nI n * nI m) &&& 255) d (mk_ 1 (decide (¬ ((nI n * nI m) &&& 255) ≤ 127)) (mk_ 4 t (nI k))) x y u s p, so, sv, tl, su, qu, wa, ru, py, false) := by
        intro t
        unfold mo_single_j307 mo_single_j329
        rw [mo_mark_eq, Option.bind_some, mo_mark_eq, mo_mark_eq]
        show (if ((nI n * nI m) &&& 255) ≤ 127 then _ else _) = _
        by_cases h : ((nI n * nI m) &&& 255) ≤ 127
        · rw [if_pos h, decide_eq_false (not_not_intro h)]
          rfl
        · rw [if_neg h, decide_eq_true h]
          rfl
      by_cases h0 : nI n * nI m = 0
      · rw [if_pos h0, tail, decide_eq_true h0]
      · rw [if_neg h0, tail, decide_eq_false h0]
  · rw [dg_62, sl_62]
    exact bad
end GT
end
section
/-! One instruction: the class's execute, the reference's instruction. -/
/-- how an instruction ended: done; invalid; a call of the kernel -/
def ex_ok (cb : Nat → Int32) (a b d c x y u s p : Int32) (so sv tl su qu : Nat → Int32) (wa ru : Int32) (r py' : Int32) (cb' : Nat → Int32) (g' : R9) (m : Option MS) : Prop :=
  (r = -1 ∧ okB cb' ∧ og_ g' ∧ m = some (cb', rg_ g', so, sv, tl, su, qu, wa, ru, py', false)) ∨
  (r = -2 ∧ py' = 1 ∧ okB cb' ∧ ∃ g0 : R9, m = (mo_end ru 255 cb' (rg_ g0) so sv tl su qu wa ru 1).bind fun z8 => some (cb', z8.1, z8.2.1, sv, z8.2.2.1, z8.2.2.2.1, z8.2.2.2.2.1, z8.2.2.2.2.2.1, z8.2.2.2.2.2.2.1, z8.2.2.2.2.2.2.2, true)) ∨
  (r = rd_ cb ((p + 1) &&& 65535) ∧ py' = 2 ∧ cb' = cb ∧ g' = (a, b, d, c, x, y, u, s, (p + 2) &&& 65535) ∧ m = (mo_kernel cb (rf_ a b d c x y u s ((p + 1) &&& 65535)) so sv tl su qu wa ru 1).bind fun z27 => some (z27.1, z27.2.1, z27.2.2.1, z27.2.2.2.1, z27.2.2.2.2.1, z27.2.2.2.2.2.1, z27.2.2.2.2.2.2.1, z27.2.2.2.2.2.2.2.1, z27.2.2.2.2.2.2.2.2.1, z27.2.2.2.2.2.2.2.2.2, false))
section EX
variable {cb : Nat → Int32} {a b d c x y u s p : Int32} {so sv tl su qu : Nat → Int32} {wa ru : Int32}
theorem fin_cp {z : Int32 × Int32 × (Nat → Int32) × R9} {m : Option ((Nat → Int32) × (Nat → Int32) × Int32 × Bool)} (h : cp_ok z m) : ∃ (r py' : Int32) (cb' : Nat → Int32) (g' : R9), tc_P_execute_j168 z.1 z.2.1 z.2.2.1 z.2.2.2.1 z.2.2.2.2.1 z.2.2.2.2.2.1 z.2.2.2.2.2.2.1 z.2.2.2.2.2.2.2.1 z.2.2.2.2.2.2.2.2.1 z.2.2.2.2.2.2.2.2.2.1 z.2.2.2.2.2.2.2.2.2.2.1 z.2.2.2.2.2.2.2.2.2.2.2 = some (r, py', r, cb', g') ∧ ex_ok cb a b d c x y u s p so sv tl su qu wa ru r py' cb' g' (m.bind fun z13 => mo_instruction_j88 ru z13.1 z13.2.1 so sv tl su qu wa ru z13.2.2.1 z13.2.2.2) := by
  obtain ⟨py1, po, cb1, g⟩ := z
  unfold tc_P_execute_j168
  rcases h with ⟨h1, h2, h3, h4⟩ | ⟨h1, h2, g0, sp, h4⟩
  · dsimp only at h1 h2 h3 h4 ⊢
    subst h1
    rw [if_neg (by decide), h4]
    exact ⟨_, _, _, g, rfl, Or.inl ⟨rfl, h2, h3, rfl⟩⟩
  · dsimp only at h1 h2 h4 ⊢
    subst h1
    rw [if_pos rfl, h4]
    exact ⟨_, _, _, g, rfl, Or.inr (Or.inl ⟨rfl, rfl, h2, g0, rfl⟩)⟩
theorem fin_sg {z : Int32 × Int32 × (Nat → Int32) × R9} {m : Option MS} (h : sg_ok so sv tl su qu wa ru z m) : ∃ (r py' : Int32) (cb' : Nat → Int32) (g' : R9), tc_P_execute_j168 z.1 z.2.1 z.2.2.1 z.2.2.2.1 z.2.2.2.2.1 z.2.2.2.2.2.1 z.2.2.2.2.2.2.1 z.2.2.2.2.2.2.2.1 z.2.2.2.2.2.2.2.2.1 z.2.2.2.2.2.2.2.2.2.1 z.2.2.2.2.2.2.2.2.2.2.1 z.2.2.2.2.2.2.2.2.2.2.2 = some (r, py', r, cb', g') ∧ ex_ok cb a b d c x y u s p so sv tl su qu wa ru r py' cb' g' (m.bind fun z9 => mo_instruction_j88 ru z9.1 z9.2.1 z9.2.2.1 z9.2.2.2.1 z9.2.2.2.2.1 z9.2.2.2.2.2.1 z9.2.2.2.2.2.2.1 z9.2.2.2.2.2.2.2.1 z9.2.2.2.2.2.2.2.2.1 z9.2.2.2.2.2.2.2.2.2.1 z9.2.2.2.2.2.2.2.2.2.2) := by
  obtain ⟨py1, po, cb1, g⟩ := z
  unfold tc_P_execute_j168
  rcases h with ⟨h1, h2, h3, h4⟩ | ⟨h1, h2, g0, sp, h4⟩
  · dsimp only at h1 h2 h3 h4 ⊢
    subst h1
    rw [if_neg (by decide), h4]
    exact ⟨_, _, _, g, rfl, Or.inl ⟨rfl, h2, h3, rfl⟩⟩
  · dsimp only at h1 h2 h4 ⊢
    subst h1
    rw [if_pos rfl, h4]
    exact ⟨_, _, _, g, rfl, Or.inr (Or.inl ⟨rfl, rfl, h2, g0, rfl⟩)⟩
theorem g1_all (n : Nat) (hn : n < 256) (h : nI n >>> ((4 : Int32) &&& 31) = 1) (h16 : ¬ nI n = 16) : (nI n = 17 ∨ nI n = 18 ∨ nI n = 19 ∨ nI n = 20 ∨ nI n = 21 ∨ nI n = 22 ∨ nI n = 23 ∨ nI n = 24 ∨ nI n = 25 ∨ nI n = 26 ∨ nI n = 27 ∨ nI n = 28 ∨ nI n = 29 ∨ nI n = 30 ∨ nI n = 31) := by
  rw [pk_shrN (by omega) _ 4 (by decide), show (1 : Int32) = nI 1 by decide, nI_eq (by omega) (by omega)] at h
  rw [show (16 : Int32) = nI 16 by decide, nI_eq (by omega) (by omega)] at h16
  have : n = 17 ∨ n = 18 ∨ n = 19 ∨ n = 20 ∨ n = 21 ∨ n = 22 ∨ n = 23 ∨ n = 24 ∨ n = 25 ∨ n = 26 ∨ n = 27 ∨ n = 28 ∨ n = 29 ∨ n = 30 ∨ n = 31 := by omega
  rcases this with rfl | rfl | rfl | rfl | rfl | rfl | rfl | rfl | rfl | rfl | rfl | rfl | rfl | rfl | rfl
  · exact Or.inl (by decide)
  · exact Or.inr (Or.inl (by decide))
  · exact Or.inr (Or.inr (Or.inl (by decide)))
  · exact Or.inr (Or.inr (Or.inr (Or.inl (by decide))))
  · exact Or.inr (Or.inr (Or.inr (Or.inr (Or.inl (by decide)))))
  · exact Or.inr (Or.inr (Or.inr (Or.inr (Or.inr (Or.inl (by decide))))))
  · exact Or.inr (Or.inr (Or.inr (Or.inr (Or.inr (Or.inr (Or.inl (by decide)))))))
  · exact Or.inr (Or.inr (Or.inr (Or.inr (Or.inr (Or.inr (Or.inr (Or.inl (by decide))))))))
  · exact Or.inr (Or.inr (Or.inr (Or.inr (Or.inr (Or.inr (Or.inr (Or.inr (Or.inl (by decide)))))))))
  · exact Or.inr (Or.inr (Or.inr (Or.inr (Or.inr (Or.inr (Or.inr (Or.inr (Or.inr (Or.inl (by decide))))))))))
  · exact Or.inr (Or.inr (Or.inr (Or.inr (Or.inr (Or.inr (Or.inr (Or.inr (Or.inr (Or.inr (Or.inl (by decide)))))))))))
  · exact Or.inr (Or.inr (Or.inr (Or.inr (Or.inr (Or.inr (Or.inr (Or.inr (Or.inr (Or.inr (Or.inr (Or.inl (by decide))))))))))))
  · exact Or.inr (Or.inr (Or.inr (Or.inr (Or.inr (Or.inr (Or.inr (Or.inr (Or.inr (Or.inr (Or.inr (Or.inr (Or.inl (by decide)))))))))))))
  · exact Or.inr (Or.inr (Or.inr (Or.inr (Or.inr (Or.inr (Or.inr (Or.inr (Or.inr (Or.inr (Or.inr (Or.inr (Or.inr (Or.inl (by decide))))))))))))))
  · exact Or.inr (Or.inr (Or.inr (Or.inr (Or.inr (Or.inr (Or.inr (Or.inr (Or.inr (Or.inr (Or.inr (Or.inr (Or.inr (Or.inr ((by decide)))))))))))))))
theorem g3_all (n : Nat) (hn : n < 256) (h : nI n >>> ((4 : Int32) &&& 31) = 3) : (nI n = 48 ∨ nI n = 49 ∨ nI n = 50 ∨ nI n = 51 ∨ nI n = 52 ∨ nI n = 53 ∨ nI n = 54 ∨ nI n = 55 ∨ nI n = 56 ∨ nI n = 57 ∨ nI n = 58 ∨ nI n = 59 ∨ nI n = 60 ∨ nI n = 61 ∨ nI n = 62) ∨ nI n = 63 := by
  rw [pk_shrN (by omega) _ 4 (by decide), show (3 : Int32) = nI 3 by decide, nI_eq (by omega) (by omega)] at h
  have : n = 48 ∨ n = 49 ∨ n = 50 ∨ n = 51 ∨ n = 52 ∨ n = 53 ∨ n = 54 ∨ n = 55 ∨ n = 56 ∨ n = 57 ∨ n = 58 ∨ n = 59 ∨ n = 60 ∨ n = 61 ∨ n = 62 ∨ n = 63 := by omega
  rcases this with rfl | rfl | rfl | rfl | rfl | rfl | rfl | rfl | rfl | rfl | rfl | rfl | rfl | rfl | rfl | rfl
  · exact Or.inl (Or.inl (by decide))
  · exact Or.inl (Or.inr (Or.inl (by decide)))
  · exact Or.inl (Or.inr (Or.inr (Or.inl (by decide))))
  · exact Or.inl (Or.inr (Or.inr (Or.inr (Or.inl (by decide)))))
  · exact Or.inl (Or.inr (Or.inr (Or.inr (Or.inr (Or.inl (by decide))))))
  · exact Or.inl (Or.inr (Or.inr (Or.inr (Or.inr (Or.inr (Or.inl (by decide)))))))
  · exact Or.inl (Or.inr (Or.inr (Or.inr (Or.inr (Or.inr (Or.inr (Or.inl (by decide))))))))
  · exact Or.inl (Or.inr (Or.inr (Or.inr (Or.inr (Or.inr (Or.inr (Or.inr (Or.inl (by decide)))))))))
  · exact Or.inl (Or.inr (Or.inr (Or.inr (Or.inr (Or.inr (Or.inr (Or.inr (Or.inr (Or.inl (by decide))))))))))
  · exact Or.inl (Or.inr (Or.inr (Or.inr (Or.inr (Or.inr (Or.inr (Or.inr (Or.inr (Or.inr (Or.inl (by decide)))))))))))
  · exact Or.inl (Or.inr (Or.inr (Or.inr (Or.inr (Or.inr (Or.inr (Or.inr (Or.inr (Or.inr (Or.inr (Or.inl (by decide))))))))))))
  · exact Or.inl (Or.inr (Or.inr (Or.inr (Or.inr (Or.inr (Or.inr (Or.inr (Or.inr (Or.inr (Or.inr (Or.inr (Or.inl (by decide)))))))))))))
  · exact Or.inl (Or.inr (Or.inr (Or.inr (Or.inr (Or.inr (Or.inr (Or.inr (Or.inr (Or.inr (Or.inr (Or.inr (Or.inr (Or.inl (by decide))))))))))))))
  · exact Or.inl (Or.inr (Or.inr (Or.inr (Or.inr (Or.inr (Or.inr (Or.inr (Or.inr (Or.inr (Or.inr (Or.inr (Or.inr (Or.inr (Or.inl (by decide)))))))))))))))
  · exact Or.inl (Or.inr (Or.inr (Or.inr (Or.inr (Or.inr (Or.inr (Or.inr (Or.inr (Or.inr (Or.inr (Or.inr (Or.inr (Or.inr (Or.inr ((by decide))))))))))))))))
  · exact Or.inr (by decide)
theorem hi_all : ∀ n, n < 256 → (nI n >>> ((4 : Int32) &&& 31) = 0 ∧ nI n < 128 ∧ ¬ nI n = 16) ∨ (nI n >>> ((4 : Int32) &&& 31) = 1 ∧ nI n < 128) ∨ (nI n >>> ((4 : Int32) &&& 31) = 2 ∧ nI n < 128 ∧ ¬ nI n = 16) ∨ (nI n >>> ((4 : Int32) &&& 31) = 3 ∧ nI n < 128 ∧ ¬ nI n = 16) ∨ (nI n >>> ((4 : Int32) &&& 31) = 4 ∧ nI n < 128 ∧ ¬ nI n = 16) ∨ (nI n >>> ((4 : Int32) &&& 31) = 5 ∧ nI n < 128 ∧ ¬ nI n = 16) ∨ (nI n >>> ((4 : Int32) &&& 31) = 6 ∧ nI n < 128 ∧ ¬ nI n = 16) ∨ (nI n >>> ((4 : Int32) &&& 31) = 7 ∧ nI n < 128 ∧ ¬ nI n = 16) ∨ (¬ nI n < 128) := by decide +kernel
theorem up_all : ∀ n, n < 256 → ¬ nI n < 128 → ¬ nI n >>> ((4 : Int32) &&& 31) = 0 ∧ ¬ nI n >>> ((4 : Int32) &&& 31) = 1 ∧ ¬ nI n >>> ((4 : Int32) &&& 31) = 2 ∧ ¬ nI n >>> ((4 : Int32) &&& 31) = 3 ∧ ¬ nI n >>> ((4 : Int32) &&& 31) = 4 ∧ ¬ nI n >>> ((4 : Int32) &&& 31) = 5 ∧ ¬ nI n >>> ((4 : Int32) &&& 31) = 6 ∧ ¬ nI n >>> ((4 : Int32) &&& 31) = 7 := by decide +kernel
theorem lw_eq {op gv : Int32} (h : op >>> ((4 : Int32) &&& 31) = gv) (h4 : ¬ gv = 4) (h5 : ¬ gv = 5) (me rg : Nat → Int32) (sp : Int32) (iv : Bool) : mo_lower op me rg sp iv = mo_lower_j24 (op &&& 15) gv false me rg sp iv := by
  unfold mo_lower
  rw [h, if_neg h4, if_neg h5]
theorem lw_eq2 {op gv : Int32} (h : op >>> ((4 : Int32) &&& 31) = gv) (h4 : gv = 4 ∨ gv = 5) (me rg : Nat → Int32) (sp : Int32) (iv : Bool) : mo_lower op me rg sp iv = mo_lower_j24 (op &&& 15) gv true me rg sp iv := by
  unfold mo_lower
  rw [h]
  rcases h4 with rfl | rfl
  · rw [if_pos rfl]
    rfl
  · rw [if_neg (by decide), if_pos rfl]
    rfl
theorem exec_ok (hB : okB cb) (ho : ok_ a b d c x y u s p) (py0 po0 sp : Int32) (iv : Bool) : ∃ (r py' : Int32) (cb' : Nat → Int32) (g' : R9), tc_P_execute py0 po0 cb a b d c x y u s p = some (r, py', r, cb', g') ∧ ex_ok cb a b d c x y u s p so sv tl su qu wa ru r py' cb' g' (mo_instruction cb (rf_ a b d c x y u s p) so sv tl su qu wa ru sp iv) := by
  obtain ⟨n, hn, en⟩ := rd_ok hB p
  have ho' := ok_p ho (p + 1)
  unfold tc_P_execute mo_instruction
  rw [tc_fetch1, mo_fetch_eq, Option.bind_some, Option.bind_some]
  dsimp only
  rw [en, show (0 : Int32) + 1 = 1 by decide]
  rcases hi_all n hn with ⟨h, hl, h16⟩ | ⟨h, hl⟩ | ⟨h, hl, h16⟩ | ⟨h, hl, h16⟩ | ⟨h, hl, h16⟩ | ⟨h, hl, h16⟩ | ⟨h, hl, h16⟩ | ⟨h, hl, h16⟩ | hl
  · rw [if_pos h, if_pos hl, if_neg h16, lw_eq h (by decide) (by decide), h, if_neg (by decide), if_neg (by decide), if_neg (by decide)]
    obtain ⟨z, h1, h2⟩ := cm_ok hB ho' (nI n) 1 (Or.inl ⟨rfl, rfl⟩)
    rw [h1, Option.bind_some]
    exact fin_cp h2
  · rw [h, if_neg (by decide), if_pos rfl, if_pos hl]
    by_cases h16 : nI n = 16
    · rw [if_pos h16, if_pos h16, tc_fetch1, Option.bind_some]
      unfold mo_second
      rw [mo_fetch_eq, Option.bind_some]
      dsimp only
      have key : ∃ z, tc_P_doSecondPage (rd_ cb ((p + 1) &&& 65535)) (1 + 1) (-1) cb a b d c x y u s ((((p + 1) &&& 65535) + 1) &&& 65535) = some z ∧ cp_ok z (if (192 : Int32) ≤ rd_ cb ((p + 1) &&& 65535) then mo_second_j28 (rd_ cb ((p + 1) &&& 65535)) ((rd_ cb ((p + 1) &&& 65535) >>> ((4 : Int32) &&& 31)) &&& 3) (rd_ cb ((p + 1) &&& 65535) &&& 15) false cb (rf_ a b d c x y u s ((((p + 1) &&& 65535) + 1) &&& 65535)) (1 + 1) false else mo_second_j28 (rd_ cb ((p + 1) &&& 65535)) ((rd_ cb ((p + 1) &&& 65535) >>> ((4 : Int32) &&& 31)) &&& 3) (rd_ cb ((p + 1) &&& 65535) &&& 15) true cb (rf_ a b d c x y u s ((((p + 1) &&& 65535) + 1) &&& 65535)) (1 + 1) false) := by
        unfold tc_P_doSecondPage
        by_cases h192 : (192 : Int32) ≤ rd_ cb ((p + 1) &&& 65535)
        · rw [if_neg (Int32.not_lt.mpr h192), if_pos h192]
          exact sp_in hB (ok_p ho _) _ false (md_of _)
        · rw [if_pos (Int32.not_le.mp h192), if_neg h192]
          exact sp_in hB (ok_p ho _) _ true (md_of _)
      obtain ⟨z, h1, h2⟩ := key
      rw [h1, Option.bind_some]
      exact fin_cp h2
    · rw [if_neg h16, if_neg h16, if_neg (by decide), if_pos rfl]
      obtain ⟨py', po', g', h1, h2⟩ := g1_ok (so := so) (sv := sv) (tl := tl) (su := su) (qu := qu) (wa := wa) (ru := ru) hB ho' (nI n) 1 (g1_all n hn h h16)
      rw [h1, Option.bind_some]
      unfold mo_instruction_j75
      exact fin_sg h2
  · rw [h, if_neg (by decide), if_neg (by decide), if_pos rfl, if_pos hl, if_neg h16, if_pos rfl]
    obtain ⟨py', p', h1, h2, h3⟩ := br_ok hB ho' (nI n) 1
    rw [h1, h3, Option.bind_some, Option.bind_some]
    refine ⟨_, _, _, (a, b, d, c, x, y, u, s, p'), rfl, Or.inl ⟨rfl, hB, ?_, rfl⟩⟩
    obtain ⟨ha, hb, hd, hc, hx, hy, hu, hs, -⟩ := ho
    exact ⟨ha, hb, hd, hc, hx, hy, hu, hs, h2⟩
  · rw [h, if_neg (by decide), if_neg (by decide), if_neg (by decide), if_pos rfl, if_pos hl, if_neg h16, if_neg (by decide), if_neg (by decide), if_pos rfl]
    unfold mo_instruction_j75
    rcases g3_all n hn h with h3 | h63
    · obtain ⟨z, h1, h2⟩ := g3_ok (so := so) (sv := sv) (tl := tl) (su := su) (qu := qu) (wa := wa) (ru := ru) hB ho' (nI n) 1 h3
      rw [h1, Option.bind_some]
      exact fin_sg h2
    · rw [h63, dg_63, sl_63, tc_fetch1, Option.bind_some]
      unfold mo_single_j223
      rw [if_neg (by decide), if_neg (by decide), if_neg (by decide), if_pos rfl, Option.bind_some, Option.bind_assoc]
      obtain ⟨k, hk, ek⟩ := rd_ok hB ((p + 1) &&& 65535)
      unfold tc_P_execute_j168
      dsimp only
      rw [if_neg (by rw [ek]; exact (by decide +kernel : ∀ k, k < 256 → ¬ nI k = -2) k hk)]
      refine ⟨_, _, _, (a, b, d, c, x, y, u, s, (((p + 1) &&& 65535) + 1) &&& 65535), rfl, Or.inr (Or.inr ⟨rfl, rfl, rfl, ?_, rfl⟩)⟩
      rw [mask_add, i_11]
  · rw [lw_eq2 h (Or.inl rfl), h, if_neg (by decide), if_neg (by decide), if_neg (by decide), if_neg (by decide), if_pos rfl, if_pos hl, if_neg h16, if_neg (by decide), if_neg (by decide), if_neg (by decide)]
    obtain ⟨po', g', h1, h2⟩ := cr_ok (cb := cb) ho' (nI n) 1 (Or.inl ⟨rfl, rfl⟩)
    rw [h1, Option.bind_some]
    have : cp_ok (1, po', cb, g') (mo_lower_j24 (nI n &&& 15) 4 true cb (rf_ a b d c x y u s ((p + 1) &&& 65535)) 1 false) := by
      rcases h2 with ⟨k1, k2, k3⟩ | ⟨k1, g0, sp, k3⟩
      · exact Or.inl ⟨k1, hB, k2, k3⟩
      · exact Or.inr ⟨k1, hB, g0, sp, k3⟩
    exact fin_cp this
  · rw [lw_eq2 h (Or.inr rfl), h, if_neg (by decide), if_neg (by decide), if_neg (by decide), if_neg (by decide), if_neg (by decide), if_pos rfl, if_pos hl, if_neg h16, if_neg (by decide), if_neg (by decide), if_neg (by decide)]
    obtain ⟨po', g', h1, h2⟩ := cr_ok (cb := cb) ho' (nI n) 1 (Or.inr ⟨rfl, rfl⟩)
    rw [h1, Option.bind_some]
    have : cp_ok (1, po', cb, g') (mo_lower_j24 (nI n &&& 15) 5 true cb (rf_ a b d c x y u s ((p + 1) &&& 65535)) 1 false) := by
      rcases h2 with ⟨k1, k2, k3⟩ | ⟨k1, g0, sp, k3⟩
      · exact Or.inl ⟨k1, hB, k2, k3⟩
      · exact Or.inr ⟨k1, hB, g0, sp, k3⟩
    exact fin_cp this
  · unfold tc_P_execute_j147
    rw [lw_eq h (by decide) (by decide), h, if_neg (by decide), if_neg (by decide), if_neg (by decide), if_neg (by decide), if_neg (by decide), if_neg (by decide), if_pos rfl, if_pos hl, if_neg h16, if_neg (by decide), if_neg (by decide), if_neg (by decide)]
    obtain ⟨z, h1, h2⟩ := cm_ok hB ho' (nI n) 1 (Or.inr (Or.inl ⟨rfl, (by decide : (6 : Int32) &&& 3 = 2)⟩))
    rw [h1, Option.bind_some]
    exact fin_cp h2
  · unfold tc_P_execute_j147
    rw [lw_eq h (by decide) (by decide), h, if_neg (by decide), if_neg (by decide), if_neg (by decide), if_neg (by decide), if_neg (by decide), if_neg (by decide), if_neg (by decide), if_pos rfl, if_pos hl, if_neg h16, if_neg (by decide), if_neg (by decide), if_neg (by decide)]
    obtain ⟨z, h1, h2⟩ := cm_ok hB ho' (nI n) 1 (Or.inr (Or.inr ⟨rfl, (by decide : (7 : Int32) &&& 3 = 3)⟩))
    rw [h1, Option.bind_some]
    exact fin_cp h2
  · obtain ⟨u0, u1, u2, u3, u4, u5, u6, u7⟩ := up_all n hn hl
    rw [if_neg u0, if_neg u1, if_neg u2, if_neg u3, if_neg u4, if_neg u5, if_neg u6, if_neg u7, if_neg hl]
    have key : ∃ z, tc_P_doMainPage (nI n) 1 (-1) cb a b d c x y u s ((p + 1) &&& 65535) = some z ∧ cp_ok z (mo_upper (nI n) cb (rf_ a b d c x y u s ((p + 1) &&& 65535)) 1 false) := by
      unfold tc_P_doMainPage mo_upper
      by_cases h192 : (192 : Int32) ≤ nI n
      · rw [if_neg (Int32.not_lt.mpr h192), if_pos h192]
        exact mp_in hB ho' 1 false (md_of _) ⟨fun _ => rfl, fun _ => h192⟩
      · rw [if_pos (Int32.not_le.mp h192), if_neg h192]
        exact mp_in hB ho' 1 true (md_of _) ⟨fun q => absurd q h192, fun q => Bool.noConfusion q⟩
    obtain ⟨z, h1, h2⟩ := key
    rw [h1, Option.bind_some]
    exact fin_cp h2
end EX
end
section
/-! The queue: a list of task numbers. -/
theorem ge_app {P : List Nat} {h j : Nat} (hj : j < P.length) : (P ++ [h]).getD j 0 = P.getD j 0 := by
  unfold List.getD
  rw [List.getElem?_append_left hj]
theorem ge_last {P : List Nat} {h : Nat} : (P ++ [h]).getD P.length 0 = h := by
  simp [List.getD]
theorem i_inc (k : Nat) : nI k + Int32.ofInt 1 = nI (k + 1) := by
  show nI k + nI 1 = _
  rw [nI_add]
def kp_ (t : Nat) (L : List Nat) : List Nat := L.filter (fun i => decide (i ≠ t))
theorem mo_leave_loop {t : Nat} (ht : t < 4) : ∀ (Rm P : List Nat) (F k : Nat) (qu : Nat → Int32), Rm.length < F → P.length ≤ k → k + Rm.length ≤ 4 → (∀ i ∈ Rm, i < 4) → (∀ j, j < P.length → qu j = nI (P.getD j 0)) → (∀ j, j < Rm.length → qu (k + j) = nI (Rm.getD j 0)) → ∃ qu', mo_leave_l4 F (nI t) (nI P.length) (nI k) qu (nI (k + Rm.length)) = some (qu', nI (P ++ kp_ t Rm).length) ∧ ∀ j, j < (P ++ kp_ t Rm).length → qu' j = nI ((P ++ kp_ t Rm).getD j 0) := by
  intro Rm
  induction Rm with
  | nil =>
    intro P F k qu hF hk h4 _ hP _
    obtain ⟨n, rfl⟩ : ∃ n, F = n + 1 := ⟨F - 1, by simp at hF; omega⟩
    refine ⟨qu, ?_, ?_⟩
    · rw [mo_leave_l4_s, if_pos (by rw [nI_leI (by simp at h4 ⊢; omega) (by simp at h4; omega)]; simp)]
      simp [kp_]
    · simpa [kp_] using hP
  | cons h T ih =>
    intro P F k qu hF hk h4 hR hP hQ
    obtain ⟨n, rfl⟩ : ∃ n, F = n + 1 := ⟨F - 1, by simp at hF; omega⟩
    simp only [List.length_cons] at hF h4 ⊢
    have hh : h < 4 := hR h (List.mem_cons_self)
    have hq0 : qu k = nI h := by
      have := hQ 0 (by simp)
      simpa [List.getD] using this
    have hT : ∀ j, j < T.length → qu (k + 1 + j) = nI (T.getD j 0) := by
      intro j hj
      have := hQ (j + 1) (by simp; omega)
      rw [show k + 1 + j = k + (j + 1) by omega]
      simpa [List.getD] using this
    rw [mo_leave_l4_s, if_neg (by rw [nI_leI (by omega) (by omega)]; omega), if_pos (in_nI (by omega) (by decide)), nI_clamp (by omega), hq0]
    unfold mo_leave_j37
    rw [i_inc, show k + (T.length + 1) = k + 1 + T.length by omega]
    by_cases e : h = t
    · rw [if_pos (by rw [e])]
      have hk' : kp_ t (h :: T) = kp_ t T := by
        unfold kp_
        rw [List.filter_cons_of_neg (by simp [e])]
      rw [hk']
      exact ih P n (k + 1) qu (by omega) (by omega) (by omega) (fun i hi => hR i (List.mem_cons_of_mem _ hi)) hP hT
    · rw [if_neg (fun q => e ((nI_eq (by omega) (by omega)).mp q)), if_pos (in_nI (by omega) (by decide)), nI_clamp (by omega), i_inc]
      have hk' : P ++ kp_ t (h :: T) = (P ++ [h]) ++ kp_ t T := by
        unfold kp_
        rw [List.filter_cons_of_pos (by simp [e])]
        simp
      rw [hk', show P.length + 1 = (P ++ [h]).length by simp]
      refine ih (P ++ [h]) n (k + 1) (upd qu P.length (nI h)) (by omega) (by simp; omega) (by omega) (fun i hi => hR i (List.mem_cons_of_mem _ hi)) ?_ ?_
      · intro j hj
        simp only [List.length_append, List.length_cons, List.length_nil] at hj
        by_cases ej : j = P.length
        · subst ej
          rw [upd_eq, ge_last]
        · rw [upd_ne ej, ge_app (by omega)]
          exact hP j (by omega)
      · intro j hj
        rw [upd_ne (by omega)]
        exact hT j hj
theorem va_ne {f : Nat → Option Nat} {i j : Nat} {v : Option Nat} (h : j ≠ i) : va_up f i v j = f j := va_up_ne f v h
theorem tc_remove_loop {t : Nat} (ht : t < 4) : ∀ (Rm P : List Nat) (F k : Nat) (ul : Nat → Option Nat), Rm.length < F → P.length ≤ k → k + Rm.length ≤ 4 → (∀ i ∈ Rm, i < 4) → (∀ j, j < P.length → ul j = some (P.getD j 0)) → (∀ j, j < Rm.length → ul (k + j) = some (Rm.getD j 0)) → ∃ ul', tc_Q_remove_l4 F t (nI P.length) (nI k) (nI (k + Rm.length)) ul = some (nI (P ++ kp_ t Rm).length, ul') ∧ ∀ j, j < (P ++ kp_ t Rm).length → ul' j = some ((P ++ kp_ t Rm).getD j 0) := by
  intro Rm
  induction Rm with
  | nil =>
    intro P F k ul hF hk h4 _ hP _
    obtain ⟨n, rfl⟩ : ∃ n, F = n + 1 := ⟨F - 1, by simp at hF; omega⟩
    refine ⟨ul, ?_, ?_⟩
    · rw [tc_Q_remove_l4_s, if_pos (by rw [nI_leI (by simp at h4 ⊢; omega) (by simp at h4; omega)]; simp)]
      simp [kp_]
    · simpa [kp_] using hP
  | cons h T ih =>
    intro P F k ul hF hk h4 hR hP hQ
    obtain ⟨n, rfl⟩ : ∃ n, F = n + 1 := ⟨F - 1, by simp at hF; omega⟩
    simp only [List.length_cons] at hF h4 ⊢
    have hh : h < 4 := hR h (List.mem_cons_self)
    have hq0 : ul k = some h := by
      have := hQ 0 (by simp)
      simpa [List.getD] using this
    have hT : ∀ j, j < T.length → ul (k + 1 + j) = some (T.getD j 0) := by
      intro j hj
      have := hQ (j + 1) (by simp; omega)
      rw [show k + 1 + j = k + (j + 1) by omega]
      simpa [List.getD] using this
    rw [tc_Q_remove_l4_s, if_neg (by rw [nI_leI (by omega) (by omega)]; omega), if_pos (in_nI (by omega) (by decide)), nI_clamp (by omega), hq0, if_pos (show tk_ok (some h) = true from decide_eq_true hh), if_pos (show tk_ok (some t) = true from decide_eq_true ht)]
    unfold tc_Q_remove_j37
    rw [i_inc, show k + (T.length + 1) = k + 1 + T.length by omega]
    by_cases e : h = t
    · rw [if_pos (by rw [e])]
      have hk' : kp_ t (h :: T) = kp_ t T := by
        unfold kp_
        rw [List.filter_cons_of_neg (by simp [e])]
      rw [hk']
      exact ih P n (k + 1) ul (by omega) (by omega) (by omega) (fun i hi => hR i (List.mem_cons_of_mem _ hi)) hP hT
    · rw [if_neg (fun q => e (Option.some.inj q))]
      show ∃ ul', (if in_b (nI P.length) 4 = true then if h < 4 then _ else none else none) = _ ∧ _
      rw [if_pos (in_nI (by omega) (by decide)), if_pos hh, nI_clamp (by omega), i_inc]
      have hk' : P ++ kp_ t (h :: T) = (P ++ [h]) ++ kp_ t T := by
        unfold kp_
        rw [List.filter_cons_of_pos (by simp [e])]
        simp
      rw [hk', show P.length + 1 = (P ++ [h]).length by simp]
      refine ih (P ++ [h]) n (k + 1) (va_up ul P.length (some h)) (by omega) (by simp; omega) (by omega) (fun i hi => hR i (List.mem_cons_of_mem _ hi)) ?_ ?_
      · intro j hj
        simp only [List.length_append, List.length_cons, List.length_nil] at hj
        by_cases ej : j = P.length
        · subst ej
          rw [va_up_self, ge_last]
        · rw [va_ne ej, ge_app (by omega)]
          exact hP j (by omega)
      · intro j hj
        rw [va_ne (by omega)]
        exact hT j hj
/-- the queue of both sides is the list L -/
def QL (L : List Nat) (uz : Int32) (ul : Nat → Option Nat) (qu : Nat → Int32) (wa : Int32) : Prop := uz = nI L.length ∧ wa = nI L.length ∧ (∀ j, j < L.length → ul j = some (L.getD j 0)) ∧ (∀ j, j < L.length → qu j = nI (L.getD j 0)) ∧ L.Nodup ∧ ∀ i ∈ L, i < 4
theorem pg_ : ∀ (n : Nat) (L : List Nat), L.Nodup → (∀ i ∈ L, i < n) → L.length ≤ n := by
  intro n
  induction n with
  | zero =>
    intro L _ h
    cases L with
    | nil => simp
    | cons a T => exact absurd (h a List.mem_cons_self) (by omega)
  | succ n ih =>
    intro L hN h
    have h1 := ih (L.filter (fun i => decide (i ≠ n))) (hN.sublist List.filter_sublist) (fun i hi => by
      have h2 := List.mem_filter.mp hi
      have h3 := h i h2.1
      have h4 : i ≠ n := of_decide_eq_true h2.2
      omega)
    have key : ∀ M : List Nat, M.Nodup → M.length ≤ (M.filter (fun i => decide (i ≠ n))).length + 1 := by
      intro M
      induction M with
      | nil => intro _; simp
      | cons a T ihT =>
        intro hM
        have hT := List.nodup_cons.mp hM
        by_cases e : a = n
        · subst e
          have hf : T.filter (fun i => decide (i ≠ a)) = T := by
            apply List.filter_eq_self.mpr
            intro i hi
            exact decide_eq_true (fun q => hT.1 (q ▸ hi))
          rw [List.filter_cons_of_neg (by simp), hf]
          simp
        · rw [List.filter_cons_of_pos (by simp [e])]
          have := ihT hT.2
          simp only [List.length_cons]
          omega
    have := key L hN
    omega
theorem QL_len {L : List Nat} {uz wa : Int32} {ul : Nat → Option Nat} {qu : Nat → Int32} (h : QL L uz ul qu wa) : L.length ≤ 4 := pg_ 4 L h.2.2.2.2.1 h.2.2.2.2.2
theorem QL_len3 {L : List Nat} {uz wa : Int32} {ul : Nat → Option Nat} {qu : Nat → Int32} (h : QL L uz ul qu wa) {t : Nat} (ht : t < 4) (hn : t ∉ L) : L.length ≤ 3 := by
  have := pg_ 4 (t :: L) (List.nodup_cons.mpr ⟨hn, h.2.2.2.2.1⟩) (fun i hi => by
    rcases List.mem_cons.mp hi with rfl | hi
    · exact ht
    · exact h.2.2.2.2.2 i hi)
  simp only [List.length_cons] at this
  omega
theorem leave_ok {L : List Nat} {uz wa : Int32} {ul : Nat → Option Nat} {qu : Nat → Int32} (h : QL L uz ul qu wa) {t : Nat} (ht : t < 4) : ∃ (uz' wa' : Int32) (ul' : Nat → Option Nat) (qu' : Nat → Int32), tc_Q_remove t uz ul = some (uz', ul') ∧ mo_leave (nI t) qu wa = some (qu', wa') ∧ QL (kp_ t L) uz' ul' qu' wa' := by
  have hlen := QL_len h
  obtain ⟨rfl, rfl, h3, h4, h5, h6⟩ := h
  obtain ⟨qu', a1, a2⟩ := mo_leave_loop ht L [] 5 0 qu (by omega) (by simp) (by omega) h6 (fun j hj => by simp at hj) (fun j hj => by rw [Nat.zero_add]; exact h4 j hj)
  obtain ⟨ul', b1, b2⟩ := tc_remove_loop ht L [] 5 0 ul (by omega) (by simp) (by omega) h6 (fun j hj => by simp at hj) (fun j hj => by rw [Nat.zero_add]; exact h3 j hj)
  rw [Nat.zero_add] at a1 b1
  simp only [List.nil_append] at a1 a2 b1 b2
  refine ⟨_, _, ul', qu', b1, a1, rfl, rfl, b2, a2, h5.sublist List.filter_sublist, fun i hi => h6 i (List.mem_filter.mp hi).1⟩
theorem kp_notin {t : Nat} {L : List Nat} (h : t ∉ L) : kp_ t L = L := by
  apply List.filter_eq_self.mpr
  intro i hi
  exact decide_eq_true (fun q => h (q ▸ hi))
theorem kp_head {t : Nat} {T : List Nat} (h : (t :: T).Nodup) : kp_ t (t :: T) = T := by
  unfold kp_
  rw [List.filter_cons_of_neg (by simp)]
  exact kp_notin (List.nodup_cons.mp h).1
/-- a task comes last -/
theorem last_ok {L : List Nat} {uz wa : Int32} {ul : Nat → Option Nat} {qu : Nat → Int32} (h : QL L uz ul qu wa) {t : Nat} (ht : t < 4) (hn : t ∉ L) (ks : Nat → Int32) : ∃ (uz' wa' : Int32) (ul' : Nat → Option Nat) (qu' : Nat → Int32), tc_K_makeReady t uz ul ks = some (uz', ul', upd ks t 2) ∧ mo_comeLast (nI t) ks qu wa = some (upd ks t 2, qu', wa') ∧ QL (L ++ [t]) uz' ul' qu' wa' := by
  have hlen := QL_len3 h ht hn
  obtain ⟨rfl, rfl, h3, h4, h5, h6⟩ := h
  refine ⟨nI (L.length + 1), nI (L.length + 1), va_up ul L.length (some t), upd qu L.length (nI t), ?_, ?_, ?_⟩
  · unfold tc_K_makeReady tc_Q_append
    rw [if_pos ht, if_neg (by rw [show (4 : Int32) = nI 4 by decide, nI_leI (by omega) (by omega)]; omega), if_pos (in_nI (by omega) (by decide)), if_pos ht, nI_clamp (by omega), nI_1]
    rfl
  · unfold mo_comeLast
    rw [if_pos (in_nI ht (by decide)), if_pos (in_nI (by omega) (by decide)), nI_clamp (by omega), nI_clamp (by omega), nI_1]
  · refine ⟨by simp, by simp, ?_, ?_, ?_, ?_⟩
    · intro j hj
      simp only [List.length_append, List.length_cons, List.length_nil] at hj
      by_cases e : j = L.length
      · subst e
        rw [va_up_self, ge_last]
      · rw [va_ne e, ge_app (by omega)]
        exact h3 j (by omega)
    · intro j hj
      simp only [List.length_append, List.length_cons, List.length_nil] at hj
      by_cases e : j = L.length
      · subst e
        rw [upd_eq, ge_last]
      · rw [upd_ne e, ge_app (by omega)]
        exact h4 j (by omega)
    · rw [List.nodup_append]
      exact ⟨h5, by simp, fun a ha b hb => by
        simp only [List.mem_cons, List.not_mem_nil, or_false] at hb
        subst hb
        exact fun q => hn (q ▸ ha)⟩
    · intro i hi
      rcases List.mem_append.mp hi with hi | hi
      · exact h6 i hi
      · simp only [List.mem_cons, List.not_mem_nil, or_false] at hi
        rw [hi]
        exact ht
end
section
/-! Frames: all registers pushed, all pulled. -/
section FR
variable (me : Nat → Int32) (a b d c x y u s p sp : Int32)
theorem pl_cc (hB : okB me) : mo_pull 4 10 me (rf_ a b d c x y u s p) sp = some (rf_ a b d (rd_ me s) x y u ((s + 1) &&& 65535) p, sp + 1) := by
  unfold mo_pull
  rw [if_pos (by decide)]
  unfold mo_pull_j11 mo_pull_j42
  rw [if_pos (by decide), mo_load1, Option.bind_some, if_pos (show bz_i false = 0 from rfl)]
  show ((some (upd (rf_ a b d c x y u s p) 4 ((s + 1) &&& 65535))).bind fun z9 => ((some (upd z9 10 (rd_ me s &&& 255))).bind _)) = _
  rw [Option.bind_some, rf_4, rf_10, rb_id (rd_ok hB _)]
  rfl
theorem pl_a (hB : okB me) : mo_pull 4 8 me (rf_ a b d c x y u s p) sp = some (rf_ (rd_ me s) b d c x y u ((s + 1) &&& 65535) p, sp + 1) := by
  unfold mo_pull
  rw [if_pos (by decide)]
  unfold mo_pull_j11 mo_pull_j42
  rw [if_pos (by decide), mo_load1, Option.bind_some, if_pos (show bz_i false = 0 from rfl)]
  show ((some (upd (rf_ a b d c x y u s p) 4 ((s + 1) &&& 65535))).bind fun z9 => ((some (upd z9 8 (rd_ me s &&& 255))).bind _)) = _
  rw [Option.bind_some, rf_4, rf_8, rb_id (rd_ok hB _)]
  rfl
theorem pl_b (hB : okB me) : mo_pull 4 9 me (rf_ a b d c x y u s p) sp = some (rf_ a (rd_ me s) d c x y u ((s + 1) &&& 65535) p, sp + 1) := by
  unfold mo_pull
  rw [if_pos (by decide)]
  unfold mo_pull_j11 mo_pull_j42
  rw [if_pos (by decide), mo_load1, Option.bind_some, if_pos (show bz_i false = 0 from rfl)]
  show ((some (upd (rf_ a b d c x y u s p) 4 ((s + 1) &&& 65535))).bind fun z9 => ((some (upd z9 9 (rd_ me s &&& 255))).bind _)) = _
  rw [Option.bind_some, rf_4, rf_9, rb_id (rd_ok hB _)]
  rfl
theorem pl_d (hB : okB me) : mo_pull 4 11 me (rf_ a b d c x y u s p) sp = some (rf_ a b (rd_ me s) c x y u ((s + 1) &&& 65535) p, sp + 1) := by
  unfold mo_pull
  rw [if_pos (by decide)]
  unfold mo_pull_j11 mo_pull_j42
  rw [if_pos (by decide), mo_load1, Option.bind_some, if_pos (show bz_i false = 0 from rfl)]
  show ((some (upd (rf_ a b d c x y u s p) 4 ((s + 1) &&& 65535))).bind fun z9 => ((some (upd z9 11 (rd_ me s &&& 255))).bind _)) = _
  rw [Option.bind_some, rf_4, rf_11, rb_id (rd_ok hB _)]
  rfl
theorem pl_x (hB : okB me) : mo_pull 4 1 me (rf_ a b d c x y u s p) sp = some (rf_ a b d c (rd2_ me s) y u ((s + 2) &&& 65535) p, sp + 2) := by
  unfold mo_pull
  rw [if_neg (by decide)]
  unfold mo_pull_j11 mo_pull_j42
  rw [if_pos (by decide), mo_load2, Option.bind_some, if_neg (show ¬ bz_i true = 0 by decide)]
  show ((some (upd (rf_ a b d c x y u s p) 4 ((s + 2) &&& 65535))).bind fun z9 => ((some (upd z9 1 (rd2_ me s &&& 65535))).bind _)) = _
  rw [Option.bind_some, rf_4, rf_1, rw_id (rd2_ok hB _)]
  rfl
theorem pl_y (hB : okB me) : mo_pull 4 2 me (rf_ a b d c x y u s p) sp = some (rf_ a b d c x (rd2_ me s) u ((s + 2) &&& 65535) p, sp + 2) := by
  unfold mo_pull
  rw [if_neg (by decide)]
  unfold mo_pull_j11 mo_pull_j42
  rw [if_pos (by decide), mo_load2, Option.bind_some, if_neg (show ¬ bz_i true = 0 by decide)]
  show ((some (upd (rf_ a b d c x y u s p) 4 ((s + 2) &&& 65535))).bind fun z9 => ((some (upd z9 2 (rd2_ me s &&& 65535))).bind _)) = _
  rw [Option.bind_some, rf_4, rf_2, rw_id (rd2_ok hB _)]
  rfl
theorem pl_u (hB : okB me) : mo_pull 4 3 me (rf_ a b d c x y u s p) sp = some (rf_ a b d c x y (rd2_ me s) ((s + 2) &&& 65535) p, sp + 2) := by
  unfold mo_pull
  rw [if_neg (by decide)]
  unfold mo_pull_j11 mo_pull_j42
  rw [if_pos (by decide), mo_load2, Option.bind_some, if_neg (show ¬ bz_i true = 0 by decide)]
  show ((some (upd (rf_ a b d c x y u s p) 4 ((s + 2) &&& 65535))).bind fun z9 => ((some (upd z9 3 (rd2_ me s &&& 65535))).bind _)) = _
  rw [Option.bind_some, rf_4, rf_3, rw_id (rd2_ok hB _)]
  rfl
theorem pl_p (hB : okB me) : mo_pull 4 5 me (rf_ a b d c x y u s p) sp = some (rf_ a b d c x y u ((s + 2) &&& 65535) (rd2_ me s), sp + 2) := by
  unfold mo_pull
  rw [if_neg (by decide)]
  unfold mo_pull_j11 mo_pull_j42
  rw [if_pos (by decide), mo_load2, Option.bind_some, if_neg (show ¬ bz_i true = 0 by decide)]
  show ((some (upd (rf_ a b d c x y u s p) 4 ((s + 2) &&& 65535))).bind fun z9 => ((some (upd z9 5 (rd2_ me s &&& 65535))).bind _)) = _
  rw [Option.bind_some, rf_4, rf_5, rw_id (rd2_ok hB _)]
  rfl
theorem pl_255 (rg : Nat → Int32) : pl_ 4 255 8 me rg sp = (mo_pull 4 10 me rg sp).bind fun z => (mo_pull 4 8 me z.1 z.2).bind fun z => (mo_pull 4 9 me z.1 z.2).bind fun z => (mo_pull 4 11 me z.1 z.2).bind fun z => (mo_pull 4 1 me z.1 z.2).bind fun z => (mo_pull 4 2 me z.1 z.2).bind fun z => (mo_pull 4 3 me z.1 z.2).bind fun z => (mo_pull 4 5 me z.1 z.2).bind fun z => some (z.1, z.2) := rfl
theorem ma_ (s k j : Int32) : (((s + k) &&& 65535) + j) &&& 65535 = (s + (k + j)) &&& 65535 := by
  rw [mask_add, Int32.add_assoc]
theorem pl_all (hB : okB me) : pl_ 4 255 8 me (rf_ a b d c x y u s p) sp = some (rf_ (rd_ me (s + 1)) (rd_ me (s + 2)) (rd_ me (s + 3)) (rd_ me s) (rd2_ me (s + 4)) (rd2_ me (s + 6)) (rd2_ me (s + 8)) ((s + 12) &&& 65535) (rd2_ me (s + 10)), sp + 12) := by
  rw [pl_255]
  simp only [pl_cc _ _ _ _ _ _ _ _ _ _ _ hB, pl_a _ _ _ _ _ _ _ _ _ _ _ hB, pl_b _ _ _ _ _ _ _ _ _ _ _ hB, pl_d _ _ _ _ _ _ _ _ _ _ _ hB, pl_x _ _ _ _ _ _ _ _ _ _ _ hB, pl_y _ _ _ _ _ _ _ _ _ _ _ hB, pl_u _ _ _ _ _ _ _ _ _ _ _ hB, pl_p _ _ _ _ _ _ _ _ _ _ _ hB, Option.bind_some, ma_, rd_mask, rd2_mask]
  simp only [Int32.add_assoc]
  rfl
end FR
end
section
/-! All registers pushed onto S; the frame of a new task. -/
section FP
variable (me : Nat → Int32) (a b d c x y u s p sp : Int32)
theorem pu_cc : mo_push 4 10 me (rf_ a b d c x y u s p) sp = some (wr_ me ((s - 1) &&& 65535) c, rf_ a b d c x y u ((s - 1) &&& 65535) p, sp + 1) := by
  unfold mo_push
  rw [if_pos (by decide)]
  unfold mo_push_j11 mo_push_j29
  rw [if_pos (by decide), if_pos (show bz_i false = 0 from rfl)]
  show ((some (upd (rf_ a b d c x y u s p) 4 ((s - 1) &&& 65535))).bind _) = _
  rw [Option.bind_some, rf_4, if_pos (by decide), if_pos (by decide)]
  show ((mo_store ((s - 1) &&& 65535) c false me sp).bind _) = _
  rw [mo_store1]
  rfl
theorem pu_a : mo_push 4 8 me (rf_ a b d c x y u s p) sp = some (wr_ me ((s - 1) &&& 65535) a, rf_ a b d c x y u ((s - 1) &&& 65535) p, sp + 1) := by
  unfold mo_push
  rw [if_pos (by decide)]
  unfold mo_push_j11 mo_push_j29
  rw [if_pos (by decide), if_pos (show bz_i false = 0 from rfl)]
  show ((some (upd (rf_ a b d c x y u s p) 4 ((s - 1) &&& 65535))).bind _) = _
  rw [Option.bind_some, rf_4, if_pos (by decide), if_pos (by decide)]
  show ((mo_store ((s - 1) &&& 65535) a false me sp).bind _) = _
  rw [mo_store1]
  rfl
theorem pu_b : mo_push 4 9 me (rf_ a b d c x y u s p) sp = some (wr_ me ((s - 1) &&& 65535) b, rf_ a b d c x y u ((s - 1) &&& 65535) p, sp + 1) := by
  unfold mo_push
  rw [if_pos (by decide)]
  unfold mo_push_j11 mo_push_j29
  rw [if_pos (by decide), if_pos (show bz_i false = 0 from rfl)]
  show ((some (upd (rf_ a b d c x y u s p) 4 ((s - 1) &&& 65535))).bind _) = _
  rw [Option.bind_some, rf_4, if_pos (by decide), if_pos (by decide)]
  show ((mo_store ((s - 1) &&& 65535) b false me sp).bind _) = _
  rw [mo_store1]
  rfl
theorem pu_d : mo_push 4 11 me (rf_ a b d c x y u s p) sp = some (wr_ me ((s - 1) &&& 65535) d, rf_ a b d c x y u ((s - 1) &&& 65535) p, sp + 1) := by
  unfold mo_push
  rw [if_pos (by decide)]
  unfold mo_push_j11 mo_push_j29
  rw [if_pos (by decide), if_pos (show bz_i false = 0 from rfl)]
  show ((some (upd (rf_ a b d c x y u s p) 4 ((s - 1) &&& 65535))).bind _) = _
  rw [Option.bind_some, rf_4, if_pos (by decide), if_pos (by decide)]
  show ((mo_store ((s - 1) &&& 65535) d false me sp).bind _) = _
  rw [mo_store1]
  rfl
theorem pu_x : mo_push 4 1 me (rf_ a b d c x y u s p) sp = some (wr2_ me ((s - 2) &&& 65535) x, rf_ a b d c x y u ((s - 2) &&& 65535) p, sp + 2) := by
  unfold mo_push
  rw [if_neg (by decide)]
  unfold mo_push_j11 mo_push_j29
  rw [if_pos (by decide), if_neg (show ¬ bz_i true = 0 by decide)]
  show ((some (upd (rf_ a b d c x y u s p) 4 ((s - 2) &&& 65535))).bind _) = _
  rw [Option.bind_some, rf_4, if_pos (by decide), if_pos (by decide)]
  show ((mo_store ((s - 2) &&& 65535) x true me sp).bind _) = _
  rw [mo_store2]
  rfl
theorem pu_y : mo_push 4 2 me (rf_ a b d c x y u s p) sp = some (wr2_ me ((s - 2) &&& 65535) y, rf_ a b d c x y u ((s - 2) &&& 65535) p, sp + 2) := by
  unfold mo_push
  rw [if_neg (by decide)]
  unfold mo_push_j11 mo_push_j29
  rw [if_pos (by decide), if_neg (show ¬ bz_i true = 0 by decide)]
  show ((some (upd (rf_ a b d c x y u s p) 4 ((s - 2) &&& 65535))).bind _) = _
  rw [Option.bind_some, rf_4, if_pos (by decide), if_pos (by decide)]
  show ((mo_store ((s - 2) &&& 65535) y true me sp).bind _) = _
  rw [mo_store2]
  rfl
theorem pu_u : mo_push 4 3 me (rf_ a b d c x y u s p) sp = some (wr2_ me ((s - 2) &&& 65535) u, rf_ a b d c x y u ((s - 2) &&& 65535) p, sp + 2) := by
  unfold mo_push
  rw [if_neg (by decide)]
  unfold mo_push_j11 mo_push_j29
  rw [if_pos (by decide), if_neg (show ¬ bz_i true = 0 by decide)]
  show ((some (upd (rf_ a b d c x y u s p) 4 ((s - 2) &&& 65535))).bind _) = _
  rw [Option.bind_some, rf_4, if_pos (by decide), if_pos (by decide)]
  show ((mo_store ((s - 2) &&& 65535) u true me sp).bind _) = _
  rw [mo_store2]
  rfl
theorem pu_p : mo_push 4 5 me (rf_ a b d c x y u s p) sp = some (wr2_ me ((s - 2) &&& 65535) p, rf_ a b d c x y u ((s - 2) &&& 65535) p, sp + 2) := by
  unfold mo_push
  rw [if_neg (by decide)]
  unfold mo_push_j11 mo_push_j29
  rw [if_pos (by decide), if_neg (show ¬ bz_i true = 0 by decide)]
  show ((some (upd (rf_ a b d c x y u s p) 4 ((s - 2) &&& 65535))).bind _) = _
  rw [Option.bind_some, rf_4, if_pos (by decide), if_pos (by decide)]
  show ((mo_store ((s - 2) &&& 65535) p true me sp).bind _) = _
  rw [mo_store2]
  rfl
theorem pu_255 (rg : Nat → Int32) : pu_ 4 255 8 me rg sp = (mo_push 4 5 me rg sp).bind fun z => (mo_push 4 3 z.1 z.2.1 z.2.2).bind fun z => (mo_push 4 2 z.1 z.2.1 z.2.2).bind fun z => (mo_push 4 1 z.1 z.2.1 z.2.2).bind fun z => (mo_push 4 11 z.1 z.2.1 z.2.2).bind fun z => (mo_push 4 9 z.1 z.2.1 z.2.2).bind fun z => (mo_push 4 8 z.1 z.2.1 z.2.2).bind fun z => (mo_push 4 10 z.1 z.2.1 z.2.2).bind fun z => some (z.1, z.2.1, z.2.2) := rfl
end FP
theorem sub_m {A k : Nat} (h : k ≤ A) (hA : A < 65536) : (nI A - nI k) &&& 65535 = nI (A - k) := by
  rw [pk_sub h]
  exact nI_w (by omega)
theorem pu_nI (me : Nat → Int32) (a b d c x y u p sp : Int32) {B : Nat} (hB : B + 12 < 65536) : pu_ 4 255 8 me (rf_ a b d c x y u (nI (B + 12)) p) sp = some (wr_ (wr_ (wr_ (wr_ (wr2_ (wr2_ (wr2_ (wr2_ me (nI (B + 10)) p) (nI (B + 8)) u) (nI (B + 6)) y) (nI (B + 4)) x) (nI (B + 3)) d) (nI (B + 2)) b) (nI (B + 1)) a) (nI B) c, rf_ a b d c x y u (nI B) p, sp + 12) := by
  have e1 : ∀ A, A < 65536 → 1 ≤ A → (nI A - 1) &&& 65535 = nI (A - 1) := fun A h1 h2 => sub_m (k := 1) h2 h1
  have e2 : ∀ A, A < 65536 → 2 ≤ A → (nI A - 2) &&& 65535 = nI (A - 2) := fun A h1 h2 => sub_m (k := 2) h2 h1
  rw [pu_255, pu_p, Option.bind_some]
  dsimp only
  rw [e2 _ (by omega) (by omega), show B + 12 - 2 = B + 10 by omega, pu_u, Option.bind_some]
  dsimp only
  rw [e2 _ (by omega) (by omega), show B + 10 - 2 = B + 8 by omega, pu_y, Option.bind_some]
  dsimp only
  rw [e2 _ (by omega) (by omega), show B + 8 - 2 = B + 6 by omega, pu_x, Option.bind_some]
  dsimp only
  rw [e2 _ (by omega) (by omega), show B + 6 - 2 = B + 4 by omega, pu_d, Option.bind_some]
  dsimp only
  rw [e1 _ (by omega) (by omega), show B + 4 - 1 = B + 3 by omega, pu_b, Option.bind_some]
  dsimp only
  rw [e1 _ (by omega) (by omega), show B + 3 - 1 = B + 2 by omega, pu_a, Option.bind_some]
  dsimp only
  rw [e1 _ (by omega) (by omega), show B + 2 - 1 = B + 1 by omega, pu_cc, Option.bind_some]
  dsimp only
  rw [e1 _ (by omega) (by omega), show B + 1 - 1 = B by omega]
  simp only [Int32.add_assoc]
  rfl
theorem wr_nI (me : Nat → Int32) {n : Nat} (h : n < 512) (v : Int32) : wr_ me (nI n) v = upd me n (v &&& 255) := by
  unfold wr_
  rw [nI_w (by omega), if_neg (by rw [nI_512 (by omega)]; omega), nI_clamp (by omega)]
theorem wr2_nI (me : Nat → Int32) {n : Nat} (h : n + 1 < 512) (v : Int32) : wr2_ me (nI n) v = upd (upd me n ((v >>> ((8 : Int32) &&& 31)) &&& 255)) (n + 1) (v &&& 255) := by
  unfold wr2_
  rw [wr_nI _ (by omega), nI_1, wr_nI _ h]
/-- the frame that begin writes: class and reference -/
theorem fr_eq (me : Nat → Int32) (a p : Int32) {B : Nat} (hB : B + 12 ≤ 512) : wr_ (wr_ (wr_ (wr_ (wr2_ (wr2_ (wr2_ (wr2_ me (nI (B + 10)) p) (nI (B + 8)) 0) (nI (B + 6)) 0) (nI (B + 4)) 0) (nI (B + 3)) 0) (nI (B + 2)) 0) (nI (B + 1)) a) (nI B) (0 ||| 128) =
    wr_ (wr_ (wr_ (wr_ (wr_ (wr_ (wr_ (wr_ (wr_ (wr_ (wr_ (wr_ (wr_ (wr_ (wr_ (wr_ me (nI (B + 0)) 0) (nI (B + 1)) 0) (nI (B + 2)) 0) (nI (B + 3)) 0) (nI (B + 4)) 0) (nI (B + 5)) 0) (nI (B + 6)) 0) (nI (B + 7)) 0) (nI (B + 8)) 0) (nI (B + 9)) 0) (nI (B + 10)) 0) (nI (B + 11)) 0) (nI (B + 0)) 128) (nI (B + 1)) a) (nI (B + 10)) (p >>> ((8 : Int32) &&& 31))) (nI (B + 11)) p := by
  rw [wr2_nI _ (by omega), wr2_nI _ (by omega), wr2_nI _ (by omega), wr2_nI _ (by omega)]
  repeat rw [wr_nI _ (by omega)]
  rw [show ((0 : Int32) ||| 128) &&& 255 = 128 by decide, show (128 : Int32) &&& 255 = 128 by decide, show (0 : Int32) &&& 255 = 0 by decide, show ((0 : Int32) >>> ((8 : Int32) &&& 31)) &&& 255 = 0 by decide]
  funext j
  by_cases hj : B ≤ j ∧ j < B + 12
  · obtain ⟨k, rfl⟩ : ∃ k, j = B + k := ⟨j - B, by omega⟩
    have hk : k = 0 ∨ k = 1 ∨ k = 2 ∨ k = 3 ∨ k = 4 ∨ k = 5 ∨ k = 6 ∨ k = 7 ∨ k = 8 ∨ k = 9 ∨ k = 10 ∨ k = 11 := by omega
    rcases hk with rfl | rfl | rfl | rfl | rfl | rfl | rfl | rfl | rfl | rfl | rfl | rfl <;> simp [upd]
  · simp only [upd]
    repeat rw [if_neg (by omega)]
end
section
/-! Tasks: what holds between the class's kernel and the reference's. -/
def KB (uz : Int32) (ul : Nat → Option Nat) (ks kv kz ku cb : Nat → Int32) (me so sv tl su qu : Nat → Int32) (wa : Int32) : Prop :=
  me = cb ∧ so = ks ∧ sv = kv ∧ su = ku ∧ okB cb ∧ (∀ i, i < 4 → ks i = 3 → kz i = tl i) ∧ ∃ L : List Nat, QL L uz ul qu wa ∧ ∀ i ∈ L, ks i = 2
def RN (kr : Option Nat) (ru : Int32) (ks : Nat → Int32) (g : R9) (rg : Nat → Int32) : Prop :=
  (kr = none ∧ ru = -1 ∧ (∀ i, i < 4 → ks i ≠ 1) ∧ ∃ g0 : R9, rg = rg_ g0) ∨ (∃ i, i < 4 ∧ kr = some i ∧ ru = nI i ∧ ks i = 1 ∧ (∀ j, j < 4 → ks j = 1 → j = i) ∧ rg = rg_ g ∧ og_ g)
theorem ne_1 {i : Nat} (h : i < 4) : ¬ nI i = -1 := (by decide +kernel : ∀ i, i < 4 → ¬ nI i = -1) i h
theorem take_ok {cb : Nat → Int32} (hB : okB cb) {t : Nat} (ht : t < 4) (kv : Nat → Int32) (g : R9) : ∃ g' : R9, tc_K_take_G t kv cb g.1 g.2.1 g.2.2.1 g.2.2.2.1 g.2.2.2.2.1 g.2.2.2.2.2.1 g.2.2.2.2.2.2.1 g.2.2.2.2.2.2.2.1 g.2.2.2.2.2.2.2.2 = some g' ∧ og_ g' ∧ rg_ g' = rf_ (rd_ cb (kv t + 1)) (rd_ cb (kv t + 2)) (rd_ cb (kv t + 3)) (rd_ cb (kv t)) (rd2_ cb (kv t + 4)) (rd2_ cb (kv t + 6)) (rd2_ cb (kv t + 8)) ((kv t + 12) &&& 65535) (rd2_ cb (kv t + 10)) ∧ ∀ (g0 : R9) (so : Nat → Int32) (ru sp : Int32), mo_take (nI t) cb (rg_ g0) so kv ru sp = some (rg_ g', upd so t 1, nI t, sp) := by
  obtain ⟨mv', g', h1, -, h3, -⟩ := pull_loop (st := 4) (ch := 255) (Or.inl rfl) hB 8 (by omega) 0 (g.1, g.2.1, g.2.2.1, g.2.2.2.1, g.2.2.2.2.1, g.2.2.2.2.2.1, g.2.2.2.2.2.2.1, kv t, g.2.2.2.2.2.2.2.2)
  have e := h3 0
  rw [pl_all _ _ _ _ _ _ _ _ _ _ _ hB] at e
  have erg : rg_ g' = rf_ (rd_ cb (kv t + 1)) (rd_ cb (kv t + 2)) (rd_ cb (kv t + 3)) (rd_ cb (kv t)) (rd2_ cb (kv t + 4)) (rd2_ cb (kv t + 6)) (rd2_ cb (kv t + 8)) ((kv t + 12) &&& 65535) (rd2_ cb (kv t + 10)) := (Prod.mk.inj (Option.some.inj e)).1.symm
  refine ⟨g', ?_, ?_, erg, ?_⟩
  · unfold tc_K_take_G tc_G_pull
    rw [if_pos ht]
    rw [show tc_G_pull_l6 9 4 255 0 0 g.1 g.2.1 g.2.2.1 g.2.2.2.1 g.2.2.2.2.1 g.2.2.2.2.2.1 g.2.2.2.2.2.2.1 (kv t) g.2.2.2.2.2.2.2.2 cb = _ from h1]
    rfl
  · refine og_of ?_ ?_ ?_ ?_ ?_ ?_ ?_ ?_ ?_ <;> rw [erg]
    · exact rd2_ok hB _
    · exact rd2_ok hB _
    · exact rd2_ok hB _
    · exact rw_and _
    · exact rd2_ok hB _
    · exact rd_ok hB _
    · exact rd_ok hB _
    · exact rd_ok hB _
    · exact rd_ok hB _
  · intro g0 so ru sp
    unfold mo_take
    rw [if_pos (in_nI ht (by decide)), nI_clamp (by omega), rf_4]
    rw [show mo_take_l19 9 (nI t) sp 0 cb (rf_ g0.1 g0.2.1 g0.2.2.1 g0.2.2.2.1 g0.2.2.2.2.1 g0.2.2.2.2.2.1 g0.2.2.2.2.2.2.1 (kv t) g0.2.2.2.2.2.2.2.2) so kv ru sp = _ from take_pull (nI t) sp ru so kv 8 (by omega) cb _ sp]
    rw [pl_all _ _ _ _ _ _ _ _ _ _ _ hB, Option.bind_some, if_pos (in_nI ht (by decide)), nI_clamp (by omega), ← erg]
theorem stack_ok {cb : Nat → Int32} (hB : okB cb) {t : Nat} (ht : t < 4) (kv : Nat → Int32) {g : R9} (hg : og_ g) (sp : Int32) : ∃ (kv' cb' : Nat → Int32) (g' : R9), tc_K_stack_G t kv cb g.1 g.2.1 g.2.2.1 g.2.2.2.1 g.2.2.2.2.1 g.2.2.2.2.2.1 g.2.2.2.2.2.2.1 g.2.2.2.2.2.2.2.1 g.2.2.2.2.2.2.2.2 = some (kv', cb', g') ∧ okB cb' ∧ og_ g' ∧ mo_stack cb (rg_ g) kv (nI t) sp = some (cb', rg_ g', kv', -1, sp) := by
  have hg1 : og_ (g.1, g.2.1, g.2.2.1, g.2.2.2.1 ||| 128, g.2.2.2.2.1, g.2.2.2.2.2.1, g.2.2.2.2.2.2.1, g.2.2.2.2.2.2.2.1, g.2.2.2.2.2.2.2.2) := ⟨hg.1, hg.2.1, hg.2.2.1, rb_mk128 hg.2.2.2.1 true, hg.2.2.2.2⟩
  obtain ⟨mv', g', cb', h1, h2, h3, h4⟩ := push_loop (st := 4) (ch := 255) (Or.inl rfl) 8 (by omega) 0 (g.1, g.2.1, g.2.2.1, g.2.2.2.1 ||| 128, g.2.2.2.2.1, g.2.2.2.2.2.1, g.2.2.2.2.2.2.1, g.2.2.2.2.2.2.2.1, g.2.2.2.2.2.2.2.2) cb hB
  refine ⟨upd kv t g'.2.2.2.2.2.2.2.1, cb', g', ?_, h2, h3 hg1, ?_⟩
  · unfold tc_K_stack_G tc_G_push
    rw [show (7 : Int32) = dn_ 8 by decide, show tc_G_push_l7 9 4 255 0 (dn_ 8) g.1 g.2.1 g.2.2.1 (g.2.2.2.1 ||| 128) g.2.2.2.2.1 g.2.2.2.2.2.1 g.2.2.2.2.2.2.1 g.2.2.2.2.2.2.2.1 g.2.2.2.2.2.2.2.2 cb = _ from h1, Option.bind_some, if_pos ht]
  · unfold mo_stack
    rw [mo_mark_eq, Option.bind_some, show (7 : Int32) = dn_ 8 by decide]
    rw [show mo_stack_l16 9 sp (dn_ 8) cb (rf_ g.1 g.2.1 g.2.2.1 (mk_ 128 true g.2.2.2.1) g.2.2.2.2.1 g.2.2.2.2.2.1 g.2.2.2.2.2.2.1 g.2.2.2.2.2.2.2.1 g.2.2.2.2.2.2.2.2) kv (nI t) sp = _ from stack_push sp (nI t) kv 8 (by omega) cb _ sp]
    have := h4 sp
    rw [i_a0] at this
    rw [show pu_ 4 255 8 cb (rf_ g.1 g.2.1 g.2.2.1 (mk_ 128 true g.2.2.2.1) g.2.2.2.2.1 g.2.2.2.2.2.1 g.2.2.2.2.2.2.1 g.2.2.2.2.2.2.2.1 g.2.2.2.2.2.2.2.2) sp = _ from this, Option.bind_some, if_pos (in_nI ht (by decide)), nI_clamp (by omega)]
    rfl
section KN
variable {uz : Int32} {ul : Nat → Option Nat} {ks kv kz ku cb : Nat → Int32} {me so sv tl su qu : Nat → Int32} {wa : Int32} {kr : Option Nat} {ru : Int32} {g : R9} {rg : Nat → Int32}
/-- nobody runs: the first of the queue is taken -/
theorem nx_ok (hK : KB uz ul ks kv kz ku cb me so sv tl su qu wa) (hR : RN kr ru ks g rg) (sp : Int32) : ∃ (kr' : Option Nat) (uz' : Int32) (ul' : Nat → Option Nat) (ks' : Nat → Int32) (g' : R9) (rg' so' qu' : Nat → Int32) (wa' ru' : Int32), tc_K_takeNext kr uz ul ks kv cb g.1 g.2.1 g.2.2.1 g.2.2.2.1 g.2.2.2.2.1 g.2.2.2.2.2.1 g.2.2.2.2.2.2.1 g.2.2.2.2.2.2.2.1 g.2.2.2.2.2.2.2.2 = some (kr', uz', ul', ks', g') ∧ mo_next me rg so sv qu wa ru sp = some (rg', so', qu', wa', ru', sp) ∧ KB uz' ul' ks' kv kz ku cb me so' sv tl su qu' wa' ∧ RN kr' ru' ks' g' rg' := by
  rcases hR with ⟨rfl, rfl, h3, g0, rfl⟩ | ⟨i, hi, rfl, rfl, h4, h5, rfl, h7⟩
  · obtain ⟨rfl, rfl, rfl, rfl, hB, hsl, L, hQ, h2⟩ := hK
    cases L with
    | nil =>
      have hQ9 := hQ
      obtain ⟨e1, e2, -⟩ := hQ
      refine ⟨none, uz, ul, _, g, rg_ g0, _, qu, wa, -1, ?_, ?_, ⟨rfl, rfl, rfl, rfl, hB, hsl, [], ?_, h2⟩, Or.inl ⟨rfl, rfl, h3, g0, rfl⟩⟩
      · show ((tc_Q_removeFirst uz ul).bind _) = _
        unfold tc_Q_removeFirst
        rw [if_pos (by rw [e1]; rfl)]
        rfl
      · unfold mo_next
        rw [if_neg (by decide), if_pos (by rw [e2]; rfl)]
      · exact hQ9
    | cons t T =>
      have hQ0 := hQ
      have ht : t < 4 := hQ.2.2.2.2.2 t List.mem_cons_self
      have hlen := QL_len hQ
      obtain ⟨uz', wa', ul', qu', r1, r2, r3⟩ := leave_ok hQ ht
      rw [kp_head hQ.2.2.2.2.1] at r3
      obtain ⟨g', t1, t2, -, t4⟩ := take_ok hB ht sv g
      obtain ⟨e1, e2, e3, e4, e5, e6⟩ := hQ
      have eu : ul 0 = some t := e3 0 (by simp)
      have eq0 : qu 0 = nI t := e4 0 (by simp)
      refine ⟨some t, uz', ul', upd so t 1, g', rg_ g', upd so t 1, qu', wa', nI t, ?_, ?_, ⟨rfl, rfl, rfl, rfl, hB, ?_, T, r3, ?_⟩, Or.inr ⟨t, ht, rfl, rfl, upd_eq, ?_, rfl, t2⟩⟩
      · show ((tc_Q_removeFirst uz ul).bind _) = _
        unfold tc_Q_removeFirst
        rw [if_neg (by rw [e1]; exact nI_ne0 (by simp) (by omega)), eu]
        show (((tc_Q_remove t uz ul).bind _).bind _) = _
        rw [r1, Option.bind_some, Option.bind_some]
        show ((tc_K_resume t none so sv me g.1 g.2.1 g.2.2.1 g.2.2.2.1 g.2.2.2.2.1 g.2.2.2.2.2.1 g.2.2.2.2.2.2.1 g.2.2.2.2.2.2.2.1 g.2.2.2.2.2.2.2.2).bind _) = _
        unfold tc_K_resume
        rw [t1, Option.bind_some, if_pos ht]
        rfl
      · unfold mo_next
        rw [if_neg (by decide), if_neg (by rw [e2]; exact nI_ne0 (by simp) (by omega)), eq0, r2, Option.bind_some, t4]
        rfl
      · intro i hi hs
        by_cases e : i = t
        · rw [e, upd_eq] at hs
          exact absurd hs (by decide)
        · rw [upd_ne e] at hs
          exact hsl i hi hs
      · intro i hi
        have : i ≠ t := fun q => (List.nodup_cons.mp e5).1 (q ▸ hi)
        rw [upd_ne this]
        exact h2 i (List.mem_cons_of_mem _ hi)
      · intro j hj hs
        by_cases e : j = t
        · exact e
        · rw [upd_ne e] at hs
          exact absurd hs (h3 j hj)
  · refine ⟨some i, uz, ul, ks, g, rg_ g, so, qu, wa, nI i, rfl, ?_, hK, Or.inr ⟨i, hi, rfl, rfl, h4, h5, rfl, h7⟩⟩
    unfold mo_next
    rw [if_pos (nI_pos' (by omega))]
/-- a task ends; then the next runs -/
theorem end_ok (hK : KB uz ul ks kv kz ku cb me so sv tl su qu wa) {t : Nat} (ht : t < 4) (hR : (kr = none ∧ ru = -1 ∧ (∀ i, i < 4 → i ≠ t → ks i ≠ 1) ∧ ∃ g0 : R9, rg = rg_ g0) ∨ (∃ i, i < 4 ∧ kr = some i ∧ ru = nI i ∧ (∀ j, j < 4 → j ≠ t → ks j = 1 → j = i) ∧ (i ≠ t → ks i = 1) ∧ (i ≠ t → rg = rg_ g ∧ og_ g) ∧ ∃ g0 : R9, rg = rg_ g0)) (st sp : Int32) : ∃ (kr1 kr' : Option Nat) (uz1 uz' : Int32) (ul1 ul' : Nat → Option Nat) (ks1 ks' ku' : Nat → Int32) (g' : R9) (rg' so' tl' su' qu' : Nat → Int32) (wa' ru' : Int32), tc_K_end t st kr uz ul ks ku = some (kr1, uz1, ul1, ks1, ku') ∧ tc_K_takeNext kr1 uz1 ul1 ks1 kv cb g.1 g.2.1 g.2.2.1 g.2.2.2.1 g.2.2.2.2.1 g.2.2.2.2.2.1 g.2.2.2.2.2.2.1 g.2.2.2.2.2.2.2.1 g.2.2.2.2.2.2.2.2 = some (kr', uz', ul', ks', g') ∧ mo_end (nI t) st me rg so sv tl su qu wa ru sp = some (rg', so', tl', su', qu', wa', ru', sp) ∧ KB uz' ul' ks' kv kz ku' cb me so' sv tl' su' qu' wa' ∧ RN kr' ru' ks' g' rg' := by
  obtain ⟨rfl, rfl, rfl, rfl, hB, hsl, L, hQ, h2⟩ := hK
  obtain ⟨uz1, wa1, ul1, qu1, r1, r2, r3⟩ := leave_ok hQ ht
  have hK1 : KB uz1 ul1 (upd so t 0) sv kz (upd su t st) me me (upd so t 0) sv (upd tl t 0) (upd su t st) qu1 wa1 := by
    refine ⟨rfl, rfl, rfl, rfl, hB, ?_, kp_ t L, r3, ?_⟩
    · intro i hi hs
      by_cases e : i = t
      · rw [e, upd_eq] at hs
        exact absurd hs (by decide)
      · rw [upd_ne e] at hs ⊢
        exact hsl i hi hs
    · intro i hi
      have h := List.mem_filter.mp hi
      rw [upd_ne (of_decide_eq_true h.2)]
      exact h2 i h.1
  have tkt : tk_ok (some t) = true := decide_eq_true ht
  have fin : ∀ (kr1 : Option Nat) (ru1 : Int32), RN kr1 ru1 (upd so t 0) g rg → tc_K_end t st kr uz ul so su = tc_K_end_j13 t st kr1 uz ul so su → mo_end (nI t) st me rg so sv tl su qu wa ru sp = mo_end_j43 ru1 me rg (upd so t 0) sv (upd tl t 0) (upd su t st) qu1 wa1 ru sp → ∃ (kr1 kr' : Option Nat) (uz1 uz' : Int32) (ul1 ul' : Nat → Option Nat) (ks1 ks' ku' : Nat → Int32) (g' : R9) (rg' so' tl' su' qu' : Nat → Int32) (wa' ru' : Int32), tc_K_end t st kr uz ul so su = some (kr1, uz1, ul1, ks1, ku') ∧ tc_K_takeNext kr1 uz1 ul1 ks1 sv me g.1 g.2.1 g.2.2.1 g.2.2.2.1 g.2.2.2.2.1 g.2.2.2.2.2.1 g.2.2.2.2.2.2.1 g.2.2.2.2.2.2.2.1 g.2.2.2.2.2.2.2.2 = some (kr', uz', ul', ks', g') ∧ mo_end (nI t) st me rg so sv tl su qu wa ru sp = some (rg', so', tl', su', qu', wa', ru', sp) ∧ KB uz' ul' ks' sv kz ku' me me so' sv tl' su' qu' wa' ∧ RN kr' ru' ks' g' rg' := by
    intro kr1 ru1 hR1 e1 e2
    obtain ⟨kr', uz', ul', ks', g', rg', so', qu', wa', ru', n1, n2, n3, n4⟩ := nx_ok hK1 hR1 sp
    refine ⟨kr1, kr', uz1, uz', ul1, ul', upd so t 0, ks', upd su t st, g', rg', so', upd tl t 0, upd su t st, qu', wa', ru', ?_, n1, ?_, n3, n4⟩
    · rw [e1]
      unfold tc_K_end_j13
      rw [r1, Option.bind_some, if_pos ht]
    · rw [e2]
      unfold mo_end_j43
      rw [n2]
      rfl
  have emo : ∀ (z : Int32), (if ru = nI t then z = -1 else z = ru) → mo_end (nI t) st me rg so sv tl su qu wa ru sp = mo_end_j43 z me rg (upd so t 0) sv (upd tl t 0) (upd su t st) qu1 wa1 ru sp := by
    intro z hz
    unfold mo_end
    rw [r2, Option.bind_some, if_pos (in_nI ht (by decide)), nI_clamp (by omega)]
    by_cases e : ru = nI t
    · rw [if_pos e] at hz ⊢
      rw [hz]
    · rw [if_neg e] at hz ⊢
      rw [hz]
  rcases hR with ⟨rfl, rfl, h3, g0, rfl⟩ | ⟨i, hi, rfl, rfl, h5, h6, h7, g0, hg0⟩
  · refine fin none (-1) (Or.inl ⟨rfl, rfl, ?_, g0, rfl⟩) ?_ (emo _ ?_)
    · intro i hi
      by_cases e : i = t
      · rw [e, upd_eq]; decide
      · rw [upd_ne e]; exact h3 i hi e
    · unfold tc_K_end
      rw [if_pos tkt, if_pos (show tk_ok none = true from rfl), if_neg (by intro q; cases q)]
    · rw [if_neg (fun q => ne_1 ht q.symm)]
  · by_cases e : i = t
    · subst e
      refine fin none (-1) (Or.inl ⟨rfl, rfl, ?_, g0, hg0⟩) ?_ (emo _ ?_)
      · intro j hj
        by_cases e : j = i
        · rw [e, upd_eq]; decide
        · rw [upd_ne e]; exact fun q => e (h5 j hj e q)
      · unfold tc_K_end
        rw [if_pos tkt, if_pos tkt, if_pos rfl]
      · rw [if_pos rfl]
    · obtain ⟨q1, q2⟩ := h7 e
      refine fin (some i) (nI i) (Or.inr ⟨i, hi, rfl, rfl, by rw [upd_ne e]; exact h6 e, ?_, q1, q2⟩) ?_ (emo _ ?_)
      · intro j hj hs
        by_cases ej : j = t
        · rw [ej, upd_eq] at hs
          exact absurd hs (by decide)
        · rw [upd_ne ej] at hs
          exact h5 j hj ej hs
      · unfold tc_K_end
        rw [if_pos tkt, if_pos (show tk_ok (some i) = true from decide_eq_true hi), if_neg (fun q => e (Option.some.inj q).symm)]
      · rw [if_neg (fun q => e ((nI_eq (by omega) (by omega)).mp q))]
end KN
end
section
/-! A task begins; answers in frames. -/
def zf_ (B : Nat) : Nat → (Nat → Int32) → (Nat → Int32)
  | 0, me => me
  | r + 1, me => zf_ B r (wr_ me (nI (B + (12 - (r + 1)))) 0)
theorem zf_12 (B : Nat) (me : Nat → Int32) : zf_ B 12 me = wr_ (wr_ (wr_ (wr_ (wr_ (wr_ (wr_ (wr_ (wr_ (wr_ (wr_ (wr_ me (nI (B + 0)) 0) (nI (B + 1)) 0) (nI (B + 2)) 0) (nI (B + 3)) 0) (nI (B + 4)) 0) (nI (B + 5)) 0) (nI (B + 6)) 0) (nI (B + 7)) 0) (nI (B + 8)) 0) (nI (B + 9)) 0) (nI (B + 10)) 0) (nI (B + 11)) 0 := rfl
theorem bg_loop (t a p : Int32) (B : Nat) (so sv qu : Nat → Int32) (wa : Int32) : ∀ (r : Nat), r ≤ 12 → ∀ me, mo_begin_l13 (r + 1) t p a (nI B) (nI (12 - r)) me so sv qu wa = mo_begin_l13 1 t p a (nI B) (nI 12) (zf_ B r me) so sv qu wa := by
  intro r
  induction r with
  | zero => intro _ me; rfl
  | succ r ih =>
    intro hr me
    rw [mo_begin_l13_s, if_neg (by rw [show (12 : Int32) = nI 12 by decide, nI_leI (by omega) (by omega)]; omega), mo_put_eq, Option.bind_some, nI_add, i_inc, show 12 - (r + 1) + 1 = 12 - r by omega]
    exact ih (by omega) _
section BG
variable {uz : Int32} {ul : Nat → Option Nat} {ks kv kz ku cb : Nat → Int32} {me so sv tl su qu : Nat → Int32} {wa : Int32}
theorem bg_ok (hK : KB uz ul ks kv kz ku cb me so sv tl su qu wa) {t : Nat} (ht : t < 4) (hf : ks t = 0) (p a : Int32) (q : R9) : ∃ (uz' : Int32) (ul' : Nat → Option Nat) (cb' : Nat → Int32) (q' : R9) (qu' : Nat → Int32) (wa' : Int32), tc_K_begin t p a uz ul ks kv cb q.1 q.2.1 q.2.2.1 q.2.2.2.1 q.2.2.2.2.1 q.2.2.2.2.2.1 q.2.2.2.2.2.2.1 q.2.2.2.2.2.2.2.1 q.2.2.2.2.2.2.2.2 = some (uz', ul', upd ks t 2, upd kv t (nI (128 * t + 116)), cb', q') ∧ mo_begin (nI t) p a me so sv qu wa = some (cb', upd ks t 2, upd kv t (nI (128 * t + 116)), qu', wa') ∧ KB uz' ul' (upd ks t 2) (upd kv t (nI (128 * t + 116))) kz ku cb' cb' (upd ks t 2) (upd kv t (nI (128 * t + 116))) tl su qu' wa' := by
  obtain ⟨rfl, rfl, rfl, rfl, hB, hsl, L, hQ, h2⟩ := hK
  have hn : t ∉ L := fun q => by
    have := h2 t q
    rw [hf] at this
    exact absurd this (by decide)
  obtain ⟨uz', wa', ul', qu', r1, r2, r3⟩ := last_ok hQ ht hn so
  have es : (128 : Int32) * nI t + 128 = nI (128 * t + 116 + 12) := by
    rw [show (128 : Int32) = nI 128 by decide, pk_mul, nI_add]
  have es2 : (128 : Int32) * nI t + 116 = nI (128 * t + 116) := by
    rw [show (128 : Int32) = nI 128 by decide, show (116 : Int32) = nI 116 by decide, pk_mul, nI_add]
  obtain ⟨mv', g', cb', h1, h2', -, h4⟩ := push_loop (st := 4) (ch := 255) (Or.inl rfl) 8 (by omega) 0 (a, 0, 0, 0 ||| 128, 0, 0, 0, nI (128 * t + 116 + 12), p) me hB
  have e := h4 0
  rw [pu_nI _ _ _ _ _ _ _ _ _ _ (by omega)] at e
  have ecb := (Prod.mk.inj (Option.some.inj e)).1
  have erg := (Prod.mk.inj (Prod.mk.inj (Option.some.inj e)).2).1
  have es4 : g'.2.2.2.2.2.2.2.1 = nI (128 * t + 116) := (congrFun erg 4).symm
  refine ⟨uz', ul', cb', g', qu', wa', ?_, ?_, ⟨rfl, rfl, rfl, rfl, h2', ?_, L ++ [t], r3, ?_⟩⟩
  · unfold tc_K_begin tc_K_stack_S tc_G_push
    rw [if_pos ht, es, show (7 : Int32) = dn_ 8 by decide, show tc_G_push_l7 9 4 255 0 (dn_ 8) a 0 0 (0 ||| 128) 0 0 0 (nI (128 * t + 116 + 12)) p me = _ from h1, Option.bind_some, if_pos ht, Option.bind_some, r1, ← es4]
    rfl
  · unfold mo_begin
    rw [es2, show mo_begin_l13 13 (nI t) p a (nI (128 * t + 116)) 0 me so sv qu wa = _ from bg_loop (nI t) a p (128 * t + 116) so sv qu wa 12 (by omega) me, mo_begin_l13_s, if_pos (by decide)]
    simp only [mo_put_eq, Option.bind_some]
    rw [if_pos (in_nI ht (by decide)), r2, Option.bind_some, nI_clamp (by omega), ← ecb, fr_eq me a p (by omega), zf_12]
    rw [show nI (128 * t + 116) + 1 = nI (128 * t + 116 + 1) from nI_1 _, show nI (128 * t + 116) + 10 = nI (128 * t + 116 + 10) from nI_add _ 10, show nI (128 * t + 116) + 11 = nI (128 * t + 116 + 11) from nI_add _ 11]
  · intro i hi hs
    by_cases e : i = t
    · rw [e, upd_eq] at hs
      exact absurd hs (by decide)
    · rw [upd_ne e] at hs
      exact hsl i hi hs
  · intro i hi
    by_cases e : i = t
    · rw [e, upd_eq]
    · rw [upd_ne e]
      rcases List.mem_append.mp hi with hi | hi
      · exact h2 i hi
      · simp only [List.mem_cons, List.not_mem_nil, or_false] at hi
        exact absurd hi e
end BG
theorem an_all : ∀ n, n < 256 → (nI n &&& -2) &&& 255 = (nI n &&& 254) &&& 255 := by decide +kernel
theorem suc_ok {cb : Nat → Int32} (hB : okB cb) {t : Nat} (ht : t < 4) (v : Int32) (kv : Nat → Int32) : ∃ cb', tc_K_succeed t v kv cb = some cb' ∧ okB cb' ∧ mo_answer (nI t) 8 v false cb kv = some cb' := by
  refine ⟨wr_ (wr_ cb (kv t + 1) v) (kv t) (rd_ (wr_ cb (kv t + 1) v) (kv t) &&& 254), ?_, wr_ok (wr_ok hB _ _) _ _, ?_⟩
  · unfold tc_K_succeed
    rw [if_pos ht, tc_store1, Option.bind_some, tc_load1, Option.bind_some, tc_store1, Option.bind_some]
    obtain ⟨n, hn, en⟩ := rd_ok (wr_ok hB (kv t + 1) v) (kv t)
    rw [en]
    unfold wr_
    rw [an_all n hn]
  · unfold mo_answer mo_answer_j22 mo_answer_j56
    rw [if_pos (in_nI ht (by decide)), if_pos rfl, nI_clamp (by omega), mo_put_eq, Option.bind_some, mo_at_eq, Option.bind_some, if_pos (show bz_i false = 0 from rfl), mo_put_eq]
    rfl
theorem fai_ok {cb : Nat → Int32} (hB : okB cb) {t : Nat} (ht : t < 4) (v : Int32) (kv : Nat → Int32) : ∃ cb', tc_K_fail t v kv cb = some cb' ∧ okB cb' ∧ mo_answer (nI t) 9 v true cb kv = some cb' := by
  refine ⟨wr_ (wr_ cb (kv t + 2) v) (kv t) (rd_ (wr_ cb (kv t + 2) v) (kv t) ||| 1), ?_, wr_ok (wr_ok hB _ _) _ _, ?_⟩
  · unfold tc_K_fail
    rw [if_pos ht, tc_store1, Option.bind_some, tc_load1, Option.bind_some, tc_store1]
    rfl
  · unfold mo_answer mo_answer_j22 mo_answer_j56
    rw [if_pos (in_nI ht (by decide)), if_neg (by decide), nI_clamp (by omega), mo_put_eq, Option.bind_some, mo_at_eq, Option.bind_some, if_neg (show ¬ bz_i true = 0 by decide), mo_put_eq]
    rfl
/-- the block is copied -/
def cy2_ (f t : Nat) : Nat → (Nat → Int32) → (Nat → Int32)
  | 0, me => me
  | r + 1, me => cy2_ f t r (wr_ me (nI (128 * t + (128 - (r + 1)))) (rd_ me (nI (128 * f + (128 - (r + 1))))))
theorem cp_tc (f t : Nat) : ∀ (r : Nat), r ≤ 128 → ∀ cb, tc_Y_copyBlock_l2 (r + 1) (nI f) (nI t) (nI (128 - r)) cb = some (cy2_ f t r cb) := by
  intro r
  induction r with
  | zero => intro _ cb; rw [tc_Y_copyBlock_l2_s, if_pos (by decide)]; rfl
  | succ r ih =>
    intro hr cb
    rw [tc_Y_copyBlock_l2_s, if_neg (by rw [show (128 : Int32) = nI 128 by decide, nI_leI (by omega) (by omega)]; omega), tc_load1, Option.bind_some, tc_store1, Option.bind_some, show (128 : Int32) = nI 128 by decide, pk_mul, pk_mul, nI_add, nI_add, i_inc, show 128 - (r + 1) + 1 = 128 - r by omega]
    exact ih (by omega) _
theorem cp_mo (f t : Nat) (v3 v4 : Int32) (rg so sv tl su qu : Nat → Int32) (wa ru sp : Int32) : ∀ (r : Nat), r ≤ 128 → ∀ me, mo_kernel_l142 (r + 1) (nI f) v3 v4 (nI t) (nI (128 - r)) me rg so sv tl su qu wa ru sp = mo_kernel_l142 1 (nI f) v3 v4 (nI t) (nI 128) (cy2_ f t r me) rg so sv tl su qu wa ru sp := by
  intro r
  induction r with
  | zero => intro _ me; rfl
  | succ r ih =>
    intro hr me
    rw [mo_kernel_l142_s, if_neg (by rw [show (128 : Int32) = nI 128 by decide, nI_leI (by omega) (by omega)]; omega), mo_at_eq, Option.bind_some, mo_put_eq, Option.bind_some, show (128 : Int32) = nI 128 by decide, pk_mul, pk_mul, nI_add, nI_add, i_inc, show 128 - (r + 1) + 1 = 128 - r by omega]
    exact ih (by omega) _
theorem cy2_ok (f t : Nat) : ∀ (r : Nat) (me : Nat → Int32), okB me → okB (cy2_ f t r me) := by
  intro r
  induction r with
  | zero => intro me h; exact h
  | succ r ih => intro me h; exact ih _ (wr_ok h _ _)
/-- the least free task -/
theorem lf_ok (ks : Nat → Int32) : (∃ i, i < 4 ∧ ks i = 0 ∧ tc_K_leastFree ks = some (some i) ∧ ∀ (v1 v2 v3 v4 : Int32) (me rg sv tl su qu : Nat → Int32) (wa ru sp : Int32), mo_kernel_l82 5 v1 v2 v3 v4 0 me rg ks sv tl su qu wa ru sp = mo_kernel_j104 v1 v2 v3 v4 (nI i) me rg ks sv tl su qu wa ru sp) ∨ (tc_K_leastFree ks = some none ∧ ∀ (v1 v2 v3 v4 : Int32) (me rg sv tl su qu : Nat → Int32) (wa ru sp : Int32), mo_kernel_l82 5 v1 v2 v3 v4 0 me rg ks sv tl su qu wa ru sp = mo_kernel_j104 v1 v2 v3 v4 (nI 4) me rg ks sv tl su qu wa ru sp) := by
  have key : ∀ (r : Nat), r ≤ 4 → (∃ i, 4 - r ≤ i ∧ i < 4 ∧ ks i = 0 ∧ tc_K_leastFree_l2 (r + 1) (nI (4 - r)) ks = some (some i) ∧ ∀ (v1 v2 v3 v4 : Int32) (me rg sv tl su qu : Nat → Int32) (wa ru sp : Int32), mo_kernel_l82 (r + 1) v1 v2 v3 v4 (nI (4 - r)) me rg ks sv tl su qu wa ru sp = mo_kernel_j104 v1 v2 v3 v4 (nI i) me rg ks sv tl su qu wa ru sp) ∨ (tc_K_leastFree_l2 (r + 1) (nI (4 - r)) ks = some none ∧ ∀ (v1 v2 v3 v4 : Int32) (me rg sv tl su qu : Nat → Int32) (wa ru sp : Int32), mo_kernel_l82 (r + 1) v1 v2 v3 v4 (nI (4 - r)) me rg ks sv tl su qu wa ru sp = mo_kernel_j104 v1 v2 v3 v4 (nI 4) me rg ks sv tl su qu wa ru sp) := by
    intro r
    induction r with
    | zero =>
      intro _
      refine Or.inr ⟨?_, ?_⟩
      · rw [tc_K_leastFree_l2_s, if_pos (by decide)]
      · intros
        rw [mo_kernel_l82_s, if_pos (by decide)]
    | succ r ih =>
      intro hr
      have h4 : ¬ (4 : Int32) ≤ nI (4 - (r + 1)) := by
        rw [show (4 : Int32) = nI 4 by decide, nI_leI (by omega) (by omega)]
        omega
      have hin : in_b (nI (4 - (r + 1))) 4 = true := in_nI (by omega) (by decide)
      by_cases h0 : ks (4 - (r + 1)) = 0
      · refine Or.inl ⟨4 - (r + 1), by omega, by omega, h0, ?_, ?_⟩
        · rw [tc_K_leastFree_l2_s, if_neg h4, if_pos hin, nI_clamp (by omega), if_pos (by omega), if_pos h0]
        · intros
          rw [mo_kernel_l82_s, if_neg h4, if_pos hin, nI_clamp (by omega), if_pos h0]
      · have e1 : tc_K_leastFree_l2 (r + 1 + 1) (nI (4 - (r + 1))) ks = tc_K_leastFree_l2 (r + 1) (nI (4 - r)) ks := by
          rw [tc_K_leastFree_l2_s, if_neg h4, if_pos hin, nI_clamp (by omega), if_pos (by omega), if_neg h0, i_inc, show 4 - (r + 1) + 1 = 4 - r by omega]
        have e2 : ∀ (v1 v2 v3 v4 : Int32) (me rg sv tl su qu : Nat → Int32) (wa ru sp : Int32), mo_kernel_l82 (r + 1 + 1) v1 v2 v3 v4 (nI (4 - (r + 1))) me rg ks sv tl su qu wa ru sp = mo_kernel_l82 (r + 1) v1 v2 v3 v4 (nI (4 - r)) me rg ks sv tl su qu wa ru sp := by
          intros
          rw [mo_kernel_l82_s, if_neg h4, if_pos hin, nI_clamp (by omega), if_neg h0, i_inc, show 4 - (r + 1) + 1 = 4 - r by omega]
        rcases ih (by omega) with ⟨i, i1, i2, i3, i4, i5⟩ | ⟨i4, i5⟩
        · exact Or.inl ⟨i, by omega, i2, i3, by rw [e1]; exact i4, fun v1 v2 v3 v4 me rg sv tl su qu wa ru sp => by rw [e2]; exact i5 ..⟩
        · exact Or.inr ⟨by rw [e1]; exact i4, fun v1 v2 v3 v4 me rg sv tl su qu wa ru sp => by rw [e2]; exact i5 ..⟩
  rcases key 4 (by omega) with ⟨i, -, h2, h3, h4, h5⟩ | ⟨h4, h5⟩
  · exact Or.inl ⟨i, h2, h3, h4, h5⟩
  · exact Or.inr ⟨h4, h5⟩
end
section
/-! Calls of the kernel: the class's settle, the reference's kernel. -/
section KC
variable {uz : Int32} {ul : Nat → Option Nat} {ks kv kz ku cb : Nat → Int32} {me so sv tl su qu : Nat → Int32} {wa : Int32} {g : R9}
theorem rs_ok (hK : KB uz ul ks kv kz ku cb me so sv tl su qu wa) {i : Nat} (hi : i < 4) (h1 : ∀ j, j < 4 → j ≠ i → ks j ≠ 1) (h2 : ks i ≠ 2) (h3 : ks i ≠ 3) (kr : Option Nat) (g : R9) : ∃ g' : R9, tc_K_resume i kr ks kv cb g.1 g.2.1 g.2.2.1 g.2.2.2.1 g.2.2.2.2.1 g.2.2.2.2.2.1 g.2.2.2.2.2.2.1 g.2.2.2.2.2.2.2.1 g.2.2.2.2.2.2.2.2 = some (some i, upd ks i 1, g') ∧ (∀ (g0 : R9) (ru sp : Int32), mo_take (nI i) me (rg_ g0) so sv ru sp = some (rg_ g', upd so i 1, nI i, sp)) ∧ KB uz ul (upd ks i 1) kv kz ku cb me (upd so i 1) sv tl su qu wa ∧ RN (some i) (nI i) (upd ks i 1) g' (rg_ g') := by
  obtain ⟨rfl, rfl, rfl, rfl, hB, hsl, L, hQ, hL⟩ := hK
  obtain ⟨g', t1, t2, -, t4⟩ := take_ok hB hi sv g
  refine ⟨g', ?_, fun g0 ru sp => t4 g0 so ru sp, ⟨rfl, rfl, rfl, rfl, hB, ?_, L, hQ, ?_⟩, Or.inr ⟨i, hi, rfl, rfl, upd_eq, ?_, rfl, t2⟩⟩
  · unfold tc_K_resume
    rw [t1, Option.bind_some, if_pos hi]
  · intro j hj hs
    by_cases e : j = i
    · rw [e, upd_eq] at hs
      exact absurd hs (by decide)
    · rw [upd_ne e] at hs
      exact hsl j hj hs
  · intro j hj
    have : j ≠ i := fun q => h2 (q ▸ hL j hj)
    rw [upd_ne this]
    exact hL j hj
  · intro j hj hs
    by_cases e : j = i
    · exact e
    · rw [upd_ne e] at hs
      exact absurd hs (h1 j hj e)
theorem KB_cb (hK : KB uz ul ks kv kz ku cb me so sv tl su qu wa) {cb' kv' : Nat → Int32} (h : okB cb') : KB uz ul ks kv' kz ku cb' cb' so kv' tl su qu wa := by
  obtain ⟨-, h2, -, h4, -, h6, h7⟩ := hK
  exact ⟨rfl, h2, rfl, h4, h, h6, h7⟩
/-- the kernel's call behind its fetch -/
def kq_ (v : Int32) (me rg so sv tl su qu : Nat → Int32) (wa ru sp : Int32) : Option ((Nat → Int32) × (Nat → Int32) × (Nat → Int32) × (Nat → Int32) × (Nat → Int32) × (Nat → Int32) × (Nat → Int32) × Int32 × Int32 × Int32) := (mo_stack me rg sv ru sp).bind fun z31 => if v = (3 : Int32) then (mo_end ru (rg 8) z31.1 z31.2.1 so z31.2.2.1 tl su qu wa z31.2.2.2.1 z31.2.2.2.2).bind fun z34 => some (z31.1, z34.1, z34.2.1, z31.2.2.1, z34.2.2.1, z34.2.2.2.1, z34.2.2.2.2.1, z34.2.2.2.2.2.1, z34.2.2.2.2.2.2.1, z34.2.2.2.2.2.2.2) else if v = (2 : Int32) then if in_b ru 4 = true then if (rg 1) = (0 : Int32) then (mo_comeLast ru so qu wa).bind fun z33 => mo_kernel_j74 z31.1 z31.2.1 z33.1 z31.2.2.1 (upd tl (ru.toNatClampNeg) (rg 1)) su z33.2.1 z33.2.2 z31.2.2.2.1 z31.2.2.2.2 else mo_kernel_j74 z31.1 z31.2.1 (upd so (ru.toNatClampNeg) (3 : Int32)) z31.2.2.1 (upd tl (ru.toNatClampNeg) (rg 1)) su qu wa z31.2.2.2.1 z31.2.2.2.2 else none else mo_kernel_l82 5 v ru (rg 1) (rg 8) (0 : Int32) z31.1 z31.2.1 so z31.2.2.1 tl su qu wa z31.2.2.2.1 z31.2.2.2.2
theorem kq_eq (me : Nat → Int32) (a b d c x y u s p : Int32) (so sv tl su qu : Nat → Int32) (wa ru sp : Int32) : mo_kernel me (rf_ a b d c x y u s p) so sv tl su qu wa ru sp = kq_ (rd_ me p) me (rf_ a b d c x y u s ((p + 1) &&& 65535)) so sv tl su qu wa ru (sp + 1) := by
  unfold mo_kernel
  rw [mo_fetch_eq, Option.bind_some]
  rfl
/-- what a call of the kernel leaves -/
def kc_ok (sp : Int32) (c : Option (Option Nat × Int32 × (Nat → Option Nat) × (Nat → Int32) × (Nat → Int32) × (Nat → Int32) × (Nat → Int32) × (Nat → Int32) × Int32 × Int32 × Int32 × Int32 × Int32 × Int32 × Int32 × Int32 × Int32 × R9)) (m : Option ((Nat → Int32) × (Nat → Int32) × (Nat → Int32) × (Nat → Int32) × (Nat → Int32) × (Nat → Int32) × (Nat → Int32) × Int32 × Int32 × Int32)) : Prop :=
  ∃ (kr' : Option Nat) (uz' : Int32) (ul' : Nat → Option Nat) (ks' kv' kz' ku' cb' : Nat → Int32) (g' q' : R9) (rg' so' sv' tl' su' qu' : Nat → Int32) (wa' ru' : Int32), c = some (kr', uz', ul', ks', kv', kz', ku', cb', g'.1, g'.2.1, g'.2.2.1, g'.2.2.2.1, g'.2.2.2.2.1, g'.2.2.2.2.2.1, g'.2.2.2.2.2.2.1, g'.2.2.2.2.2.2.2.1, g'.2.2.2.2.2.2.2.2, q') ∧ m = some (cb', rg', so', sv', tl', su', qu', wa', ru', sp) ∧ KB uz' ul' ks' kv' kz' ku' cb' cb' so' sv' tl' su' qu' wa' ∧ RN kr' ru' ks' g' rg'
theorem kcall (hK : KB uz ul ks kv kz ku cb me so sv tl su qu wa) {i : Nat} (hi : i < 4) (hs1 : ks i = 1) (hu : ∀ j, j < 4 → ks j = 1 → j = i) (hg : og_ g) (v sp : Int32) (hv1 : ¬ v = -1) (hv2 : ¬ v = -2) (q : R9) : kc_ok sp (tc_K_settle v (some i) uz ul ks kv kz ku cb g.1 g.2.1 g.2.2.1 g.2.2.2.1 g.2.2.2.2.1 g.2.2.2.2.2.1 g.2.2.2.2.2.2.1 g.2.2.2.2.2.2.2.1 g.2.2.2.2.2.2.2.2 q.1 q.2.1 q.2.2.1 q.2.2.2.1 q.2.2.2.2.1 q.2.2.2.2.2.1 q.2.2.2.2.2.2.1 q.2.2.2.2.2.2.2.1 q.2.2.2.2.2.2.2.2) (kq_ v me (rg_ g) so sv tl su qu wa (nI i) sp) := by
  have hB := hK.2.2.2.2.1
  have eme := hK.1
  have eso := hK.2.1
  have esv := hK.2.2.1
  subst eme
  subst esv
  obtain ⟨kv1, cb1, g1, a1, a2, a3, a4⟩ := stack_ok hB hi sv hg sp
  have hK1 : KB uz ul ks kv1 kz ku cb1 cb1 so kv1 tl su qu wa := KB_cb hK a2
  have hne : ∀ j, j < 4 → j ≠ i → ks j ≠ 1 := fun j hj hn q => hn (hu j hj q)
  have n2 : ks i ≠ 2 := by rw [hs1]; decide
  have n3 : ks i ≠ 3 := by rw [hs1]; decide
  have es : tc_K_settle v (some i) uz ul ks sv kz ku me g.1 g.2.1 g.2.2.1 g.2.2.2.1 g.2.2.2.2.1 g.2.2.2.2.2.1 g.2.2.2.2.2.2.1 g.2.2.2.2.2.2.2.1 g.2.2.2.2.2.2.2.2 q.1 q.2.1 q.2.2.1 q.2.2.2.1 q.2.2.2.2.1 q.2.2.2.2.2.1 q.2.2.2.2.2.2.1 q.2.2.2.2.2.2.2.1 q.2.2.2.2.2.2.2.2 = (tc_K_answer i v (some i) uz ul ks sv kz ku me g.1 g.2.1 g.2.2.1 g.2.2.2.1 g.2.2.2.2.1 g.2.2.2.2.2.1 g.2.2.2.2.2.2.1 g.2.2.2.2.2.2.2.1 g.2.2.2.2.2.2.2.2 q.1 q.2.1 q.2.2.1 q.2.2.2.1 q.2.2.2.2.1 q.2.2.2.2.2.1 q.2.2.2.2.2.2.1 q.2.2.2.2.2.2.2.1 q.2.2.2.2.2.2.2.2).bind fun z11 => tc_K_settle_j42 z11.1 z11.2.1 z11.2.2.1 z11.2.2.2.1 z11.2.2.2.2.1 z11.2.2.2.2.2.1 z11.2.2.2.2.2.2.1 z11.2.2.2.2.2.2.2.1 z11.2.2.2.2.2.2.2.2.1 z11.2.2.2.2.2.2.2.2.2.1 z11.2.2.2.2.2.2.2.2.2.2.1 z11.2.2.2.2.2.2.2.2.2.2.2.1 z11.2.2.2.2.2.2.2.2.2.2.2.2.1 z11.2.2.2.2.2.2.2.2.2.2.2.2.2.1 z11.2.2.2.2.2.2.2.2.2.2.2.2.2.2.1 z11.2.2.2.2.2.2.2.2.2.2.2.2.2.2.2.1 z11.2.2.2.2.2.2.2.2.2.2.2.2.2.2.2.2.1 z11.2.2.2.2.2.2.2.2.2.2.2.2.2.2.2.2.2.1 z11.2.2.2.2.2.2.2.2.2.2.2.2.2.2.2.2.2.2.1 z11.2.2.2.2.2.2.2.2.2.2.2.2.2.2.2.2.2.2.2.1 z11.2.2.2.2.2.2.2.2.2.2.2.2.2.2.2.2.2.2.2.2.1 z11.2.2.2.2.2.2.2.2.2.2.2.2.2.2.2.2.2.2.2.2.2.1 z11.2.2.2.2.2.2.2.2.2.2.2.2.2.2.2.2.2.2.2.2.2.2.1 z11.2.2.2.2.2.2.2.2.2.2.2.2.2.2.2.2.2.2.2.2.2.2.2.1 z11.2.2.2.2.2.2.2.2.2.2.2.2.2.2.2.2.2.2.2.2.2.2.2.2.1 z11.2.2.2.2.2.2.2.2.2.2.2.2.2.2.2.2.2.2.2.2.2.2.2.2.2 := by
    show (if v = -1 then _ else if v = -2 then _ else _) = _
    rw [if_neg hv1, if_neg hv2]
  -- the caller goes on, with the frame as cb2, the rest as given
  have back : ∀ (uz2 : Int32) (ul2 : Nat → Option Nat) (ks2 kv2 cb2 so2 qu2 : Nat → Int32) (wa2 : Int32) (q2 : R9), KB uz2 ul2 ks2 kv2 kz ku cb2 cb2 so2 kv2 tl su qu2 wa2 → (∀ j, j < 4 → j ≠ i → ks2 j ≠ 1) → ks2 i ≠ 2 → ks2 i ≠ 3 → kc_ok sp ((tc_K_resume i none ks2 kv2 cb2 g1.1 g1.2.1 g1.2.2.1 g1.2.2.2.1 g1.2.2.2.2.1 g1.2.2.2.2.2.1 g1.2.2.2.2.2.2.1 g1.2.2.2.2.2.2.2.1 g1.2.2.2.2.2.2.2.2).bind fun z14 => tc_K_settle_j42 z14.1 uz2 ul2 z14.2.1 kv2 kz ku cb2 z14.2.2.1 z14.2.2.2.1 z14.2.2.2.2.1 z14.2.2.2.2.2.1 z14.2.2.2.2.2.2.1 z14.2.2.2.2.2.2.2.1 z14.2.2.2.2.2.2.2.2.1 z14.2.2.2.2.2.2.2.2.2.1 z14.2.2.2.2.2.2.2.2.2.2 q2.1 q2.2.1 q2.2.2.1 q2.2.2.2.1 q2.2.2.2.2.1 q2.2.2.2.2.2.1 q2.2.2.2.2.2.2.1 q2.2.2.2.2.2.2.2.1 q2.2.2.2.2.2.2.2.2) (mo_kernel_j228 (nI i) cb2 (rg_ g1) so2 kv2 tl su qu2 wa2 (-1) sp) := by
    intro uz2 ul2 ks2 kv2 cb2 so2 qu2 wa2 q2 hK2 h1 h2 h3
    obtain ⟨g', r1, r2, r3, r4⟩ := rs_ok hK2 hi h1 h2 h3 none g1
    rw [r1, Option.bind_some]
    unfold mo_kernel_j228
    rw [r2, Option.bind_some]
    exact ⟨some i, uz2, ul2, _, kv2, kz, ku, cb2, g', q2, rg_ g', _, kv2, tl, su, qu2, wa2, nI i, rfl, rfl, r3, r4⟩
  rw [es]
  unfold tc_K_answer kq_
  rw [a1, Option.bind_some, a4, Option.bind_some]
  dsimp only
  by_cases v3 : v = 3
  · rw [if_pos v3, if_neg (by rw [v3]; decide), if_neg (by rw [v3]; decide), if_pos v3]
    obtain ⟨kr1, kr', uz1, uz', ul1, ul', ks1, ks', ku', g', rg', so', tl', su', qu', wa', ru', e1, e2, e3, e4, e5⟩ := end_ok (g := g1) (rg := rg_ g1) (kr := none) (ru := -1) hK1 hi (Or.inl ⟨rfl, rfl, hne, g1, rfl⟩) g.1 sp
    rw [e1, Option.bind_some, Option.bind_some, show rg_ g 8 = g.1 from rfl, e3, Option.bind_some]
    unfold tc_K_settle_j42
    dsimp only
    rw [e2, Option.bind_some]
    exact ⟨kr', uz', ul', ks', kv1, kz, ku', cb1, g', q, rg', so', kv1, tl', su', qu', wa', ru', rfl, rfl, e4, e5⟩
  · simp only [if_neg v3]
    by_cases v2 : v = 2
    · simp only [if_neg (show ¬ v = 1 by rw [v2]; decide), if_pos v2]
      rw [if_pos (in_nI hi (by decide)), nI_clamp (by omega), show rg_ g 1 = g.2.2.2.2.1 from rfl]
      have fin : ∀ (uz2 : Int32) (ul2 : Nat → Option Nat) (ks2 kz2 so2 tl2 qu2 : Nat → Int32) (wa2 : Int32), KB uz2 ul2 ks2 kv1 kz2 ku cb1 cb1 so2 kv1 tl2 su qu2 wa2 → (∀ j, j < 4 → ks2 j ≠ 1) → kc_ok sp (tc_K_settle_j42 none uz2 ul2 ks2 kv1 kz2 ku cb1 g1.1 g1.2.1 g1.2.2.1 g1.2.2.2.1 g1.2.2.2.2.1 g1.2.2.2.2.2.1 g1.2.2.2.2.2.2.1 g1.2.2.2.2.2.2.2.1 g1.2.2.2.2.2.2.2.2 q.1 q.2.1 q.2.2.1 q.2.2.2.1 q.2.2.2.2.1 q.2.2.2.2.2.1 q.2.2.2.2.2.2.1 q.2.2.2.2.2.2.2.1 q.2.2.2.2.2.2.2.2) (mo_kernel_j74 cb1 (rg_ g1) so2 kv1 tl2 su qu2 wa2 (-1) sp) := by
        intro uz2 ul2 ks2 kz2 so2 tl2 qu2 wa2 hK2 h1
        obtain ⟨kr', uz', ul', ks', g', rg', so', qu', wa', ru', e1, e2, e3, e4⟩ := nx_ok (g := g1) (rg := rg_ g1) (kr := none) (ru := -1) hK2 (Or.inl ⟨rfl, rfl, h1, g1, rfl⟩) sp
        unfold tc_K_settle_j42 mo_kernel_j74
        rw [e1, e2]
        exact ⟨kr', uz', ul', ks', kv1, kz2, ku, cb1, g', q, rg', so', kv1, tl2, su, qu', wa', ru', rfl, rfl, e3, e4⟩
      unfold tc_K_putToSleep
      obtain ⟨-, rfl, -, f4, f5, f6, L, f7, f8⟩ := hK1
      by_cases x0 : g.2.2.2.2.1 = 0
      · have hn : i ∉ L := fun q => n2 (f8 i q)
        obtain ⟨uz', wa', ul', qu', r1, r2, r3⟩ := last_ok f7 hi hn so
        rw [if_pos x0, if_pos x0, r1, Option.bind_some, r2, Option.bind_some, Option.bind_some]
        refine fin uz' ul' (upd so i 2) kz (upd so i 2) (upd tl i g.2.2.2.2.1) qu' wa' ⟨rfl, rfl, rfl, f4, f5, ?_, L ++ [i], r3, ?_⟩ ?_
        · intro j hj hs
          by_cases e : j = i
          · rw [e, upd_eq] at hs
            exact absurd hs (by decide)
          · rw [upd_ne e] at hs ⊢
            exact f6 j hj hs
        · intro j hj
          by_cases e : j = i
          · rw [e, upd_eq]
          · rw [upd_ne e]
            rcases List.mem_append.mp hj with hj | hj
            · exact f8 j hj
            · simp only [List.mem_cons, List.not_mem_nil, or_false] at hj
              exact absurd hj e
        · intro j hj
          by_cases e : j = i
          · rw [e, upd_eq]; decide
          · rw [upd_ne e]; exact hne j hj e
      · rw [if_neg x0, if_neg x0, if_pos hi, Option.bind_some]
        refine fin uz ul (upd so i 3) (upd kz i g.2.2.2.2.1) (upd so i 3) (upd tl i g.2.2.2.2.1) qu wa ⟨rfl, rfl, rfl, f4, f5, ?_, L, f7, ?_⟩ ?_
        · intro j hj hs
          by_cases e : j = i
          · rw [e, upd_eq, upd_eq]
          · rw [upd_ne e] at hs
            rw [upd_ne e, upd_ne e]
            exact f6 j hj hs
        · intro j hj
          have : j ≠ i := fun q => n2 (q ▸ f8 j hj)
          rw [upd_ne this]
          exact f8 j hj
        · intro j hj
          by_cases e : j = i
          · rw [e, upd_eq]; decide
          · rw [upd_ne e]; exact hne j hj e
    · simp only [if_neg v2]
      have eso' : so = ks := eso
      subst eso'
      by_cases v1 : v = 1
      · rw [if_pos v1]
        unfold tc_K_fork
        rcases lf_ok so with ⟨c, hc, hc0, l1, l2⟩ | ⟨l1, l2⟩
        · rw [l1, l2, Option.bind_some]
          unfold mo_kernel_j104
          rw [if_neg (show ¬ v = 4 by rw [v1]; decide), if_pos v1, if_neg (show ¬ (4 : Int32) ≤ nI c by rw [show (4 : Int32) = nI 4 by decide, nI_leI (by omega) (by omega)]; omega)]
          have hci : c ≠ i := fun q => by rw [q, hs1] at hc0; exact absurd hc0 (by decide)
          by_cases x128 : g.2.2.2.2.1 < 128
          · rw [show opt_c (some c) (tc_K_fork_j18 i uz ul so kv1 cb1 q.1 q.2.1 q.2.2.1 q.2.2.2.1 q.2.2.2.2.1 q.2.2.2.2.2.1 q.2.2.2.2.2.2.1 q.2.2.2.2.2.2.2.1 q.2.2.2.2.2.2.2.2) (fun i12 => if g.2.2.2.2.1 < 128 then if i < 4 then if i12 < 4 then (tc_Y_copyBlock (nI i) (nI i12) cb1).bind fun z16 => (tc_K_begin i12 ((128 * (nI i12)) + g.2.2.2.2.1) g.1 uz ul so kv1 z16 q.1 q.2.1 q.2.2.1 q.2.2.2.1 q.2.2.2.2.1 q.2.2.2.2.2.1 q.2.2.2.2.2.2.1 q.2.2.2.2.2.2.2.1 q.2.2.2.2.2.2.2.2).bind fun z17 => (tc_K_succeed i (nI i12) z17.2.2.2.1 z17.2.2.2.2.1).bind fun z18 => some (z17.1, z17.2.1, z17.2.2.1, z17.2.2.2.1, z18, z17.2.2.2.2.2.1, z17.2.2.2.2.2.2.1, z17.2.2.2.2.2.2.2.1, z17.2.2.2.2.2.2.2.2.1, z17.2.2.2.2.2.2.2.2.2.1, z17.2.2.2.2.2.2.2.2.2.2.1, z17.2.2.2.2.2.2.2.2.2.2.2.1, z17.2.2.2.2.2.2.2.2.2.2.2.2.1, z17.2.2.2.2.2.2.2.2.2.2.2.2.2) else none else none else tc_K_fork_j18 i uz ul so kv1 cb1 q.1 q.2.1 q.2.2.1 q.2.2.2.1 q.2.2.2.2.1 q.2.2.2.2.2.1 q.2.2.2.2.2.2.1 q.2.2.2.2.2.2.2.1 q.2.2.2.2.2.2.2.2) = (tc_Y_copyBlock (nI i) (nI c) cb1).bind fun z16 => (tc_K_begin c ((128 * (nI c)) + g.2.2.2.2.1) g.1 uz ul so kv1 z16 q.1 q.2.1 q.2.2.1 q.2.2.2.1 q.2.2.2.2.1 q.2.2.2.2.2.1 q.2.2.2.2.2.2.1 q.2.2.2.2.2.2.2.1 q.2.2.2.2.2.2.2.2).bind fun z17 => (tc_K_succeed i (nI c) z17.2.2.2.1 z17.2.2.2.2.1).bind fun z18 => some (z17.1, z17.2.1, z17.2.2.1, z17.2.2.2.1, z18, z17.2.2.2.2.2.1, z17.2.2.2.2.2.2.1, z17.2.2.2.2.2.2.2.1, z17.2.2.2.2.2.2.2.2.1, z17.2.2.2.2.2.2.2.2.2.1, z17.2.2.2.2.2.2.2.2.2.2.1, z17.2.2.2.2.2.2.2.2.2.2.2.1, z17.2.2.2.2.2.2.2.2.2.2.2.2.1, z17.2.2.2.2.2.2.2.2.2.2.2.2.2) from by
              show (if g.2.2.2.2.1 < 128 then if i < 4 then if c < 4 then _ else none else none else _) = _
              rw [if_pos x128, if_pos hi, if_pos hc]]
            rw [show rg_ g 1 = g.2.2.2.2.1 from rfl, show rg_ g 8 = g.1 from rfl, if_neg (Int32.not_le.mpr x128)]
            have ecp : tc_Y_copyBlock (nI i) (nI c) cb1 = some (cy2_ i c 128 cb1) := cp_tc i c 128 (by omega) cb1
            rw [ecp, Option.bind_some]
            rw [show mo_kernel_l142 129 (nI i) g.2.2.2.2.1 g.1 (nI c) 0 cb1 (rg_ g1) so kv1 tl su qu wa (-1) sp = _ from cp_mo i c g.2.2.2.2.1 g.1 (rg_ g1) so kv1 tl su qu wa (-1) sp 128 (by omega) cb1, mo_kernel_l142_s, if_pos (show (128 : Int32) ≤ nI 128 by decide)]
            have hK2 : KB uz ul so kv1 kz ku (cy2_ i c 128 cb1) (cy2_ i c 128 cb1) so kv1 tl su qu wa := KB_cb hK1 (cy2_ok i c 128 cb1 a2)
            obtain ⟨uz', ul', cb', q', qu', wa', b1, b2, b3⟩ := bg_ok hK2 hc hc0 (128 * nI c + g.2.2.2.2.1) g.1 q
            rw [b1, Option.bind_some, b2, Option.bind_some]
            dsimp only
            obtain ⟨cb3, s1, s2, s3⟩ := suc_ok b3.2.2.2.2.1 hi (nI c) (upd kv1 c (nI (128 * c + 116)))
            rw [s1, Option.bind_some, Option.bind_some, s3, Option.bind_some]
            dsimp only
            have := back uz' ul' (upd so c 2) (upd kv1 c (nI (128 * c + 116))) cb3 (upd so c 2) qu' wa' q' (KB_cb b3 s2) (by
              intro j hj hn
              by_cases e : j = c
              · rw [e, upd_eq]; decide
              · rw [upd_ne e]; exact hne j hj hn) (by rw [upd_ne (Ne.symm hci)]; exact n2) (by rw [upd_ne (Ne.symm hci)]; exact n3)
            rw [Option.bind_assoc]
            exact this
          · rw [show opt_c (some c) (tc_K_fork_j18 i uz ul so kv1 cb1 q.1 q.2.1 q.2.2.1 q.2.2.2.1 q.2.2.2.2.1 q.2.2.2.2.2.1 q.2.2.2.2.2.2.1 q.2.2.2.2.2.2.2.1 q.2.2.2.2.2.2.2.2) (fun i12 => if g.2.2.2.2.1 < 128 then if i < 4 then if i12 < 4 then (tc_Y_copyBlock (nI i) (nI i12) cb1).bind fun z16 => (tc_K_begin i12 ((128 * (nI i12)) + g.2.2.2.2.1) g.1 uz ul so kv1 z16 q.1 q.2.1 q.2.2.1 q.2.2.2.1 q.2.2.2.2.1 q.2.2.2.2.2.1 q.2.2.2.2.2.2.1 q.2.2.2.2.2.2.2.1 q.2.2.2.2.2.2.2.2).bind fun z17 => (tc_K_succeed i (nI i12) z17.2.2.2.1 z17.2.2.2.2.1).bind fun z18 => some (z17.1, z17.2.1, z17.2.2.1, z17.2.2.2.1, z18, z17.2.2.2.2.2.1, z17.2.2.2.2.2.2.1, z17.2.2.2.2.2.2.2.1, z17.2.2.2.2.2.2.2.2.1, z17.2.2.2.2.2.2.2.2.2.1, z17.2.2.2.2.2.2.2.2.2.2.1, z17.2.2.2.2.2.2.2.2.2.2.2.1, z17.2.2.2.2.2.2.2.2.2.2.2.2.1, z17.2.2.2.2.2.2.2.2.2.2.2.2.2) else none else none else tc_K_fork_j18 i uz ul so kv1 cb1 q.1 q.2.1 q.2.2.1 q.2.2.2.1 q.2.2.2.2.1 q.2.2.2.2.2.1 q.2.2.2.2.2.2.1 q.2.2.2.2.2.2.2.1 q.2.2.2.2.2.2.2.2) = tc_K_fork_j18 i uz ul so kv1 cb1 q.1 q.2.1 q.2.2.1 q.2.2.2.1 q.2.2.2.2.1 q.2.2.2.2.2.1 q.2.2.2.2.2.2.1 q.2.2.2.2.2.2.2.1 q.2.2.2.2.2.2.2.2 from if_neg x128]
            rw [show rg_ g 1 = g.2.2.2.2.1 from rfl, if_pos (Int32.not_lt.mp x128)]
            unfold tc_K_fork_j18 mo_kernel_j210 mo_kernel_j224
            obtain ⟨cb3, s1, s2, s3⟩ := fai_ok a2 hi 1 kv1
            rw [s1, if_pos v1, s3, Option.bind_some, Option.bind_some, Option.bind_some, Option.bind_assoc]
            exact back uz ul so kv1 cb3 so qu wa q (KB_cb hK1 s2) hne n2 n3
        · rw [l1, l2, Option.bind_some]
          unfold mo_kernel_j104
          rw [if_neg (show ¬ v = 4 by rw [v1]; decide), if_pos v1, if_pos (show (4 : Int32) ≤ nI 4 by decide)]
          show kc_ok sp ((((tc_K_fork_j18 i uz ul so kv1 cb1 q.1 q.2.1 q.2.2.1 q.2.2.2.1 q.2.2.2.2.1 q.2.2.2.2.2.1 q.2.2.2.2.2.2.1 q.2.2.2.2.2.2.2.1 q.2.2.2.2.2.2.2.2).bind _)).bind _) _
          unfold tc_K_fork_j18 mo_kernel_j210 mo_kernel_j224
          obtain ⟨cb3, s1, s2, s3⟩ := fai_ok a2 hi 1 kv1
          rw [s1, if_pos v1, s3, Option.bind_some, Option.bind_some, Option.bind_some, Option.bind_assoc]
          exact back uz ul so kv1 cb3 so qu wa q (KB_cb hK1 s2) hne n2 n3
      · simp only [if_neg v1]
        have any : ∀ c : Int32, mo_kernel_l82 5 v (nI i) (rg_ g 1) (rg_ g 8) 0 cb1 (rg_ g1) so kv1 tl su qu wa (-1) sp = mo_kernel_j104 v (nI i) (rg_ g 1) (rg_ g 8) c cb1 (rg_ g1) so kv1 tl su qu wa (-1) sp := by
          intro c
          have e : ∀ c2, mo_kernel_j104 v (nI i) (rg_ g 1) (rg_ g 8) c2 cb1 (rg_ g1) so kv1 tl su qu wa (-1) sp = mo_kernel_j104 v (nI i) (rg_ g 1) (rg_ g 8) c cb1 (rg_ g1) so kv1 tl su qu wa (-1) sp := by
            intro c2
            unfold mo_kernel_j104
            rw [if_neg v1, if_neg v1]
          rcases lf_ok so with ⟨c3, -, -, -, l2⟩ | ⟨-, l2⟩
          · rw [l2, e]
          · rw [l2, e]
        rw [any 0]
        unfold mo_kernel_j104
        by_cases v4 : v = 4
        · simp only [if_pos v4]
          rw [if_pos hi]
          obtain ⟨cb3, s1, s2, s3⟩ := suc_ok a2 hi (nI i) kv1
          rw [s1, s3, Option.bind_some, Option.bind_some, Option.bind_assoc]
          exact back uz ul so kv1 cb3 so qu wa q (KB_cb hK1 s2) hne n2 n3
        · simp only [if_neg v4, if_neg v1]
          unfold mo_kernel_j210 mo_kernel_j224
          obtain ⟨cb3, s1, s2, s3⟩ := fai_ok a2 hi 2 kv1
          rw [s1, if_neg v1, s3, Option.bind_some, Option.bind_some, Option.bind_assoc]
          exact back uz ul so kv1 cb3 so qu wa q (KB_cb hK1 s2) hne n2 n3
end KC
end
section
/-! Ticks are served; cycles pass. -/
section SV
variable {uz : Int32} {ul : Nat → Option Nat} {ks kv kz ku cb : Nat → Int32} {me so sv tl su qu : Nat → Int32} {wa : Int32} {kr : Option Nat} {ru : Int32} {g : R9} {rg : Nat → Int32}
theorem RN_ks (hR : RN kr ru ks g rg) {k : Nat} {v : Int32} (h1 : ks k ≠ 1) (hv : v ≠ 1) : RN kr ru (upd ks k v) g rg := by
  rcases hR with ⟨h, h2, h3, h4⟩ | ⟨i, hi, h2, h3, h4, h5, h6⟩
  · refine Or.inl ⟨h, h2, ?_, h4⟩
    intro i hi
    by_cases e : i = k
    · rw [e, upd_eq]; exact hv
    · rw [upd_ne e]; exact h3 i hi
  · refine Or.inr ⟨i, hi, h2, h3, ?_, ?_, h6⟩
    · rw [upd_ne (show i ≠ k from fun e => h1 (e ▸ h4))]
      exact h4
    · intro j hj hs
      by_cases e : j = k
      · rw [e, upd_eq] at hs
        exact absurd hs hv
      · rw [upd_ne e] at hs
        exact h5 j hj hs
theorem ready_ok (hK : KB uz ul ks kv kz ku cb me so sv tl su qu wa) {i : Nat} (hi : i < 4) (n2 : ks i ≠ 2) {kz' tl' : Nat → Int32} (hz : ∀ j, j ≠ i → kz' j = kz j) (ht : ∀ j, j ≠ i → tl' j = tl j) : ∃ (uz' wa' : Int32) (ul' : Nat → Option Nat) (qu' : Nat → Int32), tc_K_makeReady i uz ul ks = some (uz', ul', upd ks i 2) ∧ mo_comeLast (nI i) so qu wa = some (upd ks i 2, qu', wa') ∧ KB uz' ul' (upd ks i 2) kv kz' ku cb me (upd ks i 2) sv tl' su qu' wa' := by
  obtain ⟨rfl, rfl, rfl, rfl, hB, hsl, L, hQ, hL⟩ := hK
  have hn : i ∉ L := fun q => n2 (hL i q)
  obtain ⟨uz', wa', ul', qu', r1, r2, r3⟩ := last_ok hQ hi hn so
  refine ⟨uz', wa', ul', qu', r1, r2, ⟨rfl, rfl, rfl, rfl, hB, ?_, L ++ [i], r3, ?_⟩⟩
  · intro j hj hs
    by_cases e : j = i
    · rw [e, upd_eq] at hs
      exact absurd hs (by decide)
    · rw [upd_ne e] at hs
      rw [hz j e, ht j e]
      exact hsl j hj hs
  · intro j hj
    by_cases e : j = i
    · rw [e, upd_eq]
    · rw [upd_ne e]
      rcases List.mem_append.mp hj with hj | hj
      · exact hL j hj
      · simp only [List.mem_cons, List.not_mem_nil, or_false] at hj
        exact absurd hj e
/-- what a served tick leaves -/
def sv_ok (ku su : Nat → Int32) (pn : Bool) (se sp : Int32) (c : Option (Option Nat × Int32 × (Nat → Option Nat) × (Nat → Int32) × (Nat → Int32) × (Nat → Int32) × (Nat → Int32) × R9)) (m : Option ((Nat → Int32) × (Nat → Int32) × (Nat → Int32) × (Nat → Int32) × (Nat → Int32) × (Nat → Int32) × Int32 × Int32 × Bool × Int32 × Int32)) : Prop :=
  ∃ (kr' : Option Nat) (uz' : Int32) (ul' : Nat → Option Nat) (ks' kv' kz' cb' : Nat → Int32) (g' : R9) (rg' so' sv' tl' qu' : Nat → Int32) (wa' ru' : Int32), c = some (kr', uz', ul', ks', kv', kz', cb', g') ∧ m = some (cb', rg', so', sv', tl', qu', wa', ru', pn, se, sp) ∧ KB uz' ul' ks' kv' kz' ku cb' cb' so' sv' tl' su qu' wa' ∧ RN kr' ru' ks' g' rg'
theorem sv_nx (hK : KB uz ul ks kv kz ku cb cb so sv tl su qu wa) (hR : RN kr ru ks g rg) (pn : Bool) (se sp : Int32) : sv_ok ku su pn se sp (tc_K_serveTick_j82 kr uz ul ks kv kz cb g.1 g.2.1 g.2.2.1 g.2.2.2.1 g.2.2.2.2.1 g.2.2.2.2.2.1 g.2.2.2.2.2.2.1 g.2.2.2.2.2.2.2.1 g.2.2.2.2.2.2.2.2) (mo_serve_j80 cb rg so sv tl qu wa ru pn se sp) := by
  obtain ⟨kr', uz', ul', ks', g', rg', so', qu', wa', ru', e1, e2, e3, e4⟩ := nx_ok hK hR sp
  unfold tc_K_serveTick_j82 mo_serve_j80
  rw [e1, e2]
  exact ⟨kr', uz', ul', ks', kv, kz, cb, g', rg', so', sv, tl, qu', wa', ru', rfl, rfl, e3, e4⟩
theorem sv_loop (pn : Bool) (se sp : Int32) : ∀ (r : Nat), r ≤ 4 → ∀ (uz : Int32) (ul : Nat → Option Nat) (ks kz so tl qu : Nat → Int32) (wa : Int32), KB uz ul ks kv kz ku cb cb so sv tl su qu wa → RN kr ru ks g rg → sv_ok ku su pn se sp (tc_K_serveTick_l2 (r + 1) (nI (4 - r)) kr uz ul ks kv kz cb g.1 g.2.1 g.2.2.1 g.2.2.2.1 g.2.2.2.2.1 g.2.2.2.2.2.1 g.2.2.2.2.2.2.1 g.2.2.2.2.2.2.2.1 g.2.2.2.2.2.2.2.2) (mo_serve_l22 (r + 1) ru (nI (4 - r)) cb rg so sv tl qu wa ru pn se sp) := by
  intro r
  induction r with
  | zero =>
    intro _ uz ul ks kz so tl qu wa hK hR
    rw [tc_K_serveTick_l2_s, mo_serve_l22_s, if_pos (show (4 : Int32) ≤ nI (4 - 0) by decide), if_pos (show (4 : Int32) ≤ nI (4 - 0) by decide)]
    have hR0 := hR
    rcases hR with ⟨rfl, rfl, h3, h4⟩ | ⟨i, hi, rfl, rfl, h4, h5, rfl, h7⟩
    · rw [if_pos (show (-1 : Int32) < 0 by decide)]
      exact sv_nx hK hR0 pn se sp
    · rw [if_neg (show ¬ nI i < 0 from Int32.not_lt.mpr (nI_pos' (by omega)))]
      have esv := hK.2.2.1
      subst esv
      obtain ⟨kv1, cb1, g1, a1, a2, a3, a4⟩ := stack_ok hK.2.2.2.2.1 hi sv h7 sp
      show sv_ok ku su pn se sp ((tc_K_stack_G i sv cb g.1 g.2.1 g.2.2.1 g.2.2.2.1 g.2.2.2.2.1 g.2.2.2.2.2.1 g.2.2.2.2.2.2.1 g.2.2.2.2.2.2.2.1 g.2.2.2.2.2.2.2.2).bind _) _
      rw [a1, a4, Option.bind_some, Option.bind_some]
      have hK1 : KB uz ul ks kv1 kz ku cb1 cb1 so kv1 tl su qu wa := KB_cb hK a2
      obtain ⟨uz', wa', ul', qu', r1, r2, r3⟩ := ready_ok hK1 hi (by rw [h4]; decide) (kz' := kz) (tl' := tl) (fun _ _ => rfl) (fun _ _ => rfl)
      rw [r1, r2, Option.bind_some, Option.bind_some]
      refine sv_nx (g := g1) r3 (Or.inl ⟨rfl, rfl, ?_, g1, rfl⟩) pn se sp
      intro j hj
      by_cases e : j = i
      · rw [e, upd_eq]; decide
      · rw [upd_ne e]; exact fun q => e (h5 j hj q)
  | succ r ih =>
    intro hr uz ul ks kz so tl qu wa hK hR
    have h4 : ¬ (4 : Int32) ≤ nI (4 - (r + 1)) := by
      rw [show (4 : Int32) = nI 4 by decide, nI_leI (by omega) (by omega)]
      omega
    have hin : in_b (nI (4 - (r + 1))) 4 = true := in_nI (by omega) (by decide)
    have hk : 4 - (r + 1) < 4 := by omega
    have eso := hK.2.1
    subst eso
    have fin : ∀ (uz : Int32) (ul : Nat → Option Nat) (ks kz so tl qu : Nat → Int32) (wa : Int32), KB uz ul ks kv kz ku cb cb so sv tl su qu wa → RN kr ru ks g rg → sv_ok ku su pn se sp (tc_K_serveTick_j44 (tc_K_serveTick_l2 (r + 1)) (nI (4 - (r + 1))) kr uz ul ks kv kz cb g.1 g.2.1 g.2.2.1 g.2.2.2.1 g.2.2.2.2.1 g.2.2.2.2.2.1 g.2.2.2.2.2.2.1 g.2.2.2.2.2.2.2.1 g.2.2.2.2.2.2.2.2) (mo_serve_j61 (mo_serve_l22 (r + 1)) ru (nI (4 - (r + 1))) cb rg so sv tl qu wa ru pn se sp) := by
      intro uz ul ks kz so tl qu wa hK hR
      unfold tc_K_serveTick_j44 mo_serve_j61
      rw [i_inc, show 4 - (r + 1) + 1 = 4 - r by omega]
      exact ih (by omega) uz ul ks kz so tl qu wa hK hR
    rw [tc_K_serveTick_l2_s, mo_serve_l22_s, if_neg h4, if_neg h4, if_pos hin, if_pos hin, nI_clamp (by omega), if_pos hk]
    by_cases h3 : so (4 - (r + 1)) = 3
    · have ez := hK.2.2.2.2.2.1 _ hk h3
      rw [if_pos h3, if_pos h3, upd_eq, upd_eq, ez]
      by_cases h0 : tl (4 - (r + 1)) - 1 = 0
      · rw [if_pos h0, if_pos h0]
        obtain ⟨uz', wa', ul', qu', r1, r2, r3⟩ := ready_ok hK hk (by rw [h3]; decide) (kz' := upd kz (4 - (r + 1)) (tl (4 - (r + 1)) - 1)) (tl' := upd tl (4 - (r + 1)) (tl (4 - (r + 1)) - 1)) (fun j e => upd_ne e) (fun j e => upd_ne e)
        rw [r1, r2, Option.bind_some, Option.bind_some]
        exact fin _ _ _ _ _ _ _ _ r3 (RN_ks hR (by rw [h3]; decide) (by decide))
      · rw [if_neg h0, if_neg h0]
        refine fin _ _ _ _ _ _ _ _ ?_ hR
        obtain ⟨b1, b2, b3, b4, b5, b6, b7⟩ := hK
        refine ⟨b1, b2, b3, b4, b5, ?_, b7⟩
        intro j hj hs
        by_cases e : j = 4 - (r + 1)
        · rw [e, upd_eq, upd_eq]
        · rw [upd_ne e, upd_ne e]
          exact b6 j hj hs
    · rw [if_neg h3, if_neg h3]
      exact fin _ _ _ _ _ _ _ _ hK hR
theorem serve_ok (hK : KB uz ul ks kv kz ku cb cb so sv tl su qu wa) (hR : RN kr ru ks g rg) (pn : Bool) (se sp : Int32) : sv_ok ku su false (se + 1) sp (tc_K_serveTick kr uz ul ks kv kz cb g.1 g.2.1 g.2.2.1 g.2.2.2.1 g.2.2.2.2.1 g.2.2.2.2.2.1 g.2.2.2.2.2.2.1 g.2.2.2.2.2.2.2.1 g.2.2.2.2.2.2.2.2) (mo_serve cb rg so sv tl qu wa ru pn se sp) := sv_loop false (se + 1) sp 4 (by omega) uz ul ks kz so tl qu wa hK hR
end SV
theorem pass_ok (x pe re : Int32) (pn : Bool) (lo pa : Int32) : ∃ (re' : Int32) (pn' : Bool) (lo' pa' : Int32), mo_pass x pe re pn lo pa = some (re', pn', lo', pa') ∧ tc_I_letPass x pe re pa lo pn = some (re', pa', lo', pn') ∧ (pe = 0 → re' = re) := by
  unfold mo_pass tc_I_letPass
  by_cases h : pe = 0
  · rw [if_pos h, if_pos h]
    exact ⟨re, pn, lo, pa + x, rfl, rfl, fun _ => rfl⟩
  · rw [if_neg h, if_neg h]
    by_cases h2 : re - x ≤ 0
    · rw [if_pos h2, if_neg (Int32.not_lt.mpr h2)]
      cases pn with
      | false => exact ⟨re - x + pe, true, lo, pa + x, by rw [if_pos (show bz_i false = 0 from rfl)]; unfold mo_pass_j66; rw [show bz_i false = 0 from rfl, i_a0], rfl, fun e => absurd e h⟩
      | true => exact ⟨re - x + pe, true, lo + 1, pa + x, rfl, rfl, fun e => absurd e h⟩
    · rw [if_neg h2, if_pos (Int32.not_le.mp h2)]
      exact ⟨re - x, pn, lo, pa + x, rfl, rfl, fun e => absurd e h⟩
end
section
/-! run. -/
theorem nq_m1 {n : Nat} (h : n < 256) : ¬ nI n = -1 := (by decide +kernel : ∀ n, n < 256 → ¬ nI n = -1) n h
theorem nq_m2 {n : Nat} (h : n < 256) : ¬ nI n = -2 := (by decide +kernel : ∀ n, n < 256 → ¬ nI n = -2) n h
theorem and_12 (x : Int32) : ((x + 1) &&& 65535) + 1 &&& 65535 = (x + 2) &&& 65535 := by
  rw [mask_add, Int32.add_assoc]
  rfl
theorem nq_of {n : Int32} (h1 : ¬ n < 0) (h2 : n ≤ 400) : ∃ N : Nat, N ≤ 400 ∧ n = nI N := by
  rw [Int32.lt_iff_toInt_lt] at h1
  rw [Int32.le_iff_toInt_le] at h2
  have e0 : (0 : Int32).toInt = 0 := by decide
  have e4 : (400 : Int32).toInt = 400 := by decide
  rw [e0] at h1
  rw [e4] at h2
  refine ⟨n.toInt.toNat, by omega, ?_⟩
  apply Int32.toInt_inj.mp
  rw [nI_toInt (by omega)]
  omega
/-- what a run leaves -/
def rn_ok (pe : Int32) (c : Option (Int32 × (Option Nat) × Int32 × (Nat → Option Nat) × (Nat → Int32) × (Nat → Int32) × (Nat → Int32) × (Nat → Int32) × (Nat → Int32) × Int32 × Int32 × Int32 × Int32 × Int32 × Int32 × Int32 × Int32 × Int32 × Int32 × Int32 × Int32 × Int32 × Int32 × Int32 × Int32 × Int32 × Int32 × Int32 × Int32 × Int32 × Int32 × Int32 × Int32 × Bool)) (m : Option (Int32 × (Nat → Int32) × (Nat → Int32) × (Nat → Int32) × (Nat → Int32) × (Nat → Int32) × (Nat → Int32) × (Nat → Int32) × Int32 × Int32 × Int32 × Bool × Int32 × Int32 × Int32 × Int32 × Bool)) : Prop :=
  ∃ (v : Int32) (kr' : Option Nat) (uz' : Int32) (ul' : Nat → Option Nat) (ks' kv' kz' ku' cb' : Nat → Int32) (g' q' : R9) (py' po' re' pa' se' lo' : Int32) (pn' : Bool) (rg' so' sv' tl' su' qu' : Nat → Int32) (wa' ru' sp' : Int32) (iv' : Bool), c = some (v, kr', uz', ul', ks', kv', kz', ku', cb', g'.1, g'.2.1, g'.2.2.1, g'.2.2.2.1, g'.2.2.2.2.1, g'.2.2.2.2.2.1, g'.2.2.2.2.2.2.1, g'.2.2.2.2.2.2.2.1, g'.2.2.2.2.2.2.2.2, q'.1, q'.2.1, q'.2.2.1, q'.2.2.2.1, q'.2.2.2.2.1, q'.2.2.2.2.2.1, q'.2.2.2.2.2.2.1, q'.2.2.2.2.2.2.2.1, q'.2.2.2.2.2.2.2.2, py', po', re', pa', se', lo', pn') ∧ m = some (v, cb', rg', so', sv', tl', su', qu', wa', ru', re', pn', lo', se', pa', sp', iv') ∧ KB uz' ul' ks' kv' kz' ku' cb' cb' so' sv' tl' su' qu' wa' ∧ RN kr' ru' ks' g' rg' ∧ (pe = 0 → re' = 0)
section RR
variable {uz : Int32} {ul : Nat → Option Nat} {ks kv kz ku cb : Nat → Int32} {so sv tl su qu : Nat → Int32} {wa : Int32} {kr : Option Nat} {ru : Int32} {g : R9} {rg : Nat → Int32}
/-- one instruction and the kernel behind it -/
theorem step_ok (hK : KB uz ul ks kv kz ku cb cb so sv tl su qu wa) {i : Nat} (hi : i < 4) (hs1 : ks i = 1) (hu : ∀ j, j < 4 → ks j = 1 → j = i) (hg : og_ g) (py0 po0 sp : Int32) (iv : Bool) (q : R9) : ∃ (r py' : Int32) (iv' : Bool) (cb1 : Nat → Int32) (g1 : R9) (kr' : Option Nat) (uz' : Int32) (ul' : Nat → Option Nat) (ks' kv' kz' ku' cb' : Nat → Int32) (g' q' : R9) (rg' so' sv' tl' su' qu' : Nat → Int32) (wa' ru' : Int32), tc_P_execute py0 po0 cb g.1 g.2.1 g.2.2.1 g.2.2.2.1 g.2.2.2.2.1 g.2.2.2.2.2.1 g.2.2.2.2.2.2.1 g.2.2.2.2.2.2.2.1 g.2.2.2.2.2.2.2.2 = some (r, py', r, cb1, g1) ∧ tc_K_settle r (some i) uz ul ks kv kz ku cb1 g1.1 g1.2.1 g1.2.2.1 g1.2.2.2.1 g1.2.2.2.2.1 g1.2.2.2.2.2.1 g1.2.2.2.2.2.2.1 g1.2.2.2.2.2.2.2.1 g1.2.2.2.2.2.2.2.2 q.1 q.2.1 q.2.2.1 q.2.2.2.1 q.2.2.2.2.1 q.2.2.2.2.2.1 q.2.2.2.2.2.2.1 q.2.2.2.2.2.2.2.1 q.2.2.2.2.2.2.2.2 = some (kr', uz', ul', ks', kv', kz', ku', cb', g'.1, g'.2.1, g'.2.2.1, g'.2.2.2.1, g'.2.2.2.2.1, g'.2.2.2.2.2.1, g'.2.2.2.2.2.2.1, g'.2.2.2.2.2.2.2.1, g'.2.2.2.2.2.2.2.2, q') ∧ mo_instruction cb (rg_ g) so sv tl su qu wa (nI i) sp iv = some (cb', rg', so', sv', tl', su', qu', wa', ru', py', iv') ∧ KB uz' ul' ks' kv' kz' ku' cb' cb' so' sv' tl' su' qu' wa' ∧ RN kr' ru' ks' g' rg' := by
  have hB := hK.2.2.2.2.1
  obtain ⟨r, py', cb1, g1, x1, x2⟩ := exec_ok (so := so) (sv := sv) (tl := tl) (su := su) (qu := qu) (wa := wa) (ru := nI i) hB hg py0 po0 sp iv
  rcases x2 with ⟨rfl, b2, b3, b4⟩ | ⟨rfl, rfl, b2, g0, b4⟩ | ⟨b1, rfl, rfl, rfl, b4⟩
  · have esv := hK.2.2.1
    subst esv
    exact ⟨-1, py', false, cb1, g1, some i, uz, ul, ks, sv, kz, ku, cb1, g1, q, rg_ g1, so, sv, tl, su, qu, wa, nI i, x1, rfl, b4, KB_cb hK b2, Or.inr ⟨i, hi, rfl, rfl, hs1, hu, rfl, b3⟩⟩
  · have esv := hK.2.2.1
    subst esv
    have hK1 : KB uz ul ks sv kz ku cb1 cb1 so sv tl su qu wa := KB_cb hK b2
    obtain ⟨kr1, kr', uz1, uz', ul1, ul', ks1, ks', ku', g', rg', so', tl', su', qu', wa', ru', e1, e2, e3, e4, e5⟩ := end_ok (g := g1) (rg := rg_ g0) (kr := some i) (ru := nI i) hK1 hi (Or.inr ⟨i, hi, rfl, rfl, fun j hj _ q => hu j hj q, fun e => absurd rfl e, fun e => absurd rfl e, g0, rfl⟩) 255 1
    refine ⟨-2, 1, true, cb1, g1, kr', uz', ul', ks', sv, kz, ku', cb1, g', q, rg', so', sv, tl', su', qu', wa', ru', x1, ?_, ?_, e4, e5⟩
    · show ((tc_K_end i 255 (some i) uz ul ks ku).bind _) = _
      rw [e1, Option.bind_some]
      unfold tc_K_settle_j42
      dsimp only
      rw [e2]
      rfl
    · rw [show mo_instruction cb (rg_ g) so sv tl su qu wa (nI i) sp iv = _ from b4, e3]
      rfl
  · have hg1 : og_ (g.1, g.2.1, g.2.2.1, g.2.2.2.1, g.2.2.2.2.1, g.2.2.2.2.2.1, g.2.2.2.2.2.2.1, g.2.2.2.2.2.2.2.1, (g.2.2.2.2.2.2.2.2 + 2) &&& 65535) := ⟨hg.1, hg.2.1, hg.2.2.1, hg.2.2.2.1, hg.2.2.2.2.1, hg.2.2.2.2.2.1, hg.2.2.2.2.2.2.1, hg.2.2.2.2.2.2.2.1, rw_and _⟩
    obtain ⟨n, hn, en⟩ := rd_ok hB ((g.2.2.2.2.2.2.2.2 + 1) &&& 65535)
    have hv1 : ¬ r = -1 := by rw [b1, en]; exact nq_m1 hn
    have hv2 : ¬ r = -2 := by rw [b1, en]; exact nq_m2 hn
    obtain ⟨kr', uz', ul', ks', kv', kz', ku', cb', g', q', rg', so', sv', tl', su', qu', wa', ru', c1, c2, c3, c4⟩ := kcall (g := (g.1, g.2.1, g.2.2.1, g.2.2.2.1, g.2.2.2.2.1, g.2.2.2.2.2.1, g.2.2.2.2.2.2.1, g.2.2.2.2.2.2.2.1, (g.2.2.2.2.2.2.2.2 + 2) &&& 65535)) hK hi hs1 hu hg1 r 2 hv1 hv2 q
    refine ⟨r, 2, false, cb1, (g.1, g.2.1, g.2.2.1, g.2.2.2.1, g.2.2.2.2.1, g.2.2.2.2.2.1, g.2.2.2.2.2.2.1, g.2.2.2.2.2.2.2.1, (g.2.2.2.2.2.2.2.2 + 2) &&& 65535), kr', uz', ul', ks', kv', kz', ku', cb', g', q', rg', so', sv', tl', su', qu', wa', ru', x1, c1, ?_, c3, c4⟩
    rw [show mo_instruction cb1 (rg_ g) so sv tl su qu wa (nI i) sp iv = _ from b4, kq_eq, ← b1, show ((g.2.2.2.2.2.2.2.2 + 1) &&& 65535) + 1 &&& 65535 = (g.2.2.2.2.2.2.2.2 + 2) &&& 65535 from and_12 _, show (1 : Int32) + 1 = 2 by decide]
    rw [show kq_ r cb1 (rf_ g.1 g.2.1 g.2.2.1 g.2.2.2.1 g.2.2.2.2.1 g.2.2.2.2.2.1 g.2.2.2.2.2.2.1 g.2.2.2.2.2.2.2.1 ((g.2.2.2.2.2.2.2.2 + 2) &&& 65535)) so sv tl su qu wa (nI i) 2 = _ from c2]
    rfl
/-- behind the tick -/
theorem rj_ok {f : Nat} {v1 v2 pe : Int32} (hK : KB uz ul ks kv kz ku cb cb so sv tl su qu wa) (hR : RN kr ru ks g rg) (q : R9) (py po re pa se lo sp : Int32) (pn iv : Bool) (h0 : pe = 0 → re = 0) (ih : ∀ (uz : Int32) (ul : Nat → Option Nat) (ks kv kz ku cb : Nat → Int32) (so sv tl su qu : Nat → Int32) (wa : Int32) (kr : Option Nat) (ru : Int32) (g : R9) (rg : Nat → Int32) (q : R9) (py po re pa se lo sp : Int32) (pn iv : Bool), KB uz ul ks kv kz ku cb cb so sv tl su qu wa → RN kr ru ks g rg → (pe = 0 → re = 0) → rn_ok pe (tc_T_run_l15 (f + 1) v1 (v2 + 1) kr uz ul ks kv kz ku cb g.1 g.2.1 g.2.2.1 g.2.2.2.1 g.2.2.2.2.1 g.2.2.2.2.2.1 g.2.2.2.2.2.2.1 g.2.2.2.2.2.2.2.1 g.2.2.2.2.2.2.2.2 q.1 q.2.1 q.2.2.1 q.2.2.2.1 q.2.2.2.2.1 q.2.2.2.2.2.1 q.2.2.2.2.2.2.1 q.2.2.2.2.2.2.2.1 q.2.2.2.2.2.2.2.2 py po pe re pa se lo pn) (mo_run_l17 (f + 1) v1 (v2 + 1) true cb rg so sv tl su qu wa ru pe re pn lo se pa sp iv)) : rn_ok pe (tc_T_run_j54 (tc_T_run_l15 (f + 1)) v1 v2 kr uz ul ks kv kz ku cb g.1 g.2.1 g.2.2.1 g.2.2.2.1 g.2.2.2.2.1 g.2.2.2.2.2.1 g.2.2.2.2.2.2.1 g.2.2.2.2.2.2.2.1 g.2.2.2.2.2.2.2.2 q.1 q.2.1 q.2.2.1 q.2.2.2.1 q.2.2.2.2.1 q.2.2.2.2.2.1 q.2.2.2.2.2.2.1 q.2.2.2.2.2.2.2.1 q.2.2.2.2.2.2.2.2 py po pe re pa se lo pn) (mo_run_j53 (mo_run_l17 (f + 1)) v1 v2 true cb rg so sv tl su qu wa ru pe re pn lo se pa sp iv) := by
  have hR0 := hR
  have eone : ∀ (x : Int32), x + Int32.ofInt 1 = x + 1 := fun x => rfl
  rcases hR with ⟨rfl, rfl, h3, g0, rfl⟩ | ⟨i, hi, rfl, rfl, h4, h5, rfl, h7⟩
  · have em : mo_run_j53 (mo_run_l17 (f + 1)) v1 v2 true cb (rg_ g0) so sv tl su qu wa (-1) pe re pn lo se pa sp iv = (if pe ≤ 0 then mo_run_j95 (mo_run_l17 (f + 1)) v1 v2 false cb (rg_ g0) so sv tl su qu wa (-1) pe re pn lo se pa sp iv else (mo_pass re pe re pn lo pa).bind fun z11 => mo_run_j95 (mo_run_l17 (f + 1)) v1 v2 true cb (rg_ g0) so sv tl su qu wa (-1) pe z11.1 z11.2.1 z11.2.2.1 se z11.2.2.2 sp iv) := by
      unfold mo_run_j53
      rw [if_pos (show (-1 : Int32) < 0 by decide)]
    rw [em]
    show rn_ok pe (if pe ≤ 0 then _ else _) _
    by_cases hp : pe ≤ 0
    · rw [if_pos hp, if_pos hp]
      refine ⟨v2, none, uz, ul, ks, kv, kz, ku, cb, g, q, py, po, re, pa, se, lo, pn, rg_ g0, so, sv, tl, su, qu, wa, -1, sp, iv, rfl, ?_, hK, hR0, h0⟩
      unfold mo_run_j95 mo_run_j105
      rw [if_pos (show bz_i false = 0 from rfl), show bz_i false = 0 from rfl, i_a0, mo_run_l17_s, if_pos (show bz_i false = 0 from rfl)]
      by_cases h : v1 ≤ v2
      · rw [if_pos h]
      · rw [if_neg h]
    · rw [if_neg hp, if_neg hp]
      obtain ⟨re', pn', lo', pa', p1, p2, p3⟩ := pass_ok re pe re pn lo pa
      rw [p1, p2, Option.bind_some, Option.bind_some]
      unfold mo_run_j95 mo_run_j105 tc_T_run_j124
      rw [if_neg (show ¬ bz_i true = 0 by decide), show bz_i true = 1 from rfl, eone]
      exact ih _ _ _ _ _ _ _ _ _ _ _ _ _ _ _ _ _ _ _ _ _ _ _ _ _ _ _ hK hR0 (fun e => (p3 e).trans (h0 e))
  · obtain ⟨r, py', iv', cb1, g1, kr', uz', ul', ks', kv', kz', ku', cb', g', q', rg', so', sv', tl', su', qu', wa', ru', x1, x2, x3, x4, x5⟩ := step_ok hK hi h4 h5 h7 py po sp iv q
    have em : mo_run_j53 (mo_run_l17 (f + 1)) v1 v2 true cb (rg_ g) so sv tl su qu wa (nI i) pe re pn lo se pa sp iv = (mo_instruction cb (rg_ g) so sv tl su qu wa (nI i) sp iv).bind fun z12 => (mo_pass z12.2.2.2.2.2.2.2.2.2.1 pe re pn lo pa).bind fun z13 => mo_run_j95 (mo_run_l17 (f + 1)) v1 v2 true z12.1 z12.2.1 z12.2.2.1 z12.2.2.2.1 z12.2.2.2.2.1 z12.2.2.2.2.2.1 z12.2.2.2.2.2.2.1 z12.2.2.2.2.2.2.2.1 z12.2.2.2.2.2.2.2.2.1 pe z13.1 z13.2.1 z13.2.2.1 se z13.2.2.2 z12.2.2.2.2.2.2.2.2.2.1 z12.2.2.2.2.2.2.2.2.2.2 := by
      unfold mo_run_j53
      rw [if_neg (show ¬ nI i < 0 from Int32.not_lt.mpr (nI_pos' (by omega)))]
    rw [em, x3, Option.bind_some]
    show rn_ok pe ((tc_P_execute py po cb g.1 g.2.1 g.2.2.1 g.2.2.2.1 g.2.2.2.2.1 g.2.2.2.2.2.1 g.2.2.2.2.2.2.1 g.2.2.2.2.2.2.2.1 g.2.2.2.2.2.2.2.2).bind _) _
    rw [x1, Option.bind_some]
    dsimp only
    rw [x2, Option.bind_some]
    obtain ⟨re', pn', lo', pa', p1, p2, p3⟩ := pass_ok py' pe re pn lo pa
    rw [p1, p2, Option.bind_some, Option.bind_some]
    unfold mo_run_j95 mo_run_j105 tc_T_run_j124
    rw [if_neg (show ¬ bz_i true = 0 by decide), show bz_i true = 1 from rfl, eone]
    exact ih _ _ _ _ _ _ _ _ _ _ _ _ _ _ _ _ _ _ _ _ _ _ _ _ _ _ _ x4 x5 (fun e => (p3 e).trans (h0 e))
end RR
theorem run_loop (pe : Int32) (N : Nat) (hN : N ≤ 400) : ∀ (r : Nat), r ≤ N → ∀ (f : Nat), r < f → ∀ (uz : Int32) (ul : Nat → Option Nat) (ks kv kz ku cb : Nat → Int32) (so sv tl su qu : Nat → Int32) (wa : Int32) (kr : Option Nat) (ru : Int32) (g : R9) (rg : Nat → Int32) (q : R9) (py po re pa se lo sp : Int32) (pn iv : Bool), KB uz ul ks kv kz ku cb cb so sv tl su qu wa → RN kr ru ks g rg → (pe = 0 → re = 0) → rn_ok pe (tc_T_run_l15 f (nI N) (nI (N - r)) kr uz ul ks kv kz ku cb g.1 g.2.1 g.2.2.1 g.2.2.2.1 g.2.2.2.2.1 g.2.2.2.2.2.1 g.2.2.2.2.2.2.1 g.2.2.2.2.2.2.2.1 g.2.2.2.2.2.2.2.2 q.1 q.2.1 q.2.2.1 q.2.2.2.1 q.2.2.2.2.1 q.2.2.2.2.2.1 q.2.2.2.2.2.2.1 q.2.2.2.2.2.2.2.1 q.2.2.2.2.2.2.2.2 py po pe re pa se lo pn) (mo_run_l17 f (nI N) (nI (N - r)) true cb rg so sv tl su qu wa ru pe re pn lo se pa sp iv) := by
  intro r
  induction r with
  | zero =>
    intro _ f hf uz ul ks kv kz ku cb so sv tl su qu wa kr ru g rg q py po re pa se lo sp pn iv hK hR h0
    obtain ⟨f, rfl⟩ : ∃ k, f = k + 1 := ⟨f - 1, by omega⟩
    rw [tc_T_run_l15_s, mo_run_l17_s, if_pos (show nI N ≤ nI (N - 0) from Int32.le_refl _), if_pos (show nI N ≤ nI (N - 0) from Int32.le_refl _)]
    exact ⟨nI N, kr, uz, ul, ks, kv, kz, ku, cb, g, q, py, po, re, pa, se, lo, pn, rg, so, sv, tl, su, qu, wa, ru, sp, iv, rfl, rfl, hK, hR, h0⟩
  | succ r ih =>
    intro hr f hf uz ul ks kv kz ku cb so sv tl su qu wa kr ru g rg q py po re pa se lo sp pn iv hK hR h0
    obtain ⟨f, rfl⟩ : ∃ k, f = k + 1 + 1 := ⟨f - 2, by omega⟩
    have hn : ¬ nI N ≤ nI (N - (r + 1)) := by
      rw [nI_leI (by omega) (by omega)]
      omega
    have ih2 := ih (by omega) (f + 1) (by omega)
    rw [show nI (N - r) = nI (N - (r + 1)) + 1 by rw [show N - r = N - (r + 1) + 1 by omega]; exact (nI_1 _).symm] at ih2
    rw [tc_T_run_l15_s, mo_run_l17_s, if_neg hn, if_neg hn, if_neg (show ¬ bz_i true = 0 by decide)]
    cases pn with
    | false =>
      rw [if_pos (show bz_i false = 0 from rfl), if_pos (show bz_i false = 0 from rfl)]
      exact rj_ok hK hR q py po re pa se lo sp false iv h0 ih2
    | true =>
      rw [if_neg (show ¬ bz_i true = 0 by decide), if_neg (show ¬ bz_i true = 0 by decide)]
      have srv : rn_ok pe ((tc_I_countServed se true).bind fun z22 => (tc_K_serveTick kr uz ul ks kv kz cb g.1 g.2.1 g.2.2.1 g.2.2.2.1 g.2.2.2.2.1 g.2.2.2.2.2.1 g.2.2.2.2.2.2.1 g.2.2.2.2.2.2.2.1 g.2.2.2.2.2.2.2.2).bind fun z23 => tc_T_run_j54 (tc_T_run_l15 (f + 1)) (nI N) (nI (N - (r + 1))) z23.1 z23.2.1 z23.2.2.1 z23.2.2.2.1 z23.2.2.2.2.1 z23.2.2.2.2.2.1 ku z23.2.2.2.2.2.2.1 z23.2.2.2.2.2.2.2.1 z23.2.2.2.2.2.2.2.2.1 z23.2.2.2.2.2.2.2.2.2.1 z23.2.2.2.2.2.2.2.2.2.2.1 z23.2.2.2.2.2.2.2.2.2.2.2.1 z23.2.2.2.2.2.2.2.2.2.2.2.2.1 z23.2.2.2.2.2.2.2.2.2.2.2.2.2.1 z23.2.2.2.2.2.2.2.2.2.2.2.2.2.2.1 z23.2.2.2.2.2.2.2.2.2.2.2.2.2.2.2 q.1 q.2.1 q.2.2.1 q.2.2.2.1 q.2.2.2.2.1 q.2.2.2.2.2.1 q.2.2.2.2.2.2.1 q.2.2.2.2.2.2.2.1 q.2.2.2.2.2.2.2.2 py po pe re pa z22.1 lo z22.2) (mo_run_j49 (mo_run_l17 (f + 1)) (nI N) (nI (N - (r + 1))) true cb rg so sv tl su qu wa ru pe re true lo se pa sp iv) := by
        obtain ⟨kr', uz', ul', ks', kv', kz', cb', g', rg', so', sv', tl', qu', wa', ru', s1, s2, s3, s4⟩ := serve_ok hK hR true se sp
        unfold tc_I_countServed mo_run_j49
        rw [Option.bind_some, s1, s2, Option.bind_some, Option.bind_some]
        exact rj_ok s3 s4 q py po re pa (se + 1) lo sp false iv h0 ih2
      have hR0 := hR
      rcases hR with ⟨rfl, rfl, h3, g0, rfl⟩ | ⟨i, hi, rfl, rfl, h4, h5, rfl, h7⟩
      · rw [if_pos (show (-1 : Int32) < 0 by decide), show tc_K_canServe none g.2.2.2.1 = some true from rfl, Option.bind_some, if_neg (show ¬ bz_i true = 0 by decide)]
        exact srv
      · rw [if_neg (show ¬ nI i < 0 from Int32.not_lt.mpr (nI_pos' (by omega))), show mo_flag 16 (rg_ g) = _ from mo_flag_eq 16 _ _ _ _ _ _ _ _ _, Option.bind_some]
        by_cases h16 : g.2.2.2.1 &&& 16 = 0
        · have e1 : tc_K_canServe (some i) g.2.2.2.1 = some true := by
            show ((tc_G_has 16 g.2.2.2.1).bind _) = _
            unfold tc_G_has
            rw [if_pos h16]
            rfl
          rw [e1, Option.bind_some, if_neg (show ¬ bz_i true = 0 by decide), show decide (¬ (g.2.2.2.1 &&& 16) = 0) = false from decide_eq_false (fun e => e h16), if_pos (show bz_i false = 0 from rfl)]
          exact srv
        · have e1 : tc_K_canServe (some i) g.2.2.2.1 = some false := by
            show ((tc_G_has 16 g.2.2.2.1).bind _) = _
            unfold tc_G_has
            rw [if_neg h16]
            rfl
          rw [e1, Option.bind_some, if_pos (show bz_i false = 0 from rfl), show decide (¬ (g.2.2.2.1 &&& 16) = 0) = true from decide_eq_true h16, if_neg (show ¬ bz_i true = 0 by decide)]
          exact rj_ok hK hR0 q py po re pa se lo sp true iv h0 ih2
theorem run_ok {pe : Int32} {uz : Int32} {ul : Nat → Option Nat} {ks kv kz ku cb : Nat → Int32} {so sv tl su qu : Nat → Int32} {wa : Int32} {kr : Option Nat} {ru : Int32} {g : R9} {rg : Nat → Int32} (hK : KB uz ul ks kv kz ku cb cb so sv tl su qu wa) (hR : RN kr ru ks g rg) (n : Int32) (q : R9) (py po re pa se lo sp : Int32) (pn iv : Bool) (h0 : pe = 0 → re = 0) : rn_ok pe (tc_T_run n kr uz ul ks kv kz ku cb g.1 g.2.1 g.2.2.1 g.2.2.2.1 g.2.2.2.2.1 g.2.2.2.2.2.1 g.2.2.2.2.2.2.1 g.2.2.2.2.2.2.2.1 g.2.2.2.2.2.2.2.2 q.1 q.2.1 q.2.2.1 q.2.2.2.1 q.2.2.2.2.1 q.2.2.2.2.2.1 q.2.2.2.2.2.2.1 q.2.2.2.2.2.2.2.1 q.2.2.2.2.2.2.2.2 py po pe re pa se lo pn) (mo_run n cb rg so sv tl su qu wa ru pe re pn lo se pa sp iv) := by
  have none_ : rn_ok pe (some (-1, kr, uz, ul, ks, kv, kz, ku, cb, g.1, g.2.1, g.2.2.1, g.2.2.2.1, g.2.2.2.2.1, g.2.2.2.2.2.1, g.2.2.2.2.2.2.1, g.2.2.2.2.2.2.2.1, g.2.2.2.2.2.2.2.2, q.1, q.2.1, q.2.2.1, q.2.2.2.1, q.2.2.2.2.1, q.2.2.2.2.2.1, q.2.2.2.2.2.2.1, q.2.2.2.2.2.2.2.1, q.2.2.2.2.2.2.2.2, py, po, re, pa, se, lo, pn)) (some (-1, cb, rg, so, sv, tl, su, qu, wa, ru, re, pn, lo, se, pa, sp, iv)) := ⟨-1, kr, uz, ul, ks, kv, kz, ku, cb, g, q, py, po, re, pa, se, lo, pn, rg, so, sv, tl, su, qu, wa, ru, sp, iv, rfl, rfl, hK, hR, h0⟩
  unfold tc_T_run mo_run
  by_cases h1 : n < 0
  · rw [if_pos h1, if_pos h1]
    exact none_
  · rw [if_neg h1, if_neg h1]
    by_cases h2 : n ≤ 400
    · rw [if_pos h2, if_pos h2]
      obtain ⟨N, hN, rfl⟩ := nq_of h1 h2
      have := run_loop pe N hN N (Nat.le_refl _) 401 (by omega) uz ul ks kv kz ku cb so sv tl su qu wa kr ru g rg q py po re pa se lo sp pn iv hK hR h0
      rw [Nat.sub_self] at this
      exact this
    · rw [if_neg h2, if_neg h2]
      exact none_
end
section
/-! What the methods answer, of the class and of the reference, one by one. -/
theorem nq_le {n : Int32} (K : Nat) (hK : K < 2 ^ 31) (h1 : ¬ n < 0) (h2 : n ≤ nI K) : ∃ N : Nat, N ≤ K ∧ n = nI N := by
  rw [Int32.lt_iff_toInt_lt] at h1
  rw [Int32.le_iff_toInt_le, nI_toInt hK] at h2
  have e0 : (0 : Int32).toInt = 0 := by decide
  rw [e0] at h1
  refine ⟨n.toInt.toNat, by omega, ?_⟩
  apply Int32.toInt_inj.mp
  rw [nI_toInt (by omega)]
  omega
theorem rd_nI (me : Nat → Int32) {n : Nat} (h : n < 512) : rd_ me (nI n) = me n := by
  unfold rd_
  rw [nI_w (by omega), if_neg (by rw [nI_512 (by omega)]; omega), nI_clamp (by omega)]
theorem ta_ok (x : Int32) : (∃ t, t < 4 ∧ x = nI t ∧ tc_K_taskAt x = some (some t) ∧ mo_noTask x = some false ∧ in_b x 4 = true ∧ x.toNatClampNeg = t) ∨ (tc_K_taskAt x = some none ∧ mo_noTask x = some true) := by
  unfold tc_K_taskAt mo_noTask mo_noTask_j9
  by_cases h1 : x < 0
  · rw [if_pos h1, if_pos h1]
    exact Or.inr ⟨rfl, rfl⟩
  · rw [if_neg h1, if_neg h1]
    by_cases h2 : x ≤ 3
    · obtain ⟨t, ht, rfl⟩ := nq_le 3 (by decide) h1 h2
      have hin : in_b (nI t) 4 = true := in_nI (by omega) (by decide)
      have h4 : ¬ (4 : Int32) ≤ nI t := by
        rw [show (4 : Int32) = nI 4 by decide, nI_leI (by omega) (by omega)]
        omega
      rw [if_pos h2, if_neg h4, if_pos hin, nI_clamp (by omega)]
      exact Or.inl ⟨t, by omega, rfl, rfl, rfl, hin, rfl⟩
    · have h4 : (4 : Int32) ≤ x := by
        rw [Int32.le_iff_toInt_le] at h2 ⊢
        have e3 : (3 : Int32).toInt = 3 := by decide
        have e4 : (4 : Int32).toInt = 4 := by decide
        omega
      rw [if_neg h2, if_pos h4]
      exact Or.inr ⟨rfl, rfl⟩
theorem ho_ok (x : Int32) : (∃ n, n < 512 ∧ x = nI n ∧ tc_Y_holds x = some true ∧ ¬ x < 0 ∧ x ≤ 511) ∨ (tc_Y_holds x = some false ∧ (x < 0 ∨ (¬ x < 0 ∧ 511 < x))) := by
  unfold tc_Y_holds
  by_cases h1 : x < 0
  · rw [if_pos h1]
    exact Or.inr ⟨rfl, Or.inl h1⟩
  · rw [if_neg h1]
    by_cases h2 : x ≤ 511
    · obtain ⟨t, ht, rfl⟩ := nq_le 511 (by decide) h1 h2
      have h4 : ¬ (512 : Int32) ≤ nI t := by
        rw [show (512 : Int32) = nI 512 by decide, nI_leI (by omega) (by omega)]
        omega
      rw [if_neg h4]
      exact Or.inl ⟨t, by omega, rfl, rfl, h1, h2⟩
    · have h4 : (512 : Int32) ≤ x := by
        rw [Int32.le_iff_toInt_le] at h2 ⊢
        have e3 : (511 : Int32).toInt = 511 := by decide
        have e4 : (512 : Int32).toInt = 512 := by decide
        omega
      rw [if_pos h4]
      exact Or.inr ⟨rfl, Or.inr ⟨h1, Int32.not_le.mp h2⟩⟩
theorem poke_ok {cb : Nat → Int32} (hB : okB cb) (a v : Int32) : ∃ (r : Int32) (cb' : Nat → Int32), tc_T_poke a v cb = some (r, cb') ∧ mo_poke a v cb = some (r, cb') ∧ okB cb' := by
  unfold tc_T_poke mo_poke
  rcases ho_ok a with ⟨n, hn, rfl, e1, e2, e3⟩ | ⟨e1, e2⟩
  · rw [e1, Option.bind_some, if_neg (show ¬ bz_i true = 0 by decide), if_neg e2, if_neg (Int32.not_lt.mpr e3)]
    by_cases h1 : v < 0
    · rw [if_pos h1, if_pos h1]
      exact ⟨-1, cb, rfl, rfl, hB⟩
    · rw [if_neg h1, if_neg h1]
      by_cases h2 : v ≤ 255
      · obtain ⟨t, ht, rfl⟩ := nq_le 255 (by decide) h1 h2
        rw [if_pos h2, if_pos h2, if_pos (in_nI hn (by decide)), nI_clamp (by omega), tc_load1, Option.bind_some, tc_store1, Option.bind_some, rd_nI _ hn, wr_nI _ hn, nI_b (by omega)]
        refine ⟨cb n, upd cb n (nI t), rfl, rfl, ?_⟩
        intro j
        unfold upd
        split
        · exact ⟨t, by omega, rfl⟩
        · exact hB j
      · rw [if_neg h2, if_neg h2]
        exact ⟨-1, cb, rfl, rfl, hB⟩
  · rw [e1, Option.bind_some, if_pos (show bz_i false = 0 from rfl)]
    refine ⟨-1, cb, rfl, ?_, hB⟩
    rcases e2 with h | ⟨h, h2⟩
    · rw [if_pos h]
    · rw [if_neg h, if_pos h2]
theorem peek_ok {cb : Nat → Int32} (a : Int32) : ∃ (r : Int32), tc_T_peek a cb = some r ∧ mo_peek a cb = some r := by
  unfold tc_T_peek mo_peek mo_peek_j11
  rcases ho_ok a with ⟨n, hn, rfl, e1, e2, e3⟩ | ⟨e1, e2⟩
  · rw [e1, Option.bind_some, if_neg (show ¬ bz_i true = 0 by decide), if_neg e2, if_pos e3, if_pos (in_nI hn (by decide)), nI_clamp (by omega), tc_load1, Option.bind_some, rd_nI _ hn]
    exact ⟨_, rfl, rfl⟩
  · rw [e1, Option.bind_some, if_pos (show bz_i false = 0 from rfl)]
    refine ⟨-1, rfl, ?_⟩
    rcases e2 with h | ⟨h, h2⟩
    · rw [if_pos h]
    · rw [if_neg h, if_neg (Int32.not_le.mpr h2)]
section OU
variable {uz : Int32} {ul : Nat → Option Nat} {ks kv kz ku cb : Nat → Int32} {so sv tl su qu : Nat → Int32} {wa : Int32} {kr : Option Nat} {ru : Int32} {g : R9} {rg : Nat → Int32}
theorem start_ok (hK : KB uz ul ks kv kz ku cb cb so sv tl su qu wa) (hR : RN kr ru ks g rg) (x p a sp : Int32) (q : R9) : ∃ (b : Bool) (kr' : Option Nat) (uz' : Int32) (ul' : Nat → Option Nat) (ks' kv' cb' : Nat → Int32) (g' q' : R9) (rg' so' sv' qu' : Nat → Int32) (wa' ru' sp' : Int32), tc_T_start x p a kr uz ul ks kv cb g.1 g.2.1 g.2.2.1 g.2.2.2.1 g.2.2.2.2.1 g.2.2.2.2.2.1 g.2.2.2.2.2.2.1 g.2.2.2.2.2.2.2.1 g.2.2.2.2.2.2.2.2 q.1 q.2.1 q.2.2.1 q.2.2.2.1 q.2.2.2.2.1 q.2.2.2.2.2.1 q.2.2.2.2.2.2.1 q.2.2.2.2.2.2.2.1 q.2.2.2.2.2.2.2.2 = some (b, kr', uz', ul', ks', kv', cb', g'.1, g'.2.1, g'.2.2.1, g'.2.2.2.1, g'.2.2.2.2.1, g'.2.2.2.2.2.1, g'.2.2.2.2.2.2.1, g'.2.2.2.2.2.2.2.1, g'.2.2.2.2.2.2.2.2, q') ∧ mo_start x p a cb rg so sv qu wa ru sp = some (b, cb', rg', so', sv', qu', wa', ru', sp') ∧ KB uz' ul' ks' kv' kz ku cb' cb' so' sv' tl su qu' wa' ∧ RN kr' ru' ks' g' rg' := by
  have no : ∃ (b : Bool) (kr' : Option Nat) (uz' : Int32) (ul' : Nat → Option Nat) (ks' kv' cb' : Nat → Int32) (g' q' : R9) (rg' so' sv' qu' : Nat → Int32) (wa' ru' sp' : Int32), some (false, kr, uz, ul, ks, kv, cb, g.1, g.2.1, g.2.2.1, g.2.2.2.1, g.2.2.2.2.1, g.2.2.2.2.2.1, g.2.2.2.2.2.2.1, g.2.2.2.2.2.2.2.1, g.2.2.2.2.2.2.2.2, q.1, q.2.1, q.2.2.1, q.2.2.2.1, q.2.2.2.2.1, q.2.2.2.2.2.1, q.2.2.2.2.2.2.1, q.2.2.2.2.2.2.2.1, q.2.2.2.2.2.2.2.2) = some (b, kr', uz', ul', ks', kv', cb', g'.1, g'.2.1, g'.2.2.1, g'.2.2.2.1, g'.2.2.2.2.1, g'.2.2.2.2.2.1, g'.2.2.2.2.2.2.1, g'.2.2.2.2.2.2.2.1, g'.2.2.2.2.2.2.2.2, q') ∧ some (false, cb, rg, so, sv, qu, wa, ru, sp) = some (b, cb', rg', so', sv', qu', wa', ru', sp') ∧ KB uz' ul' ks' kv' kz ku cb' cb' so' sv' tl su qu' wa' ∧ RN kr' ru' ks' g' rg' := ⟨false, kr, uz, ul, ks, kv, cb, g, q, rg, so, sv, qu, wa, ru, sp, rfl, rfl, hK, hR⟩
  have eso := hK.2.1
  subst eso
  unfold tc_T_start mo_start
  rcases ta_ok x with ⟨t, ht, rfl, e1, e2, e3, e4⟩ | ⟨e1, e2⟩
  · rw [e1, e2, Option.bind_some, Option.bind_some, if_pos (show bz_i false = 0 from rfl), if_pos e3, e4]
    show ∃ (b : Bool) (kr' : Option Nat) (uz' : Int32) (ul' : Nat → Option Nat) (ks' kv' cb' : Nat → Int32) (g' q' : R9) (rg' so' sv' qu' : Nat → Int32) (wa' ru' sp' : Int32), (if t < 4 then _ else _) = _ ∧ _
    rw [if_pos ht]
    by_cases h0 : so t = 0
    · rw [if_pos h0, if_pos h0]
      by_cases c1 : p < 0
      · rw [if_pos c1, if_pos c1]
        exact no
      rw [if_neg c1, if_neg c1]
      by_cases c2 : 65535 < p
      · rw [if_pos c2, if_pos c2]
        exact no
      rw [if_neg c2, if_neg c2]
      by_cases c3 : a < 0
      · rw [if_pos c3, if_pos c3]
        exact no
      rw [if_neg c3, if_neg c3]
      by_cases c4 : a ≤ 255
      · rw [if_pos c4, if_pos c4]
        obtain ⟨uz1, ul1, cb1, q1, qu1, wa1, b1, b2, b3⟩ := bg_ok hK ht h0 p a q
        rw [b1, b2, Option.bind_some, Option.bind_some]
        dsimp only
        have hR1 : RN kr ru (upd so t 2) g rg := RN_ks hR (by rw [h0]; decide) (by decide)
        obtain ⟨kr', uz', ul', ks', g', rg', so', qu', wa', ru', n1, n2, n3, n4⟩ := nx_ok b3 hR1 sp
        rw [n1, n2, Option.bind_some, Option.bind_some]
        exact ⟨true, kr', uz', ul', ks', _, cb1, g', q1, rg', so', _, qu', wa', ru', sp, rfl, rfl, n3, n4⟩
      · rw [if_neg c4, if_neg c4]
        exact no
    · rw [if_neg h0, if_neg h0]
      exact no
  · rw [e1, e2, Option.bind_some, Option.bind_some, if_neg (show ¬ bz_i true = 0 by decide)]
    exact no
theorem stop_ok (hK : KB uz ul ks kv kz ku cb cb so sv tl su qu wa) (hR : RN kr ru ks g rg) (x sp : Int32) : ∃ (b : Bool) (kr' : Option Nat) (uz' : Int32) (ul' : Nat → Option Nat) (ks' ku' : Nat → Int32) (g' : R9) (rg' so' tl' su' qu' : Nat → Int32) (wa' ru' sp' : Int32), tc_T_stop x kr uz ul ks kv ku cb g.1 g.2.1 g.2.2.1 g.2.2.2.1 g.2.2.2.2.1 g.2.2.2.2.2.1 g.2.2.2.2.2.2.1 g.2.2.2.2.2.2.2.1 g.2.2.2.2.2.2.2.2 = some (b, kr', uz', ul', ks', ku', g') ∧ mo_stop x cb rg so sv tl su qu wa ru sp = some (b, rg', so', tl', su', qu', wa', ru', sp') ∧ KB uz' ul' ks' kv kz ku' cb cb so' sv tl' su' qu' wa' ∧ RN kr' ru' ks' g' rg' := by
  have no : ∃ (b : Bool) (kr' : Option Nat) (uz' : Int32) (ul' : Nat → Option Nat) (ks' ku' : Nat → Int32) (g' : R9) (rg' so' tl' su' qu' : Nat → Int32) (wa' ru' sp' : Int32), some (false, kr, uz, ul, ks, ku, g.1, g.2.1, g.2.2.1, g.2.2.2.1, g.2.2.2.2.1, g.2.2.2.2.2.1, g.2.2.2.2.2.2.1, g.2.2.2.2.2.2.2.1, g.2.2.2.2.2.2.2.2) = some (b, kr', uz', ul', ks', ku', g') ∧ some (false, rg, so, tl, su, qu, wa, ru, sp) = some (b, rg', so', tl', su', qu', wa', ru', sp') ∧ KB uz' ul' ks' kv kz ku' cb cb so' sv tl' su' qu' wa' ∧ RN kr' ru' ks' g' rg' := ⟨false, kr, uz, ul, ks, ku, g, rg, so, tl, su, qu, wa, ru, sp, rfl, rfl, hK, hR⟩
  have eso := hK.2.1
  subst eso
  unfold tc_T_stop mo_stop
  rcases ta_ok x with ⟨t, ht, rfl, e1, e2, e3, e4⟩ | ⟨e1, e2⟩
  · rw [e1, e2, Option.bind_some, Option.bind_some, if_pos (show bz_i false = 0 from rfl), if_pos e3, e4]
    show ∃ (b : Bool) (kr' : Option Nat) (uz' : Int32) (ul' : Nat → Option Nat) (ks' ku' : Nat → Int32) (g' : R9) (rg' so' tl' su' qu' : Nat → Int32) (wa' ru' sp' : Int32), (if t < 4 then _ else _) = _ ∧ _
    rw [if_pos ht]
    by_cases h0 : so t = 0
    · rw [if_pos h0, if_pos h0]
      exact no
    · rw [if_neg h0, if_neg h0]
      have hR2 : (kr = none ∧ ru = -1 ∧ (∀ i, i < 4 → i ≠ t → so i ≠ 1) ∧ ∃ g0 : R9, rg = rg_ g0) ∨ (∃ i, i < 4 ∧ kr = some i ∧ ru = nI i ∧ (∀ j, j < 4 → j ≠ t → so j = 1 → j = i) ∧ (i ≠ t → so i = 1) ∧ (i ≠ t → rg = rg_ g ∧ og_ g) ∧ ∃ g0 : R9, rg = rg_ g0) := by
        rcases hR with ⟨r1, r2, r3, r4⟩ | ⟨i, hi, r1, r2, r3, r4, r5, r6⟩
        · exact Or.inl ⟨r1, r2, fun i hi _ => r3 i hi, r4⟩
        · exact Or.inr ⟨i, hi, r1, r2, fun j hj _ h => r4 j hj h, fun _ => r3, fun _ => ⟨r5, r6⟩, g, r5⟩
      obtain ⟨kr1, kr', uz1, uz', ul1, ul', ks1, ks', ku', g', rg', so', tl', su', qu', wa', ru', d1, d2, d3, d4, d5⟩ := end_ok hK ht hR2 254 sp
      rw [d1, Option.bind_some, d3, Option.bind_some]
      dsimp only
      rw [d2, Option.bind_some]
      exact ⟨true, kr', uz', ul', ks', ku', g', rg', so', tl', su', qu', wa', ru', sp, rfl, rfl, d4, d5⟩
  · rw [e1, e2, Option.bind_some, Option.bind_some, if_neg (show ¬ bz_i true = 0 by decide)]
    exact no
theorem timer_ok (x tp tl : Int32) (h : tp = 0 → tl = 0) : ∃ (b : Bool) (p l : Int32), tc_T_timer x tp tl = some (b, p, l) ∧ mo_timer x tp tl = some (b, p, l) ∧ (p = 0 → l = 0) := by
  unfold tc_T_timer mo_timer tc_T_timer_j19 mo_timer_j19
  by_cases h1 : x = 0
  · simp only [if_pos h1]
    exact ⟨true, x, x, rfl, rfl, id⟩
  · simp only [if_neg h1]
    by_cases h2 : x < 16
    · simp only [if_pos h2]
      exact ⟨false, tp, tl, rfl, rfl, h⟩
    · simp only [if_neg h2]
      by_cases h3 : x ≤ 1000
      · simp only [if_pos h3]
        exact ⟨true, x, x, rfl, rfl, id⟩
      · simp only [if_neg h3]
        exact ⟨false, tp, tl, rfl, rfl, h⟩
theorem state_ok (hK : KB uz ul ks kv kz ku cb cb so sv tl su qu wa) (x : Int32) : ∃ r : Int32, tc_T_state x ks = some r ∧ mo_state x so = some r := by
  have eso := hK.2.1
  subst eso
  unfold tc_T_state mo_state
  rcases ta_ok x with ⟨t, ht, rfl, e1, e2, e3, e4⟩ | ⟨e1, e2⟩
  · refine ⟨so t, ?_, ?_⟩
    · rw [e1]
      exact if_pos ht
    · rw [e2, Option.bind_some, if_pos (show bz_i false = 0 from rfl), if_pos e3, e4]
  · rw [e1, e2]
    exact ⟨-1, rfl, rfl⟩
theorem status_ok (hK : KB uz ul ks kv kz ku cb cb so sv tl su qu wa) (x : Int32) : ∃ r : Int32, tc_T_status x ku = some r ∧ mo_status x su = some r := by
  have esu := hK.2.2.2.1
  subst esu
  unfold tc_T_status mo_status
  rcases ta_ok x with ⟨t, ht, rfl, e1, e2, e3, e4⟩ | ⟨e1, e2⟩
  · refine ⟨su t, ?_, ?_⟩
    · rw [e1]
      exact if_pos ht
    · rw [e2, Option.bind_some, if_pos (show bz_i false = 0 from rfl), if_pos e3, e4]
  · rw [e1, e2]
    exact ⟨-1, rfl, rfl⟩
theorem sleeps_ok (hK : KB uz ul ks kv kz ku cb cb so sv tl su qu wa) (x : Int32) : ∃ r : Int32, tc_T_sleeps x ks kz = some r ∧ mo_sleeps x so tl = some r := by
  have eso := hK.2.1
  subst eso
  unfold tc_T_sleeps mo_sleeps
  rcases ta_ok x with ⟨t, ht, rfl, e1, e2, e3, e4⟩ | ⟨e1, e2⟩
  · rw [e1, e2, Option.bind_some, Option.bind_some, if_pos (show bz_i false = 0 from rfl), if_pos e3, e4]
    show ∃ r : Int32, (if t < 4 then _ else _) = _ ∧ _
    rw [if_pos ht]
    by_cases h3 : so t = 3
    · rw [if_pos h3, if_pos h3]
      exact ⟨tl t, by rw [hK.2.2.2.2.2.1 t ht h3], rfl⟩
    · rw [if_neg h3, if_neg h3]
      exact ⟨0, rfl, rfl⟩
  · rw [e1, e2]
    exact ⟨0, rfl, rfl⟩
theorem queued_ok (hK : KB uz ul ks kv kz ku cb cb so sv tl su qu wa) (x : Int32) : ∃ r : Int32, tc_T_queued x uz ul = some r ∧ mo_queued x qu wa = some r := by
  obtain ⟨-, -, -, -, -, -, L, hQ, -⟩ := hK
  have hlen := QL_len hQ
  obtain ⟨q1, q2, q3, q4, q5, q6⟩ := hQ
  unfold tc_T_queued tc_Q_numberAt mo_queued mo_queued_j12
  by_cases h1 : x < 0
  · rw [if_pos h1, if_pos h1]
    exact ⟨-1, rfl, rfl⟩
  · rw [if_neg h1, if_neg h1, q1, q2]
    by_cases h2 : x < nI L.length
    · obtain ⟨n, hn, rfl⟩ := nq_le L.length (by omega) h1 (Int32.le_of_lt h2)
      have hn2 : n < L.length := by
        have := mt (nI_leI (a := L.length) (b := n) (by omega) (by omega)).mpr (Int32.not_le.mpr h2)
        omega
      rw [if_neg (Int32.not_le.mpr h2), if_pos h2, if_pos (in_nI (by omega) (by decide)), if_pos (in_nI (by omega) (by decide)), nI_clamp (by omega), q3 n hn2, q4 n hn2]
      refine ⟨nI (L.getD n 0), ?_, rfl⟩
      show ((if L.getD n 0 < 4 then some (nI (L.getD n 0)) else none).bind _) = _
      rw [if_pos (q6 _ (by rw [List.getD_eq_getElem?_getD, List.getElem?_eq_getElem hn2]; exact List.getElem_mem hn2))]
      rfl
    · rw [if_neg h2, if_pos (Int32.not_lt.mp h2)]
      exact ⟨-1, rfl, rfl⟩
theorem rf_get {y : Int32} (hy : vk_ y) (v : Int32) (hv : okB cb) : (if y = 4 then some ((v + 12) &&& 65535) else (mo_inFrame v y cb).bind fun z7 => some z7) = mo_get y (rf_ (rd_ cb (v + 1)) (rd_ cb (v + 2)) (rd_ cb (v + 3)) (rd_ cb v) (rd2_ cb (v + 4)) (rd2_ cb (v + 6)) (rd2_ cb (v + 8)) ((v + 12) &&& 65535) (rd2_ cb (v + 10))) := by
  have e12 : v + 1 + 1 = v + 2 := by rw [Int32.add_assoc]; rfl
  have e0 : v + 0 = v := i_a0 v
  rcases hy with rfl | rfl | rfl | rfl | rfl | rfl | rfl | rfl | rfl | rfl
  · rw [if_neg (by decide), show mo_inFrame v 0 cb = mo_inFrame_j75 v 0 1 cb from rfl]
    unfold mo_inFrame_j75
    rw [if_neg (by decide), mo_at_eq, mo_at_eq, e12]
    rfl
  · rw [if_neg (by decide), show mo_inFrame v 1 cb = mo_inFrame_j75 v 1 4 cb from rfl]
    unfold mo_inFrame_j75
    rw [if_neg (by decide), mo_at_eq, mo_at_eq]
    rfl
  · rw [if_neg (by decide), show mo_inFrame v 2 cb = mo_inFrame_j75 v 2 6 cb from rfl]
    unfold mo_inFrame_j75
    rw [if_neg (by decide), mo_at_eq, mo_at_eq]
    rfl
  · rw [if_neg (by decide), show mo_inFrame v 3 cb = mo_inFrame_j75 v 3 8 cb from rfl]
    unfold mo_inFrame_j75
    rw [if_neg (by decide), mo_at_eq, mo_at_eq]
    rfl
  · rw [if_pos rfl]
    rfl
  · rw [if_neg (by decide), show mo_inFrame v 5 cb = mo_inFrame_j75 v 5 10 cb from rfl]
    unfold mo_inFrame_j75
    rw [if_neg (by decide), mo_at_eq, mo_at_eq]
    rfl
  · rw [if_neg (by decide), show mo_inFrame v 8 cb = mo_inFrame_j75 v 8 1 cb from rfl]
    unfold mo_inFrame_j75
    rw [if_pos (by decide), mo_at_eq]
    rfl
  · rw [if_neg (by decide), show mo_inFrame v 9 cb = mo_inFrame_j75 v 9 2 cb from rfl]
    unfold mo_inFrame_j75
    rw [if_pos (by decide), mo_at_eq]
    rfl
  · rw [if_neg (by decide), show mo_inFrame v 10 cb = mo_inFrame_j75 v 10 0 cb from rfl]
    unfold mo_inFrame_j75
    rw [if_pos (by decide), mo_at_eq, e0]
    rfl
  · rw [if_neg (by decide), show mo_inFrame v 11 cb = mo_inFrame_j75 v 11 3 cb from rfl]
    unfold mo_inFrame_j75
    rw [if_pos (by decide), mo_at_eq]
    rfl
/-- which registers are there -/
theorem re_ok (y : Int32) : (tc_G_exists y = some true ∧ vk_ y ∧ ¬ y < 0 ∧ ¬ 11 < y ∧ ¬ y = 6 ∧ ¬ y = 7) ∨ (tc_G_exists y = some false ∧ (y < 0 ∨ (¬ y < 0 ∧ 11 < y) ∨ (¬ y < 0 ∧ ¬ 11 < y ∧ y = 6) ∨ (¬ y < 0 ∧ ¬ 11 < y ∧ ¬ y = 6 ∧ y = 7))) := by
  by_cases h1 : y < 0
  · refine Or.inr ⟨?_, Or.inl h1⟩
    unfold tc_G_exists tc_G_exists_j9
    rw [if_pos h1, if_pos]
    rw [Int32.lt_iff_toInt_lt] at h1 ⊢
    have e0 : (0 : Int32).toInt = 0 := by decide
    have e8 : (8 : Int32).toInt = 8 := by decide
    omega
  · by_cases h2 : y ≤ 11
    · obtain ⟨n, hn, rfl⟩ := nq_le 11 (by decide) h1 h2
      have h3 : ¬ 11 < nI n := Int32.not_lt.mpr h2
      have : (vk_ (nI n) ∧ tc_G_exists (nI n) = some true ∧ ¬ nI n = 6 ∧ ¬ nI n = 7) ∨ (tc_G_exists (nI n) = some false ∧ (nI n = 6 ∨ (¬ nI n = 6 ∧ nI n = 7))) := by
        have : n = 0 ∨ n = 1 ∨ n = 2 ∨ n = 3 ∨ n = 4 ∨ n = 5 ∨ n = 6 ∨ n = 7 ∨ n = 8 ∨ n = 9 ∨ n = 10 ∨ n = 11 := by omega
        unfold vk_
        rcases this with rfl | rfl | rfl | rfl | rfl | rfl | rfl | rfl | rfl | rfl | rfl | rfl
        · exact Or.inl ⟨by decide, rfl, by decide, by decide⟩
        · exact Or.inl ⟨by decide, rfl, by decide, by decide⟩
        · exact Or.inl ⟨by decide, rfl, by decide, by decide⟩
        · exact Or.inl ⟨by decide, rfl, by decide, by decide⟩
        · exact Or.inl ⟨by decide, rfl, by decide, by decide⟩
        · exact Or.inl ⟨by decide, rfl, by decide, by decide⟩
        · exact Or.inr ⟨rfl, Or.inl rfl⟩
        · exact Or.inr ⟨rfl, Or.inr ⟨by decide, rfl⟩⟩
        · exact Or.inl ⟨by decide, rfl, by decide, by decide⟩
        · exact Or.inl ⟨by decide, rfl, by decide, by decide⟩
        · exact Or.inl ⟨by decide, rfl, by decide, by decide⟩
        · exact Or.inl ⟨by decide, rfl, by decide, by decide⟩
      rcases this with ⟨a1, a2, a3, a4⟩ | ⟨a1, a2 | ⟨a2, a3⟩⟩
      · exact Or.inl ⟨a2, a1, h1, h3, a3, a4⟩
      · exact Or.inr ⟨a1, Or.inr (Or.inr (Or.inl ⟨h1, h3, a2⟩))⟩
      · exact Or.inr ⟨a1, Or.inr (Or.inr (Or.inr ⟨h1, h3, a2, a3⟩))⟩
    · refine Or.inr ⟨?_, Or.inr (Or.inl ⟨h1, Int32.not_le.mp h2⟩)⟩
      have h3 := Int32.not_le.mp h2
      unfold tc_G_exists tc_G_exists_j9
      rw [if_neg h1, if_neg, if_neg, if_pos h3]
      · rw [Int32.lt_iff_toInt_lt] at h3 ⊢
        have e0 : (11 : Int32).toInt = 11 := by decide
        have e8 : (8 : Int32).toInt = 8 := by decide
        omega
      · rw [Int32.lt_iff_toInt_lt] at h3
        rw [Int32.le_iff_toInt_le]
        have e0 : (11 : Int32).toInt = 11 := by decide
        have e8 : (5 : Int32).toInt = 5 := by decide
        omega
theorem get_some (y a b d c x yy u s p : Int32) : ∃ r, tc_G_get y a b d c x yy u s p = some r := by
  unfold tc_G_get
  repeat' split
  all_goals exact ⟨_, rfl⟩
theorem register_ok (hK : KB uz ul ks kv kz ku cb cb so sv tl su qu wa) (hR : RN kr ru ks g rg) (x y : Int32) (q : R9) : ∃ (r : Int32) (q' : R9), tc_T_register x y kr ks kv cb g.1 g.2.1 g.2.2.1 g.2.2.2.1 g.2.2.2.2.1 g.2.2.2.2.2.1 g.2.2.2.2.2.2.1 g.2.2.2.2.2.2.2.1 g.2.2.2.2.2.2.2.2 q.1 q.2.1 q.2.2.1 q.2.2.2.1 q.2.2.2.2.1 q.2.2.2.2.2.1 q.2.2.2.2.2.2.1 q.2.2.2.2.2.2.2.1 q.2.2.2.2.2.2.2.2 = some (r, q') ∧ mo_register x y cb rg so sv = some r := by
  have hB := hK.2.2.2.2.1
  have eso := hK.2.1
  subst eso
  have esv := hK.2.2.1
  subst esv
  unfold tc_T_register mo_register
  rcases ta_ok x with ⟨t, ht, rfl, e1, e2, e3, e4⟩ | ⟨e1, e2⟩
  · rw [e1, e2, Option.bind_some, Option.bind_some, if_pos (show bz_i false = 0 from rfl), if_pos e3, e4]
    show ∃ (r : Int32) (q' : R9), (if t < 4 then _ else _) = _ ∧ _
    rw [if_pos ht]
    by_cases h0 : so t = 0
    · rw [if_pos h0, if_pos h0]
      exact ⟨-1, q, rfl, rfl⟩
    · rw [if_neg h0, if_neg h0]
      rcases re_ok y with ⟨f1, f2, f3, f4, f5, f6⟩ | ⟨f1, f2⟩
      · rw [f1, Option.bind_some, if_neg (show ¬ bz_i true = 0 by decide), if_neg f3, if_neg f4, if_neg f5, if_neg f6]
        have tkt : tk_ok (some t) = true := decide_eq_true ht
        -- not the running one
        have other : ∀ (kr : Option Nat), tk_ok kr = true → ¬ some t = kr → ¬ so t = 1 → ∃ (r : Int32) (q' : R9), ((tc_K_registersOf t kr sv cb q.1 q.2.1 q.2.2.1 q.2.2.2.1 q.2.2.2.2.1 q.2.2.2.2.2.1 q.2.2.2.2.2.2.1 q.2.2.2.2.2.2.2.1 q.2.2.2.2.2.2.2.2).bind fun z13 => if z13.1 = true then (tc_G_get y g.1 g.2.1 g.2.2.1 g.2.2.2.1 g.2.2.2.2.1 g.2.2.2.2.2.1 g.2.2.2.2.2.2.1 g.2.2.2.2.2.2.2.1 g.2.2.2.2.2.2.2.2).bind fun z15 => some (z15, z13.2.1, z13.2.2.1, z13.2.2.2.1, z13.2.2.2.2.1, z13.2.2.2.2.2.1, z13.2.2.2.2.2.2.1, z13.2.2.2.2.2.2.2.1, z13.2.2.2.2.2.2.2.2.1, z13.2.2.2.2.2.2.2.2.2) else (tc_G_get y z13.2.1 z13.2.2.1 z13.2.2.2.1 z13.2.2.2.2.1 z13.2.2.2.2.2.1 z13.2.2.2.2.2.2.1 z13.2.2.2.2.2.2.2.1 z13.2.2.2.2.2.2.2.2.1 z13.2.2.2.2.2.2.2.2.2).bind fun z16 => some (z16, z13.2.1, z13.2.2.1, z13.2.2.2.1, z13.2.2.2.2.1, z13.2.2.2.2.2.1, z13.2.2.2.2.2.2.1, z13.2.2.2.2.2.2.2.1, z13.2.2.2.2.2.2.2.2.1, z13.2.2.2.2.2.2.2.2.2)) = some (r, q') ∧ (if so t = 1 then (mo_get y rg).bind fun z8 => some z8 else if y = 4 then some ((sv t + 12) &&& 65535) else (mo_inFrame (sv t) y cb).bind fun z7 => some z7) = some r := by
          intro kr hk hn h1
          obtain ⟨g', t1, t2, t3, -⟩ := take_ok hB ht sv q
          have er : tc_K_registersOf t kr sv cb q.1 q.2.1 q.2.2.1 q.2.2.2.1 q.2.2.2.2.1 q.2.2.2.2.2.1 q.2.2.2.2.2.2.1 q.2.2.2.2.2.2.2.1 q.2.2.2.2.2.2.2.2 = some (false, g') := by
            unfold tc_K_registersOf
            rw [if_pos tkt, if_pos hk, if_neg hn, show tc_K_take_S t sv cb q.1 q.2.1 q.2.2.1 q.2.2.2.1 q.2.2.2.2.1 q.2.2.2.2.2.1 q.2.2.2.2.2.2.1 q.2.2.2.2.2.2.2.1 q.2.2.2.2.2.2.2.2 = _ from t1]
            rfl
          rw [er, Option.bind_some, if_neg (show ¬ (false, g').1 = true from fun h => Bool.noConfusion h), if_neg h1, rf_get f2 (sv t) hB, ← t3]
          obtain ⟨r, hr⟩ := get_some y g'.1 g'.2.1 g'.2.2.1 g'.2.2.2.1 g'.2.2.2.2.1 g'.2.2.2.2.2.1 g'.2.2.2.2.2.2.1 g'.2.2.2.2.2.2.2.1 g'.2.2.2.2.2.2.2.2
          refine ⟨r, g', ?_, ?_⟩
          · show ((tc_G_get y g'.1 g'.2.1 g'.2.2.1 g'.2.2.2.1 g'.2.2.2.2.1 g'.2.2.2.2.2.1 g'.2.2.2.2.2.2.1 g'.2.2.2.2.2.2.2.1 g'.2.2.2.2.2.2.2.2).bind _) = _
            rw [hr]
            rfl
          · rw [show mo_get y (rg_ g') = _ from get_eq f2 t2.1 t2.2.1, hr]
        rcases hR with ⟨rfl, rfl, h3, h4⟩ | ⟨i, hi, rfl, rfl, h4, h5, rfl, h7⟩
        · exact other none rfl (fun h => by cases h) (h3 t ht)
        · by_cases hti : t = i
          · subst hti
            rw [if_pos h4]
            have er : tc_K_registersOf t (some t) sv cb q.1 q.2.1 q.2.2.1 q.2.2.2.1 q.2.2.2.2.1 q.2.2.2.2.2.1 q.2.2.2.2.2.2.1 q.2.2.2.2.2.2.2.1 q.2.2.2.2.2.2.2.2 = some (true, q) := by
              unfold tc_K_registersOf
              rw [if_pos tkt, if_pos tkt, if_pos rfl]
            obtain ⟨r, hr⟩ := get_some y g.1 g.2.1 g.2.2.1 g.2.2.2.1 g.2.2.2.2.1 g.2.2.2.2.2.1 g.2.2.2.2.2.2.1 g.2.2.2.2.2.2.2.1 g.2.2.2.2.2.2.2.2
            rw [er, Option.bind_some, if_pos (show (true, q).1 = true from rfl), hr, show mo_get y (rg_ g) = _ from get_eq f2 h7.1 h7.2.1, hr]
            exact ⟨r, q, rfl, rfl⟩
          · exact other (some i) (decide_eq_true hi) (fun h => hti (Option.some.inj h)) (fun h => hti (h5 t ht h))
      · rw [f1, Option.bind_some, if_pos (show bz_i false = 0 from rfl)]
        refine ⟨-1, q, rfl, ?_⟩
        rcases f2 with h | ⟨h, h2⟩ | ⟨h, h2, h3⟩ | ⟨h, h2, h3, h4⟩
        · rw [if_pos h]
        · rw [if_neg h, if_pos h2]
        · rw [if_neg h, if_neg h2, if_pos h3]
        · rw [if_neg h, if_neg h2, if_neg h3, if_pos h4]
  · rw [e1, e2, Option.bind_some, Option.bind_some, if_neg (show ¬ bz_i true = 0 by decide)]
    exact ⟨-1, q, rfl, rfl⟩
theorem lost_ok (tm : Int32) (tg : Bool) : ∃ r : Int32, tc_T_lost tm tg = some r ∧ mo_lost tg tm = some r := by
  unfold tc_T_lost mo_lost
  cases tg with
  | false => exact ⟨tm, rfl, by rw [if_pos (show bz_i false = 0 from rfl), i_a0]⟩
  | true => exact ⟨tm + 100000, rfl, rfl⟩
theorem left_ok (pe re : Int32) (h : pe = 0 → re = 0) : mo_left pe re = some re := by
  unfold mo_left
  by_cases h1 : pe = 0
  · rw [if_pos h1, h h1]
  · rw [if_neg h1]
end OU
end
