def rn_C : String := "TaskComputer$Calculator"
def fn_C : u_T := fun k => match k with
  | _ => ("TaskComputer$Calculator", "registers", "LTaskComputer$Registers;", true)
def ft_C : Nat → FieldType := fun k => match k with
  | _ => .object "TaskComputer$Registers"
theorem fd_C : ∀ a, a < 1 → ∀ b, b < 1 → a ≠ b → (fn_C a).2.1 ≠ (fn_C b).2.1 := by decide +kernel
theorem fk_C : ∀ k, k < 1 → parseFieldDescriptor (fn_C k).2.2.1 = some (ft_C k) := by decide +kernel
def rn_K : String := "TaskComputer$Kernel"
def fn_K : u_T := fun k => match k with
  | 0 => ("TaskComputer$Kernel", "queue", "LTaskComputer$Queue;", true)
  | 1 => ("TaskComputer$Kernel", "running", "LTaskComputer$Task;", false)
  | 2 => ("TaskComputer$Kernel", "memory", "LTaskComputer$Memory;", true)
  | 3 => ("TaskComputer$Kernel", "registers", "LTaskComputer$Registers;", true)
  | 4 => ("TaskComputer$Kernel", "spare", "LTaskComputer$Registers;", true)
  | _ => ("TaskComputer$Kernel", "tasks", "[LTaskComputer$Task;", true)
def ft_K : Nat → FieldType := fun k => match k with
  | 0 => .object "TaskComputer$Queue"
  | 1 => .object "TaskComputer$Task"
  | 2 => .object "TaskComputer$Memory"
  | 3 => .object "TaskComputer$Registers"
  | 4 => .object "TaskComputer$Registers"
  | _ => .array (.object "TaskComputer$Task")
theorem fd_K : ∀ a, a < 6 → ∀ b, b < 6 → a ≠ b → (fn_K a).2.1 ≠ (fn_K b).2.1 := by decide +kernel
theorem fk_K : ∀ k, k < 6 → parseFieldDescriptor (fn_K k).2.2.1 = some (ft_K k) := by decide +kernel
def rn_Y : String := "TaskComputer$Memory"
def fn_Y : u_T := fun k => match k with
  | _ => ("TaskComputer$Memory", "bytes", "[I", true)
def ft_Y : Nat → FieldType := fun k => match k with
  | _ => .array .int
theorem fd_Y : ∀ a, a < 1 → ∀ b, b < 1 → a ≠ b → (fn_Y a).2.1 ≠ (fn_Y b).2.1 := by decide +kernel
theorem fk_Y : ∀ k, k < 1 → parseFieldDescriptor (fn_Y k).2.2.1 = some (ft_Y k) := by decide +kernel
def rn_P : String := "TaskComputer$Processor"
def fn_P : u_T := fun k => match k with
  | 0 => ("TaskComputer$Processor", "cycles", "I", false)
  | 1 => ("TaskComputer$Processor", "memory", "LTaskComputer$Memory;", true)
  | 2 => ("TaskComputer$Processor", "registers", "LTaskComputer$Registers;", true)
  | 3 => ("TaskComputer$Processor", "calculator", "LTaskComputer$Calculator;", true)
  | _ => ("TaskComputer$Processor", "outcome", "I", false)
def ft_P : Nat → FieldType := fun k => match k with
  | 0 => .int
  | 1 => .object "TaskComputer$Memory"
  | 2 => .object "TaskComputer$Registers"
  | 3 => .object "TaskComputer$Calculator"
  | _ => .int
theorem fd_P : ∀ a, a < 5 → ∀ b, b < 5 → a ≠ b → (fn_P a).2.1 ≠ (fn_P b).2.1 := by decide +kernel
theorem fk_P : ∀ k, k < 5 → parseFieldDescriptor (fn_P k).2.2.1 = some (ft_P k) := by decide +kernel
def rn_Q : String := "TaskComputer$Queue"
def fn_Q : u_T := fun k => match k with
  | 0 => ("TaskComputer$Queue", "places", "[LTaskComputer$Task;", true)
  | _ => ("TaskComputer$Queue", "size", "I", false)
def ft_Q : Nat → FieldType := fun k => match k with
  | 0 => .array (.object "TaskComputer$Task")
  | _ => .int
theorem fd_Q : ∀ a, a < 2 → ∀ b, b < 2 → a ≠ b → (fn_Q a).2.1 ≠ (fn_Q b).2.1 := by decide +kernel
theorem fk_Q : ∀ k, k < 2 → parseFieldDescriptor (fn_Q k).2.2.1 = some (ft_Q k) := by decide +kernel
def rn_G : String := "TaskComputer$Registers"
def fn_G : u_T := fun k => match k with
  | 0 => ("TaskComputer$Registers", "a", "I", false)
  | 1 => ("TaskComputer$Registers", "b", "I", false)
  | 2 => ("TaskComputer$Registers", "dp", "I", false)
  | 3 => ("TaskComputer$Registers", "cc", "I", false)
  | 4 => ("TaskComputer$Registers", "x", "I", false)
  | 5 => ("TaskComputer$Registers", "y", "I", false)
  | 6 => ("TaskComputer$Registers", "u", "I", false)
  | 7 => ("TaskComputer$Registers", "s", "I", false)
  | _ => ("TaskComputer$Registers", "pc", "I", false)
def ft_G : Nat → FieldType := fun k => match k with
  | 0 => .int
  | 1 => .int
  | 2 => .int
  | 3 => .int
  | 4 => .int
  | 5 => .int
  | 6 => .int
  | 7 => .int
  | _ => .int
theorem fd_G : ∀ a, a < 9 → ∀ b, b < 9 → a ≠ b → (fn_G a).2.1 ≠ (fn_G b).2.1 := by decide +kernel
theorem fk_G : ∀ k, k < 9 → parseFieldDescriptor (fn_G k).2.2.1 = some (ft_G k) := by decide +kernel
def rn_A : String := "TaskComputer$Task"
def fn_A : u_T := fun k => match k with
  | 0 => ("TaskComputer$Task", "number", "I", true)
  | 1 => ("TaskComputer$Task", "state", "I", false)
  | 2 => ("TaskComputer$Task", "s", "I", false)
  | 3 => ("TaskComputer$Task", "sleep", "I", false)
  | _ => ("TaskComputer$Task", "status", "I", false)
def ft_A : Nat → FieldType := fun k => match k with
  | 0 => .int
  | 1 => .int
  | 2 => .int
  | 3 => .int
  | _ => .int
theorem fd_A : ∀ a, a < 5 → ∀ b, b < 5 → a ≠ b → (fn_A a).2.1 ≠ (fn_A b).2.1 := by decide +kernel
theorem fk_A : ∀ k, k < 5 → parseFieldDescriptor (fn_A k).2.2.1 = some (ft_A k) := by decide +kernel
def rn_I : String := "TaskComputer$Timer"
def fn_I : u_T := fun k => match k with
  | 0 => ("TaskComputer$Timer", "period", "I", false)
  | 1 => ("TaskComputer$Timer", "left", "I", false)
  | 2 => ("TaskComputer$Timer", "passed", "I", false)
  | 3 => ("TaskComputer$Timer", "served", "I", false)
  | 4 => ("TaskComputer$Timer", "missed", "I", false)
  | _ => ("TaskComputer$Timer", "pending", "Z", false)
def ft_I : Nat → FieldType := fun k => match k with
  | 0 => .int
  | 1 => .int
  | 2 => .int
  | 3 => .int
  | 4 => .int
  | _ => .boolean
theorem fd_I : ∀ a, a < 6 → ∀ b, b < 6 → a ≠ b → (fn_I a).2.1 ≠ (fn_I b).2.1 := by decide +kernel
theorem fk_I : ∀ k, k < 6 → parseFieldDescriptor (fn_I k).2.2.1 = some (ft_I k) := by decide +kernel
def rn_T : String := "TaskComputer"
def fn_T : u_T := fun k => match k with
  | 0 => ("TaskComputer", "memory", "LTaskComputer$Memory;", true)
  | 1 => ("TaskComputer", "processor", "LTaskComputer$Processor;", true)
  | 2 => ("TaskComputer", "kernel", "LTaskComputer$Kernel;", true)
  | _ => ("TaskComputer", "timer", "LTaskComputer$Timer;", true)
def ft_T : Nat → FieldType := fun k => match k with
  | 0 => .object "TaskComputer$Memory"
  | 1 => .object "TaskComputer$Processor"
  | 2 => .object "TaskComputer$Kernel"
  | _ => .object "TaskComputer$Timer"
theorem fd_T : ∀ a, a < 4 → ∀ b, b < 4 → a ≠ b → (fn_T a).2.1 ≠ (fn_T b).2.1 := by decide +kernel
theorem fk_T : ∀ k, k < 4 → parseFieldDescriptor (fn_T k).2.2.1 = some (ft_T k) := by decide +kernel
def rn_M : String := "TaskComputerModel"
def fn_M : u_T := fun k => match k with
  | 0 => ("TaskComputerModel", "memory", "[I", false)
  | 1 => ("TaskComputerModel", "reg", "[I", false)
  | 2 => ("TaskComputerModel", "stateOf", "[I", false)
  | 3 => ("TaskComputerModel", "savedS", "[I", false)
  | 4 => ("TaskComputerModel", "toSleep", "[I", false)
  | 5 => ("TaskComputerModel", "statusOf", "[I", false)
  | 6 => ("TaskComputerModel", "queue", "[I", false)
  | 7 => ("TaskComputerModel", "waits", "I", false)
  | 8 => ("TaskComputerModel", "running", "I", false)
  | 9 => ("TaskComputerModel", "period", "I", false)
  | 10 => ("TaskComputerModel", "rest", "I", false)
  | 11 => ("TaskComputerModel", "pending", "Z", false)
  | 12 => ("TaskComputerModel", "lostTicks", "I", false)
  | 13 => ("TaskComputerModel", "served", "I", false)
  | 14 => ("TaskComputerModel", "passed", "I", false)
  | 15 => ("TaskComputerModel", "spent", "I", false)
  | _ => ("TaskComputerModel", "invalid", "Z", false)
def ft_M : Nat → FieldType := fun k => match k with
  | 0 => .array .int
  | 1 => .array .int
  | 2 => .array .int
  | 3 => .array .int
  | 4 => .array .int
  | 5 => .array .int
  | 6 => .array .int
  | 7 => .int
  | 8 => .int
  | 9 => .int
  | 10 => .int
  | 11 => .boolean
  | 12 => .int
  | 13 => .int
  | 14 => .int
  | 15 => .int
  | _ => .boolean
theorem fd_M : ∀ a, a < 17 → ∀ b, b < 17 → a ≠ b → (fn_M a).2.1 ≠ (fn_M b).2.1 := by decide +kernel
theorem fk_M : ∀ k, k < 17 → parseFieldDescriptor (fn_M k).2.2.1 = some (ft_M k) := by decide +kernel
def rn_L : String := "TaskComputerLaw"
abbrev mb_C_init : ByteArray := prog_2_method_1_code
def my_C_init : MethodName := ⟨rn_C, "<init>", "(LTaskComputer$Registers;)V"⟩
abbrev mb_C_signed : ByteArray := prog_2_method_2_code
def my_C_signed : MethodName := ⟨rn_C, "signed", "(II)I"⟩
abbrev mb_C_carry : ByteArray := prog_2_method_3_code
def my_C_carry : MethodName := ⟨rn_C, "carry", "()I"⟩
abbrev mb_C_sum : ByteArray := prog_2_method_4_code
def my_C_sum : MethodName := ⟨rn_C, "sum", "(IIII)I"⟩
abbrev mb_C_difference : ByteArray := prog_2_method_5_code
def my_C_difference : MethodName := ⟨rn_C, "difference", "(IIII)I"⟩
abbrev mb_C_plain : ByteArray := prog_2_method_6_code
def my_C_plain : MethodName := ⟨rn_C, "plain", "(II)I"⟩
abbrev mb_C_plainWithCarry : ByteArray := prog_2_method_7_code
def my_C_plainWithCarry : MethodName := ⟨rn_C, "plainWithCarry", "(II)I"⟩
abbrev mb_C_shiftRight : ByteArray := prog_2_method_8_code
def my_C_shiftRight : MethodName := ⟨rn_C, "shiftRight", "(II)I"⟩
abbrev mb_C_shiftLeft : ByteArray := prog_2_method_9_code
def my_C_shiftLeft : MethodName := ⟨rn_C, "shiftLeft", "(II)I"⟩
abbrev mb_C_decrement : ByteArray := prog_2_method_10_code
def my_C_decrement : MethodName := ⟨rn_C, "decrement", "(I)I"⟩
abbrev mb_C_increment : ByteArray := prog_2_method_11_code
def my_C_increment : MethodName := ⟨rn_C, "increment", "(I)I"⟩
abbrev mb_C_extendB : ByteArray := prog_2_method_12_code
def my_C_extendB : MethodName := ⟨rn_C, "extendB", "()V"⟩
abbrev mb_C_multiply : ByteArray := prog_2_method_13_code
def my_C_multiply : MethodName := ⟨rn_C, "multiply", "()V"⟩
abbrev mb_C_maskOf : ByteArray := prog_2_method_14_code
def my_C_maskOf : MethodName := ⟨rn_C, "maskOf", "(I)I"⟩
abbrev mb_C_signOf : ByteArray := prog_2_method_15_code
def my_C_signOf : MethodName := ⟨rn_C, "signOf", "(II)I"⟩
abbrev mb_K_init : ByteArray := prog_3_method_1_code
def my_K_init : MethodName := ⟨rn_K, "<init>", "(LTaskComputer$Memory;LTaskComputer$Registers;)V"⟩
abbrev mb_K_taskAt : ByteArray := prog_3_method_2_code
def my_K_taskAt : MethodName := ⟨rn_K, "taskAt", "(I)LTaskComputer$Task;"⟩
abbrev mb_K_registersOf : ByteArray := prog_3_method_3_code
def my_K_registersOf : MethodName := ⟨rn_K, "registersOf", "(LTaskComputer$Task;)LTaskComputer$Registers;"⟩
abbrev mb_K_begin : ByteArray := prog_3_method_4_code
def my_K_begin : MethodName := ⟨rn_K, "begin", "(LTaskComputer$Task;II)V"⟩
abbrev mb_K_end : ByteArray := prog_3_method_5_code
def my_K_end : MethodName := ⟨rn_K, "end", "(LTaskComputer$Task;I)V"⟩
abbrev mb_K_takeNext : ByteArray := prog_3_method_6_code
def my_K_takeNext : MethodName := ⟨rn_K, "takeNext", "()V"⟩
abbrev mb_K_canServe : ByteArray := prog_3_method_7_code
def my_K_canServe : MethodName := ⟨rn_K, "canServe", "()Z"⟩
abbrev mb_K_serveTick : ByteArray := prog_3_method_8_code
def my_K_serveTick : MethodName := ⟨rn_K, "serveTick", "()V"⟩
abbrev mb_K_settle : ByteArray := prog_3_method_9_code
def my_K_settle : MethodName := ⟨rn_K, "settle", "(I)V"⟩
abbrev mb_K_answer : ByteArray := prog_3_method_10_code
def my_K_answer : MethodName := ⟨rn_K, "answer", "(LTaskComputer$Task;I)V"⟩
abbrev mb_K_fork : ByteArray := prog_3_method_11_code
def my_K_fork : MethodName := ⟨rn_K, "fork", "(LTaskComputer$Task;II)V"⟩
abbrev mb_K_leastFree : ByteArray := prog_3_method_12_code
def my_K_leastFree : MethodName := ⟨rn_K, "leastFree", "()LTaskComputer$Task;"⟩
abbrev mb_K_putToSleep : ByteArray := prog_3_method_13_code
def my_K_putToSleep : MethodName := ⟨rn_K, "putToSleep", "(LTaskComputer$Task;I)V"⟩
abbrev mb_K_succeed : ByteArray := prog_3_method_14_code
def my_K_succeed : MethodName := ⟨rn_K, "succeed", "(LTaskComputer$Task;I)V"⟩
abbrev mb_K_fail : ByteArray := prog_3_method_15_code
def my_K_fail : MethodName := ⟨rn_K, "fail", "(LTaskComputer$Task;I)V"⟩
abbrev mb_K_makeReady : ByteArray := prog_3_method_16_code
def my_K_makeReady : MethodName := ⟨rn_K, "makeReady", "(LTaskComputer$Task;)V"⟩
abbrev mb_K_resume : ByteArray := prog_3_method_17_code
def my_K_resume : MethodName := ⟨rn_K, "resume", "(LTaskComputer$Task;)V"⟩
abbrev mb_K_stack : ByteArray := prog_3_method_18_code
def my_K_stack : MethodName := ⟨rn_K, "stack", "(LTaskComputer$Task;LTaskComputer$Registers;)V"⟩
abbrev mb_K_take : ByteArray := prog_3_method_19_code
def my_K_take : MethodName := ⟨rn_K, "take", "(LTaskComputer$Task;LTaskComputer$Registers;)V"⟩
abbrev mb_Y_init : ByteArray := prog_4_method_1_code
def my_Y_init : MethodName := ⟨rn_Y, "<init>", "()V"⟩
abbrev mb_Y_holds : ByteArray := prog_4_method_2_code
def my_Y_holds : MethodName := ⟨rn_Y, "holds", "(I)Z"⟩
abbrev mb_Y_load : ByteArray := prog_4_method_3_code
def my_Y_load : MethodName := ⟨rn_Y, "load", "(II)I"⟩
abbrev mb_Y_store : ByteArray := prog_4_method_4_code
def my_Y_store : MethodName := ⟨rn_Y, "store", "(III)V"⟩
abbrev mb_Y_copyBlock : ByteArray := prog_4_method_5_code
def my_Y_copyBlock : MethodName := ⟨rn_Y, "copyBlock", "(II)V"⟩
abbrev mb_P_init : ByteArray := prog_5_method_1_code
def my_P_init : MethodName := ⟨rn_P, "<init>", "(LTaskComputer$Memory;LTaskComputer$Registers;)V"⟩
abbrev mb_P_execute : ByteArray := prog_5_method_2_code
def my_P_execute : MethodName := ⟨rn_P, "execute", "()I"⟩
abbrev mb_P_fetch : ByteArray := prog_5_method_3_code
def my_P_fetch : MethodName := ⟨rn_P, "fetch", "(I)I"⟩
abbrev mb_P_skip : ByteArray := prog_5_method_4_code
def my_P_skip : MethodName := ⟨rn_P, "skip", "(I)V"⟩
abbrev mb_P_load : ByteArray := prog_5_method_5_code
def my_P_load : MethodName := ⟨rn_P, "load", "(II)I"⟩
abbrev mb_P_store : ByteArray := prog_5_method_6_code
def my_P_store : MethodName := ⟨rn_P, "store", "(III)V"⟩
abbrev mb_P_push : ByteArray := prog_5_method_7_code
def my_P_push : MethodName := ⟨rn_P, "push", "(II)V"⟩
abbrev mb_P_pull : ByteArray := prog_5_method_8_code
def my_P_pull : MethodName := ⟨rn_P, "pull", "(II)V"⟩
abbrev mb_P_doMainPage : ByteArray := prog_5_method_9_code
def my_P_doMainPage : MethodName := ⟨rn_P, "doMainPage", "(I)V"⟩
abbrev mb_P_doSecondPage : ByteArray := prog_5_method_10_code
def my_P_doSecondPage : MethodName := ⟨rn_P, "doSecondPage", "(I)V"⟩
abbrev mb_P_operate : ByteArray := prog_5_method_11_code
def my_P_operate : MethodName := ⟨rn_P, "operate", "(III)V"⟩
abbrev mb_P_calculate : ByteArray := prog_5_method_12_code
def my_P_calculate : MethodName := ⟨rn_P, "calculate", "(IIII)I"⟩
abbrev mb_P_operandAddress : ByteArray := prog_5_method_13_code
def my_P_operandAddress : MethodName := ⟨rn_P, "operandAddress", "(II)I"⟩
abbrev mb_P_indexedAddress : ByteArray := prog_5_method_14_code
def my_P_indexedAddress : MethodName := ⟨rn_P, "indexedAddress", "()I"⟩
abbrev mb_P_isIndexedForm : ByteArray := prog_5_method_15_code
def my_P_isIndexedForm : MethodName := ⟨rn_P, "isIndexedForm", "(IZ)Z"⟩
abbrev mb_P_callAt : ByteArray := prog_5_method_16_code
def my_P_callAt : MethodName := ⟨rn_P, "callAt", "(I)V"⟩
abbrev mb_P_changeMemory : ByteArray := prog_5_method_17_code
def my_P_changeMemory : MethodName := ⟨rn_P, "changeMemory", "(II)V"⟩
abbrev mb_P_changeRegister : ByteArray := prog_5_method_18_code
def my_P_changeRegister : MethodName := ⟨rn_P, "changeRegister", "(II)V"⟩
abbrev mb_P_isChange : ByteArray := prog_5_method_19_code
def my_P_isChange : MethodName := ⟨rn_P, "isChange", "(I)Z"⟩
abbrev mb_P_changed : ByteArray := prog_5_method_20_code
def my_P_changed : MethodName := ⟨rn_P, "changed", "(II)I"⟩
abbrev mb_P_branch : ByteArray := prog_5_method_21_code
def my_P_branch : MethodName := ⟨rn_P, "branch", "(I)V"⟩
abbrev mb_P_holds : ByteArray := prog_5_method_22_code
def my_P_holds : MethodName := ⟨rn_P, "holds", "(I)Z"⟩
abbrev mb_P_doGroup1 : ByteArray := prog_5_method_23_code
def my_P_doGroup1 : MethodName := ⟨rn_P, "doGroup1", "(I)V"⟩
abbrev mb_P_moveRegister : ByteArray := prog_5_method_24_code
def my_P_moveRegister : MethodName := ⟨rn_P, "moveRegister", "(Z)V"⟩
abbrev mb_P_doGroup3 : ByteArray := prog_5_method_25_code
def my_P_doGroup3 : MethodName := ⟨rn_P, "doGroup3", "(I)V"⟩
abbrev mb_P_loadAddress : ByteArray := prog_5_method_26_code
def my_P_loadAddress : MethodName := ⟨rn_P, "loadAddress", "(I)V"⟩
abbrev mb_Q_init : ByteArray := prog_6_method_1_code
def my_Q_init : MethodName := ⟨rn_Q, "<init>", "(I)V"⟩
abbrev mb_Q_append : ByteArray := prog_6_method_2_code
def my_Q_append : MethodName := ⟨rn_Q, "append", "(LTaskComputer$Task;)V"⟩
abbrev mb_Q_removeFirst : ByteArray := prog_6_method_3_code
def my_Q_removeFirst : MethodName := ⟨rn_Q, "removeFirst", "()LTaskComputer$Task;"⟩
abbrev mb_Q_remove : ByteArray := prog_6_method_4_code
def my_Q_remove : MethodName := ⟨rn_Q, "remove", "(LTaskComputer$Task;)V"⟩
abbrev mb_Q_numberAt : ByteArray := prog_6_method_5_code
def my_Q_numberAt : MethodName := ⟨rn_Q, "numberAt", "(I)I"⟩
abbrev mb_G_init : ByteArray := prog_7_method_1_code
def my_G_init : MethodName := ⟨rn_G, "<init>", "()V"⟩
abbrev mb_G_exists : ByteArray := prog_7_method_2_code
def my_G_exists : MethodName := ⟨rn_G, "exists", "(I)Z"⟩
abbrev mb_G_sizeOf : ByteArray := prog_7_method_3_code
def my_G_sizeOf : MethodName := ⟨rn_G, "sizeOf", "(I)I"⟩
abbrev mb_G_get : ByteArray := prog_7_method_4_code
def my_G_get : MethodName := ⟨rn_G, "get", "(I)I"⟩
abbrev mb_G_set : ByteArray := prog_7_method_5_code
def my_G_set : MethodName := ⟨rn_G, "set", "(II)V"⟩
abbrev mb_G_has : ByteArray := prog_7_method_6_code
def my_G_has : MethodName := ⟨rn_G, "has", "(I)Z"⟩
abbrev mb_G_setFlags : ByteArray := prog_7_method_7_code
def my_G_setFlags : MethodName := ⟨rn_G, "setFlags", "(II)V"⟩
abbrev mb_G_push : ByteArray := prog_7_method_8_code
def my_G_push : MethodName := ⟨rn_G, "push", "(LTaskComputer$Memory;II)I"⟩
abbrev mb_G_pull : ByteArray := prog_7_method_9_code
def my_G_pull : MethodName := ⟨rn_G, "pull", "(LTaskComputer$Memory;II)I"⟩
abbrev mb_G_pushedAt : ByteArray := prog_7_method_10_code
def my_G_pushedAt : MethodName := ⟨rn_G, "pushedAt", "(II)I"⟩
abbrev mb_A_init : ByteArray := prog_8_method_1_code
def my_A_init : MethodName := ⟨rn_A, "<init>", "(I)V"⟩
abbrev mb_I_init : ByteArray := prog_9_method_1_code
def my_I_init : MethodName := ⟨rn_I, "<init>", "()V"⟩
abbrev mb_I_letPass : ByteArray := prog_9_method_2_code
def my_I_letPass : MethodName := ⟨rn_I, "letPass", "(I)V"⟩
abbrev mb_I_countServed : ByteArray := prog_9_method_3_code
def my_I_countServed : MethodName := ⟨rn_I, "countServed", "()V"⟩
abbrev mb_T_init : ByteArray := prog_1_method_1_code
def my_T_init : MethodName := ⟨rn_T, "<init>", "()V"⟩
abbrev mb_T_poke : ByteArray := prog_1_method_2_code
def my_T_poke : MethodName := ⟨rn_T, "poke", "(II)I"⟩
abbrev mb_T_peek : ByteArray := prog_1_method_3_code
def my_T_peek : MethodName := ⟨rn_T, "peek", "(I)I"⟩
abbrev mb_T_start : ByteArray := prog_1_method_4_code
def my_T_start : MethodName := ⟨rn_T, "start", "(III)Z"⟩
abbrev mb_T_stop : ByteArray := prog_1_method_5_code
def my_T_stop : MethodName := ⟨rn_T, "stop", "(I)Z"⟩
abbrev mb_T_timer : ByteArray := prog_1_method_6_code
def my_T_timer : MethodName := ⟨rn_T, "timer", "(I)Z"⟩
abbrev mb_T_run : ByteArray := prog_1_method_7_code
def my_T_run : MethodName := ⟨rn_T, "run", "(I)I"⟩
abbrev mb_T_state : ByteArray := prog_1_method_8_code
def my_T_state : MethodName := ⟨rn_T, "state", "(I)I"⟩
abbrev mb_T_register : ByteArray := prog_1_method_9_code
def my_T_register : MethodName := ⟨rn_T, "register", "(II)I"⟩
abbrev mb_T_queued : ByteArray := prog_1_method_10_code
def my_T_queued : MethodName := ⟨rn_T, "queued", "(I)I"⟩
abbrev mb_T_sleeps : ByteArray := prog_1_method_11_code
def my_T_sleeps : MethodName := ⟨rn_T, "sleeps", "(I)I"⟩
abbrev mb_T_status : ByteArray := prog_1_method_12_code
def my_T_status : MethodName := ⟨rn_T, "status", "(I)I"⟩
abbrev mb_T_cycles : ByteArray := prog_1_method_13_code
def my_T_cycles : MethodName := ⟨rn_T, "cycles", "()I"⟩
abbrev mb_T_ticks : ByteArray := prog_1_method_14_code
def my_T_ticks : MethodName := ⟨rn_T, "ticks", "()I"⟩
abbrev mb_T_lost : ByteArray := prog_1_method_15_code
def my_T_lost : MethodName := ⟨rn_T, "lost", "()I"⟩
abbrev mb_T_left : ByteArray := prog_1_method_16_code
def my_T_left : MethodName := ⟨rn_T, "left", "()I"⟩
abbrev mb_M_init : ByteArray := prog_11_method_1_code
def my_M_init : MethodName := ⟨rn_M, "<init>", "()V"⟩
abbrev mb_M_signed : ByteArray := prog_11_method_2_code
def my_M_signed : MethodName := ⟨rn_M, "signed", "(I)I"⟩
abbrev mb_M_at : ByteArray := prog_11_method_3_code
def my_M_at : MethodName := ⟨rn_M, "at", "(I)I"⟩
abbrev mb_M_put : ByteArray := prog_11_method_4_code
def my_M_put : MethodName := ⟨rn_M, "put", "(II)V"⟩
abbrev mb_M_get : ByteArray := prog_11_method_5_code
def my_M_get : MethodName := ⟨rn_M, "get", "(I)I"⟩
abbrev mb_M_set : ByteArray := prog_11_method_6_code
def my_M_set : MethodName := ⟨rn_M, "set", "(II)V"⟩
abbrev mb_M_load : ByteArray := prog_11_method_7_code
def my_M_load : MethodName := ⟨rn_M, "load", "(IZ)I"⟩
abbrev mb_M_store : ByteArray := prog_11_method_8_code
def my_M_store : MethodName := ⟨rn_M, "store", "(IIZ)V"⟩
abbrev mb_M_fetch : ByteArray := prog_11_method_9_code
def my_M_fetch : MethodName := ⟨rn_M, "fetch", "()I"⟩
abbrev mb_M_fetchWord : ByteArray := prog_11_method_10_code
def my_M_fetchWord : MethodName := ⟨rn_M, "fetchWord", "()I"⟩
abbrev mb_M_push : ByteArray := prog_11_method_11_code
def my_M_push : MethodName := ⟨rn_M, "push", "(II)V"⟩
abbrev mb_M_pull : ByteArray := prog_11_method_12_code
def my_M_pull : MethodName := ⟨rn_M, "pull", "(II)V"⟩
abbrev mb_M_flag : ByteArray := prog_11_method_13_code
def my_M_flag : MethodName := ⟨rn_M, "flag", "(I)Z"⟩
abbrev mb_M_mark : ByteArray := prog_11_method_14_code
def my_M_mark : MethodName := ⟨rn_M, "mark", "(IZ)V"⟩
abbrev mb_M_sign : ByteArray := prog_11_method_15_code
def my_M_sign : MethodName := ⟨rn_M, "sign", "(II)V"⟩
abbrev mb_M_plain : ByteArray := prog_11_method_16_code
def my_M_plain : MethodName := ⟨rn_M, "plain", "(II)I"⟩
abbrev mb_M_number : ByteArray := prog_11_method_17_code
def my_M_number : MethodName := ⟨rn_M, "number", "(II)I"⟩
abbrev mb_M_sum : ByteArray := prog_11_method_18_code
def my_M_sum : MethodName := ⟨rn_M, "sum", "(IIII)I"⟩
abbrev mb_M_difference : ByteArray := prog_11_method_19_code
def my_M_difference : MethodName := ⟨rn_M, "difference", "(IIII)I"⟩
abbrev mb_M_address : ByteArray := prog_11_method_20_code
def my_M_address : MethodName := ⟨rn_M, "address", "(I)I"⟩
abbrev mb_M_stepping : ByteArray := prog_11_method_21_code
def my_M_stepping : MethodName := ⟨rn_M, "stepping", "(II)I"⟩
abbrev mb_M_offset : ByteArray := prog_11_method_22_code
def my_M_offset : MethodName := ⟨rn_M, "offset", "(II)I"⟩
abbrev mb_M_operand : ByteArray := prog_11_method_23_code
def my_M_operand : MethodName := ⟨rn_M, "operand", "(IZ)I"⟩
abbrev mb_M_save : ByteArray := prog_11_method_24_code
def my_M_save : MethodName := ⟨rn_M, "save", "(II)V"⟩
abbrev mb_M_byteOp : ByteArray := prog_11_method_25_code
def my_M_byteOp : MethodName := ⟨rn_M, "byteOp", "(II)V"⟩
abbrev mb_M_wordOp : ByteArray := prog_11_method_26_code
def my_M_wordOp : MethodName := ⟨rn_M, "wordOp", "(IIZ)V"⟩
abbrev mb_M_call : ByteArray := prog_11_method_27_code
def my_M_call : MethodName := ⟨rn_M, "call", "(I)V"⟩
abbrev mb_M_upper : ByteArray := prog_11_method_28_code
def my_M_upper : MethodName := ⟨rn_M, "upper", "(I)V"⟩
abbrev mb_M_second : ByteArray := prog_11_method_29_code
def my_M_second : MethodName := ⟨rn_M, "second", "()V"⟩
abbrev mb_M_changed : ByteArray := prog_11_method_30_code
def my_M_changed : MethodName := ⟨rn_M, "changed", "(II)I"⟩
abbrev mb_M_lower : ByteArray := prog_11_method_31_code
def my_M_lower : MethodName := ⟨rn_M, "lower", "(I)V"⟩
abbrev mb_M_holds : ByteArray := prog_11_method_32_code
def my_M_holds : MethodName := ⟨rn_M, "holds", "(I)Z"⟩
abbrev mb_M_branch : ByteArray := prog_11_method_33_code
def my_M_branch : MethodName := ⟨rn_M, "branch", "(I)V"⟩
abbrev mb_M_trade : ByteArray := prog_11_method_34_code
def my_M_trade : MethodName := ⟨rn_M, "trade", "(I)V"⟩
abbrev mb_M_listed : ByteArray := prog_11_method_35_code
def my_M_listed : MethodName := ⟨rn_M, "listed", "(II)I"⟩
abbrev mb_M_many : ByteArray := prog_11_method_36_code
def my_M_many : MethodName := ⟨rn_M, "many", "(I)V"⟩
abbrev mb_M_single : ByteArray := prog_11_method_37_code
def my_M_single : MethodName := ⟨rn_M, "single", "(I)V"⟩
abbrev mb_M_instruction : ByteArray := prog_11_method_38_code
def my_M_instruction : MethodName := ⟨rn_M, "instruction", "()V"⟩
abbrev mb_M_framed : ByteArray := prog_11_method_39_code
def my_M_framed : MethodName := ⟨rn_M, "framed", "(I)I"⟩
abbrev mb_M_stack : ByteArray := prog_11_method_40_code
def my_M_stack : MethodName := ⟨rn_M, "stack", "()V"⟩
abbrev mb_M_take : ByteArray := prog_11_method_41_code
def my_M_take : MethodName := ⟨rn_M, "take", "(I)V"⟩
abbrev mb_M_comeLast : ByteArray := prog_11_method_42_code
def my_M_comeLast : MethodName := ⟨rn_M, "comeLast", "(I)V"⟩
abbrev mb_M_next : ByteArray := prog_11_method_43_code
def my_M_next : MethodName := ⟨rn_M, "next", "()V"⟩
abbrev mb_M_leave : ByteArray := prog_11_method_44_code
def my_M_leave : MethodName := ⟨rn_M, "leave", "(I)V"⟩
abbrev mb_M_end : ByteArray := prog_11_method_45_code
def my_M_end : MethodName := ⟨rn_M, "end", "(II)V"⟩
abbrev mb_M_begin : ByteArray := prog_11_method_46_code
def my_M_begin : MethodName := ⟨rn_M, "begin", "(III)V"⟩
abbrev mb_M_answer : ByteArray := prog_11_method_47_code
def my_M_answer : MethodName := ⟨rn_M, "answer", "(IIIZ)V"⟩
abbrev mb_M_kernel : ByteArray := prog_11_method_48_code
def my_M_kernel : MethodName := ⟨rn_M, "kernel", "()V"⟩
abbrev mb_M_pass : ByteArray := prog_11_method_49_code
def my_M_pass : MethodName := ⟨rn_M, "pass", "(I)V"⟩
abbrev mb_M_serve : ByteArray := prog_11_method_50_code
def my_M_serve : MethodName := ⟨rn_M, "serve", "()V"⟩
abbrev mb_M_run : ByteArray := prog_11_method_51_code
def my_M_run : MethodName := ⟨rn_M, "run", "(I)I"⟩
abbrev mb_M_poke : ByteArray := prog_11_method_52_code
def my_M_poke : MethodName := ⟨rn_M, "poke", "(II)I"⟩
abbrev mb_M_peek : ByteArray := prog_11_method_53_code
def my_M_peek : MethodName := ⟨rn_M, "peek", "(I)I"⟩
abbrev mb_M_noTask : ByteArray := prog_11_method_54_code
def my_M_noTask : MethodName := ⟨rn_M, "noTask", "(I)Z"⟩
abbrev mb_M_start : ByteArray := prog_11_method_55_code
def my_M_start : MethodName := ⟨rn_M, "start", "(III)Z"⟩
abbrev mb_M_stop : ByteArray := prog_11_method_56_code
def my_M_stop : MethodName := ⟨rn_M, "stop", "(I)Z"⟩
abbrev mb_M_timer : ByteArray := prog_11_method_57_code
def my_M_timer : MethodName := ⟨rn_M, "timer", "(I)Z"⟩
abbrev mb_M_state : ByteArray := prog_11_method_58_code
def my_M_state : MethodName := ⟨rn_M, "state", "(I)I"⟩
abbrev mb_M_inFrame : ByteArray := prog_11_method_59_code
def my_M_inFrame : MethodName := ⟨rn_M, "inFrame", "(II)I"⟩
abbrev mb_M_register : ByteArray := prog_11_method_60_code
def my_M_register : MethodName := ⟨rn_M, "register", "(II)I"⟩
abbrev mb_M_queued : ByteArray := prog_11_method_61_code
def my_M_queued : MethodName := ⟨rn_M, "queued", "(I)I"⟩
abbrev mb_M_sleeps : ByteArray := prog_11_method_62_code
def my_M_sleeps : MethodName := ⟨rn_M, "sleeps", "(I)I"⟩
abbrev mb_M_status : ByteArray := prog_11_method_63_code
def my_M_status : MethodName := ⟨rn_M, "status", "(I)I"⟩
abbrev mb_M_cycles : ByteArray := prog_11_method_64_code
def my_M_cycles : MethodName := ⟨rn_M, "cycles", "()I"⟩
abbrev mb_M_ticks : ByteArray := prog_11_method_65_code
def my_M_ticks : MethodName := ⟨rn_M, "ticks", "()I"⟩
abbrev mb_M_lost : ByteArray := prog_11_method_66_code
def my_M_lost : MethodName := ⟨rn_M, "lost", "()I"⟩
abbrev mb_M_left : ByteArray := prog_11_method_67_code
def my_M_left : MethodName := ⟨rn_M, "left", "()I"⟩
abbrev cz_all : List vw_C := [(rn_C, fn_C, 1), (rn_K, fn_K, 6), (rn_Y, fn_Y, 1), (rn_P, fn_P, 5), (rn_Q, fn_Q, 2), (rn_G, fn_G, 9), (rn_A, fn_A, 5), (rn_I, fn_I, 6), (rn_T, fn_T, 4), (rn_M, fn_M, 17)]
abbrev ty_ (cI cT : ClassId) : List (ClassId × FieldType) := [(cI, .int), (cT, .object "TaskComputer$Task")]
/-! The base of the decompilation: contracts 'co_i', 'co_v' (from a world w with arguments As the method answers r and leaves the world w'), their rows. -/
def wg_all : List Cond := lw_tbl.filter goodWord
theorem wg_mem {w : Cond} (h : w ∈ lw_tbl) (hg : goodWord w = true) : w ∈ wg_all := List.mem_filter.mpr ⟨h, hg⟩
theorem wg_good {w : Cond} (h : w ∈ wg_all) : (w.onTables && w.keeps) = true ∨ ∃ ty, w = .arrayClass ty := good_of_word (List.mem_filter.mp h).2
theorem wg_in {y' : MethodName} {c' : ByteArray} {n' : Nat} {r' : Option FieldType} (h : Cond.code y' c' n' r' ∈ wg_all) : GoodIn wg_all (Cond.code y' c' n' r' :: wg_all) := by
  intro w hw
  rcases List.mem_cons.mp hw with rfl | hw
  · exact ⟨h, wg_good h⟩
  · exact ⟨hw, wg_good hw⟩
def bz_i : Bool → Int32
  | true => 1
  | false => 0
theorem bz_n (b : Bool) : narrow .boolean (.int (bz_i b)) = .int (bz_i b) := by cases b <;> rfl
theorem bz_f (b : Bool) : fits .boolean (.int (bz_i b)) = true := by cases b <;> rfl
def in_b (i : Int32) (n : Nat) : Bool := decide (0 ≤ i.toInt) && decide (i.toInt < (n : Int))
theorem in_b_vp {i : Int32} {n : Nat} (h : in_b i n = true) : vp_in i n := by
  simp only [in_b, Bool.and_eq_true, decide_eq_true_eq] at h
  exact vp_in_iff.mpr h
theorem op_b {α β : Type} {o : Option α} {k : α → Option β} {z : β} (h : o.bind k = some z) : ∃ x, o = some x ∧ k x = some z := Option.bind_eq_some_iff.mp h
theorem op_c {β : Type} {i : Int32} {n : Nat} {x : Option β} {z : β} (h : (if in_b i n = true then x else none) = some z) : vp_in i n ∧ x = some z := by
  by_cases hb : in_b i n = true
  · rw [if_pos hb] at h
    exact ⟨in_b_vp hb, h⟩
  · rw [if_neg hb] at h
    cases h
theorem op_z {β : Type} {y : Int32} {x : Option β} {z : β} (h : (if y = (0 : Int32) then none else x) = some z) : ¬ y = 0 ∧ x = some z := by
  by_cases hb : y = 0
  · rw [if_pos hb] at h
    cases h
  · rw [if_neg hb] at h
    exact ⟨hb, h⟩
section BASE
variable {p : Program} {l : Launch} {e : Env} {R : Room} {s : State} {m : MethodId} {args : Array Value} {below : List Frame} {meth : Method} {c : Code} {H : Heap} {locs : List Loc} {Q : State → Prop}
variable {cc bytes : ByteArray} {pc nL maxL idx n b : Nat} {ls : Array Slot} {rest st As : List Value} {D : va_G} {tys : List (ClassId × FieldType)} {A : Nat → Prop} {w w' : va_W} {own : String} {y : MethodName} {rt : FieldType} {ret : Option FieldType} {rm : Room} {r : Int32} {lv : List (Nat × Value)}
def qs_i (D : va_G) (tys : List (ClassId × FieldType)) (w' : va_W) (r : Int32) (A : Nat → Prop) : Array Value → State → Outcome → State → Prop := va_Qi (fun r' (_ : Unit) => r' = r) (fun _ t => va_P D cz_all w' t.heap ∧ va_K D cz_all tys t ∧ va_D A w') A
def qs_v (D : va_G) (tys : List (ClassId × FieldType)) (w' : va_W) (A : Nat → Prop) : Array Value → State → Outcome → State → Prop := va_Qv (fun (_ : Unit) => True) (fun _ t => va_P D cz_all w' t.heap ∧ va_K D cz_all tys t ∧ va_D A w') A
def qs_p (D : va_G) (tys : List (ClassId × FieldType)) (As : List Value) (w : va_W) (sz : Nat) : Array Value → State → Prop := va_Pc As (fun U => U.heap.size = sz ∧ va_P D cz_all w U.heap ∧ va_K D cz_all tys U ∧ va_D (fun _ => True) w)
def co_i (l : Launch) (y : MethodName) (cc : ByteArray) (nL : Nat) (rt : FieldType) (rm : Room) (D : va_G) (tys : List (ClassId × FieldType)) (As : List Value) (w w' : va_W) (r : Int32) : Prop := ∀ sz : Nat, Met l y (Cond.code y cc nL (some rt) :: wg_all) rm (qs_p D tys As w sz) (qs_i D tys w' r (va_A w sz)) 0 0 (va_A w sz)
def co_v (l : Launch) (y : MethodName) (cc : ByteArray) (nL : Nat) (rm : Room) (D : va_G) (tys : List (ClassId × FieldType)) (As : List Value) (w w' : va_W) : Prop := ∀ sz : Nat, Met l y (Cond.code y cc nL none :: wg_all) rm (qs_p D tys As w sz) (qs_v D tys w' (va_A w sz)) 0 0 (va_A w sz)
theorem qs_p_blind {As : List Value} {w : va_W} {sz : Nat} : FrameBlind (qs_p D tys As w sz) := fun a U g mk q => by
  obtain ⟨q0, q1, qP, qK, qD⟩ := q
  exact ⟨q0, q1, qP, va_K.moved (u := U) (U := U.calling g mk a) (Vm.Alike.refl U.vm) qK, qD⟩
theorem co_i_of (hy : plainName y.cls = true) (hn : (lg_sl As).length ≤ nL)
    (body : ∀ (p : Program) (e : Env) (s : State) (m : MethodId) (below : List Frame) (meth : Method) (c : Code) (A : Nat → Prop) (ls : Array Slot), CallFix p m c cc nL s As.toArray wg_all y.cls → meth.sig.returnType = some rt → meth.locks = false → va_K D cz_all tys s → va_P D cz_all w s.heap → va_D A w → va_S A s.heap s.heap [] → (∀ q, s.heap.size ≤ q → A q) → lv_has ls nL (lv_args 0 As) →
      W p l e rm s m As.toArray below meth c s.heap [] 0 0 (MQ below (qs_i D tys w' r A) As.toArray s 0 0 A) (F0 m 0 ls [])) : co_i l y cc nL rt rm D tys As w w' r := by
  intro sz
  refine Met.ofW (cc := cc) (maxL := nL) (ret := some rt) hy rfl ?_
  intro p e s m args below meth c s₁ B hml hv
  obtain ⟨rfl, hsz, hP, hK, hD0⟩ := hv
  have hts := atoms_spec (ws := Cond.code y cc nL (some rt) :: wg_all) B.pre
  subst hsz
  rw [lg_entry_eq]
  exact body p e s m below meth c _ _ ⟨B.exec, B.bytes, hml, findClass_of_methodNamed B.named, fun w hw => hts w (List.mem_cons_of_mem _ hw)⟩ B.returns B.notSynchronized hK hP hD0.self va_S.rf (fun q h => Or.inr h) (lv_entry As hn)
theorem co_v_of (hy : plainName y.cls = true) (hn : (lg_sl As).length ≤ nL)
    (body : ∀ (p : Program) (e : Env) (s : State) (m : MethodId) (below : List Frame) (meth : Method) (c : Code) (A : Nat → Prop) (ls : Array Slot), CallFix p m c cc nL s As.toArray wg_all y.cls → meth.sig.returnType = none → meth.locks = false → va_K D cz_all tys s → va_P D cz_all w s.heap → va_D A w → va_S A s.heap s.heap [] → (∀ q, s.heap.size ≤ q → A q) → lv_has ls nL (lv_args 0 As) →
      W p l e rm s m As.toArray below meth c s.heap [] 0 0 (MQ below (qs_v D tys w' A) As.toArray s 0 0 A) (F0 m 0 ls [])) : co_v l y cc nL rm D tys As w w' := by
  intro sz
  refine Met.ofW (cc := cc) (maxL := nL) (ret := none) hy rfl ?_
  intro p e s m args below meth c s₁ B hml hv
  obtain ⟨rfl, hsz, hP, hK, hD0⟩ := hv
  have hts := atoms_spec (ws := Cond.code y cc nL none :: wg_all) B.pre
  subst hsz
  rw [lg_entry_eq]
  exact body p e s m below meth c _ _ ⟨B.exec, B.bytes, hml, findClass_of_methodNamed B.named, fun w hw => hts w (List.mem_cons_of_mem _ hw)⟩ B.returns B.notSynchronized hK hP hD0.self va_S.rf (fun q h => Or.inr h) (lv_entry As hn)
theorem rt_i (X : CallFix p m c cc nL s args wg_all own) (hr : meth.sig.returnType = some rt) (hlk : meth.locks = false) (hK : va_K D cz_all tys s) (hn : narrow rt (.int r) = .int r) (hP : va_P D cz_all w' H) (hD : va_D A w') (hS : va_S A s.heap H locs) (hdg : decode cc pc = .ok (.ireturn, 1)) : W p l e R s m args below meth c H locs 0 0 (MQ below (qs_i D tys w' r A) args s 0 0 A) (F0 m pc ls [.int r]) :=
  W.zret X.1 X.2.1 hr hn (fun t ht hW => ⟨⟨r, (), rfl, rfl, by rw [ht]; exact hP, va_K.moved hW.alike hK, hD⟩, hS.F ht⟩) hS.2.2 hdg hlk
theorem rt_v (X : CallFix p m c cc nL s args wg_all own) (hr : meth.sig.returnType = none) (hlk : meth.locks = false) (hK : va_K D cz_all tys s) (hP : va_P D cz_all w' H) (hD : va_D A w') (hS : va_S A s.heap H locs) (hdg : decode cc pc = .ok (.return_, 1)) : W p l e R s m args below meth c H locs 0 0 (MQ below (qs_v D tys w' A) args s 0 0 A) (F0 m pc ls []) :=
  W.vret X.1 X.2.1 hr (fun t ht hW => ⟨⟨(), rfl, trivial, by rw [ht]; exact hP, va_K.moved hW.alike hK, hD⟩, hS.F ht⟩) hS.2.2 hdg hlk
def cw_V (own : String) (idx : Nat) (y : MethodName) (bytes : ByteArray) (maxL : Nat) (ret : Option FieldType) (n : Nat) : Prop := Cond.methodLink own idx y ∈ wg_all ∧ Cond.instanceMethod y ∈ wg_all ∧ Cond.selects y.cls y y ∈ wg_all ∧ Cond.initialized y.cls ∈ wg_all ∧ Cond.code y bytes maxL ret ∈ wg_all ∧ y.cls ≠ "java/lang/invoke/MethodHandle" ∧ y.cls ≠ "java/lang/invoke/VarHandle" ∧ (parseMethodDescriptor y.desc).map (fun d => d.parameters.length) = some n
def cw_S (own : String) (idx : Nat) (y : MethodName) (bytes : ByteArray) (maxL : Nat) (ret : Option FieldType) (n : Nat) : Prop := Cond.methodLink own idx y ∈ wg_all ∧ Cond.static y ∈ wg_all ∧ Cond.initialized y.cls ∈ wg_all ∧ Cond.code y bytes maxL ret ∈ wg_all ∧ y.cls ≠ "java/lang/invoke/MethodHandle" ∧ y.cls ≠ "java/lang/invoke/VarHandle" ∧ (parseMethodDescriptor y.desc).map (fun d => d.parameters.length) = some n
def rm_in (rm R : Room) (maxL : Nat) : Prop := rm.cells = 0 ∧ rm.slots = 0 ∧ rm.frames + 1 ≤ R.frames ∧ 8 + (maxL + 11) + rm.locals ≤ R.locals
theorem cw_V_use (cw : cw_V own idx y bytes maxL ret n) (X : CallFix p m c cc nL s args wg_all own) (hR : rm_in rm R maxL) : CallW R s args own y.cls idx y bytes maxL ret (Cond.code y bytes maxL ret :: wg_all) rm 0 0 n := by
  obtain ⟨h1, h2, h3, h4, h5, h6⟩ := cw
  have ht := X.2.2.2.2
  exact ⟨callB_of n ht (wg_in h5) rfl hR.1 hR.2.1 (ht _ h4) (ht _ h1) h6 hR.2.2, ht _ h2, ht _ h3⟩
theorem cw_S_use (cw : cw_S own idx y bytes maxL ret n) (X : CallFix p m c cc nL s args wg_all own) (hR : rm_in rm R maxL) : CallB R s args own idx y bytes maxL ret (Cond.code y bytes maxL ret :: wg_all) rm 0 0 n ∧ (Cond.static y).before args s = true := by
  obtain ⟨h1, h2, h4, h5, h6⟩ := cw
  have ht := X.2.2.2.2
  exact ⟨callB_of n ht (wg_in h5) rfl hR.1 hR.2.1 (ht _ h4) (ht _ h1) h6 hR.2.2, ht _ h2⟩
theorem fr_all (hD : va_D A w) (hS : va_S A s.heap H locs) (hA : ∀ q, s.heap.size ≤ q → A q) : ∀ q, va_A w H.size q → A q := by
  intro q h
  rcases h with ⟨k, e, h⟩ | h
  · exact hD.2 k _ h
  · exact hA q (Nat.le_trans hS.1 h)
theorem pre_V (hK : va_K D cz_all tys s) (hP : va_P D cz_all w H) (hD : va_D A w) {C : String} (hcell : ∃ cell : Cell, H[b]? = some cell ∧ cell.vm.isStatics = false ∧ s.vm.findClass C = some cell.cls) : PreV s H C b (qs_p D tys (.ref b :: As) w H.size) As :=
  ⟨qs_p_blind, hcell, fun U hU hW => ⟨rfl, by rw [hU], by rw [hU]; exact hP, va_K.moved hW.alike hK, hD.weaken (fun _ _ _ _ => trivial)⟩⟩
theorem pre_S (hK : va_K D cz_all tys s) (hP : va_P D cz_all w H) (hD : va_D A w) : PreS s H (qs_p D tys As w H.size) As :=
  ⟨qs_p_blind, fun U hU hW => ⟨rfl, by rw [hU], by rw [hU]; exact hP, va_K.moved hW.alike hK, hD.weaken (fun _ _ _ _ => trivial)⟩⟩
/-- a call in the callee's own world: invokevirtual, an int -/
theorem cl_i (X : CallFix p m c cc nL s args wg_all own) (cw : cw_V own idx y bytes maxL (some rt) n) (hK : va_K D cz_all tys s) (hP : va_P D cz_all w H) (hD : va_D A w) (hS : va_S A s.heap H locs) (hA : ∀ q, s.heap.size ≤ q → A q) (hl : lv_has ls nL lv) (hM : co_i l y bytes maxL rt rm D tys (.ref b :: As) w w' r) (hR : rm_in rm R maxL) (q0 : Nat) {ci : Nat} {fs : List Value} {q : vw_C} (he : w[q0]? = some (b, .inr (ci, fs))) (hc : cz_all[ci]? = some q) (hq : q.1 = y.cls) (hst : st = As.reverse ++ .ref b :: rest) (hn : As.length = n) (hW : (rest.map fun v => v.category).sum ≤ 8) (hdg : decode cc pc = .ok (.invokevirtual idx, 3))
    (kk : ∀ (H1 : Heap) (locs1 : List Loc), va_P D cz_all w' H1 → va_D A w' → va_S A s.heap H1 locs1 → W p l e R s m args below meth c H1 locs1 0 0 Q (F0 m (pc + 3) ls (.int r :: rest))) : W p l e R s m args below meth c H locs 0 0 Q (F0 m pc ls st) := by
  subst hst
  have hFc := fr_all hD hS hA
  have hcell := va_recv hK hP hc he
  rw [hq] at hcell
  refine va_calli (va_runV (As := As) (rest := rest) (b := b) X (hM H.size) (cw_V_use cw X hR) (pre_V hK hP hD hcell) rfl hn hl.1 rfl (lv_room hW) hdg ⟨Nat.zero_le _, Nat.zero_le _⟩) hS (fun q _ h => hFc q h) hFc (fun r' u t H1 locs1 ht hvm hpost hB hz1 hk1 hS1 => ?_)
  obtain ⟨hP1, hK1, hD1⟩ := hB
  cases hpost
  exact kk H1 locs1 (by rw [← ht]; exact hP1) (hD1.weaken (fun k q _ h => hFc q.1 h)) hS1
/-- invokevirtual, void -/
theorem cl_v (X : CallFix p m c cc nL s args wg_all own) (cw : cw_V own idx y bytes maxL none n) (hK : va_K D cz_all tys s) (hP : va_P D cz_all w H) (hD : va_D A w) (hS : va_S A s.heap H locs) (hA : ∀ q, s.heap.size ≤ q → A q) (hl : lv_has ls nL lv) (hM : co_v l y bytes maxL rm D tys (.ref b :: As) w w') (hR : rm_in rm R maxL) (q0 : Nat) {ci : Nat} {fs : List Value} {q : vw_C} (he : w[q0]? = some (b, .inr (ci, fs))) (hc : cz_all[ci]? = some q) (hq : q.1 = y.cls) (hst : st = As.reverse ++ .ref b :: rest) (hn : As.length = n) (hW : (rest.map fun v => v.category).sum ≤ 8) (hdg : decode cc pc = .ok (.invokevirtual idx, 3))
    (kk : ∀ (H1 : Heap) (locs1 : List Loc), va_P D cz_all w' H1 → va_D A w' → va_S A s.heap H1 locs1 → W p l e R s m args below meth c H1 locs1 0 0 Q (F0 m (pc + 3) ls rest)) : W p l e R s m args below meth c H locs 0 0 Q (F0 m pc ls st) := by
  subst hst
  have hFc := fr_all hD hS hA
  have hcell := va_recv hK hP hc he
  rw [hq] at hcell
  refine va_callv (va_runV (As := As) (rest := rest) (b := b) X (hM H.size) (cw_V_use cw X hR) (pre_V hK hP hD hcell) rfl hn hl.1 rfl (lv_room hW) hdg ⟨Nat.zero_le _, Nat.zero_le _⟩) hS (fun q _ h => hFc q h) hFc (fun u t H1 locs1 ht hvm hpost hB hz1 hk1 hS1 => ?_)
  obtain ⟨hP1, hK1, hD1⟩ := hB
  exact kk H1 locs1 (by rw [← ht]; exact hP1) (hD1.weaken (fun k q _ h => hFc q.1 h)) hS1
/-- invokestatic, an int -/
theorem cl_si (X : CallFix p m c cc nL s args wg_all own) (cw : cw_S own idx y bytes maxL (some rt) n) (hK : va_K D cz_all tys s) (hP : va_P D cz_all w H) (hD : va_D A w) (hS : va_S A s.heap H locs) (hA : ∀ q, s.heap.size ≤ q → A q) (hl : lv_has ls nL lv) (hM : co_i l y bytes maxL rt rm D tys As w w' r) (hR : rm_in rm R maxL) (hst : st = As.reverse ++ rest) (hn : As.length = n) (hW : (rest.map fun v => v.category).sum ≤ 8) (hdg : decode cc pc = .ok (.invokestatic idx, 3))
    (kk : ∀ (H1 : Heap) (locs1 : List Loc), va_P D cz_all w' H1 → va_D A w' → va_S A s.heap H1 locs1 → W p l e R s m args below meth c H1 locs1 0 0 Q (F0 m (pc + 3) ls (.int r :: rest))) : W p l e R s m args below meth c H locs 0 0 Q (F0 m pc ls st) := by
  subst hst
  have hFc := fr_all hD hS hA
  refine va_calli (va_runS (As := As) (rest := rest) X (hM H.size) (cw_S_use cw X hR) (pre_S hK hP hD) rfl hn hl.1 rfl (lv_room hW) hdg ⟨Nat.zero_le _, Nat.zero_le _⟩) hS (fun q _ h => hFc q h) hFc (fun r' u t H1 locs1 ht hvm hpost hB hz1 hk1 hS1 => ?_)
  obtain ⟨hP1, hK1, hD1⟩ := hB
  cases hpost
  exact kk H1 locs1 (by rw [← ht]; exact hP1) (hD1.weaken (fun k q _ h => hFc q.1 h)) hS1
end BASE
theorem fw_C : ∀ w ∈ u_ws rn_C fn_C 1, w ∈ wg_all := by decide +kernel
theorem fw_K : ∀ w ∈ u_ws rn_K fn_K 6, w ∈ wg_all := by decide +kernel
theorem fw_Y : ∀ w ∈ u_ws rn_Y fn_Y 1, w ∈ wg_all := by decide +kernel
theorem fw_P : ∀ w ∈ u_ws rn_P fn_P 5, w ∈ wg_all := by decide +kernel
theorem fw_Q : ∀ w ∈ u_ws rn_Q fn_Q 2, w ∈ wg_all := by decide +kernel
theorem fw_G : ∀ w ∈ u_ws rn_G fn_G 9, w ∈ wg_all := by decide +kernel
theorem fw_A : ∀ w ∈ u_ws rn_A fn_A 5, w ∈ wg_all := by decide +kernel
theorem fw_I : ∀ w ∈ u_ws rn_I fn_I 6, w ∈ wg_all := by decide +kernel
theorem fw_T : ∀ w ∈ u_ws rn_T fn_T 4, w ∈ wg_all := by decide +kernel
theorem fw_M : ∀ w ∈ u_ws rn_M fn_M 17, w ∈ wg_all := by decide +kernel
