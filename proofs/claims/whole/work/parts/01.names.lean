-- ===== PART A: goes FIRST, ahead of the names: the tables' words, and 'selects' of the private methods out of them =====
/-- a private method of a class that the tables say can be made, by its rows of tables_1 -/
def lw_okq (q : MethodName × Nat) : Prop := (q.1.cls ≠ "java/lang/invoke/MethodHandle" ∧ q.1.cls ≠ "java/lang/invoke/VarHandle") ∧ Cond.instantiable q.1.cls q.2 ∈ tables_1 ∧ Cond.privateMethod q.1 ∈ tables_1 ∧ Cond.instanceMethod q.1 ∈ tables_1
theorem lw_p0 : lw_okq (⟨"ExtensionStarts", "isClass", "(I)Z"⟩, 11) := ⟨⟨by decide +kernel, by decide +kernel⟩, List.mem_of_getElem? (i := 17) (by decide +kernel), List.mem_of_getElem? (i := 231) (by decide +kernel), List.mem_of_getElem? (i := 232) (by decide +kernel)⟩
theorem lw_p1 : lw_okq (⟨"ExtensionStarts", "isType", "(I)Z"⟩, 11) := ⟨⟨by decide +kernel, by decide +kernel⟩, List.mem_of_getElem? (i := 17) (by decide +kernel), List.mem_of_getElem? (i := 235) (by decide +kernel), List.mem_of_getElem? (i := 236) (by decide +kernel)⟩
theorem lw_p2 : lw_okq (⟨"ExtensionStarts", "arrange", "(I)V"⟩, 11) := ⟨⟨by decide +kernel, by decide +kernel⟩, List.mem_of_getElem? (i := 17) (by decide +kernel), List.mem_of_getElem? (i := 250) (by decide +kernel), List.mem_of_getElem? (i := 251) (by decide +kernel)⟩
theorem lw_p3 : lw_okq (⟨"ExtensionStarts", "refusalOfUse", "(IIIII)I"⟩, 11) := ⟨⟨by decide +kernel, by decide +kernel⟩, List.mem_of_getElem? (i := 17) (by decide +kernel), List.mem_of_getElem? (i := 301) (by decide +kernel), List.mem_of_getElem? (i := 302) (by decide +kernel)⟩
theorem lw_p4 : lw_okq (⟨"ExtensionStarts", "canBeSet", "(II)Z"⟩, 11) := ⟨⟨by decide +kernel, by decide +kernel⟩, List.mem_of_getElem? (i := 17) (by decide +kernel), List.mem_of_getElem? (i := 308) (by decide +kernel), List.mem_of_getElem? (i := 309) (by decide +kernel)⟩
theorem lw_p5 : lw_okq (⟨"ExtensionStarts", "homeOf", "(II)I"⟩, 11) := ⟨⟨by decide +kernel, by decide +kernel⟩, List.mem_of_getElem? (i := 17) (by decide +kernel), List.mem_of_getElem? (i := 312) (by decide +kernel), List.mem_of_getElem? (i := 313) (by decide +kernel)⟩
theorem lw_p6 : lw_okq (⟨"ExtensionStarts", "perform", "(IIII)I"⟩, 11) := ⟨⟨by decide +kernel, by decide +kernel⟩, List.mem_of_getElem? (i := 17) (by decide +kernel), List.mem_of_getElem? (i := 320) (by decide +kernel), List.mem_of_getElem? (i := 321) (by decide +kernel)⟩
theorem lw_p7 : lw_okq (⟨"ExtensionStarts", "makeAndCount", "(I)I"⟩, 11) := ⟨⟨by decide +kernel, by decide +kernel⟩, List.mem_of_getElem? (i := 17) (by decide +kernel), List.mem_of_getElem? (i := 324) (by decide +kernel), List.mem_of_getElem? (i := 325) (by decide +kernel)⟩
theorem lw_p8 : lw_okq (⟨"ExtensionStarts", "makeThing", "(II)I"⟩, 11) := ⟨⟨by decide +kernel, by decide +kernel⟩, List.mem_of_getElem? (i := 17) (by decide +kernel), List.mem_of_getElem? (i := 328) (by decide +kernel), List.mem_of_getElem? (i := 329) (by decide +kernel)⟩
theorem lw_p9 : lw_okq (⟨"ExtensionStarts", "wake", "(II)I"⟩, 11) := ⟨⟨by decide +kernel, by decide +kernel⟩, List.mem_of_getElem? (i := 17) (by decide +kernel), List.mem_of_getElem? (i := 332) (by decide +kernel), List.mem_of_getElem? (i := 333) (by decide +kernel)⟩
theorem lw_p10 : lw_okq (⟨"ExtensionStarts", "placeOf", "(II)LExtensionStarts$Place;"⟩, 11) := ⟨⟨by decide +kernel, by decide +kernel⟩, List.mem_of_getElem? (i := 17) (by decide +kernel), List.mem_of_getElem? (i := 336) (by decide +kernel), List.mem_of_getElem? (i := 337) (by decide +kernel)⟩
theorem lw_p11 : lw_okq (⟨"ExtensionStarts", "wakeAbove", "(II)I"⟩, 11) := ⟨⟨by decide +kernel, by decide +kernel⟩, List.mem_of_getElem? (i := 17) (by decide +kernel), List.mem_of_getElem? (i := 340) (by decide +kernel), List.mem_of_getElem? (i := 341) (by decide +kernel)⟩
theorem lw_p12 : lw_okq (⟨"ExtensionStarts", "doLines", "(II)I"⟩, 11) := ⟨⟨by decide +kernel, by decide +kernel⟩, List.mem_of_getElem? (i := 17) (by decide +kernel), List.mem_of_getElem? (i := 344) (by decide +kernel), List.mem_of_getElem? (i := 345) (by decide +kernel)⟩
theorem lw_p13 : lw_okq (⟨"ExtensionStarts", "doLine", "(III)I"⟩, 11) := ⟨⟨by decide +kernel, by decide +kernel⟩, List.mem_of_getElem? (i := 17) (by decide +kernel), List.mem_of_getElem? (i := 348) (by decide +kernel), List.mem_of_getElem? (i := 349) (by decide +kernel)⟩
theorem lw_p14 : lw_okq (⟨"ExtensionStarts", "takeSteps", "(I)Z"⟩, 11) := ⟨⟨by decide +kernel, by decide +kernel⟩, List.mem_of_getElem? (i := 17) (by decide +kernel), List.mem_of_getElem? (i := 352) (by decide +kernel), List.mem_of_getElem? (i := 353) (by decide +kernel)⟩
theorem lw_p15 : lw_okq (⟨"ExtensionStarts", "write", "(III)I"⟩, 11) := ⟨⟨by decide +kernel, by decide +kernel⟩, List.mem_of_getElem? (i := 17) (by decide +kernel), List.mem_of_getElem? (i := 356) (by decide +kernel), List.mem_of_getElem? (i := 357) (by decide +kernel)⟩
def lw_privs_1 : List (MethodName × Nat) := [(⟨"ExtensionStarts", "isClass", "(I)Z"⟩, 11), (⟨"ExtensionStarts", "isType", "(I)Z"⟩, 11), (⟨"ExtensionStarts", "arrange", "(I)V"⟩, 11), (⟨"ExtensionStarts", "refusalOfUse", "(IIIII)I"⟩, 11), (⟨"ExtensionStarts", "canBeSet", "(II)Z"⟩, 11), (⟨"ExtensionStarts", "homeOf", "(II)I"⟩, 11), (⟨"ExtensionStarts", "perform", "(IIII)I"⟩, 11), (⟨"ExtensionStarts", "makeAndCount", "(I)I"⟩, 11), (⟨"ExtensionStarts", "makeThing", "(II)I"⟩, 11), (⟨"ExtensionStarts", "wake", "(II)I"⟩, 11), (⟨"ExtensionStarts", "placeOf", "(II)LExtensionStarts$Place;"⟩, 11), (⟨"ExtensionStarts", "wakeAbove", "(II)I"⟩, 11), (⟨"ExtensionStarts", "doLines", "(II)I"⟩, 11), (⟨"ExtensionStarts", "doLine", "(III)I"⟩, 11), (⟨"ExtensionStarts", "takeSteps", "(I)Z"⟩, 11), (⟨"ExtensionStarts", "write", "(III)I"⟩, 11)]
theorem lw_r1 : ∀ q ∈ lw_privs_1, lw_okq q := List.forall_mem_cons.mpr ⟨lw_p0, List.forall_mem_cons.mpr ⟨lw_p1, List.forall_mem_cons.mpr ⟨lw_p2, List.forall_mem_cons.mpr ⟨lw_p3, List.forall_mem_cons.mpr ⟨lw_p4, List.forall_mem_cons.mpr ⟨lw_p5, List.forall_mem_cons.mpr ⟨lw_p6, List.forall_mem_cons.mpr ⟨lw_p7, List.forall_mem_cons.mpr ⟨lw_p8, List.forall_mem_cons.mpr ⟨lw_p9, List.forall_mem_cons.mpr ⟨lw_p10, List.forall_mem_cons.mpr ⟨lw_p11, List.forall_mem_cons.mpr ⟨lw_p12, List.forall_mem_cons.mpr ⟨lw_p13, List.forall_mem_cons.mpr ⟨lw_p14, List.forall_mem_cons.mpr ⟨lw_p15, fun _ h => absurd h List.not_mem_nil⟩⟩⟩⟩⟩⟩⟩⟩⟩⟩⟩⟩⟩⟩⟩⟩
theorem lw_p16 : lw_okq (⟨"ExtensionStarts", "askAndAdd", "(IIIII)I"⟩, 11) := ⟨⟨by decide +kernel, by decide +kernel⟩, List.mem_of_getElem? (i := 17) (by decide +kernel), List.mem_of_getElem? (i := 364) (by decide +kernel), List.mem_of_getElem? (i := 365) (by decide +kernel)⟩
theorem lw_p17 : lw_okq (⟨"ExtensionStarts", "ask", "(III)I"⟩, 11) := ⟨⟨by decide +kernel, by decide +kernel⟩, List.mem_of_getElem? (i := 17) (by decide +kernel), List.mem_of_getElem? (i := 368) (by decide +kernel), List.mem_of_getElem? (i := 369) (by decide +kernel)⟩
theorem lw_p18 : lw_okq (⟨"ExtensionStarts", "askAndSet", "(III)I"⟩, 11) := ⟨⟨by decide +kernel, by decide +kernel⟩, List.mem_of_getElem? (i := 17) (by decide +kernel), List.mem_of_getElem? (i := 384) (by decide +kernel), List.mem_of_getElem? (i := 385) (by decide +kernel)⟩
theorem lw_p19 : lw_okq (⟨"ExtensionStarts", "countNotZero", "(II)I"⟩, 11) := ⟨⟨by decide +kernel, by decide +kernel⟩, List.mem_of_getElem? (i := 17) (by decide +kernel), List.mem_of_getElem? (i := 401) (by decide +kernel), List.mem_of_getElem? (i := 402) (by decide +kernel)⟩
theorem lw_p20 : lw_okq (⟨"java/lang/Throwable", "fillInStackTrace", "(I)Ljava/lang/Throwable;"⟩, 6) := ⟨⟨by decide +kernel, by decide +kernel⟩, List.mem_of_getElem? (i := 476) (by decide +kernel), List.mem_of_getElem? (i := 474) (by decide +kernel), List.mem_of_getElem? (i := 475) (by decide +kernel)⟩
theorem lw_p21 : lw_okq (⟨"ExtensionStartsModel", "begins", "()V"⟩, 41) := ⟨⟨by decide +kernel, by decide +kernel⟩, List.mem_of_getElem? (i := 529) (by decide +kernel), List.mem_of_getElem? (i := 535) (by decide +kernel), List.mem_of_getElem? (i := 536) (by decide +kernel)⟩
theorem lw_p22 : lw_okq (⟨"ExtensionStartsModel", "isType", "(I)Z"⟩, 41) := ⟨⟨by decide +kernel, by decide +kernel⟩, List.mem_of_getElem? (i := 529) (by decide +kernel), List.mem_of_getElem? (i := 675) (by decide +kernel), List.mem_of_getElem? (i := 676) (by decide +kernel)⟩
theorem lw_p23 : lw_okq (⟨"ExtensionStartsModel", "homeOf", "(II)I"⟩, 41) := ⟨⟨by decide +kernel, by decide +kernel⟩, List.mem_of_getElem? (i := 529) (by decide +kernel), List.mem_of_getElem? (i := 701) (by decide +kernel), List.mem_of_getElem? (i := 702) (by decide +kernel)⟩
theorem lw_p24 : lw_okq (⟨"ExtensionStartsModel", "makes", "(II)I"⟩, 41) := ⟨⟨by decide +kernel, by decide +kernel⟩, List.mem_of_getElem? (i := 529) (by decide +kernel), List.mem_of_getElem? (i := 705) (by decide +kernel), List.mem_of_getElem? (i := 706) (by decide +kernel)⟩
theorem lw_p25 : lw_okq (⟨"ExtensionStartsModel", "wakes", "(II)I"⟩, 41) := ⟨⟨by decide +kernel, by decide +kernel⟩, List.mem_of_getElem? (i := 529) (by decide +kernel), List.mem_of_getElem? (i := 709) (by decide +kernel), List.mem_of_getElem? (i := 710) (by decide +kernel)⟩
theorem lw_p26 : lw_okq (⟨"ExtensionStartsModel", "ask", "(II)V"⟩, 41) := ⟨⟨by decide +kernel, by decide +kernel⟩, List.mem_of_getElem? (i := 529) (by decide +kernel), List.mem_of_getElem? (i := 713) (by decide +kernel), List.mem_of_getElem? (i := 714) (by decide +kernel)⟩
theorem lw_p27 : lw_okq (⟨"ExtensionStartsModel", "at", "(II)I"⟩, 41) := ⟨⟨by decide +kernel, by decide +kernel⟩, List.mem_of_getElem? (i := 529) (by decide +kernel), List.mem_of_getElem? (i := 717) (by decide +kernel), List.mem_of_getElem? (i := 718) (by decide +kernel)⟩
theorem lw_p28 : lw_okq (⟨"ExtensionStartsModel", "listFulls", "(I)V"⟩, 41) := ⟨⟨by decide +kernel, by decide +kernel⟩, List.mem_of_getElem? (i := 529) (by decide +kernel), List.mem_of_getElem? (i := 721) (by decide +kernel), List.mem_of_getElem? (i := 722) (by decide +kernel)⟩
theorem lw_p29 : lw_okq (⟨"ExtensionStartsModel", "heard", "(I)V"⟩, 41) := ⟨⟨by decide +kernel, by decide +kernel⟩, List.mem_of_getElem? (i := 529) (by decide +kernel), List.mem_of_getElem? (i := 725) (by decide +kernel), List.mem_of_getElem? (i := 726) (by decide +kernel)⟩
theorem lw_p30 : lw_okq (⟨"ExtensionStartsModel", "write", "(IIII)I"⟩, 41) := ⟨⟨by decide +kernel, by decide +kernel⟩, List.mem_of_getElem? (i := 529) (by decide +kernel), List.mem_of_getElem? (i := 729) (by decide +kernel), List.mem_of_getElem? (i := 730) (by decide +kernel)⟩
theorem lw_p31 : lw_okq (⟨"ExtensionStartsModel", "plain", "(III)I"⟩, 41) := ⟨⟨by decide +kernel, by decide +kernel⟩, List.mem_of_getElem? (i := 529) (by decide +kernel), List.mem_of_getElem? (i := 733) (by decide +kernel), List.mem_of_getElem? (i := 734) (by decide +kernel)⟩
def lw_privs_2 : List (MethodName × Nat) := [(⟨"ExtensionStarts", "askAndAdd", "(IIIII)I"⟩, 11), (⟨"ExtensionStarts", "ask", "(III)I"⟩, 11), (⟨"ExtensionStarts", "askAndSet", "(III)I"⟩, 11), (⟨"ExtensionStarts", "countNotZero", "(II)I"⟩, 11), (⟨"java/lang/Throwable", "fillInStackTrace", "(I)Ljava/lang/Throwable;"⟩, 6), (⟨"ExtensionStartsModel", "begins", "()V"⟩, 41), (⟨"ExtensionStartsModel", "isType", "(I)Z"⟩, 41), (⟨"ExtensionStartsModel", "homeOf", "(II)I"⟩, 41), (⟨"ExtensionStartsModel", "makes", "(II)I"⟩, 41), (⟨"ExtensionStartsModel", "wakes", "(II)I"⟩, 41), (⟨"ExtensionStartsModel", "ask", "(II)V"⟩, 41), (⟨"ExtensionStartsModel", "at", "(II)I"⟩, 41), (⟨"ExtensionStartsModel", "listFulls", "(I)V"⟩, 41), (⟨"ExtensionStartsModel", "heard", "(I)V"⟩, 41), (⟨"ExtensionStartsModel", "write", "(IIII)I"⟩, 41), (⟨"ExtensionStartsModel", "plain", "(III)I"⟩, 41)]
theorem lw_r2 : ∀ q ∈ lw_privs_2, lw_okq q := List.forall_mem_cons.mpr ⟨lw_p16, List.forall_mem_cons.mpr ⟨lw_p17, List.forall_mem_cons.mpr ⟨lw_p18, List.forall_mem_cons.mpr ⟨lw_p19, List.forall_mem_cons.mpr ⟨lw_p20, List.forall_mem_cons.mpr ⟨lw_p21, List.forall_mem_cons.mpr ⟨lw_p22, List.forall_mem_cons.mpr ⟨lw_p23, List.forall_mem_cons.mpr ⟨lw_p24, List.forall_mem_cons.mpr ⟨lw_p25, List.forall_mem_cons.mpr ⟨lw_p26, List.forall_mem_cons.mpr ⟨lw_p27, List.forall_mem_cons.mpr ⟨lw_p28, List.forall_mem_cons.mpr ⟨lw_p29, List.forall_mem_cons.mpr ⟨lw_p30, List.forall_mem_cons.mpr ⟨lw_p31, fun _ h => absurd h List.not_mem_nil⟩⟩⟩⟩⟩⟩⟩⟩⟩⟩⟩⟩⟩⟩⟩⟩
theorem lw_p32 : lw_okq (⟨"ExtensionStartsModel", "end", "(II)V"⟩, 41) := ⟨⟨by decide +kernel, by decide +kernel⟩, List.mem_of_getElem? (i := 529) (by decide +kernel), List.mem_of_getElem? (i := 737) (by decide +kernel), List.mem_of_getElem? (i := 738) (by decide +kernel)⟩
theorem lw_p33 : lw_okq (⟨"ExtensionStartsModel", "goes", "(I)V"⟩, 41) := ⟨⟨by decide +kernel, by decide +kernel⟩, List.mem_of_getElem? (i := 529) (by decide +kernel), List.mem_of_getElem? (i := 741) (by decide +kernel), List.mem_of_getElem? (i := 742) (by decide +kernel)⟩
theorem lw_p34 : lw_okq (⟨"ExtensionStartsModel", "does", "(II)V"⟩, 41) := ⟨⟨by decide +kernel, by decide +kernel⟩, List.mem_of_getElem? (i := 529) (by decide +kernel), List.mem_of_getElem? (i := 745) (by decide +kernel), List.mem_of_getElem? (i := 746) (by decide +kernel)⟩
theorem lw_p35 : lw_okq (⟨"ExtensionStartsModel", "asksFor", "(II)I"⟩, 41) := ⟨⟨by decide +kernel, by decide +kernel⟩, List.mem_of_getElem? (i := 529) (by decide +kernel), List.mem_of_getElem? (i := 749) (by decide +kernel), List.mem_of_getElem? (i := 750) (by decide +kernel)⟩
theorem lw_p36 : lw_okq (⟨"ExtensionStartsModel", "make", "(II)V"⟩, 41) := ⟨⟨by decide +kernel, by decide +kernel⟩, List.mem_of_getElem? (i := 529) (by decide +kernel), List.mem_of_getElem? (i := 753) (by decide +kernel), List.mem_of_getElem? (i := 754) (by decide +kernel)⟩
theorem lw_p37 : lw_okq (⟨"ExtensionStartsModel", "asks", "(III)I"⟩, 41) := ⟨⟨by decide +kernel, by decide +kernel⟩, List.mem_of_getElem? (i := 529) (by decide +kernel), List.mem_of_getElem? (i := 757) (by decide +kernel), List.mem_of_getElem? (i := 758) (by decide +kernel)⟩
def lw_privs_3 : List (MethodName × Nat) := [(⟨"ExtensionStartsModel", "end", "(II)V"⟩, 41), (⟨"ExtensionStartsModel", "goes", "(I)V"⟩, 41), (⟨"ExtensionStartsModel", "does", "(II)V"⟩, 41), (⟨"ExtensionStartsModel", "asksFor", "(II)I"⟩, 41), (⟨"ExtensionStartsModel", "make", "(II)V"⟩, 41), (⟨"ExtensionStartsModel", "asks", "(III)I"⟩, 41)]
theorem lw_r3 : ∀ q ∈ lw_privs_3, lw_okq q := List.forall_mem_cons.mpr ⟨lw_p32, List.forall_mem_cons.mpr ⟨lw_p33, List.forall_mem_cons.mpr ⟨lw_p34, List.forall_mem_cons.mpr ⟨lw_p35, List.forall_mem_cons.mpr ⟨lw_p36, List.forall_mem_cons.mpr ⟨lw_p37, fun _ h => absurd h List.not_mem_nil⟩⟩⟩⟩⟩⟩
def lw_privs : List (MethodName × Nat) := lw_privs_1 ++ (lw_privs_2 ++ (lw_privs_3))
def lw_tbl : List Cond := k2_sels lw_privs ++ tables_1
theorem lw_privs_ok : ∀ q ∈ lw_privs, lw_okq q := by
  show ∀ q ∈ lw_privs_1 ++ (lw_privs_2 ++ (lw_privs_3)), lw_okq q
  exact List.forall_mem_append.mpr ⟨lw_r1, List.forall_mem_append.mpr ⟨lw_r2, lw_r3⟩⟩
def RX0 : String := "ExtensionStarts$Kept"
def TX0 : u_T := fun k => match k with
  | 0 => ("ExtensionStarts$Kept", "starts", "[I", true)
  | 1 => ("ExtensionStarts$Kept", "messages", "[I", true)
  | 2 => ("ExtensionStarts$Kept", "startCount", "I", false)
  | _ => ("ExtensionStarts$Kept", "messageCount", "I", false)
def tyX0 : Nat → FieldType := fun k => match k with
  | 0 => .array .int
  | 1 => .array .int
  | 2 => .int
  | _ => .int
abbrev wsX00 : List Cond := u_ws RX0 TX0 4
theorem nmX0 : ∀ a, a < 4 → ∀ b, b < 4 → a ≠ b → (TX0 a).2.1 ≠ (TX0 b).2.1 := by decide +kernel
theorem tyX0_ok : ∀ k, k < 4 → parseFieldDescriptor (TX0 k).2.2.1 = some (tyX0 k) := by decide +kernel
abbrev cX0_init : ByteArray := prog_2_method_1_code
def yX0_init : MethodName := ⟨RX0, "<init>", "()V"⟩
abbrev cX0_addStart : ByteArray := prog_2_method_2_code
def yX0_addStart : MethodName := ⟨RX0, "addStart", "(IIII)V"⟩
abbrev cX0_addMessage : ByteArray := prog_2_method_3_code
def yX0_addMessage : MethodName := ⟨RX0, "addMessage", "(I)V"⟩
def RX1 : String := "ExtensionStarts$Place"
def TX1 : u_T := fun k => match k with
  | 0 => ("ExtensionStarts$Place", "states", "[I", true)
  | _ => ("ExtensionStarts$Place", "numbers", "[I", true)
def tyX1 : Nat → FieldType := fun k => match k with
  | 0 => .array .int
  | _ => .array .int
abbrev wsX10 : List Cond := u_ws RX1 TX1 2
theorem nmX1 : ∀ a, a < 2 → ∀ b, b < 2 → a ≠ b → (TX1 a).2.1 ≠ (TX1 b).2.1 := by decide +kernel
theorem tyX1_ok : ∀ k, k < 2 → parseFieldDescriptor (TX1 k).2.2.1 = some (tyX1 k) := by decide +kernel
abbrev cX1_init : ByteArray := prog_3_method_1_code
def yX1_init : MethodName := ⟨RX1, "<init>", "()V"⟩
abbrev cX1_numberOf : ByteArray := prog_3_method_2_code
def yX1_numberOf : MethodName := ⟨RX1, "numberOf", "(II)I"⟩
abbrev cX1_setNumber : ByteArray := prog_3_method_3_code
def yX1_setNumber : MethodName := ⟨RX1, "setNumber", "(III)V"⟩
abbrev cX1_forget : ByteArray := prog_3_method_4_code
def yX1_forget : MethodName := ⟨RX1, "forget", "()I"⟩
def RX2 : String := "ExtensionStarts$Row"
def TX2 : u_T := fun k => match k with
  | 0 => ("ExtensionStarts$Row", "items", "[I", true)
  | 1 => ("ExtensionStarts$Row", "count", "I", false)
  | _ => ("ExtensionStarts$Row", "bits", "I", false)
def tyX2 : Nat → FieldType := fun k => match k with
  | 0 => .array .int
  | 1 => .int
  | _ => .int
abbrev wsX20 : List Cond := u_ws RX2 TX2 3
theorem nmX2 : ∀ a, a < 3 → ∀ b, b < 3 → a ≠ b → (TX2 a).2.1 ≠ (TX2 b).2.1 := by decide +kernel
theorem tyX2_ok : ∀ k, k < 3 → parseFieldDescriptor (TX2 k).2.2.1 = some (tyX2 k) := by decide +kernel
abbrev cX2_init : ByteArray := prog_4_method_1_code
def yX2_init : MethodName := ⟨RX2, "<init>", "()V"⟩
abbrev cX2_empty : ByteArray := prog_4_method_2_code
def yX2_empty : MethodName := ⟨RX2, "empty", "()V"⟩
abbrev cX2_has : ByteArray := prog_4_method_3_code
def yX2_has : MethodName := ⟨RX2, "has", "(I)Z"⟩
abbrev cX2_addOnce : ByteArray := prog_4_method_4_code
def yX2_addOnce : MethodName := ⟨RX2, "addOnce", "(I)V"⟩
abbrev cX2_addAllOnce : ByteArray := prog_4_method_5_code
def yX2_addAllOnce : MethodName := ⟨RX2, "addAllOnce", "(LExtensionStarts$Row;)V"⟩
def RX3 : String := "ExtensionStarts$Session"
def TX3 : u_T := fun k => match k with
  | 0 => ("ExtensionStarts$Session", "place", "LExtensionStarts$Place;", true)
  | 1 => ("ExtensionStarts$Session", "things", "[I", true)
  | 2 => ("ExtensionStarts$Session", "stepsLeft", "I", false)
  | _ => ("ExtensionStarts$Session", "latestUse", "I", false)
def tyX3 : Nat → FieldType := fun k => match k with
  | 0 => .object "ExtensionStarts$Place"
  | 1 => .array .int
  | 2 => .int
  | _ => .int
abbrev wsX30 : List Cond := u_ws RX3 TX3 4
theorem nmX3 : ∀ a, a < 4 → ∀ b, b < 4 → a ≠ b → (TX3 a).2.1 ≠ (TX3 b).2.1 := by decide +kernel
theorem tyX3_ok : ∀ k, k < 4 → parseFieldDescriptor (TX3 k).2.2.1 = some (tyX3 k) := by decide +kernel
abbrev cX3_init : ByteArray := prog_5_method_1_code
def yX3_init : MethodName := ⟨RX3, "<init>", "()V"⟩
abbrev cX3_forget : ByteArray := prog_5_method_2_code
def yX3_forget : MethodName := ⟨RX3, "forget", "()I"⟩
def RX4 : String := "ExtensionStarts$Type"
def TX4 : u_T := fun k => match k with
  | 0 => ("ExtensionStarts$Type", "kind", "I", false)
  | 1 => ("ExtensionStarts$Type", "parent", "I", false)
  | 2 => ("ExtensionStarts$Type", "shared", "Z", false)
  | 3 => ("ExtensionStarts$Type", "faces", "LExtensionStarts$Row;", true)
  | 4 => ("ExtensionStarts$Type", "lookedIn", "LExtensionStarts$Row;", true)
  | 5 => ("ExtensionStarts$Type", "fullFaces", "LExtensionStarts$Row;", true)
  | 6 => ("ExtensionStarts$Type", "fieldKinds", "[I", true)
  | 7 => ("ExtensionStarts$Type", "constants", "[I", true)
  | 8 => ("ExtensionStarts$Type", "acts", "[I", true)
  | 9 => ("ExtensionStarts$Type", "as", "[I", true)
  | 10 => ("ExtensionStarts$Type", "bs", "[I", true)
  | 11 => ("ExtensionStarts$Type", "cs", "[I", true)
  | _ => ("ExtensionStarts$Type", "lineCount", "I", false)
def tyX4 : Nat → FieldType := fun k => match k with
  | 0 => .int
  | 1 => .int
  | 2 => .boolean
  | 3 => .object "ExtensionStarts$Row"
  | 4 => .object "ExtensionStarts$Row"
  | 5 => .object "ExtensionStarts$Row"
  | 6 => .array .int
  | 7 => .array .int
  | 8 => .array .int
  | 9 => .array .int
  | 10 => .array .int
  | 11 => .array .int
  | _ => .int
abbrev wsX40 : List Cond := u_ws RX4 TX4 13
theorem nmX4 : ∀ a, a < 13 → ∀ b, b < 13 → a ≠ b → (TX4 a).2.1 ≠ (TX4 b).2.1 := by decide +kernel
theorem tyX4_ok : ∀ k, k < 13 → parseFieldDescriptor (TX4 k).2.2.1 = some (tyX4 k) := by decide +kernel
abbrev cX4_init : ByteArray := prog_6_method_1_code
def yX4_init : MethodName := ⟨RX4, "<init>", "()V"⟩
abbrev cX4_begin : ByteArray := prog_6_method_2_code
def yX4_begin : MethodName := ⟨RX4, "begin", "(IIZ)V"⟩
abbrev cX4_addLine : ByteArray := prog_6_method_3_code
def yX4_addLine : MethodName := ⟨RX4, "addLine", "(IIII)I"⟩
def RX5 : String := "ExtensionStarts$Uses"
def TX5 : u_T := fun k => match k with
  | 0 => ("ExtensionStarts$Uses", "before", "[I", true)
  | 1 => ("ExtensionStarts$Uses", "made", "[I", true)
  | 2 => ("ExtensionStarts$Uses", "writes", "[I", true)
  | _ => ("ExtensionStarts$Uses", "count", "I", false)
def tyX5 : Nat → FieldType := fun k => match k with
  | 0 => .array .int
  | 1 => .array .int
  | 2 => .array .int
  | _ => .int
abbrev wsX50 : List Cond := u_ws RX5 TX5 4
theorem nmX5 : ∀ a, a < 4 → ∀ b, b < 4 → a ≠ b → (TX5 a).2.1 ≠ (TX5 b).2.1 := by decide +kernel
theorem tyX5_ok : ∀ k, k < 4 → parseFieldDescriptor (TX5 k).2.2.1 = some (tyX5 k) := by decide +kernel
abbrev cX5_init : ByteArray := prog_7_method_1_code
def yX5_init : MethodName := ⟨RX5, "<init>", "()V"⟩
abbrev cX5_open : ByteArray := prog_7_method_2_code
def yX5_open : MethodName := ⟨RX5, "open", "(I)I"⟩
abbrev cX5_close : ByteArray := prog_7_method_3_code
def yX5_close : MethodName := ⟨RX5, "close", "(III)V"⟩
def RX6 : String := "ExtensionStarts"
def TX6 : u_T := fun k => match k with
  | 0 => ("ExtensionStarts", "types", "[LExtensionStarts$Type;", true)
  | 1 => ("ExtensionStarts", "sessions", "[LExtensionStarts$Session;", true)
  | 2 => ("ExtensionStarts", "common", "LExtensionStarts$Place;", true)
  | 3 => ("ExtensionStarts", "uses", "LExtensionStarts$Uses;", true)
  | 4 => ("ExtensionStarts", "kept", "LExtensionStarts$Kept;", true)
  | 5 => ("ExtensionStarts", "typeCount", "I", false)
  | 6 => ("ExtensionStarts", "stepsTaken", "I", false)
  | 7 => ("ExtensionStarts", "latestFailure", "I", false)
  | 8 => ("ExtensionStarts", "here", "I", false)
  | 9 => ("ExtensionStarts", "writes", "I", false)
  | _ => ("ExtensionStarts", "answer", "I", false)
def tyX6 : Nat → FieldType := fun k => match k with
  | 0 => .array (.object "ExtensionStarts$Type")
  | 1 => .array (.object "ExtensionStarts$Session")
  | 2 => .object "ExtensionStarts$Place"
  | 3 => .object "ExtensionStarts$Uses"
  | 4 => .object "ExtensionStarts$Kept"
  | 5 => .int
  | 6 => .int
  | 7 => .int
  | 8 => .int
  | 9 => .int
  | _ => .int
abbrev wsX60 : List Cond := u_ws RX6 TX6 11
theorem nmX6 : ∀ a, a < 11 → ∀ b, b < 11 → a ≠ b → (TX6 a).2.1 ≠ (TX6 b).2.1 := by decide +kernel
theorem tyX6_ok : ∀ k, k < 11 → parseFieldDescriptor (TX6 k).2.2.1 = some (tyX6 k) := by decide +kernel
abbrev cX6_init : ByteArray := prog_1_method_1_code
def yX6_init : MethodName := ⟨RX6, "<init>", "()V"⟩
abbrev cX6_type : ByteArray := prog_1_method_2_code
def yX6_type : MethodName := ⟨RX6, "type", "(IIZ)I"⟩
abbrev cX6_face : ByteArray := prog_1_method_3_code
def yX6_face : MethodName := ⟨RX6, "face", "(II)I"⟩
abbrev cX6_field : ByteArray := prog_1_method_4_code
def yX6_field : MethodName := ⟨RX6, "field", "(IIZI)I"⟩
abbrev cX6_line : ByteArray := prog_1_method_5_code
def yX6_line : MethodName := ⟨RX6, "line", "(IIIII)I"⟩
abbrev cX6_use : ByteArray := prog_1_method_6_code
def yX6_use : MethodName := ⟨RX6, "use", "(IIIII)I"⟩
abbrev cX6_failure : ByteArray := prog_1_method_7_code
def yX6_failure : MethodName := ⟨RX6, "failure", "()I"⟩
abbrev cX6_told : ByteArray := prog_1_method_8_code
def yX6_told : MethodName := ⟨RX6, "told", "(III)I"⟩
abbrev cX6_peek : ByteArray := prog_1_method_9_code
def yX6_peek : MethodName := ⟨RX6, "peek", "(III)I"⟩
abbrev cX6_start : ByteArray := prog_1_method_10_code
def yX6_start : MethodName := ⟨RX6, "start", "(II)I"⟩
abbrev cX6_message : ByteArray := prog_1_method_11_code
def yX6_message : MethodName := ⟨RX6, "message", "(I)I"⟩
abbrev cX6_steps : ByteArray := prog_1_method_12_code
def yX6_steps : MethodName := ⟨RX6, "steps", "(II)I"⟩
abbrev cX6_undo : ByteArray := prog_1_method_13_code
def yX6_undo : MethodName := ⟨RX6, "undo", "(I)I"⟩
abbrev cX6_restart : ByteArray := prog_1_method_14_code
def yX6_restart : MethodName := ⟨RX6, "restart", "(I)I"⟩
abbrev cX6_about : ByteArray := prog_1_method_15_code
def yX6_about : MethodName := ⟨RX6, "about", "(I)I"⟩
abbrev cX6_clear : ByteArray := prog_1_method_16_code
def yX6_clear : MethodName := ⟨RX6, "clear", "()I"⟩
abbrev cX6_within : ByteArray := prog_1_method_17_code
def yX6_within : MethodName := ⟨RX6, "within", "(III)Z"⟩
abbrev cX6_isNumber : ByteArray := prog_1_method_18_code
def yX6_isNumber : MethodName := ⟨RX6, "isNumber", "(I)Z"⟩
abbrev cX6_isField : ByteArray := prog_1_method_19_code
def yX6_isField : MethodName := ⟨RX6, "isField", "(I)Z"⟩
abbrev cX6_isSession : ByteArray := prog_1_method_20_code
def yX6_isSession : MethodName := ⟨RX6, "isSession", "(I)Z"⟩
abbrev cX6_isType : ByteArray := prog_1_method_21_code
def yX6_isType : MethodName := ⟨RX6, "isType", "(I)Z"⟩
abbrev cX6_isClass : ByteArray := prog_1_method_22_code
def yX6_isClass : MethodName := ⟨RX6, "isClass", "(I)Z"⟩
abbrev cX6_mayNameType : ByteArray := prog_1_method_23_code
def yX6_mayNameType : MethodName := ⟨RX6, "mayNameType", "(I)Z"⟩
abbrev cX6_isLine : ByteArray := prog_1_method_24_code
def yX6_isLine : MethodName := ⟨RX6, "isLine", "(IIII)Z"⟩
abbrev cX6_refusalOfUse : ByteArray := prog_1_method_25_code
def yX6_refusalOfUse : MethodName := ⟨RX6, "refusalOfUse", "(IIIII)I"⟩
abbrev cX6_canBeSet : ByteArray := prog_1_method_26_code
def yX6_canBeSet : MethodName := ⟨RX6, "canBeSet", "(II)Z"⟩
abbrev cX6_placeOf : ByteArray := prog_1_method_27_code
def yX6_placeOf : MethodName := ⟨RX6, "placeOf", "(II)LExtensionStarts$Place;"⟩
abbrev cX6_countNotZero : ByteArray := prog_1_method_28_code
def yX6_countNotZero : MethodName := ⟨RX6, "countNotZero", "(II)I"⟩
abbrev cX6_arrange : ByteArray := prog_1_method_29_code
def yX6_arrange : MethodName := ⟨RX6, "arrange", "(I)V"⟩
abbrev cX6_homeOf : ByteArray := prog_1_method_30_code
def yX6_homeOf : MethodName := ⟨RX6, "homeOf", "(II)I"⟩
abbrev cX6_perform : ByteArray := prog_1_method_31_code
def yX6_perform : MethodName := ⟨RX6, "perform", "(IIII)I"⟩
abbrev cX6_makeAndCount : ByteArray := prog_1_method_32_code
def yX6_makeAndCount : MethodName := ⟨RX6, "makeAndCount", "(I)I"⟩
abbrev cX6_askAndSet : ByteArray := prog_1_method_33_code
def yX6_askAndSet : MethodName := ⟨RX6, "askAndSet", "(III)I"⟩
abbrev cX6_makeThing : ByteArray := prog_1_method_34_code
def yX6_makeThing : MethodName := ⟨RX6, "makeThing", "(II)I"⟩
abbrev cX6_ask : ByteArray := prog_1_method_35_code
def yX6_ask : MethodName := ⟨RX6, "ask", "(III)I"⟩
abbrev cX6_write : ByteArray := prog_1_method_36_code
def yX6_write : MethodName := ⟨RX6, "write", "(III)I"⟩
abbrev cX6_wake : ByteArray := prog_1_method_37_code
def yX6_wake : MethodName := ⟨RX6, "wake", "(II)I"⟩
abbrev cX6_wakeAbove : ByteArray := prog_1_method_38_code
def yX6_wakeAbove : MethodName := ⟨RX6, "wakeAbove", "(II)I"⟩
abbrev cX6_doLines : ByteArray := prog_1_method_39_code
def yX6_doLines : MethodName := ⟨RX6, "doLines", "(II)I"⟩
abbrev cX6_doLine : ByteArray := prog_1_method_40_code
def yX6_doLine : MethodName := ⟨RX6, "doLine", "(III)I"⟩
abbrev cX6_askAndAdd : ByteArray := prog_1_method_41_code
def yX6_askAndAdd : MethodName := ⟨RX6, "askAndAdd", "(IIIII)I"⟩
abbrev cX6_takeSteps : ByteArray := prog_1_method_42_code
def yX6_takeSteps : MethodName := ⟨RX6, "takeSteps", "(I)Z"⟩
def RX7 : String := "ExtensionStartsModel"
def TX7 : u_T := fun k => match k with
  | 0 => ("ExtensionStartsModel", "thrown", "I", false)
  | 1 => ("ExtensionStartsModel", "types", "I", false)
  | 2 => ("ExtensionStartsModel", "kindOf", "[I", true)
  | 3 => ("ExtensionStartsModel", "parentOf", "[I", true)
  | 4 => ("ExtensionStartsModel", "isShared", "[Z", true)
  | 5 => ("ExtensionStartsModel", "faces", "[I", true)
  | 6 => ("ExtensionStartsModel", "faceOf", "[I", true)
  | 7 => ("ExtensionStartsModel", "fieldSort", "[I", true)
  | 8 => ("ExtensionStartsModel", "constantOf", "[I", true)
  | 9 => ("ExtensionStartsModel", "lines", "[I", true)
  | 10 => ("ExtensionStartsModel", "lineOf", "[I", true)
  | 11 => ("ExtensionStartsModel", "stateOf", "[I", true)
  | 12 => ("ExtensionStartsModel", "numberOf", "[I", true)
  | 13 => ("ExtensionStartsModel", "thingsOf", "[I", true)
  | 14 => ("ExtensionStartsModel", "left", "[I", true)
  | 15 => ("ExtensionStartsModel", "failure", "I", false)
  | 16 => ("ExtensionStartsModel", "uses", "I", false)
  | 17 => ("ExtensionStartsModel", "starts", "I", false)
  | 18 => ("ExtensionStartsModel", "startOf", "[I", true)
  | 19 => ("ExtensionStartsModel", "messages", "I", false)
  | 20 => ("ExtensionStartsModel", "messageOf", "[I", true)
  | 21 => ("ExtensionStartsModel", "taken", "I", false)
  | 22 => ("ExtensionStartsModel", "undos", "[I", true)
  | 23 => ("ExtensionStartsModel", "madeOf", "[I", true)
  | 24 => ("ExtensionStartsModel", "writesOf", "[I", true)
  | 25 => ("ExtensionStartsModel", "writes", "I", false)
  | 26 => ("ExtensionStartsModel", "depth", "I", false)
  | 27 => ("ExtensionStartsModel", "waking", "[I", true)
  | 28 => ("ExtensionStartsModel", "place", "[I", true)
  | 29 => ("ExtensionStartsModel", "waits", "[I", true)
  | 30 => ("ExtensionStartsModel", "lineAt", "[I", true)
  | 31 => ("ExtensionStartsModel", "homeAt", "[I", true)
  | 32 => ("ExtensionStartsModel", "fulls", "[I", true)
  | 33 => ("ExtensionStartsModel", "fullMany", "[I", true)
  | 34 => ("ExtensionStartsModel", "isAnswered", "Z", false)
  | 35 => ("ExtensionStartsModel", "answer", "I", false)
  | 36 => ("ExtensionStartsModel", "seen", "[Z", true)
  | 37 => ("ExtensionStartsModel", "path", "[I", true)
  | 38 => ("ExtensionStartsModel", "next", "[I", true)
  | 39 => ("ExtensionStartsModel", "asked", "I", false)
  | _ => ("ExtensionStartsModel", "wanted", "[I", true)
def tyX7 : Nat → FieldType := fun k => match k with
  | 0 => .int
  | 1 => .int
  | 2 => .array .int
  | 3 => .array .int
  | 4 => .array .boolean
  | 5 => .array .int
  | 6 => .array .int
  | 7 => .array .int
  | 8 => .array .int
  | 9 => .array .int
  | 10 => .array .int
  | 11 => .array .int
  | 12 => .array .int
  | 13 => .array .int
  | 14 => .array .int
  | 15 => .int
  | 16 => .int
  | 17 => .int
  | 18 => .array .int
  | 19 => .int
  | 20 => .array .int
  | 21 => .int
  | 22 => .array .int
  | 23 => .array .int
  | 24 => .array .int
  | 25 => .int
  | 26 => .int
  | 27 => .array .int
  | 28 => .array .int
  | 29 => .array .int
  | 30 => .array .int
  | 31 => .array .int
  | 32 => .array .int
  | 33 => .array .int
  | 34 => .boolean
  | 35 => .int
  | 36 => .array .boolean
  | 37 => .array .int
  | 38 => .array .int
  | 39 => .int
  | _ => .array .int
abbrev wsX70 : List Cond := u_ws RX7 TX7 41
theorem nmX7 : ∀ a, a < 41 → ∀ b, b < 41 → a ≠ b → (TX7 a).2.1 ≠ (TX7 b).2.1 := by decide +kernel
theorem tyX7_ok : ∀ k, k < 41 → parseFieldDescriptor (TX7 k).2.2.1 = some (tyX7 k) := by decide +kernel
abbrev cX7_init : ByteArray := prog_9_method_1_code
def yX7_init : MethodName := ⟨RX7, "<init>", "()V"⟩
abbrev cX7_begins : ByteArray := prog_9_method_2_code
def yX7_begins : MethodName := ⟨RX7, "begins", "()V"⟩
abbrev cX7_thrown : ByteArray := prog_9_method_3_code
def yX7_thrown : MethodName := ⟨RX7, "thrown", "()I"⟩
abbrev cX7_in : ByteArray := prog_9_method_4_code
def yX7_in : MethodName := ⟨RX7, "in", "(III)Z"⟩
abbrev cX7_isType : ByteArray := prog_9_method_5_code
def yX7_isType : MethodName := ⟨RX7, "isType", "(I)Z"⟩
abbrev cX7_isSession : ByteArray := prog_9_method_6_code
def yX7_isSession : MethodName := ⟨RX7, "isSession", "(I)Z"⟩
abbrev cX7_type : ByteArray := prog_9_method_7_code
def yX7_type : MethodName := ⟨RX7, "type", "(IIZ)I"⟩
abbrev cX7_face : ByteArray := prog_9_method_8_code
def yX7_face : MethodName := ⟨RX7, "face", "(II)I"⟩
abbrev cX7_field : ByteArray := prog_9_method_9_code
def yX7_field : MethodName := ⟨RX7, "field", "(IIZI)I"⟩
abbrev cX7_isLine : ByteArray := prog_9_method_10_code
def yX7_isLine : MethodName := ⟨RX7, "isLine", "(IIII)Z"⟩
abbrev cX7_line : ByteArray := prog_9_method_11_code
def yX7_line : MethodName := ⟨RX7, "line", "(IIIII)I"⟩
abbrev cX7_at : ByteArray := prog_9_method_12_code
def yX7_at : MethodName := ⟨RX7, "at", "(II)I"⟩
abbrev cX7_wakes : ByteArray := prog_9_method_13_code
def yX7_wakes : MethodName := ⟨RX7, "wakes", "(II)I"⟩
abbrev cX7_ask : ByteArray := prog_9_method_14_code
def yX7_ask : MethodName := ⟨RX7, "ask", "(II)V"⟩
abbrev cX7_listFulls : ByteArray := prog_9_method_15_code
def yX7_listFulls : MethodName := ⟨RX7, "listFulls", "(I)V"⟩
abbrev cX7_end : ByteArray := prog_9_method_16_code
def yX7_end : MethodName := ⟨RX7, "end", "(II)V"⟩
abbrev cX7_heard : ByteArray := prog_9_method_17_code
def yX7_heard : MethodName := ⟨RX7, "heard", "(I)V"⟩
abbrev cX7_goes : ByteArray := prog_9_method_18_code
def yX7_goes : MethodName := ⟨RX7, "goes", "(I)V"⟩
abbrev cX7_does : ByteArray := prog_9_method_19_code
def yX7_does : MethodName := ⟨RX7, "does", "(II)V"⟩
abbrev cX7_make : ByteArray := prog_9_method_20_code
def yX7_make : MethodName := ⟨RX7, "make", "(II)V"⟩
abbrev cX7_asksFor : ByteArray := prog_9_method_21_code
def yX7_asksFor : MethodName := ⟨RX7, "asksFor", "(II)I"⟩
abbrev cX7_plain : ByteArray := prog_9_method_22_code
def yX7_plain : MethodName := ⟨RX7, "plain", "(III)I"⟩
abbrev cX7_write : ByteArray := prog_9_method_23_code
def yX7_write : MethodName := ⟨RX7, "write", "(IIII)I"⟩
abbrev cX7_makes : ByteArray := prog_9_method_24_code
def yX7_makes : MethodName := ⟨RX7, "makes", "(II)I"⟩
abbrev cX7_asks : ByteArray := prog_9_method_25_code
def yX7_asks : MethodName := ⟨RX7, "asks", "(III)I"⟩
abbrev cX7_homeOf : ByteArray := prog_9_method_26_code
def yX7_homeOf : MethodName := ⟨RX7, "homeOf", "(II)I"⟩
abbrev cX7_use : ByteArray := prog_9_method_27_code
def yX7_use : MethodName := ⟨RX7, "use", "(IIIII)I"⟩
abbrev cX7_failure : ByteArray := prog_9_method_28_code
def yX7_failure : MethodName := ⟨RX7, "failure", "()I"⟩
abbrev cX7_told : ByteArray := prog_9_method_29_code
def yX7_told : MethodName := ⟨RX7, "told", "(III)I"⟩
abbrev cX7_peek : ByteArray := prog_9_method_30_code
def yX7_peek : MethodName := ⟨RX7, "peek", "(III)I"⟩
abbrev cX7_start : ByteArray := prog_9_method_31_code
def yX7_start : MethodName := ⟨RX7, "start", "(II)I"⟩
abbrev cX7_message : ByteArray := prog_9_method_32_code
def yX7_message : MethodName := ⟨RX7, "message", "(I)I"⟩
abbrev cX7_steps : ByteArray := prog_9_method_33_code
def yX7_steps : MethodName := ⟨RX7, "steps", "(II)I"⟩
abbrev cX7_undo : ByteArray := prog_9_method_34_code
def yX7_undo : MethodName := ⟨RX7, "undo", "(I)I"⟩
abbrev cX7_restart : ByteArray := prog_9_method_35_code
def yX7_restart : MethodName := ⟨RX7, "restart", "(I)I"⟩
abbrev cX7_about : ByteArray := prog_9_method_36_code
def yX7_about : MethodName := ⟨RX7, "about", "(I)I"⟩
abbrev cX7_clear : ByteArray := prog_9_method_37_code
def yX7_clear : MethodName := ⟨RX7, "clear", "()I"⟩
def RJx00060 : String := "java/lang/ArrayIndexOutOfBoundsException"
def TJx00060 : u_T := fun k => match k with
  | 0 => ("java/lang/Throwable", "backtrace", "Ljava/lang/Object;", false)
  | 1 => ("java/lang/Throwable", "detailMessage", "Ljava/lang/String;", false)
  | 2 => ("java/lang/Throwable", "cause", "Ljava/lang/Throwable;", false)
  | 3 => ("java/lang/Throwable", "stackTrace", "[Ljava/lang/StackTraceElement;", false)
  | 4 => ("java/lang/Throwable", "depth", "I", false)
  | _ => ("java/lang/Throwable", "suppressedExceptions", "Ljava/util/List;", false)
def tyJx00060 : Nat → FieldType := fun k => match k with
  | 0 => .object "java/lang/Object"
  | 1 => .object "java/lang/String"
  | 2 => .object "java/lang/Throwable"
  | 3 => .array (.object "java/lang/StackTraceElement")
  | 4 => .int
  | _ => .object "java/util/List"
abbrev wsJx000600 : List Cond := u_ws RJx00060 TJx00060 6
theorem nmJx00060 : ∀ a, a < 6 → ∀ b, b < 6 → a ≠ b → (TJx00060 a).2.1 ≠ (TJx00060 b).2.1 := by decide +kernel
theorem tyJx00060_ok : ∀ k, k < 6 → parseFieldDescriptor (TJx00060 k).2.2.1 = some (tyJx00060 k) := by decide +kernel
abbrev cJx00060_init_a7421 : ByteArray := prog_10_method_2_code
def yJx00060_init_a7421 : MethodName := ⟨RJx00060, "<init>", "(Ljava/lang/String;)V"⟩
def RJ0 : String := "java/lang/String"
def TJ0 : u_T := fun k => match k with
  | 0 => ("java/lang/String", "value", "[B", true)
  | _ => ("java/lang/String", "coder", "B", true)
def tyJ0 : Nat → FieldType := fun k => match k with
  | 0 => .array .byte
  | _ => .byte
abbrev wsJ00 : List Cond := u_ws RJ0 TJ0 2
theorem nmJ0 : ∀ a, a < 2 → ∀ b, b < 2 → a ≠ b → (TJ0 a).2.1 ≠ (TJ0 b).2.1 := by decide +kernel
theorem tyJ0_ok : ∀ k, k < 2 → parseFieldDescriptor (TJ0 k).2.2.1 = some (tyJ0 k) := by decide +kernel
def RJ7 : String := "java/util/Arrays"
def TJ7 : u_T := fun k => match k with
  | _ => ("", "", "", false)
def tyJ7 : Nat → FieldType := fun k => match k with
  | _ => .int
abbrev wsJ70 : List Cond := u_ws RJ7 TJ7 0
theorem nmJ7 : ∀ a, a < 0 → ∀ b, b < 0 → a ≠ b → (TJ7 a).2.1 ≠ (TJ7 b).2.1 := by decide +kernel
theorem tyJ7_ok : ∀ k, k < 0 → parseFieldDescriptor (TJ7 k).2.2.1 = some (tyJ7 k) := by decide +kernel
abbrev cJ7_fill_53178 : ByteArray := prog_16_method_103_code
def yJ7_fill_53178 : MethodName := ⟨RJ7, "fill", "([II)V"⟩
def RL : String := "ExtensionStartsLaw"
abbrev cL_message : ByteArray := method_3_code
def yL_message : MethodName := ⟨RL, "message", "(LExtensionStarts;I[J)I"⟩
abbrev cL_law : ByteArray := code
def yL_law : MethodName := ⟨RL, "law", "([I)Z"⟩
abbrev vwCl : List vw_C := [(RJ0, TJ0, 2), (RJx00060, TJx00060, 6), (RX0, TX0, 4), (RX1, TX1, 2), (RX2, TX2, 3), (RX3, TX3, 4), (RX4, TX4, 13), (RX5, TX5, 4), (RX6, TX6, 11), (RX7, TX7, 41)]
/-- the words that a callee may take from its caller -/
def gW : List Cond := lw_tbl.filter goodWord
theorem gw_in {w : Cond} (i : Nat) (h : lw_tbl[i]? = some w) (hg : goodWord w = true) : w ∈ gW := List.mem_filter.mpr ⟨List.mem_of_getElem? h, hg⟩
theorem gw_ins {ws : List Cond} (ps : List Nat) (h : ws = ps.filterMap (fun i => lw_tbl[i]?)) (hg : ws.all goodWord = true) : ∀ w ∈ ws, w ∈ gW := by
  intro w hw
  have h1 := List.all_eq_true.mp hg w hw
  rw [h] at hw
  obtain ⟨i, -, hi⟩ := List.mem_filterMap.mp hw
  exact gw_in i hi h1
theorem gw_good : ∀ w ∈ gW, (w.onTables && w.keeps) = true ∨ ∃ ty, w = .arrayClass ty := fun w h => good_of_word (List.mem_filter.mp h).2
theorem gw_tbl : ∀ w ∈ gW, w ∈ lw_tbl := fun w h => (List.mem_filter.mp h).1
