section
-- ===== PART A: goes FIRST, ahead of the names: the tables' words, and 'selects' of the private methods out of them =====
/-- a private method of a class that the tables say can be made, by its rows of tables_1 -/
def lw_okq (q : MethodName × Nat) : Prop := (q.1.cls ≠ "java/lang/invoke/MethodHandle" ∧ q.1.cls ≠ "java/lang/invoke/VarHandle") ∧ Cond.instantiable q.1.cls q.2 ∈ tables_1 ∧ Cond.privateMethod q.1 ∈ tables_1 ∧ Cond.instanceMethod q.1 ∈ tables_1
theorem lw_p0 : lw_okq (⟨"ExtensionStarts", "isClass", "(I)Z"⟩, 11) := ⟨⟨by decide +kernel, by decide +kernel⟩, List.mem_of_getElem? (i := 17) (by decide +kernel), List.mem_of_getElem? (i := 231) (by decide +kernel), List.mem_of_getElem? (i := 232) (by decide +kernel)⟩
theorem lw_p1 : lw_okq (⟨"ExtensionStarts", "isType", "(I)Z"⟩, 11) := ⟨⟨by decide +kernel, by decide +kernel⟩, List.mem_of_getElem? (i := 17) (by decide +kernel), List.mem_of_getElem? (i := 235) (by decide +kernel), List.mem_of_getElem? (i := 236) (by decide +kernel)⟩
theorem lw_p2 : lw_okq (⟨"ExtensionStarts", "arrange", "(I)V"⟩, 11) := ⟨⟨by decide +kernel, by decide +kernel⟩, List.mem_of_getElem? (i := 17) (by decide +kernel), List.mem_of_getElem? (i := 250) (by decide +kernel), List.mem_of_getElem? (i := 251) (by decide +kernel)⟩
theorem lw_p3 : lw_okq (⟨"ExtensionStarts", "refusalOfUse", "(IIIII)I"⟩, 11) := ⟨⟨by decide +kernel, by decide +kernel⟩, List.mem_of_getElem? (i := 17) (by decide +kernel), List.mem_of_getElem? (i := 301) (by decide +kernel), List.mem_of_getElem? (i := 302) (by decide +kernel)⟩
theorem lw_p4 : lw_okq (⟨"ExtensionStarts", "canBeSet", "(II)Z"⟩, 11) := ⟨⟨by decide +kernel, by decide +kernel⟩, List.mem_of_getElem? (i := 17) (by decide +kernel), List.mem_of_getElem? (i := 308) (by decide +kernel), List.mem_of_getElem? (i := 309) (by decide +kernel)⟩
theorem lw_p5 : lw_okq (⟨"ExtensionStarts", "homeOf", "(II)I"⟩, 11) := ⟨⟨by decide +kernel, by decide +kernel⟩, List.mem_of_getElem? (i := 17) (by decide +kernel), List.mem_of_getElem? (i := 312) (by decide +kernel), List.mem_of_getElem? (i := 313) (by decide +kernel)⟩
theorem lw_p6 : lw_okq (⟨"ExtensionStarts", "perform", "(IIII)I"⟩, 11) := ⟨⟨by decide +kernel, by decide +kernel⟩, List.mem_of_getElem? (i := 17) (by decide +kernel), List.mem_of_getElem? (i := 320) (by decide +kernel), List.mem_of_getElem? (i := 321) (by decide +kernel)⟩
theorem lw_p7 : lw_okq (⟨"ExtensionStarts", "makeAndCount", "(I)I"⟩, 11) := ⟨⟨by decide +kernel, by decide +kernel⟩, List.mem_of_getElem? (i := 17) (by decide +kernel), List.mem_of_getElem? (i := 324) (by decide +kernel), List.mem_of_getElem? (i := 325) (by decide +kernel)⟩
theorem lw_p8 : lw_okq (⟨"ExtensionStarts", "makeThing", "(II)I"⟩, 11) := ⟨⟨by decide +kernel, by decide +kernel⟩, List.mem_of_getElem? (i := 17) (by decide +kernel), List.mem_of_getElem? (i := 328) (by decide +kernel), List.mem_of_getElem? (i := 329) (by decide +kernel)⟩
theorem lw_p9 : lw_okq (⟨"ExtensionStarts", "wake", "(II)I"⟩, 11) := ⟨⟨by decide +kernel, by decide +kernel⟩, List.mem_of_getElem? (i := 17) (by decide +kernel), List.mem_of_getElem? (i := 332) (by decide +kernel), List.mem_of_getElem? (i := 333) (by decide +kernel)⟩
theorem lw_p10 : lw_okq (⟨"ExtensionStarts", "placeOf", "(II)LExtensionStarts$Place;"⟩, 11) := ⟨⟨by decide +kernel, by decide +kernel⟩, List.mem_of_getElem? (i := 17) (by decide +kernel), List.mem_of_getElem? (i := 336) (by decide +kernel), List.mem_of_getElem? (i := 337) (by decide +kernel)⟩
theorem lw_p11 : lw_okq (⟨"ExtensionStarts", "wakeAbove", "(II)I"⟩, 11) := ⟨⟨by decide +kernel, by decide +kernel⟩, List.mem_of_getElem? (i := 17) (by decide +kernel), List.mem_of_getElem? (i := 340) (by decide +kernel), List.mem_of_getElem? (i := 341) (by decide +kernel)⟩
theorem lw_p12 : lw_okq (⟨"ExtensionStarts", "doLines", "(II)I"⟩, 11) := ⟨⟨by decide +kernel, by decide +kernel⟩, List.mem_of_getElem? (i := 17) (by decide +kernel), List.mem_of_getElem? (i := 344) (by decide +kernel), List.mem_of_getElem? (i := 345) (by decide +kernel)⟩
theorem lw_p13 : lw_okq (⟨"ExtensionStarts", "doLine", "(III)I"⟩, 11) := ⟨⟨by decide +kernel, by decide +kernel⟩, List.mem_of_getElem? (i := 17) (by decide +kernel), List.mem_of_getElem? (i := 348) (by decide +kernel), List.mem_of_getElem? (i := 349) (by decide +kernel)⟩
theorem lw_p14 : lw_okq (⟨"ExtensionStarts", "takeSteps", "(I)Z"⟩, 11) := ⟨⟨by decide +kernel, by decide +kernel⟩, List.mem_of_getElem? (i := 17) (by decide +kernel), List.mem_of_getElem? (i := 352) (by decide +kernel), List.mem_of_getElem? (i := 353) (by decide +kernel)⟩
theorem lw_p15 : lw_okq (⟨"ExtensionStarts", "write", "(III)I"⟩, 11) := ⟨⟨by decide +kernel, by decide +kernel⟩, List.mem_of_getElem? (i := 17) (by decide +kernel), List.mem_of_getElem? (i := 356) (by decide +kernel), List.mem_of_getElem? (i := 357) (by decide +kernel)⟩
def lw_privs_1 : List (MethodName × Nat) := [(⟨"ExtensionStarts", "isClass", "(I)Z"⟩, 11), (⟨"ExtensionStarts", "isType", "(I)Z"⟩, 11), (⟨"ExtensionStarts", "arrange", "(I)V"⟩, 11), (⟨"ExtensionStarts", "refusalOfUse", "(IIIII)I"⟩, 11), (⟨"ExtensionStarts", "canBeSet", "(II)Z"⟩, 11), (⟨"ExtensionStarts", "homeOf", "(II)I"⟩, 11), (⟨"ExtensionStarts", "perform", "(IIII)I"⟩, 11), (⟨"ExtensionStarts", "makeAndCount", "(I)I"⟩, 11), (⟨"ExtensionStarts", "makeThing", "(II)I"⟩, 11), (⟨"ExtensionStarts", "wake", "(II)I"⟩, 11), (⟨"ExtensionStarts", "placeOf", "(II)LExtensionStarts$Place;"⟩, 11), (⟨"ExtensionStarts", "wakeAbove", "(II)I"⟩, 11), (⟨"ExtensionStarts", "doLines", "(II)I"⟩, 11), (⟨"ExtensionStarts", "doLine", "(III)I"⟩, 11), (⟨"ExtensionStarts", "takeSteps", "(I)Z"⟩, 11), (⟨"ExtensionStarts", "write", "(III)I"⟩, 11)]
theorem lw_r1 : ∀ q ∈ lw_privs_1, lw_okq q := List.forall_mem_cons.mpr ⟨lw_p0, List.forall_mem_cons.mpr ⟨lw_p1, List.forall_mem_cons.mpr ⟨lw_p2, List.forall_mem_cons.mpr ⟨lw_p3, List.forall_mem_cons.mpr ⟨lw_p4, List.forall_mem_cons.mpr ⟨lw_p5, List.forall_mem_cons.mpr ⟨lw_p6, List.forall_mem_cons.mpr ⟨lw_p7, List.forall_mem_cons.mpr ⟨lw_p8, List.forall_mem_cons.mpr ⟨lw_p9, List.forall_mem_cons.mpr ⟨lw_p10, List.forall_mem_cons.mpr ⟨lw_p11, List.forall_mem_cons.mpr ⟨lw_p12, List.forall_mem_cons.mpr ⟨lw_p13, List.forall_mem_cons.mpr ⟨lw_p14, List.forall_mem_cons.mpr ⟨lw_p15, fun _ h => absurd h List.not_mem_nil⟩⟩⟩⟩⟩⟩⟩⟩⟩⟩⟩⟩⟩⟩⟩⟩
theorem lw_p16 : lw_okq (⟨"ExtensionStarts", "askAndAdd", "(IIIII)I"⟩, 11) := ⟨⟨by decide +kernel, by decide +kernel⟩, List.mem_of_getElem? (i := 17) (by decide +kernel), List.mem_of_getElem? (i := 364) (by decide +kernel), List.mem_of_getElem? (i := 365) (by decide +kernel)⟩
theorem lw_p17 : lw_okq (⟨"ExtensionStarts", "ask", "(III)I"⟩, 11) := ⟨⟨by decide +kernel, by decide +kernel⟩, List.mem_of_getElem? (i := 17) (by decide +kernel), List.mem_of_getElem? (i := 368) (by decide +kernel), List.mem_of_getElem? (i := 369) (by decide +kernel)⟩
theorem lw_p18 : lw_okq (⟨"ExtensionStarts", "askAndSet", "(III)I"⟩, 11) := ⟨⟨by decide +kernel, by decide +kernel⟩, List.mem_of_getElem? (i := 17) (by decide +kernel), List.mem_of_getElem? (i := 384) (by decide +kernel), List.mem_of_getElem? (i := 385) (by decide +kernel)⟩
theorem lw_p19 : lw_okq (⟨"ExtensionStarts", "countNotZero", "(II)I"⟩, 11) := ⟨⟨by decide +kernel, by decide +kernel⟩, List.mem_of_getElem? (i := 17) (by decide +kernel), List.mem_of_getElem? (i := 401) (by decide +kernel), List.mem_of_getElem? (i := 402) (by decide +kernel)⟩
theorem lw_p20 : lw_okq (⟨"java/lang/Throwable", "fillInStackTrace", "(I)Ljava/lang/Throwable;"⟩, 6) := ⟨⟨by decide +kernel, by decide +kernel⟩, List.mem_of_getElem? (i := 476) (by decide +kernel), List.mem_of_getElem? (i := 474) (by decide +kernel), List.mem_of_getElem? (i := 475) (by decide +kernel)⟩
theorem lw_p21 : lw_okq (⟨"ExtensionStartsModel", "begins", "()V"⟩, 41) := ⟨⟨by decide +kernel, by decide +kernel⟩, List.mem_of_getElem? (i := 529) (by decide +kernel), List.mem_of_getElem? (i := 535) (by decide +kernel), List.mem_of_getElem? (i := 536) (by decide +kernel)⟩
theorem lw_p22 : lw_okq (⟨"ExtensionStartsModel", "isType", "(I)Z"⟩, 41) := ⟨⟨by decide +kernel, by decide +kernel⟩, List.mem_of_getElem? (i := 529) (by decide +kernel), List.mem_of_getElem? (i := 675) (by decide +kernel), List.mem_of_getElem? (i := 676) (by decide +kernel)⟩
theorem lw_p23 : lw_okq (⟨"ExtensionStartsModel", "homeOf", "(II)I"⟩, 41) := ⟨⟨by decide +kernel, by decide +kernel⟩, List.mem_of_getElem? (i := 529) (by decide +kernel), List.mem_of_getElem? (i := 701) (by decide +kernel), List.mem_of_getElem? (i := 702) (by decide +kernel)⟩
theorem lw_p24 : lw_okq (⟨"ExtensionStartsModel", "makes", "(II)I"⟩, 41) := ⟨⟨by decide +kernel, by decide +kernel⟩, List.mem_of_getElem? (i := 529) (by decide +kernel), List.mem_of_getElem? (i := 705) (by decide +kernel), List.mem_of_getElem? (i := 706) (by decide +kernel)⟩
theorem lw_p25 : lw_okq (⟨"ExtensionStartsModel", "wakes", "(II)I"⟩, 41) := ⟨⟨by decide +kernel, by decide +kernel⟩, List.mem_of_getElem? (i := 529) (by decide +kernel), List.mem_of_getElem? (i := 709) (by decide +kernel), List.mem_of_getElem? (i := 710) (by decide +kernel)⟩
theorem lw_p26 : lw_okq (⟨"ExtensionStartsModel", "ask", "(II)V"⟩, 41) := ⟨⟨by decide +kernel, by decide +kernel⟩, List.mem_of_getElem? (i := 529) (by decide +kernel), List.mem_of_getElem? (i := 713) (by decide +kernel), List.mem_of_getElem? (i := 714) (by decide +kernel)⟩
theorem lw_p27 : lw_okq (⟨"ExtensionStartsModel", "at", "(II)I"⟩, 41) := ⟨⟨by decide +kernel, by decide +kernel⟩, List.mem_of_getElem? (i := 529) (by decide +kernel), List.mem_of_getElem? (i := 717) (by decide +kernel), List.mem_of_getElem? (i := 718) (by decide +kernel)⟩
theorem lw_p28 : lw_okq (⟨"ExtensionStartsModel", "listFulls", "(I)V"⟩, 41) := ⟨⟨by decide +kernel, by decide +kernel⟩, List.mem_of_getElem? (i := 529) (by decide +kernel), List.mem_of_getElem? (i := 721) (by decide +kernel), List.mem_of_getElem? (i := 722) (by decide +kernel)⟩
theorem lw_p29 : lw_okq (⟨"ExtensionStartsModel", "heard", "(I)V"⟩, 41) := ⟨⟨by decide +kernel, by decide +kernel⟩, List.mem_of_getElem? (i := 529) (by decide +kernel), List.mem_of_getElem? (i := 725) (by decide +kernel), List.mem_of_getElem? (i := 726) (by decide +kernel)⟩
theorem lw_p30 : lw_okq (⟨"ExtensionStartsModel", "write", "(IIII)I"⟩, 41) := ⟨⟨by decide +kernel, by decide +kernel⟩, List.mem_of_getElem? (i := 529) (by decide +kernel), List.mem_of_getElem? (i := 729) (by decide +kernel), List.mem_of_getElem? (i := 730) (by decide +kernel)⟩
theorem lw_p31 : lw_okq (⟨"ExtensionStartsModel", "plain", "(III)I"⟩, 41) := ⟨⟨by decide +kernel, by decide +kernel⟩, List.mem_of_getElem? (i := 529) (by decide +kernel), List.mem_of_getElem? (i := 733) (by decide +kernel), List.mem_of_getElem? (i := 734) (by decide +kernel)⟩
def lw_privs_2 : List (MethodName × Nat) := [(⟨"ExtensionStarts", "askAndAdd", "(IIIII)I"⟩, 11), (⟨"ExtensionStarts", "ask", "(III)I"⟩, 11), (⟨"ExtensionStarts", "askAndSet", "(III)I"⟩, 11), (⟨"ExtensionStarts", "countNotZero", "(II)I"⟩, 11), (⟨"java/lang/Throwable", "fillInStackTrace", "(I)Ljava/lang/Throwable;"⟩, 6), (⟨"ExtensionStartsModel", "begins", "()V"⟩, 41), (⟨"ExtensionStartsModel", "isType", "(I)Z"⟩, 41), (⟨"ExtensionStartsModel", "homeOf", "(II)I"⟩, 41), (⟨"ExtensionStartsModel", "makes", "(II)I"⟩, 41), (⟨"ExtensionStartsModel", "wakes", "(II)I"⟩, 41), (⟨"ExtensionStartsModel", "ask", "(II)V"⟩, 41), (⟨"ExtensionStartsModel", "at", "(II)I"⟩, 41), (⟨"ExtensionStartsModel", "listFulls", "(I)V"⟩, 41), (⟨"ExtensionStartsModel", "heard", "(I)V"⟩, 41), (⟨"ExtensionStartsModel", "write", "(IIII)I"⟩, 41), (⟨"ExtensionStartsModel", "plain", "(III)I"⟩, 41)]
theorem lw_r2 : ∀ q ∈ lw_privs_2, lw_okq q := List.forall_mem_cons.mpr ⟨lw_p16, List.forall_mem_cons.mpr ⟨lw_p17, List.forall_mem_cons.mpr ⟨lw_p18, List.forall_mem_cons.mpr ⟨lw_p19, List.forall_mem_cons.mpr ⟨lw_p20, List.forall_mem_cons.mpr ⟨lw_p21, List.forall_mem_cons.mpr ⟨lw_p22, List.forall_mem_cons.mpr ⟨lw_p23, List.forall_mem_cons.mpr ⟨lw_p24, List.forall_mem_cons.mpr ⟨lw_p25, List.forall_mem_cons.mpr ⟨lw_p26, List.forall_mem_cons.mpr ⟨lw_p27, List.forall_mem_cons.mpr ⟨lw_p28, List.forall_mem_cons.mpr ⟨lw_p29, List.forall_mem_cons.mpr ⟨lw_p30, List.forall_mem_cons.mpr ⟨lw_p31, fun _ h => absurd h List.not_mem_nil⟩⟩⟩⟩⟩⟩⟩⟩⟩⟩⟩⟩⟩⟩⟩⟩
theorem lw_p32 : lw_okq (⟨"ExtensionStartsModel", "end", "(II)V"⟩, 41) := ⟨⟨by decide +kernel, by decide +kernel⟩, List.mem_of_getElem? (i := 529) (by decide +kernel), List.mem_of_getElem? (i := 737) (by decide +kernel), List.mem_of_getElem? (i := 738) (by decide +kernel)⟩
theorem lw_p33 : lw_okq (⟨"ExtensionStartsModel", "goes", "(I)V"⟩, 41) := ⟨⟨by decide +kernel, by decide +kernel⟩, List.mem_of_getElem? (i := 529) (by decide +kernel), List.mem_of_getElem? (i := 741) (by decide +kernel), List.mem_of_getElem? (i := 742) (by decide +kernel)⟩
theorem lw_p34 : lw_okq (⟨"ExtensionStartsModel", "does", "(II)V"⟩, 41) := ⟨⟨by decide +kernel, by decide +kernel⟩, List.mem_of_getElem? (i := 529) (by decide +kernel), List.mem_of_getElem? (i := 745) (by decide +kernel), List.mem_of_getElem? (i := 746) (by decide +kernel)⟩
theorem lw_p35 : lw_okq (⟨"ExtensionStartsModel", "asksFor", "(II)I"⟩, 41) := ⟨⟨by decide +kernel, by decide +kernel⟩, List.mem_of_getElem? (i := 529) (by decide +kernel), List.mem_of_getElem? (i := 749) (by decide +kernel), List.mem_of_getElem? (i := 750) (by decide +kernel)⟩
theorem lw_p36 : lw_okq (⟨"ExtensionStartsModel", "make", "(II)V"⟩, 41) := ⟨⟨by decide +kernel, by decide +kernel⟩, List.mem_of_getElem? (i := 529) (by decide +kernel), List.mem_of_getElem? (i := 753) (by decide +kernel), List.mem_of_getElem? (i := 754) (by decide +kernel)⟩
theorem lw_p37 : lw_okq (⟨"ExtensionStartsModel", "asks", "(III)I"⟩, 41) := ⟨⟨by decide +kernel, by decide +kernel⟩, List.mem_of_getElem? (i := 529) (by decide +kernel), List.mem_of_getElem? (i := 757) (by decide +kernel), List.mem_of_getElem? (i := 758) (by decide +kernel)⟩
def lw_privs_3 : List (MethodName × Nat) := [(⟨"ExtensionStartsModel", "end", "(II)V"⟩, 41), (⟨"ExtensionStartsModel", "goes", "(I)V"⟩, 41), (⟨"ExtensionStartsModel", "does", "(II)V"⟩, 41), (⟨"ExtensionStartsModel", "asksFor", "(II)I"⟩, 41), (⟨"ExtensionStartsModel", "make", "(II)V"⟩, 41), (⟨"ExtensionStartsModel", "asks", "(III)I"⟩, 41)]
theorem lw_r3 : ∀ q ∈ lw_privs_3, lw_okq q := List.forall_mem_cons.mpr ⟨lw_p32, List.forall_mem_cons.mpr ⟨lw_p33, List.forall_mem_cons.mpr ⟨lw_p34, List.forall_mem_cons.mpr ⟨lw_p35, List.forall_mem_cons.mpr ⟨lw_p36, List.forall_mem_cons.mpr ⟨lw_p37, fun _ h => absurd h List.not_mem_nil⟩⟩⟩⟩⟩⟩
def lw_privs : List (MethodName × Nat) := lw_privs_1 ++ (lw_privs_2 ++ (lw_privs_3))
def lw_tbl : List Cond := k2_sels lw_privs ++ tables_1
theorem lw_privs_ok : ∀ q ∈ lw_privs, lw_okq q := by
  show ∀ q ∈ lw_privs_1 ++ (lw_privs_2 ++ (lw_privs_3)), lw_okq q
  exact List.forall_mem_append.mpr ⟨lw_r1, List.forall_mem_append.mpr ⟨lw_r2, lw_r3⟩⟩
def RX0 : String := "ExtensionStarts$Kept"
def TX0 : u_T := fun k => match k with
  | 0 => ("ExtensionStarts$Kept", "starts", "[I", true)
  | 1 => ("ExtensionStarts$Kept", "messages", "[I", true)
  | 2 => ("ExtensionStarts$Kept", "startCount", "I", false)
  | _ => ("ExtensionStarts$Kept", "messageCount", "I", false)
def tyX0 : Nat → FieldType := fun k => match k with
  | 0 => .array .int
  | 1 => .array .int
  | 2 => .int
  | _ => .int
abbrev wsX00 : List Cond := u_ws RX0 TX0 4
theorem nmX0 : ∀ a, a < 4 → ∀ b, b < 4 → a ≠ b → (TX0 a).2.1 ≠ (TX0 b).2.1 := by decide +kernel
theorem tyX0_ok : ∀ k, k < 4 → parseFieldDescriptor (TX0 k).2.2.1 = some (tyX0 k) := by decide +kernel
abbrev cX0_init : ByteArray := prog_2_method_1_code
def yX0_init : MethodName := ⟨RX0, "<init>", "()V"⟩
abbrev cX0_addStart : ByteArray := prog_2_method_2_code
def yX0_addStart : MethodName := ⟨RX0, "addStart", "(IIII)V"⟩
abbrev cX0_addMessage : ByteArray := prog_2_method_3_code
def yX0_addMessage : MethodName := ⟨RX0, "addMessage", "(I)V"⟩
def RX1 : String := "ExtensionStarts$Place"
def TX1 : u_T := fun k => match k with
  | 0 => ("ExtensionStarts$Place", "states", "[I", true)
  | _ => ("ExtensionStarts$Place", "numbers", "[I", true)
def tyX1 : Nat → FieldType := fun k => match k with
  | 0 => .array .int
  | _ => .array .int
abbrev wsX10 : List Cond := u_ws RX1 TX1 2
theorem nmX1 : ∀ a, a < 2 → ∀ b, b < 2 → a ≠ b → (TX1 a).2.1 ≠ (TX1 b).2.1 := by decide +kernel
theorem tyX1_ok : ∀ k, k < 2 → parseFieldDescriptor (TX1 k).2.2.1 = some (tyX1 k) := by decide +kernel
abbrev cX1_init : ByteArray := prog_3_method_1_code
def yX1_init : MethodName := ⟨RX1, "<init>", "()V"⟩
abbrev cX1_numberOf : ByteArray := prog_3_method_2_code
def yX1_numberOf : MethodName := ⟨RX1, "numberOf", "(II)I"⟩
abbrev cX1_setNumber : ByteArray := prog_3_method_3_code
def yX1_setNumber : MethodName := ⟨RX1, "setNumber", "(III)V"⟩
abbrev cX1_forget : ByteArray := prog_3_method_4_code
def yX1_forget : MethodName := ⟨RX1, "forget", "()I"⟩
def RX2 : String := "ExtensionStarts$Row"
def TX2 : u_T := fun k => match k with
  | 0 => ("ExtensionStarts$Row", "items", "[I", true)
  | 1 => ("ExtensionStarts$Row", "count", "I", false)
  | _ => ("ExtensionStarts$Row", "bits", "I", false)
def tyX2 : Nat → FieldType := fun k => match k with
  | 0 => .array .int
  | 1 => .int
  | _ => .int
abbrev wsX20 : List Cond := u_ws RX2 TX2 3
theorem nmX2 : ∀ a, a < 3 → ∀ b, b < 3 → a ≠ b → (TX2 a).2.1 ≠ (TX2 b).2.1 := by decide +kernel
theorem tyX2_ok : ∀ k, k < 3 → parseFieldDescriptor (TX2 k).2.2.1 = some (tyX2 k) := by decide +kernel
abbrev cX2_init : ByteArray := prog_4_method_1_code
def yX2_init : MethodName := ⟨RX2, "<init>", "()V"⟩
abbrev cX2_empty : ByteArray := prog_4_method_2_code
def yX2_empty : MethodName := ⟨RX2, "empty", "()V"⟩
abbrev cX2_has : ByteArray := prog_4_method_3_code
def yX2_has : MethodName := ⟨RX2, "has", "(I)Z"⟩
abbrev cX2_addOnce : ByteArray := prog_4_method_4_code
def yX2_addOnce : MethodName := ⟨RX2, "addOnce", "(I)V"⟩
abbrev cX2_addAllOnce : ByteArray := prog_4_method_5_code
def yX2_addAllOnce : MethodName := ⟨RX2, "addAllOnce", "(LExtensionStarts$Row;)V"⟩
def RX3 : String := "ExtensionStarts$Session"
def TX3 : u_T := fun k => match k with
  | 0 => ("ExtensionStarts$Session", "place", "LExtensionStarts$Place;", true)
  | 1 => ("ExtensionStarts$Session", "things", "[I", true)
  | 2 => ("ExtensionStarts$Session", "stepsLeft", "I", false)
  | _ => ("ExtensionStarts$Session", "latestUse", "I", false)
def tyX3 : Nat → FieldType := fun k => match k with
  | 0 => .object "ExtensionStarts$Place"
  | 1 => .array .int
  | 2 => .int
  | _ => .int
abbrev wsX30 : List Cond := u_ws RX3 TX3 4
theorem nmX3 : ∀ a, a < 4 → ∀ b, b < 4 → a ≠ b → (TX3 a).2.1 ≠ (TX3 b).2.1 := by decide +kernel
theorem tyX3_ok : ∀ k, k < 4 → parseFieldDescriptor (TX3 k).2.2.1 = some (tyX3 k) := by decide +kernel
abbrev cX3_init : ByteArray := prog_5_method_1_code
def yX3_init : MethodName := ⟨RX3, "<init>", "()V"⟩
abbrev cX3_forget : ByteArray := prog_5_method_2_code
def yX3_forget : MethodName := ⟨RX3, "forget", "()I"⟩
def RX4 : String := "ExtensionStarts$Type"
def TX4 : u_T := fun k => match k with
  | 0 => ("ExtensionStarts$Type", "kind", "I", false)
  | 1 => ("ExtensionStarts$Type", "parent", "I", false)
  | 2 => ("ExtensionStarts$Type", "shared", "Z", false)
  | 3 => ("ExtensionStarts$Type", "faces", "LExtensionStarts$Row;", true)
  | 4 => ("ExtensionStarts$Type", "lookedIn", "LExtensionStarts$Row;", true)
  | 5 => ("ExtensionStarts$Type", "fullFaces", "LExtensionStarts$Row;", true)
  | 6 => ("ExtensionStarts$Type", "fieldKinds", "[I", true)
  | 7 => ("ExtensionStarts$Type", "constants", "[I", true)
  | 8 => ("ExtensionStarts$Type", "acts", "[I", true)
  | 9 => ("ExtensionStarts$Type", "as", "[I", true)
  | 10 => ("ExtensionStarts$Type", "bs", "[I", true)
  | 11 => ("ExtensionStarts$Type", "cs", "[I", true)
  | _ => ("ExtensionStarts$Type", "lineCount", "I", false)
def tyX4 : Nat → FieldType := fun k => match k with
  | 0 => .int
  | 1 => .int
  | 2 => .boolean
  | 3 => .object "ExtensionStarts$Row"
  | 4 => .object "ExtensionStarts$Row"
  | 5 => .object "ExtensionStarts$Row"
  | 6 => .array .int
  | 7 => .array .int
  | 8 => .array .int
  | 9 => .array .int
  | 10 => .array .int
  | 11 => .array .int
  | _ => .int
abbrev wsX40 : List Cond := u_ws RX4 TX4 13
theorem nmX4 : ∀ a, a < 13 → ∀ b, b < 13 → a ≠ b → (TX4 a).2.1 ≠ (TX4 b).2.1 := by decide +kernel
theorem tyX4_ok : ∀ k, k < 13 → parseFieldDescriptor (TX4 k).2.2.1 = some (tyX4 k) := by decide +kernel
abbrev cX4_init : ByteArray := prog_6_method_1_code
def yX4_init : MethodName := ⟨RX4, "<init>", "()V"⟩
abbrev cX4_begin : ByteArray := prog_6_method_2_code
def yX4_begin : MethodName := ⟨RX4, "begin", "(IIZ)V"⟩
abbrev cX4_addLine : ByteArray := prog_6_method_3_code
def yX4_addLine : MethodName := ⟨RX4, "addLine", "(IIII)I"⟩
def RX5 : String := "ExtensionStarts$Uses"
def TX5 : u_T := fun k => match k with
  | 0 => ("ExtensionStarts$Uses", "before", "[I", true)
  | 1 => ("ExtensionStarts$Uses", "made", "[I", true)
  | 2 => ("ExtensionStarts$Uses", "writes", "[I", true)
  | _ => ("ExtensionStarts$Uses", "count", "I", false)
def tyX5 : Nat → FieldType := fun k => match k with
  | 0 => .array .int
  | 1 => .array .int
  | 2 => .array .int
  | _ => .int
abbrev wsX50 : List Cond := u_ws RX5 TX5 4
theorem nmX5 : ∀ a, a < 4 → ∀ b, b < 4 → a ≠ b → (TX5 a).2.1 ≠ (TX5 b).2.1 := by decide +kernel
theorem tyX5_ok : ∀ k, k < 4 → parseFieldDescriptor (TX5 k).2.2.1 = some (tyX5 k) := by decide +kernel
abbrev cX5_init : ByteArray := prog_7_method_1_code
def yX5_init : MethodName := ⟨RX5, "<init>", "()V"⟩
abbrev cX5_open : ByteArray := prog_7_method_2_code
def yX5_open : MethodName := ⟨RX5, "open", "(I)I"⟩
abbrev cX5_close : ByteArray := prog_7_method_3_code
def yX5_close : MethodName := ⟨RX5, "close", "(III)V"⟩
def RX6 : String := "ExtensionStarts"
def TX6 : u_T := fun k => match k with
  | 0 => ("ExtensionStarts", "types", "[LExtensionStarts$Type;", true)
  | 1 => ("ExtensionStarts", "sessions", "[LExtensionStarts$Session;", true)
  | 2 => ("ExtensionStarts", "common", "LExtensionStarts$Place;", true)
  | 3 => ("ExtensionStarts", "uses", "LExtensionStarts$Uses;", true)
  | 4 => ("ExtensionStarts", "kept", "LExtensionStarts$Kept;", true)
  | 5 => ("ExtensionStarts", "typeCount", "I", false)
  | 6 => ("ExtensionStarts", "stepsTaken", "I", false)
  | 7 => ("ExtensionStarts", "latestFailure", "I", false)
  | 8 => ("ExtensionStarts", "here", "I", false)
  | 9 => ("ExtensionStarts", "writes", "I", false)
  | _ => ("ExtensionStarts", "answer", "I", false)
def tyX6 : Nat → FieldType := fun k => match k with
  | 0 => .array (.object "ExtensionStarts$Type")
  | 1 => .array (.object "ExtensionStarts$Session")
  | 2 => .object "ExtensionStarts$Place"
  | 3 => .object "ExtensionStarts$Uses"
  | 4 => .object "ExtensionStarts$Kept"
  | 5 => .int
  | 6 => .int
  | 7 => .int
  | 8 => .int
  | 9 => .int
  | _ => .int
abbrev wsX60 : List Cond := u_ws RX6 TX6 11
theorem nmX6 : ∀ a, a < 11 → ∀ b, b < 11 → a ≠ b → (TX6 a).2.1 ≠ (TX6 b).2.1 := by decide +kernel
theorem tyX6_ok : ∀ k, k < 11 → parseFieldDescriptor (TX6 k).2.2.1 = some (tyX6 k) := by decide +kernel
abbrev cX6_init : ByteArray := prog_1_method_1_code
def yX6_init : MethodName := ⟨RX6, "<init>", "()V"⟩
abbrev cX6_type : ByteArray := prog_1_method_2_code
def yX6_type : MethodName := ⟨RX6, "type", "(IIZ)I"⟩
abbrev cX6_face : ByteArray := prog_1_method_3_code
def yX6_face : MethodName := ⟨RX6, "face", "(II)I"⟩
abbrev cX6_field : ByteArray := prog_1_method_4_code
def yX6_field : MethodName := ⟨RX6, "field", "(IIZI)I"⟩
abbrev cX6_line : ByteArray := prog_1_method_5_code
def yX6_line : MethodName := ⟨RX6, "line", "(IIIII)I"⟩
abbrev cX6_use : ByteArray := prog_1_method_6_code
def yX6_use : MethodName := ⟨RX6, "use", "(IIIII)I"⟩
abbrev cX6_failure : ByteArray := prog_1_method_7_code
def yX6_failure : MethodName := ⟨RX6, "failure", "()I"⟩
abbrev cX6_told : ByteArray := prog_1_method_8_code
def yX6_told : MethodName := ⟨RX6, "told", "(III)I"⟩
abbrev cX6_peek : ByteArray := prog_1_method_9_code
def yX6_peek : MethodName := ⟨RX6, "peek", "(III)I"⟩
abbrev cX6_start : ByteArray := prog_1_method_10_code
def yX6_start : MethodName := ⟨RX6, "start", "(II)I"⟩
abbrev cX6_message : ByteArray := prog_1_method_11_code
def yX6_message : MethodName := ⟨RX6, "message", "(I)I"⟩
abbrev cX6_steps : ByteArray := prog_1_method_12_code
def yX6_steps : MethodName := ⟨RX6, "steps", "(II)I"⟩
abbrev cX6_undo : ByteArray := prog_1_method_13_code
def yX6_undo : MethodName := ⟨RX6, "undo", "(I)I"⟩
abbrev cX6_restart : ByteArray := prog_1_method_14_code
def yX6_restart : MethodName := ⟨RX6, "restart", "(I)I"⟩
abbrev cX6_about : ByteArray := prog_1_method_15_code
def yX6_about : MethodName := ⟨RX6, "about", "(I)I"⟩
abbrev cX6_clear : ByteArray := prog_1_method_16_code
def yX6_clear : MethodName := ⟨RX6, "clear", "()I"⟩
abbrev cX6_within : ByteArray := prog_1_method_17_code
def yX6_within : MethodName := ⟨RX6, "within", "(III)Z"⟩
abbrev cX6_isNumber : ByteArray := prog_1_method_18_code
def yX6_isNumber : MethodName := ⟨RX6, "isNumber", "(I)Z"⟩
abbrev cX6_isField : ByteArray := prog_1_method_19_code
def yX6_isField : MethodName := ⟨RX6, "isField", "(I)Z"⟩
abbrev cX6_isSession : ByteArray := prog_1_method_20_code
def yX6_isSession : MethodName := ⟨RX6, "isSession", "(I)Z"⟩
abbrev cX6_isType : ByteArray := prog_1_method_21_code
def yX6_isType : MethodName := ⟨RX6, "isType", "(I)Z"⟩
abbrev cX6_isClass : ByteArray := prog_1_method_22_code
def yX6_isClass : MethodName := ⟨RX6, "isClass", "(I)Z"⟩
abbrev cX6_mayNameType : ByteArray := prog_1_method_23_code
def yX6_mayNameType : MethodName := ⟨RX6, "mayNameType", "(I)Z"⟩
abbrev cX6_isLine : ByteArray := prog_1_method_24_code
def yX6_isLine : MethodName := ⟨RX6, "isLine", "(IIII)Z"⟩
abbrev cX6_refusalOfUse : ByteArray := prog_1_method_25_code
def yX6_refusalOfUse : MethodName := ⟨RX6, "refusalOfUse", "(IIIII)I"⟩
abbrev cX6_canBeSet : ByteArray := prog_1_method_26_code
def yX6_canBeSet : MethodName := ⟨RX6, "canBeSet", "(II)Z"⟩
abbrev cX6_placeOf : ByteArray := prog_1_method_27_code
def yX6_placeOf : MethodName := ⟨RX6, "placeOf", "(II)LExtensionStarts$Place;"⟩
abbrev cX6_countNotZero : ByteArray := prog_1_method_28_code
def yX6_countNotZero : MethodName := ⟨RX6, "countNotZero", "(II)I"⟩
abbrev cX6_arrange : ByteArray := prog_1_method_29_code
def yX6_arrange : MethodName := ⟨RX6, "arrange", "(I)V"⟩
abbrev cX6_homeOf : ByteArray := prog_1_method_30_code
def yX6_homeOf : MethodName := ⟨RX6, "homeOf", "(II)I"⟩
abbrev cX6_perform : ByteArray := prog_1_method_31_code
def yX6_perform : MethodName := ⟨RX6, "perform", "(IIII)I"⟩
abbrev cX6_makeAndCount : ByteArray := prog_1_method_32_code
def yX6_makeAndCount : MethodName := ⟨RX6, "makeAndCount", "(I)I"⟩
abbrev cX6_askAndSet : ByteArray := prog_1_method_33_code
def yX6_askAndSet : MethodName := ⟨RX6, "askAndSet", "(III)I"⟩
abbrev cX6_makeThing : ByteArray := prog_1_method_34_code
def yX6_makeThing : MethodName := ⟨RX6, "makeThing", "(II)I"⟩
abbrev cX6_ask : ByteArray := prog_1_method_35_code
def yX6_ask : MethodName := ⟨RX6, "ask", "(III)I"⟩
abbrev cX6_write : ByteArray := prog_1_method_36_code
def yX6_write : MethodName := ⟨RX6, "write", "(III)I"⟩
abbrev cX6_wake : ByteArray := prog_1_method_37_code
def yX6_wake : MethodName := ⟨RX6, "wake", "(II)I"⟩
abbrev cX6_wakeAbove : ByteArray := prog_1_method_38_code
def yX6_wakeAbove : MethodName := ⟨RX6, "wakeAbove", "(II)I"⟩
abbrev cX6_doLines : ByteArray := prog_1_method_39_code
def yX6_doLines : MethodName := ⟨RX6, "doLines", "(II)I"⟩
abbrev cX6_doLine : ByteArray := prog_1_method_40_code
def yX6_doLine : MethodName := ⟨RX6, "doLine", "(III)I"⟩
abbrev cX6_askAndAdd : ByteArray := prog_1_method_41_code
def yX6_askAndAdd : MethodName := ⟨RX6, "askAndAdd", "(IIIII)I"⟩
abbrev cX6_takeSteps : ByteArray := prog_1_method_42_code
def yX6_takeSteps : MethodName := ⟨RX6, "takeSteps", "(I)Z"⟩
def RX7 : String := "ExtensionStartsModel"
def TX7 : u_T := fun k => match k with
  | 0 => ("ExtensionStartsModel", "thrown", "I", false)
  | 1 => ("ExtensionStartsModel", "types", "I", false)
  | 2 => ("ExtensionStartsModel", "kindOf", "[I", true)
  | 3 => ("ExtensionStartsModel", "parentOf", "[I", true)
  | 4 => ("ExtensionStartsModel", "isShared", "[Z", true)
  | 5 => ("ExtensionStartsModel", "faces", "[I", true)
  | 6 => ("ExtensionStartsModel", "faceOf", "[I", true)
  | 7 => ("ExtensionStartsModel", "fieldSort", "[I", true)
  | 8 => ("ExtensionStartsModel", "constantOf", "[I", true)
  | 9 => ("ExtensionStartsModel", "lines", "[I", true)
  | 10 => ("ExtensionStartsModel", "lineOf", "[I", true)
  | 11 => ("ExtensionStartsModel", "stateOf", "[I", true)
  | 12 => ("ExtensionStartsModel", "numberOf", "[I", true)
  | 13 => ("ExtensionStartsModel", "thingsOf", "[I", true)
  | 14 => ("ExtensionStartsModel", "left", "[I", true)
  | 15 => ("ExtensionStartsModel", "failure", "I", false)
  | 16 => ("ExtensionStartsModel", "uses", "I", false)
  | 17 => ("ExtensionStartsModel", "starts", "I", false)
  | 18 => ("ExtensionStartsModel", "startOf", "[I", true)
  | 19 => ("ExtensionStartsModel", "messages", "I", false)
  | 20 => ("ExtensionStartsModel", "messageOf", "[I", true)
  | 21 => ("ExtensionStartsModel", "taken", "I", false)
  | 22 => ("ExtensionStartsModel", "undos", "[I", true)
  | 23 => ("ExtensionStartsModel", "madeOf", "[I", true)
  | 24 => ("ExtensionStartsModel", "writesOf", "[I", true)
  | 25 => ("ExtensionStartsModel", "writes", "I", false)
  | 26 => ("ExtensionStartsModel", "depth", "I", false)
  | 27 => ("ExtensionStartsModel", "waking", "[I", true)
  | 28 => ("ExtensionStartsModel", "place", "[I", true)
  | 29 => ("ExtensionStartsModel", "waits", "[I", true)
  | 30 => ("ExtensionStartsModel", "lineAt", "[I", true)
  | 31 => ("ExtensionStartsModel", "homeAt", "[I", true)
  | 32 => ("ExtensionStartsModel", "fulls", "[I", true)
  | 33 => ("ExtensionStartsModel", "fullMany", "[I", true)
  | 34 => ("ExtensionStartsModel", "isAnswered", "Z", false)
  | 35 => ("ExtensionStartsModel", "answer", "I", false)
  | 36 => ("ExtensionStartsModel", "seen", "[Z", true)
  | 37 => ("ExtensionStartsModel", "path", "[I", true)
  | 38 => ("ExtensionStartsModel", "next", "[I", true)
  | 39 => ("ExtensionStartsModel", "asked", "I", false)
  | _ => ("ExtensionStartsModel", "wanted", "[I", true)
def tyX7 : Nat → FieldType := fun k => match k with
  | 0 => .int
  | 1 => .int
  | 2 => .array .int
  | 3 => .array .int
  | 4 => .array .boolean
  | 5 => .array .int
  | 6 => .array .int
  | 7 => .array .int
  | 8 => .array .int
  | 9 => .array .int
  | 10 => .array .int
  | 11 => .array .int
  | 12 => .array .int
  | 13 => .array .int
  | 14 => .array .int
  | 15 => .int
  | 16 => .int
  | 17 => .int
  | 18 => .array .int
  | 19 => .int
  | 20 => .array .int
  | 21 => .int
  | 22 => .array .int
  | 23 => .array .int
  | 24 => .array .int
  | 25 => .int
  | 26 => .int
  | 27 => .array .int
  | 28 => .array .int
  | 29 => .array .int
  | 30 => .array .int
  | 31 => .array .int
  | 32 => .array .int
  | 33 => .array .int
  | 34 => .boolean
  | 35 => .int
  | 36 => .array .boolean
  | 37 => .array .int
  | 38 => .array .int
  | 39 => .int
  | _ => .array .int
abbrev wsX70 : List Cond := u_ws RX7 TX7 41
theorem nmX7 : ∀ a, a < 41 → ∀ b, b < 41 → a ≠ b → (TX7 a).2.1 ≠ (TX7 b).2.1 := by decide +kernel
theorem tyX7_ok : ∀ k, k < 41 → parseFieldDescriptor (TX7 k).2.2.1 = some (tyX7 k) := by decide +kernel
abbrev cX7_init : ByteArray := prog_9_method_1_code
def yX7_init : MethodName := ⟨RX7, "<init>", "()V"⟩
abbrev cX7_begins : ByteArray := prog_9_method_2_code
def yX7_begins : MethodName := ⟨RX7, "begins", "()V"⟩
abbrev cX7_thrown : ByteArray := prog_9_method_3_code
def yX7_thrown : MethodName := ⟨RX7, "thrown", "()I"⟩
abbrev cX7_in : ByteArray := prog_9_method_4_code
def yX7_in : MethodName := ⟨RX7, "in", "(III)Z"⟩
abbrev cX7_isType : ByteArray := prog_9_method_5_code
def yX7_isType : MethodName := ⟨RX7, "isType", "(I)Z"⟩
abbrev cX7_isSession : ByteArray := prog_9_method_6_code
def yX7_isSession : MethodName := ⟨RX7, "isSession", "(I)Z"⟩
abbrev cX7_type : ByteArray := prog_9_method_7_code
def yX7_type : MethodName := ⟨RX7, "type", "(IIZ)I"⟩
abbrev cX7_face : ByteArray := prog_9_method_8_code
def yX7_face : MethodName := ⟨RX7, "face", "(II)I"⟩
abbrev cX7_field : ByteArray := prog_9_method_9_code
def yX7_field : MethodName := ⟨RX7, "field", "(IIZI)I"⟩
abbrev cX7_isLine : ByteArray := prog_9_method_10_code
def yX7_isLine : MethodName := ⟨RX7, "isLine", "(IIII)Z"⟩
abbrev cX7_line : ByteArray := prog_9_method_11_code
def yX7_line : MethodName := ⟨RX7, "line", "(IIIII)I"⟩
abbrev cX7_at : ByteArray := prog_9_method_12_code
def yX7_at : MethodName := ⟨RX7, "at", "(II)I"⟩
abbrev cX7_wakes : ByteArray := prog_9_method_13_code
def yX7_wakes : MethodName := ⟨RX7, "wakes", "(II)I"⟩
abbrev cX7_ask : ByteArray := prog_9_method_14_code
def yX7_ask : MethodName := ⟨RX7, "ask", "(II)V"⟩
abbrev cX7_listFulls : ByteArray := prog_9_method_15_code
def yX7_listFulls : MethodName := ⟨RX7, "listFulls", "(I)V"⟩
abbrev cX7_end : ByteArray := prog_9_method_16_code
def yX7_end : MethodName := ⟨RX7, "end", "(II)V"⟩
abbrev cX7_heard : ByteArray := prog_9_method_17_code
def yX7_heard : MethodName := ⟨RX7, "heard", "(I)V"⟩
abbrev cX7_goes : ByteArray := prog_9_method_18_code
def yX7_goes : MethodName := ⟨RX7, "goes", "(I)V"⟩
abbrev cX7_does : ByteArray := prog_9_method_19_code
def yX7_does : MethodName := ⟨RX7, "does", "(II)V"⟩
abbrev cX7_make : ByteArray := prog_9_method_20_code
def yX7_make : MethodName := ⟨RX7, "make", "(II)V"⟩
abbrev cX7_asksFor : ByteArray := prog_9_method_21_code
def yX7_asksFor : MethodName := ⟨RX7, "asksFor", "(II)I"⟩
abbrev cX7_plain : ByteArray := prog_9_method_22_code
def yX7_plain : MethodName := ⟨RX7, "plain", "(III)I"⟩
abbrev cX7_write : ByteArray := prog_9_method_23_code
def yX7_write : MethodName := ⟨RX7, "write", "(IIII)I"⟩
abbrev cX7_makes : ByteArray := prog_9_method_24_code
def yX7_makes : MethodName := ⟨RX7, "makes", "(II)I"⟩
abbrev cX7_asks : ByteArray := prog_9_method_25_code
def yX7_asks : MethodName := ⟨RX7, "asks", "(III)I"⟩
abbrev cX7_homeOf : ByteArray := prog_9_method_26_code
def yX7_homeOf : MethodName := ⟨RX7, "homeOf", "(II)I"⟩
abbrev cX7_use : ByteArray := prog_9_method_27_code
def yX7_use : MethodName := ⟨RX7, "use", "(IIIII)I"⟩
abbrev cX7_failure : ByteArray := prog_9_method_28_code
def yX7_failure : MethodName := ⟨RX7, "failure", "()I"⟩
abbrev cX7_told : ByteArray := prog_9_method_29_code
def yX7_told : MethodName := ⟨RX7, "told", "(III)I"⟩
abbrev cX7_peek : ByteArray := prog_9_method_30_code
def yX7_peek : MethodName := ⟨RX7, "peek", "(III)I"⟩
abbrev cX7_start : ByteArray := prog_9_method_31_code
def yX7_start : MethodName := ⟨RX7, "start", "(II)I"⟩
abbrev cX7_message : ByteArray := prog_9_method_32_code
def yX7_message : MethodName := ⟨RX7, "message", "(I)I"⟩
abbrev cX7_steps : ByteArray := prog_9_method_33_code
def yX7_steps : MethodName := ⟨RX7, "steps", "(II)I"⟩
abbrev cX7_undo : ByteArray := prog_9_method_34_code
def yX7_undo : MethodName := ⟨RX7, "undo", "(I)I"⟩
abbrev cX7_restart : ByteArray := prog_9_method_35_code
def yX7_restart : MethodName := ⟨RX7, "restart", "(I)I"⟩
abbrev cX7_about : ByteArray := prog_9_method_36_code
def yX7_about : MethodName := ⟨RX7, "about", "(I)I"⟩
abbrev cX7_clear : ByteArray := prog_9_method_37_code
def yX7_clear : MethodName := ⟨RX7, "clear", "()I"⟩
def RJx00060 : String := "java/lang/ArrayIndexOutOfBoundsException"
def TJx00060 : u_T := fun k => match k with
  | 0 => ("java/lang/Throwable", "backtrace", "Ljava/lang/Object;", false)
  | 1 => ("java/lang/Throwable", "detailMessage", "Ljava/lang/String;", false)
  | 2 => ("java/lang/Throwable", "cause", "Ljava/lang/Throwable;", false)
  | 3 => ("java/lang/Throwable", "stackTrace", "[Ljava/lang/StackTraceElement;", false)
  | 4 => ("java/lang/Throwable", "depth", "I", false)
  | _ => ("java/lang/Throwable", "suppressedExceptions", "Ljava/util/List;", false)
def tyJx00060 : Nat → FieldType := fun k => match k with
  | 0 => .object "java/lang/Object"
  | 1 => .object "java/lang/String"
  | 2 => .object "java/lang/Throwable"
  | 3 => .array (.object "java/lang/StackTraceElement")
  | 4 => .int
  | _ => .object "java/util/List"
abbrev wsJx000600 : List Cond := u_ws RJx00060 TJx00060 6
theorem nmJx00060 : ∀ a, a < 6 → ∀ b, b < 6 → a ≠ b → (TJx00060 a).2.1 ≠ (TJx00060 b).2.1 := by decide +kernel
theorem tyJx00060_ok : ∀ k, k < 6 → parseFieldDescriptor (TJx00060 k).2.2.1 = some (tyJx00060 k) := by decide +kernel
abbrev cJx00060_init_a7421 : ByteArray := prog_10_method_2_code
def yJx00060_init_a7421 : MethodName := ⟨RJx00060, "<init>", "(Ljava/lang/String;)V"⟩
def RJ0 : String := "java/lang/String"
def TJ0 : u_T := fun k => match k with
  | 0 => ("java/lang/String", "value", "[B", true)
  | _ => ("java/lang/String", "coder", "B", true)
def tyJ0 : Nat → FieldType := fun k => match k with
  | 0 => .array .byte
  | _ => .byte
abbrev wsJ00 : List Cond := u_ws RJ0 TJ0 2
theorem nmJ0 : ∀ a, a < 2 → ∀ b, b < 2 → a ≠ b → (TJ0 a).2.1 ≠ (TJ0 b).2.1 := by decide +kernel
theorem tyJ0_ok : ∀ k, k < 2 → parseFieldDescriptor (TJ0 k).2.2.1 = some (tyJ0 k) := by decide +kernel
def RJ7 : String := "java/util/Arrays"
def TJ7 : u_T := fun k => match k with
  | _ => ("", "", "", false)
def tyJ7 : Nat → FieldType := fun k => match k with
  | _ => .int
abbrev wsJ70 : List Cond := u_ws RJ7 TJ7 0
theorem nmJ7 : ∀ a, a < 0 → ∀ b, b < 0 → a ≠ b → (TJ7 a).2.1 ≠ (TJ7 b).2.1 := by decide +kernel
theorem tyJ7_ok : ∀ k, k < 0 → parseFieldDescriptor (TJ7 k).2.2.1 = some (tyJ7 k) := by decide +kernel
abbrev cJ7_fill_53178 : ByteArray := prog_16_method_103_code
def yJ7_fill_53178 : MethodName := ⟨RJ7, "fill", "([II)V"⟩
def RL : String := "ExtensionStartsLaw"
abbrev cL_message : ByteArray := method_3_code
def yL_message : MethodName := ⟨RL, "message", "(LExtensionStarts;I[J)I"⟩
abbrev cL_law : ByteArray := code
def yL_law : MethodName := ⟨RL, "law", "([I)Z"⟩
abbrev vwCl : List vw_C := [(RJ0, TJ0, 2), (RJx00060, TJx00060, 6), (RX0, TX0, 4), (RX1, TX1, 2), (RX2, TX2, 3), (RX3, TX3, 4), (RX4, TX4, 13), (RX5, TX5, 4), (RX6, TX6, 11), (RX7, TX7, 41)]
/-- the words that a callee may take from its caller -/
def gW : List Cond := lw_tbl.filter goodWord
theorem gw_in {w : Cond} (i : Nat) (h : lw_tbl[i]? = some w) (hg : goodWord w = true) : w ∈ gW := List.mem_filter.mpr ⟨List.mem_of_getElem? h, hg⟩
theorem gw_ins {ws : List Cond} (ps : List Nat) (h : ws = ps.filterMap (fun i => lw_tbl[i]?)) (hg : ws.all goodWord = true) : ∀ w ∈ ws, w ∈ gW := by
  intro w hw
  have h1 := List.all_eq_true.mp hg w hw
  rw [h] at hw
  obtain ⟨i, -, hi⟩ := List.mem_filterMap.mp hw
  exact gw_in i hi h1
theorem gw_good : ∀ w ∈ gW, (w.onTables && w.keeps) = true ∨ ∃ ty, w = .arrayClass ty := fun w h => good_of_word (List.mem_filter.mp h).2
theorem gw_tbl : ∀ w ∈ gW, w ∈ lw_tbl := fun w h => (List.mem_filter.mp h).1
end
section
theorem dX0_init_0 : decode cX0_init 0 = .ok (.aload_n 0, 1) := by decide +kernel
theorem dX0_init_1 : decode cX0_init 1 = .ok (.invokespecial 3, 3) := by decide +kernel
theorem dX0_init_4 : decode cX0_init 4 = .ok (.aload_n 0, 1) := by decide +kernel
theorem dX0_init_5 : decode cX0_init 5 = .ok (.sipush 600, 3) := by decide +kernel
theorem dX0_init_8 : decode cX0_init 8 = .ok (.newarray .int, 2) := by decide +kernel
theorem dX0_init_10 : decode cX0_init 10 = .ok (.putfield 11, 3) := by decide +kernel
theorem dX0_init_13 : decode cX0_init 13 = .ok (.aload_n 0, 1) := by decide +kernel
theorem dX0_init_14 : decode cX0_init 14 = .ok (.bipush 100, 2) := by decide +kernel
theorem dX0_init_16 : decode cX0_init 16 = .ok (.newarray .int, 2) := by decide +kernel
theorem dX0_init_18 : decode cX0_init 18 = .ok (.putfield 15, 3) := by decide +kernel
theorem dX0_init_21 : decode cX0_init 21 = .ok (.return_, 1) := by decide +kernel
theorem dX0_addStart_0 : decode cX0_addStart 0 = .ok (.aload_n 0, 1) := by decide +kernel
theorem dX0_addStart_1 : decode cX0_addStart 1 = .ok (.getfield 18, 3) := by decide +kernel
theorem dX0_addStart_4 : decode cX0_addStart 4 = .ok (.sipush 150, 3) := by decide +kernel
theorem dX0_addStart_7 : decode cX0_addStart 7 = .ok (.if_icmp .lt 4, 3) := by decide +kernel
theorem dX0_addStart_10 : decode cX0_addStart 10 = .ok (.return_, 1) := by decide +kernel
theorem dX0_addStart_11 : decode cX0_addStart 11 = .ok (.aload_n 0, 1) := by decide +kernel
theorem dX0_addStart_12 : decode cX0_addStart 12 = .ok (.getfield 18, 3) := by decide +kernel
theorem dX0_addStart_15 : decode cX0_addStart 15 = .ok (.iconst 4, 1) := by decide +kernel
theorem dX0_addStart_16 : decode cX0_addStart 16 = .ok (.imul, 1) := by decide +kernel
theorem dX0_addStart_17 : decode cX0_addStart 17 = .ok (.istore 5, 2) := by decide +kernel
theorem dX0_addStart_19 : decode cX0_addStart 19 = .ok (.aload_n 0, 1) := by decide +kernel
theorem dX0_addStart_20 : decode cX0_addStart 20 = .ok (.getfield 11, 3) := by decide +kernel
theorem dX0_addStart_23 : decode cX0_addStart 23 = .ok (.iload 5, 2) := by decide +kernel
theorem dX0_addStart_25 : decode cX0_addStart 25 = .ok (.iload_n 1, 1) := by decide +kernel
theorem dX0_addStart_26 : decode cX0_addStart 26 = .ok (.iastore, 1) := by decide +kernel
theorem dX0_addStart_27 : decode cX0_addStart 27 = .ok (.aload_n 0, 1) := by decide +kernel
theorem dX0_addStart_28 : decode cX0_addStart 28 = .ok (.getfield 11, 3) := by decide +kernel
theorem dX0_addStart_31 : decode cX0_addStart 31 = .ok (.iload 5, 2) := by decide +kernel
theorem dX0_addStart_33 : decode cX0_addStart 33 = .ok (.iconst 1, 1) := by decide +kernel
theorem dX0_addStart_34 : decode cX0_addStart 34 = .ok (.iadd, 1) := by decide +kernel
theorem dX0_addStart_35 : decode cX0_addStart 35 = .ok (.iload_n 2, 1) := by decide +kernel
theorem dX0_addStart_36 : decode cX0_addStart 36 = .ok (.iastore, 1) := by decide +kernel
theorem dX0_addStart_37 : decode cX0_addStart 37 = .ok (.aload_n 0, 1) := by decide +kernel
theorem dX0_addStart_38 : decode cX0_addStart 38 = .ok (.getfield 11, 3) := by decide +kernel
theorem dX0_addStart_41 : decode cX0_addStart 41 = .ok (.iload 5, 2) := by decide +kernel
theorem dX0_addStart_43 : decode cX0_addStart 43 = .ok (.iconst 2, 1) := by decide +kernel
theorem dX0_addStart_44 : decode cX0_addStart 44 = .ok (.iadd, 1) := by decide +kernel
theorem dX0_addStart_45 : decode cX0_addStart 45 = .ok (.iload_n 3, 1) := by decide +kernel
theorem dX0_addStart_46 : decode cX0_addStart 46 = .ok (.iastore, 1) := by decide +kernel
theorem dX0_addStart_47 : decode cX0_addStart 47 = .ok (.aload_n 0, 1) := by decide +kernel
theorem dX0_addStart_48 : decode cX0_addStart 48 = .ok (.getfield 11, 3) := by decide +kernel
theorem dX0_addStart_51 : decode cX0_addStart 51 = .ok (.iload 5, 2) := by decide +kernel
theorem dX0_addStart_53 : decode cX0_addStart 53 = .ok (.iconst 3, 1) := by decide +kernel
theorem dX0_addStart_54 : decode cX0_addStart 54 = .ok (.iadd, 1) := by decide +kernel
theorem dX0_addStart_55 : decode cX0_addStart 55 = .ok (.iload 4, 2) := by decide +kernel
theorem dX0_addStart_57 : decode cX0_addStart 57 = .ok (.iastore, 1) := by decide +kernel
theorem dX0_addStart_58 : decode cX0_addStart 58 = .ok (.aload_n 0, 1) := by decide +kernel
theorem dX0_addStart_59 : decode cX0_addStart 59 = .ok (.dup, 1) := by decide +kernel
theorem dX0_addStart_60 : decode cX0_addStart 60 = .ok (.getfield 18, 3) := by decide +kernel
theorem dX0_addStart_63 : decode cX0_addStart 63 = .ok (.iconst 1, 1) := by decide +kernel
theorem dX0_addStart_64 : decode cX0_addStart 64 = .ok (.iadd, 1) := by decide +kernel
theorem dX0_addStart_65 : decode cX0_addStart 65 = .ok (.putfield 18, 3) := by decide +kernel
theorem dX0_addStart_68 : decode cX0_addStart 68 = .ok (.return_, 1) := by decide +kernel
theorem dX0_addMessage_0 : decode cX0_addMessage 0 = .ok (.aload_n 0, 1) := by decide +kernel
theorem dX0_addMessage_1 : decode cX0_addMessage 1 = .ok (.getfield 22, 3) := by decide +kernel
theorem dX0_addMessage_4 : decode cX0_addMessage 4 = .ok (.bipush 100, 2) := by decide +kernel
theorem dX0_addMessage_6 : decode cX0_addMessage 6 = .ok (.if_icmp .ge 23, 3) := by decide +kernel
theorem dX0_addMessage_9 : decode cX0_addMessage 9 = .ok (.aload_n 0, 1) := by decide +kernel
theorem dX0_addMessage_10 : decode cX0_addMessage 10 = .ok (.getfield 15, 3) := by decide +kernel
theorem dX0_addMessage_13 : decode cX0_addMessage 13 = .ok (.aload_n 0, 1) := by decide +kernel
theorem dX0_addMessage_14 : decode cX0_addMessage 14 = .ok (.getfield 22, 3) := by decide +kernel
theorem dX0_addMessage_17 : decode cX0_addMessage 17 = .ok (.iload_n 1, 1) := by decide +kernel
theorem dX0_addMessage_18 : decode cX0_addMessage 18 = .ok (.iastore, 1) := by decide +kernel
theorem dX0_addMessage_19 : decode cX0_addMessage 19 = .ok (.aload_n 0, 1) := by decide +kernel
theorem dX0_addMessage_20 : decode cX0_addMessage 20 = .ok (.dup, 1) := by decide +kernel
theorem dX0_addMessage_21 : decode cX0_addMessage 21 = .ok (.getfield 22, 3) := by decide +kernel
theorem dX0_addMessage_24 : decode cX0_addMessage 24 = .ok (.iconst 1, 1) := by decide +kernel
theorem dX0_addMessage_25 : decode cX0_addMessage 25 = .ok (.iadd, 1) := by decide +kernel
theorem dX0_addMessage_26 : decode cX0_addMessage 26 = .ok (.putfield 22, 3) := by decide +kernel
theorem dX0_addMessage_29 : decode cX0_addMessage 29 = .ok (.return_, 1) := by decide +kernel
theorem dX1_init_0 : decode cX1_init 0 = .ok (.aload_n 0, 1) := by decide +kernel
theorem dX1_init_1 : decode cX1_init 1 = .ok (.invokespecial 3, 3) := by decide +kernel
theorem dX1_init_4 : decode cX1_init 4 = .ok (.aload_n 0, 1) := by decide +kernel
theorem dX1_init_5 : decode cX1_init 5 = .ok (.bipush 16, 2) := by decide +kernel
theorem dX1_init_7 : decode cX1_init 7 = .ok (.newarray .int, 2) := by decide +kernel
theorem dX1_init_9 : decode cX1_init 9 = .ok (.putfield 9, 3) := by decide +kernel
theorem dX1_init_12 : decode cX1_init 12 = .ok (.aload_n 0, 1) := by decide +kernel
theorem dX1_init_13 : decode cX1_init 13 = .ok (.bipush 80, 2) := by decide +kernel
theorem dX1_init_15 : decode cX1_init 15 = .ok (.newarray .int, 2) := by decide +kernel
theorem dX1_init_17 : decode cX1_init 17 = .ok (.putfield 15, 3) := by decide +kernel
theorem dX1_init_20 : decode cX1_init 20 = .ok (.return_, 1) := by decide +kernel
theorem dX1_numberOf_0 : decode cX1_numberOf 0 = .ok (.aload_n 0, 1) := by decide +kernel
theorem dX1_numberOf_1 : decode cX1_numberOf 1 = .ok (.getfield 15, 3) := by decide +kernel
theorem dX1_numberOf_4 : decode cX1_numberOf 4 = .ok (.iload_n 1, 1) := by decide +kernel
theorem dX1_numberOf_5 : decode cX1_numberOf 5 = .ok (.iconst 5, 1) := by decide +kernel
theorem dX1_numberOf_6 : decode cX1_numberOf 6 = .ok (.imul, 1) := by decide +kernel
theorem dX1_numberOf_7 : decode cX1_numberOf 7 = .ok (.iload_n 2, 1) := by decide +kernel
theorem dX1_numberOf_8 : decode cX1_numberOf 8 = .ok (.iadd, 1) := by decide +kernel
theorem dX1_numberOf_9 : decode cX1_numberOf 9 = .ok (.iaload, 1) := by decide +kernel
theorem dX1_numberOf_10 : decode cX1_numberOf 10 = .ok (.ireturn, 1) := by decide +kernel
theorem dX1_setNumber_0 : decode cX1_setNumber 0 = .ok (.aload_n 0, 1) := by decide +kernel
theorem dX1_setNumber_1 : decode cX1_setNumber 1 = .ok (.getfield 15, 3) := by decide +kernel
theorem dX1_setNumber_4 : decode cX1_setNumber 4 = .ok (.iload_n 1, 1) := by decide +kernel
theorem dX1_setNumber_5 : decode cX1_setNumber 5 = .ok (.iconst 5, 1) := by decide +kernel
theorem dX1_setNumber_6 : decode cX1_setNumber 6 = .ok (.imul, 1) := by decide +kernel
theorem dX1_setNumber_7 : decode cX1_setNumber 7 = .ok (.iload_n 2, 1) := by decide +kernel
theorem dX1_setNumber_8 : decode cX1_setNumber 8 = .ok (.iadd, 1) := by decide +kernel
theorem dX1_setNumber_9 : decode cX1_setNumber 9 = .ok (.iload_n 3, 1) := by decide +kernel
theorem dX1_setNumber_10 : decode cX1_setNumber 10 = .ok (.iastore, 1) := by decide +kernel
theorem dX1_setNumber_11 : decode cX1_setNumber 11 = .ok (.return_, 1) := by decide +kernel
theorem dX1_forget_0 : decode cX1_forget 0 = .ok (.iconst 0, 1) := by decide +kernel
theorem dX1_forget_1 : decode cX1_forget 1 = .ok (.istore_n 1, 1) := by decide +kernel
theorem dX1_forget_2 : decode cX1_forget 2 = .ok (.iconst 0, 1) := by decide +kernel
theorem dX1_forget_3 : decode cX1_forget 3 = .ok (.istore_n 2, 1) := by decide +kernel
theorem dX1_forget_4 : decode cX1_forget 4 = .ok (.iload_n 2, 1) := by decide +kernel
theorem dX1_forget_5 : decode cX1_forget 5 = .ok (.bipush 16, 2) := by decide +kernel
theorem dX1_forget_7 : decode cX1_forget 7 = .ok (.if_icmp .ge 21, 3) := by decide +kernel
theorem dX1_forget_10 : decode cX1_forget 10 = .ok (.aload_n 0, 1) := by decide +kernel
theorem dX1_forget_11 : decode cX1_forget 11 = .ok (.getfield 9, 3) := by decide +kernel
theorem dX1_forget_14 : decode cX1_forget 14 = .ok (.iload_n 2, 1) := by decide +kernel
theorem dX1_forget_15 : decode cX1_forget 15 = .ok (.iaload, 1) := by decide +kernel
theorem dX1_forget_16 : decode cX1_forget 16 = .ok (.ifCond .eq 6, 3) := by decide +kernel
theorem dX1_forget_19 : decode cX1_forget 19 = .ok (.iinc 1 1, 3) := by decide +kernel
theorem dX1_forget_22 : decode cX1_forget 22 = .ok (.iinc 2 1, 3) := by decide +kernel
theorem dX1_forget_25 : decode cX1_forget 25 = .ok (.goto (-21), 3) := by decide +kernel
theorem dX1_forget_28 : decode cX1_forget 28 = .ok (.aload_n 0, 1) := by decide +kernel
theorem dX1_forget_29 : decode cX1_forget 29 = .ok (.getfield 9, 3) := by decide +kernel
theorem dX1_forget_32 : decode cX1_forget 32 = .ok (.iconst 0, 1) := by decide +kernel
theorem dX1_forget_33 : decode cX1_forget 33 = .ok (.invokestatic 18, 3) := by decide +kernel
theorem dX1_forget_36 : decode cX1_forget 36 = .ok (.aload_n 0, 1) := by decide +kernel
theorem dX1_forget_37 : decode cX1_forget 37 = .ok (.getfield 15, 3) := by decide +kernel
theorem dX1_forget_40 : decode cX1_forget 40 = .ok (.iconst 0, 1) := by decide +kernel
theorem dX1_forget_41 : decode cX1_forget 41 = .ok (.invokestatic 18, 3) := by decide +kernel
theorem dX1_forget_44 : decode cX1_forget 44 = .ok (.iload_n 1, 1) := by decide +kernel
theorem dX1_forget_45 : decode cX1_forget 45 = .ok (.ireturn, 1) := by decide +kernel
theorem dX2_init_0 : decode cX2_init 0 = .ok (.aload_n 0, 1) := by decide +kernel
theorem dX2_init_1 : decode cX2_init 1 = .ok (.invokespecial 3, 3) := by decide +kernel
theorem dX2_init_4 : decode cX2_init 4 = .ok (.aload_n 0, 1) := by decide +kernel
theorem dX2_init_5 : decode cX2_init 5 = .ok (.bipush 16, 2) := by decide +kernel
theorem dX2_init_7 : decode cX2_init 7 = .ok (.newarray .int, 2) := by decide +kernel
theorem dX2_init_9 : decode cX2_init 9 = .ok (.putfield 9, 3) := by decide +kernel
theorem dX2_init_12 : decode cX2_init 12 = .ok (.return_, 1) := by decide +kernel
theorem dX2_empty_0 : decode cX2_empty 0 = .ok (.aload_n 0, 1) := by decide +kernel
theorem dX2_empty_1 : decode cX2_empty 1 = .ok (.iconst 0, 1) := by decide +kernel
theorem dX2_empty_2 : decode cX2_empty 2 = .ok (.putfield 15, 3) := by decide +kernel
theorem dX2_empty_5 : decode cX2_empty 5 = .ok (.aload_n 0, 1) := by decide +kernel
theorem dX2_empty_6 : decode cX2_empty 6 = .ok (.iconst 0, 1) := by decide +kernel
theorem dX2_empty_7 : decode cX2_empty 7 = .ok (.putfield 19, 3) := by decide +kernel
theorem dX2_empty_10 : decode cX2_empty 10 = .ok (.return_, 1) := by decide +kernel
theorem dX2_has_0 : decode cX2_has 0 = .ok (.aload_n 0, 1) := by decide +kernel
theorem dX2_has_1 : decode cX2_has 1 = .ok (.getfield 19, 3) := by decide +kernel
theorem dX2_has_4 : decode cX2_has 4 = .ok (.iload_n 1, 1) := by decide +kernel
theorem dX2_has_5 : decode cX2_has 5 = .ok (.ishr, 1) := by decide +kernel
theorem dX2_has_6 : decode cX2_has 6 = .ok (.iconst 1, 1) := by decide +kernel
theorem dX2_has_7 : decode cX2_has 7 = .ok (.iand, 1) := by decide +kernel
theorem dX2_has_8 : decode cX2_has 8 = .ok (.ifCond .eq 7, 3) := by decide +kernel
theorem dX2_has_11 : decode cX2_has 11 = .ok (.iconst 1, 1) := by decide +kernel
theorem dX2_has_12 : decode cX2_has 12 = .ok (.goto 4, 3) := by decide +kernel
theorem dX2_has_15 : decode cX2_has 15 = .ok (.iconst 0, 1) := by decide +kernel
theorem dX2_has_16 : decode cX2_has 16 = .ok (.ireturn, 1) := by decide +kernel
theorem dX2_addOnce_0 : decode cX2_addOnce 0 = .ok (.aload_n 0, 1) := by decide +kernel
theorem dX2_addOnce_1 : decode cX2_addOnce 1 = .ok (.iload_n 1, 1) := by decide +kernel
theorem dX2_addOnce_2 : decode cX2_addOnce 2 = .ok (.invokevirtual 22, 3) := by decide +kernel
theorem dX2_addOnce_5 : decode cX2_addOnce 5 = .ok (.ifCond .ne 44, 3) := by decide +kernel
theorem dX2_addOnce_8 : decode cX2_addOnce 8 = .ok (.aload_n 0, 1) := by decide +kernel
theorem dX2_addOnce_9 : decode cX2_addOnce 9 = .ok (.getfield 15, 3) := by decide +kernel
theorem dX2_addOnce_12 : decode cX2_addOnce 12 = .ok (.bipush 16, 2) := by decide +kernel
theorem dX2_addOnce_14 : decode cX2_addOnce 14 = .ok (.if_icmp .ge 35, 3) := by decide +kernel
theorem dX2_addOnce_17 : decode cX2_addOnce 17 = .ok (.aload_n 0, 1) := by decide +kernel
theorem dX2_addOnce_18 : decode cX2_addOnce 18 = .ok (.getfield 9, 3) := by decide +kernel
theorem dX2_addOnce_21 : decode cX2_addOnce 21 = .ok (.aload_n 0, 1) := by decide +kernel
theorem dX2_addOnce_22 : decode cX2_addOnce 22 = .ok (.getfield 15, 3) := by decide +kernel
theorem dX2_addOnce_25 : decode cX2_addOnce 25 = .ok (.iload_n 1, 1) := by decide +kernel
theorem dX2_addOnce_26 : decode cX2_addOnce 26 = .ok (.iastore, 1) := by decide +kernel
theorem dX2_addOnce_27 : decode cX2_addOnce 27 = .ok (.aload_n 0, 1) := by decide +kernel
theorem dX2_addOnce_28 : decode cX2_addOnce 28 = .ok (.dup, 1) := by decide +kernel
theorem dX2_addOnce_29 : decode cX2_addOnce 29 = .ok (.getfield 15, 3) := by decide +kernel
theorem dX2_addOnce_32 : decode cX2_addOnce 32 = .ok (.iconst 1, 1) := by decide +kernel
theorem dX2_addOnce_33 : decode cX2_addOnce 33 = .ok (.iadd, 1) := by decide +kernel
theorem dX2_addOnce_34 : decode cX2_addOnce 34 = .ok (.putfield 15, 3) := by decide +kernel
theorem dX2_addOnce_37 : decode cX2_addOnce 37 = .ok (.aload_n 0, 1) := by decide +kernel
theorem dX2_addOnce_38 : decode cX2_addOnce 38 = .ok (.dup, 1) := by decide +kernel
theorem dX2_addOnce_39 : decode cX2_addOnce 39 = .ok (.getfield 19, 3) := by decide +kernel
theorem dX2_addOnce_42 : decode cX2_addOnce 42 = .ok (.iconst 1, 1) := by decide +kernel
theorem dX2_addOnce_43 : decode cX2_addOnce 43 = .ok (.iload_n 1, 1) := by decide +kernel
theorem dX2_addOnce_44 : decode cX2_addOnce 44 = .ok (.ishl, 1) := by decide +kernel
theorem dX2_addOnce_45 : decode cX2_addOnce 45 = .ok (.ior, 1) := by decide +kernel
theorem dX2_addOnce_46 : decode cX2_addOnce 46 = .ok (.putfield 19, 3) := by decide +kernel
theorem dX2_addOnce_49 : decode cX2_addOnce 49 = .ok (.return_, 1) := by decide +kernel
theorem dX2_addAllOnce_0 : decode cX2_addAllOnce 0 = .ok (.iconst 0, 1) := by decide +kernel
theorem dX2_addAllOnce_1 : decode cX2_addAllOnce 1 = .ok (.istore_n 2, 1) := by decide +kernel
theorem dX2_addAllOnce_2 : decode cX2_addAllOnce 2 = .ok (.iload_n 2, 1) := by decide +kernel
theorem dX2_addAllOnce_3 : decode cX2_addAllOnce 3 = .ok (.aload_n 1, 1) := by decide +kernel
theorem dX2_addAllOnce_4 : decode cX2_addAllOnce 4 = .ok (.getfield 15, 3) := by decide +kernel
theorem dX2_addAllOnce_7 : decode cX2_addAllOnce 7 = .ok (.if_icmp .ge 19, 3) := by decide +kernel
theorem dX2_addAllOnce_10 : decode cX2_addAllOnce 10 = .ok (.aload_n 0, 1) := by decide +kernel
theorem dX2_addAllOnce_11 : decode cX2_addAllOnce 11 = .ok (.aload_n 1, 1) := by decide +kernel
theorem dX2_addAllOnce_12 : decode cX2_addAllOnce 12 = .ok (.getfield 9, 3) := by decide +kernel
theorem dX2_addAllOnce_15 : decode cX2_addAllOnce 15 = .ok (.iload_n 2, 1) := by decide +kernel
theorem dX2_addAllOnce_16 : decode cX2_addAllOnce 16 = .ok (.iaload, 1) := by decide +kernel
theorem dX2_addAllOnce_17 : decode cX2_addAllOnce 17 = .ok (.invokevirtual 26, 3) := by decide +kernel
theorem dX2_addAllOnce_20 : decode cX2_addAllOnce 20 = .ok (.iinc 2 1, 3) := by decide +kernel
theorem dX2_addAllOnce_23 : decode cX2_addAllOnce 23 = .ok (.goto (-21), 3) := by decide +kernel
theorem dX2_addAllOnce_26 : decode cX2_addAllOnce 26 = .ok (.return_, 1) := by decide +kernel
theorem dX3_init_0 : decode cX3_init 0 = .ok (.aload_n 0, 1) := by decide +kernel
theorem dX3_init_1 : decode cX3_init 1 = .ok (.invokespecial 3, 3) := by decide +kernel
theorem dX3_init_4 : decode cX3_init 4 = .ok (.aload_n 0, 1) := by decide +kernel
theorem dX3_init_5 : decode cX3_init 5 = .ok (.new 9, 3) := by decide +kernel
theorem dX3_init_8 : decode cX3_init 8 = .ok (.dup, 1) := by decide +kernel
theorem dX3_init_9 : decode cX3_init 9 = .ok (.invokespecial 11, 3) := by decide +kernel
theorem dX3_init_12 : decode cX3_init 12 = .ok (.putfield 12, 3) := by decide +kernel
theorem dX3_init_15 : decode cX3_init 15 = .ok (.aload_n 0, 1) := by decide +kernel
theorem dX3_init_16 : decode cX3_init 16 = .ok (.bipush 16, 2) := by decide +kernel
theorem dX3_init_18 : decode cX3_init 18 = .ok (.newarray .int, 2) := by decide +kernel
theorem dX3_init_20 : decode cX3_init 20 = .ok (.putfield 18, 3) := by decide +kernel
theorem dX3_init_23 : decode cX3_init 23 = .ok (.aload_n 0, 1) := by decide +kernel
theorem dX3_init_24 : decode cX3_init 24 = .ok (.sipush 1000, 3) := by decide +kernel
theorem dX3_init_27 : decode cX3_init 27 = .ok (.putfield 22, 3) := by decide +kernel
theorem dX3_init_30 : decode cX3_init 30 = .ok (.aload_n 0, 1) := by decide +kernel
theorem dX3_init_31 : decode cX3_init 31 = .ok (.iconst (-1), 1) := by decide +kernel
theorem dX3_init_32 : decode cX3_init 32 = .ok (.putfield 26, 3) := by decide +kernel
theorem dX3_init_35 : decode cX3_init 35 = .ok (.return_, 1) := by decide +kernel
theorem dX3_forget_0 : decode cX3_forget 0 = .ok (.aload_n 0, 1) := by decide +kernel
theorem dX3_forget_1 : decode cX3_forget 1 = .ok (.getfield 18, 3) := by decide +kernel
theorem dX3_forget_4 : decode cX3_forget 4 = .ok (.iconst 0, 1) := by decide +kernel
theorem dX3_forget_5 : decode cX3_forget 5 = .ok (.invokestatic 29, 3) := by decide +kernel
theorem dX3_forget_8 : decode cX3_forget 8 = .ok (.aload_n 0, 1) := by decide +kernel
theorem dX3_forget_9 : decode cX3_forget 9 = .ok (.iconst (-1), 1) := by decide +kernel
theorem dX3_forget_10 : decode cX3_forget 10 = .ok (.putfield 26, 3) := by decide +kernel
theorem dX3_forget_13 : decode cX3_forget 13 = .ok (.aload_n 0, 1) := by decide +kernel
theorem dX3_forget_14 : decode cX3_forget 14 = .ok (.getfield 12, 3) := by decide +kernel
theorem dX3_forget_17 : decode cX3_forget 17 = .ok (.invokevirtual 35, 3) := by decide +kernel
theorem dX3_forget_20 : decode cX3_forget 20 = .ok (.ireturn, 1) := by decide +kernel
theorem dX4_init_0 : decode cX4_init 0 = .ok (.aload_n 0, 1) := by decide +kernel
theorem dX4_init_1 : decode cX4_init 1 = .ok (.invokespecial 3, 3) := by decide +kernel
theorem dX4_init_4 : decode cX4_init 4 = .ok (.aload_n 0, 1) := by decide +kernel
theorem dX4_init_5 : decode cX4_init 5 = .ok (.iconst (-1), 1) := by decide +kernel
theorem dX4_init_6 : decode cX4_init 6 = .ok (.putfield 9, 3) := by decide +kernel
theorem dX4_init_9 : decode cX4_init 9 = .ok (.aload_n 0, 1) := by decide +kernel
theorem dX4_init_10 : decode cX4_init 10 = .ok (.new 15, 3) := by decide +kernel
theorem dX4_init_13 : decode cX4_init 13 = .ok (.dup, 1) := by decide +kernel
theorem dX4_init_14 : decode cX4_init 14 = .ok (.invokespecial 17, 3) := by decide +kernel
theorem dX4_init_17 : decode cX4_init 17 = .ok (.putfield 18, 3) := by decide +kernel
theorem dX4_init_20 : decode cX4_init 20 = .ok (.aload_n 0, 1) := by decide +kernel
theorem dX4_init_21 : decode cX4_init 21 = .ok (.new 15, 3) := by decide +kernel
theorem dX4_init_24 : decode cX4_init 24 = .ok (.dup, 1) := by decide +kernel
theorem dX4_init_25 : decode cX4_init 25 = .ok (.invokespecial 17, 3) := by decide +kernel
theorem dX4_init_28 : decode cX4_init 28 = .ok (.putfield 22, 3) := by decide +kernel
theorem dX4_init_31 : decode cX4_init 31 = .ok (.aload_n 0, 1) := by decide +kernel
theorem dX4_init_32 : decode cX4_init 32 = .ok (.new 15, 3) := by decide +kernel
theorem dX4_init_35 : decode cX4_init 35 = .ok (.dup, 1) := by decide +kernel
theorem dX4_init_36 : decode cX4_init 36 = .ok (.invokespecial 17, 3) := by decide +kernel
theorem dX4_init_39 : decode cX4_init 39 = .ok (.putfield 25, 3) := by decide +kernel
theorem dX4_init_42 : decode cX4_init 42 = .ok (.aload_n 0, 1) := by decide +kernel
theorem dX4_init_43 : decode cX4_init 43 = .ok (.iconst 5, 1) := by decide +kernel
theorem dX4_init_44 : decode cX4_init 44 = .ok (.newarray .int, 2) := by decide +kernel
theorem dX4_init_46 : decode cX4_init 46 = .ok (.putfield 28, 3) := by decide +kernel
theorem dX4_init_49 : decode cX4_init 49 = .ok (.aload_n 0, 1) := by decide +kernel
theorem dX4_init_50 : decode cX4_init 50 = .ok (.iconst 5, 1) := by decide +kernel
theorem dX4_init_51 : decode cX4_init 51 = .ok (.newarray .int, 2) := by decide +kernel
theorem dX4_init_53 : decode cX4_init 53 = .ok (.putfield 32, 3) := by decide +kernel
theorem dX4_init_56 : decode cX4_init 56 = .ok (.aload_n 0, 1) := by decide +kernel
theorem dX4_init_57 : decode cX4_init 57 = .ok (.bipush 8, 2) := by decide +kernel
theorem dX4_init_59 : decode cX4_init 59 = .ok (.newarray .int, 2) := by decide +kernel
theorem dX4_init_61 : decode cX4_init 61 = .ok (.putfield 35, 3) := by decide +kernel
theorem dX4_init_64 : decode cX4_init 64 = .ok (.aload_n 0, 1) := by decide +kernel
theorem dX4_init_65 : decode cX4_init 65 = .ok (.bipush 8, 2) := by decide +kernel
theorem dX4_init_67 : decode cX4_init 67 = .ok (.newarray .int, 2) := by decide +kernel
theorem dX4_init_69 : decode cX4_init 69 = .ok (.putfield 38, 3) := by decide +kernel
theorem dX4_init_72 : decode cX4_init 72 = .ok (.aload_n 0, 1) := by decide +kernel
theorem dX4_init_73 : decode cX4_init 73 = .ok (.bipush 8, 2) := by decide +kernel
theorem dX4_init_75 : decode cX4_init 75 = .ok (.newarray .int, 2) := by decide +kernel
theorem dX4_init_77 : decode cX4_init 77 = .ok (.putfield 41, 3) := by decide +kernel
theorem dX4_init_80 : decode cX4_init 80 = .ok (.aload_n 0, 1) := by decide +kernel
theorem dX4_init_81 : decode cX4_init 81 = .ok (.bipush 8, 2) := by decide +kernel
theorem dX4_init_83 : decode cX4_init 83 = .ok (.newarray .int, 2) := by decide +kernel
theorem dX4_init_85 : decode cX4_init 85 = .ok (.putfield 44, 3) := by decide +kernel
theorem dX4_init_88 : decode cX4_init 88 = .ok (.return_, 1) := by decide +kernel
theorem dX4_begin_0 : decode cX4_begin 0 = .ok (.aload_n 0, 1) := by decide +kernel
theorem dX4_begin_1 : decode cX4_begin 1 = .ok (.iload_n 1, 1) := by decide +kernel
theorem dX4_begin_2 : decode cX4_begin 2 = .ok (.putfield 47, 3) := by decide +kernel
theorem dX4_begin_5 : decode cX4_begin 5 = .ok (.aload_n 0, 1) := by decide +kernel
theorem dX4_begin_6 : decode cX4_begin 6 = .ok (.iload_n 2, 1) := by decide +kernel
theorem dX4_begin_7 : decode cX4_begin 7 = .ok (.putfield 9, 3) := by decide +kernel
theorem dX4_begin_10 : decode cX4_begin 10 = .ok (.aload_n 0, 1) := by decide +kernel
theorem dX4_begin_11 : decode cX4_begin 11 = .ok (.iload_n 3, 1) := by decide +kernel
theorem dX4_begin_12 : decode cX4_begin 12 = .ok (.putfield 50, 3) := by decide +kernel
theorem dX4_begin_15 : decode cX4_begin 15 = .ok (.aload_n 0, 1) := by decide +kernel
theorem dX4_begin_16 : decode cX4_begin 16 = .ok (.getfield 18, 3) := by decide +kernel
theorem dX4_begin_19 : decode cX4_begin 19 = .ok (.invokevirtual 54, 3) := by decide +kernel
theorem dX4_begin_22 : decode cX4_begin 22 = .ok (.aload_n 0, 1) := by decide +kernel
theorem dX4_begin_23 : decode cX4_begin 23 = .ok (.getfield 28, 3) := by decide +kernel
theorem dX4_begin_26 : decode cX4_begin 26 = .ok (.iconst 0, 1) := by decide +kernel
theorem dX4_begin_27 : decode cX4_begin 27 = .ok (.invokestatic 57, 3) := by decide +kernel
theorem dX4_begin_30 : decode cX4_begin 30 = .ok (.aload_n 0, 1) := by decide +kernel
theorem dX4_begin_31 : decode cX4_begin 31 = .ok (.iconst 0, 1) := by decide +kernel
theorem dX4_begin_32 : decode cX4_begin 32 = .ok (.putfield 63, 3) := by decide +kernel
theorem dX4_begin_35 : decode cX4_begin 35 = .ok (.return_, 1) := by decide +kernel
theorem dX4_addLine_0 : decode cX4_addLine 0 = .ok (.aload_n 0, 1) := by decide +kernel
theorem dX4_addLine_1 : decode cX4_addLine 1 = .ok (.getfield 63, 3) := by decide +kernel
theorem dX4_addLine_4 : decode cX4_addLine 4 = .ok (.bipush 8, 2) := by decide +kernel
theorem dX4_addLine_6 : decode cX4_addLine 6 = .ok (.if_icmp .ge 54, 3) := by decide +kernel
theorem dX4_addLine_9 : decode cX4_addLine 9 = .ok (.aload_n 0, 1) := by decide +kernel
theorem dX4_addLine_10 : decode cX4_addLine 10 = .ok (.getfield 35, 3) := by decide +kernel
theorem dX4_addLine_13 : decode cX4_addLine 13 = .ok (.aload_n 0, 1) := by decide +kernel
theorem dX4_addLine_14 : decode cX4_addLine 14 = .ok (.getfield 63, 3) := by decide +kernel
theorem dX4_addLine_17 : decode cX4_addLine 17 = .ok (.iload_n 1, 1) := by decide +kernel
theorem dX4_addLine_18 : decode cX4_addLine 18 = .ok (.iastore, 1) := by decide +kernel
theorem dX4_addLine_19 : decode cX4_addLine 19 = .ok (.aload_n 0, 1) := by decide +kernel
theorem dX4_addLine_20 : decode cX4_addLine 20 = .ok (.getfield 38, 3) := by decide +kernel
theorem dX4_addLine_23 : decode cX4_addLine 23 = .ok (.aload_n 0, 1) := by decide +kernel
theorem dX4_addLine_24 : decode cX4_addLine 24 = .ok (.getfield 63, 3) := by decide +kernel
theorem dX4_addLine_27 : decode cX4_addLine 27 = .ok (.iload_n 2, 1) := by decide +kernel
theorem dX4_addLine_28 : decode cX4_addLine 28 = .ok (.iastore, 1) := by decide +kernel
theorem dX4_addLine_29 : decode cX4_addLine 29 = .ok (.aload_n 0, 1) := by decide +kernel
theorem dX4_addLine_30 : decode cX4_addLine 30 = .ok (.getfield 41, 3) := by decide +kernel
theorem dX4_addLine_33 : decode cX4_addLine 33 = .ok (.aload_n 0, 1) := by decide +kernel
theorem dX4_addLine_34 : decode cX4_addLine 34 = .ok (.getfield 63, 3) := by decide +kernel
theorem dX4_addLine_37 : decode cX4_addLine 37 = .ok (.iload_n 3, 1) := by decide +kernel
theorem dX4_addLine_38 : decode cX4_addLine 38 = .ok (.iastore, 1) := by decide +kernel
theorem dX4_addLine_39 : decode cX4_addLine 39 = .ok (.aload_n 0, 1) := by decide +kernel
theorem dX4_addLine_40 : decode cX4_addLine 40 = .ok (.getfield 44, 3) := by decide +kernel
theorem dX4_addLine_43 : decode cX4_addLine 43 = .ok (.aload_n 0, 1) := by decide +kernel
theorem dX4_addLine_44 : decode cX4_addLine 44 = .ok (.getfield 63, 3) := by decide +kernel
theorem dX4_addLine_47 : decode cX4_addLine 47 = .ok (.iload 4, 2) := by decide +kernel
theorem dX4_addLine_49 : decode cX4_addLine 49 = .ok (.iastore, 1) := by decide +kernel
theorem dX4_addLine_50 : decode cX4_addLine 50 = .ok (.aload_n 0, 1) := by decide +kernel
theorem dX4_addLine_51 : decode cX4_addLine 51 = .ok (.dup, 1) := by decide +kernel
theorem dX4_addLine_52 : decode cX4_addLine 52 = .ok (.getfield 63, 3) := by decide +kernel
theorem dX4_addLine_55 : decode cX4_addLine 55 = .ok (.iconst 1, 1) := by decide +kernel
theorem dX4_addLine_56 : decode cX4_addLine 56 = .ok (.iadd, 1) := by decide +kernel
theorem dX4_addLine_57 : decode cX4_addLine 57 = .ok (.putfield 63, 3) := by decide +kernel
theorem dX4_addLine_60 : decode cX4_addLine 60 = .ok (.aload_n 0, 1) := by decide +kernel
theorem dX4_addLine_61 : decode cX4_addLine 61 = .ok (.getfield 63, 3) := by decide +kernel
theorem dX4_addLine_64 : decode cX4_addLine 64 = .ok (.ireturn, 1) := by decide +kernel
theorem dX5_init_0 : decode cX5_init 0 = .ok (.aload_n 0, 1) := by decide +kernel
theorem dX5_init_1 : decode cX5_init 1 = .ok (.invokespecial 3, 3) := by decide +kernel
theorem dX5_init_4 : decode cX5_init 4 = .ok (.aload_n 0, 1) := by decide +kernel
theorem dX5_init_5 : decode cX5_init 5 = .ok (.sipush 512, 3) := by decide +kernel
theorem dX5_init_8 : decode cX5_init 8 = .ok (.newarray .int, 2) := by decide +kernel
theorem dX5_init_10 : decode cX5_init 10 = .ok (.putfield 9, 3) := by decide +kernel
theorem dX5_init_13 : decode cX5_init 13 = .ok (.aload_n 0, 1) := by decide +kernel
theorem dX5_init_14 : decode cX5_init 14 = .ok (.sipush 512, 3) := by decide +kernel
theorem dX5_init_17 : decode cX5_init 17 = .ok (.newarray .int, 2) := by decide +kernel
theorem dX5_init_19 : decode cX5_init 19 = .ok (.putfield 15, 3) := by decide +kernel
theorem dX5_init_22 : decode cX5_init 22 = .ok (.aload_n 0, 1) := by decide +kernel
theorem dX5_init_23 : decode cX5_init 23 = .ok (.sipush 512, 3) := by decide +kernel
theorem dX5_init_26 : decode cX5_init 26 = .ok (.newarray .int, 2) := by decide +kernel
theorem dX5_init_28 : decode cX5_init 28 = .ok (.putfield 18, 3) := by decide +kernel
theorem dX5_init_31 : decode cX5_init 31 = .ok (.return_, 1) := by decide +kernel
theorem dX5_open_0 : decode cX5_open 0 = .ok (.aload_n 0, 1) := by decide +kernel
theorem dX5_open_1 : decode cX5_open 1 = .ok (.getfield 21, 3) := by decide +kernel
theorem dX5_open_4 : decode cX5_open 4 = .ok (.istore_n 2, 1) := by decide +kernel
theorem dX5_open_5 : decode cX5_open 5 = .ok (.iload_n 2, 1) := by decide +kernel
theorem dX5_open_6 : decode cX5_open 6 = .ok (.sipush 512, 3) := by decide +kernel
theorem dX5_open_9 : decode cX5_open 9 = .ok (.if_icmp .lt 5, 3) := by decide +kernel
theorem dX5_open_12 : decode cX5_open 12 = .ok (.iconst (-1), 1) := by decide +kernel
theorem dX5_open_13 : decode cX5_open 13 = .ok (.ireturn, 1) := by decide +kernel
theorem dX5_open_14 : decode cX5_open 14 = .ok (.aload_n 0, 1) := by decide +kernel
theorem dX5_open_15 : decode cX5_open 15 = .ok (.getfield 9, 3) := by decide +kernel
theorem dX5_open_18 : decode cX5_open 18 = .ok (.iload_n 2, 1) := by decide +kernel
theorem dX5_open_19 : decode cX5_open 19 = .ok (.iload_n 1, 1) := by decide +kernel
theorem dX5_open_20 : decode cX5_open 20 = .ok (.iastore, 1) := by decide +kernel
theorem dX5_open_21 : decode cX5_open 21 = .ok (.aload_n 0, 1) := by decide +kernel
theorem dX5_open_22 : decode cX5_open 22 = .ok (.dup, 1) := by decide +kernel
theorem dX5_open_23 : decode cX5_open 23 = .ok (.getfield 21, 3) := by decide +kernel
theorem dX5_open_26 : decode cX5_open 26 = .ok (.iconst 1, 1) := by decide +kernel
theorem dX5_open_27 : decode cX5_open 27 = .ok (.iadd, 1) := by decide +kernel
theorem dX5_open_28 : decode cX5_open 28 = .ok (.putfield 21, 3) := by decide +kernel
theorem dX5_open_31 : decode cX5_open 31 = .ok (.iload_n 2, 1) := by decide +kernel
theorem dX5_open_32 : decode cX5_open 32 = .ok (.ireturn, 1) := by decide +kernel
theorem dX5_close_0 : decode cX5_close 0 = .ok (.iload_n 1, 1) := by decide +kernel
theorem dX5_close_1 : decode cX5_close 1 = .ok (.iconst 0, 1) := by decide +kernel
theorem dX5_close_2 : decode cX5_close 2 = .ok (.aload_n 0, 1) := by decide +kernel
theorem dX5_close_3 : decode cX5_close 3 = .ok (.getfield 21, 3) := by decide +kernel
theorem dX5_close_6 : decode cX5_close 6 = .ok (.iconst 1, 1) := by decide +kernel
theorem dX5_close_7 : decode cX5_close 7 = .ok (.isub, 1) := by decide +kernel
theorem dX5_close_8 : decode cX5_close 8 = .ok (.invokestatic 25, 3) := by decide +kernel
theorem dX5_close_11 : decode cX5_close 11 = .ok (.ifCond .eq 17, 3) := by decide +kernel
theorem dX5_close_14 : decode cX5_close 14 = .ok (.aload_n 0, 1) := by decide +kernel
theorem dX5_close_15 : decode cX5_close 15 = .ok (.getfield 15, 3) := by decide +kernel
theorem dX5_close_18 : decode cX5_close 18 = .ok (.iload_n 1, 1) := by decide +kernel
theorem dX5_close_19 : decode cX5_close 19 = .ok (.iload_n 2, 1) := by decide +kernel
theorem dX5_close_20 : decode cX5_close 20 = .ok (.iastore, 1) := by decide +kernel
theorem dX5_close_21 : decode cX5_close 21 = .ok (.aload_n 0, 1) := by decide +kernel
theorem dX5_close_22 : decode cX5_close 22 = .ok (.getfield 18, 3) := by decide +kernel
theorem dX5_close_25 : decode cX5_close 25 = .ok (.iload_n 1, 1) := by decide +kernel
theorem dX5_close_26 : decode cX5_close 26 = .ok (.iload_n 3, 1) := by decide +kernel
theorem dX5_close_27 : decode cX5_close 27 = .ok (.iastore, 1) := by decide +kernel
theorem dX5_close_28 : decode cX5_close 28 = .ok (.return_, 1) := by decide +kernel
theorem dX6_init_0 : decode cX6_init 0 = .ok (.aload_n 0, 1) := by decide +kernel
theorem dX6_init_1 : decode cX6_init 1 = .ok (.invokespecial 1, 3) := by decide +kernel
theorem dX6_init_4 : decode cX6_init 4 = .ok (.aload_n 0, 1) := by decide +kernel
theorem dX6_init_5 : decode cX6_init 5 = .ok (.bipush 16, 2) := by decide +kernel
theorem dX6_init_7 : decode cX6_init 7 = .ok (.anewarray 9, 3) := by decide +kernel
theorem dX6_init_10 : decode cX6_init 10 = .ok (.putfield 11, 3) := by decide +kernel
theorem dX6_init_13 : decode cX6_init 13 = .ok (.aload_n 0, 1) := by decide +kernel
theorem dX6_init_14 : decode cX6_init 14 = .ok (.iconst 4, 1) := by decide +kernel
theorem dX6_init_15 : decode cX6_init 15 = .ok (.anewarray 15, 3) := by decide +kernel
theorem dX6_init_18 : decode cX6_init 18 = .ok (.putfield 17, 3) := by decide +kernel
theorem dX6_init_21 : decode cX6_init 21 = .ok (.aload_n 0, 1) := by decide +kernel
theorem dX6_init_22 : decode cX6_init 22 = .ok (.new 21, 3) := by decide +kernel
theorem dX6_init_25 : decode cX6_init 25 = .ok (.dup, 1) := by decide +kernel
theorem dX6_init_26 : decode cX6_init 26 = .ok (.invokespecial 23, 3) := by decide +kernel
theorem dX6_init_29 : decode cX6_init 29 = .ok (.putfield 24, 3) := by decide +kernel
theorem dX6_init_32 : decode cX6_init 32 = .ok (.aload_n 0, 1) := by decide +kernel
theorem dX6_init_33 : decode cX6_init 33 = .ok (.new 28, 3) := by decide +kernel
theorem dX6_init_36 : decode cX6_init 36 = .ok (.dup, 1) := by decide +kernel
theorem dX6_init_37 : decode cX6_init 37 = .ok (.invokespecial 30, 3) := by decide +kernel
theorem dX6_init_40 : decode cX6_init 40 = .ok (.putfield 31, 3) := by decide +kernel
theorem dX6_init_43 : decode cX6_init 43 = .ok (.aload_n 0, 1) := by decide +kernel
theorem dX6_init_44 : decode cX6_init 44 = .ok (.new 35, 3) := by decide +kernel
theorem dX6_init_47 : decode cX6_init 47 = .ok (.dup, 1) := by decide +kernel
theorem dX6_init_48 : decode cX6_init 48 = .ok (.invokespecial 37, 3) := by decide +kernel
theorem dX6_init_51 : decode cX6_init 51 = .ok (.putfield 38, 3) := by decide +kernel
theorem dX6_init_54 : decode cX6_init 54 = .ok (.iconst 0, 1) := by decide +kernel
theorem dX6_init_55 : decode cX6_init 55 = .ok (.istore_n 1, 1) := by decide +kernel
theorem dX6_init_56 : decode cX6_init 56 = .ok (.iload_n 1, 1) := by decide +kernel
theorem dX6_init_57 : decode cX6_init 57 = .ok (.bipush 16, 2) := by decide +kernel
theorem dX6_init_59 : decode cX6_init 59 = .ok (.if_icmp .ge 22, 3) := by decide +kernel
theorem dX6_init_62 : decode cX6_init 62 = .ok (.aload_n 0, 1) := by decide +kernel
theorem dX6_init_63 : decode cX6_init 63 = .ok (.getfield 11, 3) := by decide +kernel
theorem dX6_init_66 : decode cX6_init 66 = .ok (.iload_n 1, 1) := by decide +kernel
theorem dX6_init_67 : decode cX6_init 67 = .ok (.new 9, 3) := by decide +kernel
theorem dX6_init_70 : decode cX6_init 70 = .ok (.dup, 1) := by decide +kernel
theorem dX6_init_71 : decode cX6_init 71 = .ok (.invokespecial 42, 3) := by decide +kernel
theorem dX6_init_74 : decode cX6_init 74 = .ok (.aastore, 1) := by decide +kernel
theorem dX6_init_75 : decode cX6_init 75 = .ok (.iinc 1 1, 3) := by decide +kernel
theorem dX6_init_78 : decode cX6_init 78 = .ok (.goto (-22), 3) := by decide +kernel
theorem dX6_init_81 : decode cX6_init 81 = .ok (.iconst 0, 1) := by decide +kernel
theorem dX6_init_82 : decode cX6_init 82 = .ok (.istore_n 1, 1) := by decide +kernel
theorem dX6_init_83 : decode cX6_init 83 = .ok (.iload_n 1, 1) := by decide +kernel
theorem dX6_init_84 : decode cX6_init 84 = .ok (.iconst 4, 1) := by decide +kernel
theorem dX6_init_85 : decode cX6_init 85 = .ok (.if_icmp .ge 22, 3) := by decide +kernel
theorem dX6_init_88 : decode cX6_init 88 = .ok (.aload_n 0, 1) := by decide +kernel
theorem dX6_init_89 : decode cX6_init 89 = .ok (.getfield 17, 3) := by decide +kernel
theorem dX6_init_92 : decode cX6_init 92 = .ok (.iload_n 1, 1) := by decide +kernel
theorem dX6_init_93 : decode cX6_init 93 = .ok (.new 15, 3) := by decide +kernel
theorem dX6_init_96 : decode cX6_init 96 = .ok (.dup, 1) := by decide +kernel
theorem dX6_init_97 : decode cX6_init 97 = .ok (.invokespecial 43, 3) := by decide +kernel
theorem dX6_init_100 : decode cX6_init 100 = .ok (.aastore, 1) := by decide +kernel
theorem dX6_init_101 : decode cX6_init 101 = .ok (.iinc 1 1, 3) := by decide +kernel
theorem dX6_init_104 : decode cX6_init 104 = .ok (.goto (-21), 3) := by decide +kernel
theorem dX6_init_107 : decode cX6_init 107 = .ok (.return_, 1) := by decide +kernel
theorem dX6_type_0 : decode cX6_type 0 = .ok (.iload_n 1, 1) := by decide +kernel
theorem dX6_type_1 : decode cX6_type 1 = .ok (.iconst 0, 1) := by decide +kernel
theorem dX6_type_2 : decode cX6_type 2 = .ok (.iconst 2, 1) := by decide +kernel
theorem dX6_type_3 : decode cX6_type 3 = .ok (.invokestatic 44, 3) := by decide +kernel
theorem dX6_type_6 : decode cX6_type 6 = .ok (.ifCond .ne 6, 3) := by decide +kernel
theorem dX6_type_9 : decode cX6_type 9 = .ok (.bipush (-102), 2) := by decide +kernel
theorem dX6_type_11 : decode cX6_type 11 = .ok (.ireturn, 1) := by decide +kernel
theorem dX6_type_12 : decode cX6_type 12 = .ok (.iload_n 2, 1) := by decide +kernel
theorem dX6_type_13 : decode cX6_type 13 = .ok (.iconst (-1), 1) := by decide +kernel
theorem dX6_type_14 : decode cX6_type 14 = .ok (.if_icmp .eq 18, 3) := by decide +kernel
theorem dX6_type_17 : decode cX6_type 17 = .ok (.iload_n 1, 1) := by decide +kernel
theorem dX6_type_18 : decode cX6_type 18 = .ok (.ifCond .ne 11, 3) := by decide +kernel
theorem dX6_type_21 : decode cX6_type 21 = .ok (.aload_n 0, 1) := by decide +kernel
theorem dX6_type_22 : decode cX6_type 22 = .ok (.iload_n 2, 1) := by decide +kernel
theorem dX6_type_23 : decode cX6_type 23 = .ok (.invokevirtual 48, 3) := by decide +kernel
theorem dX6_type_26 : decode cX6_type 26 = .ok (.ifCond .ne 6, 3) := by decide +kernel
theorem dX6_type_29 : decode cX6_type 29 = .ok (.bipush (-101), 2) := by decide +kernel
theorem dX6_type_31 : decode cX6_type 31 = .ok (.ireturn, 1) := by decide +kernel
theorem dX6_type_32 : decode cX6_type 32 = .ok (.iload_n 3, 1) := by decide +kernel
theorem dX6_type_33 : decode cX6_type 33 = .ok (.ifCond .eq 23, 3) := by decide +kernel
theorem dX6_type_36 : decode cX6_type 36 = .ok (.iload_n 2, 1) := by decide +kernel
theorem dX6_type_37 : decode cX6_type 37 = .ok (.iconst (-1), 1) := by decide +kernel
theorem dX6_type_38 : decode cX6_type 38 = .ok (.if_icmp .eq 18, 3) := by decide +kernel
theorem dX6_type_41 : decode cX6_type 41 = .ok (.aload_n 0, 1) := by decide +kernel
theorem dX6_type_42 : decode cX6_type 42 = .ok (.getfield 11, 3) := by decide +kernel
theorem dX6_type_45 : decode cX6_type 45 = .ok (.iload_n 2, 1) := by decide +kernel
theorem dX6_type_46 : decode cX6_type 46 = .ok (.aaload, 1) := by decide +kernel
theorem dX6_type_47 : decode cX6_type 47 = .ok (.getfield 52, 3) := by decide +kernel
theorem dX6_type_50 : decode cX6_type 50 = .ok (.ifCond .ne 6, 3) := by decide +kernel
theorem dX6_type_53 : decode cX6_type 53 = .ok (.bipush (-103), 2) := by decide +kernel
theorem dX6_type_55 : decode cX6_type 55 = .ok (.ireturn, 1) := by decide +kernel
theorem dX6_type_56 : decode cX6_type 56 = .ok (.aload_n 0, 1) := by decide +kernel
theorem dX6_type_57 : decode cX6_type 57 = .ok (.getfield 56, 3) := by decide +kernel
theorem dX6_type_60 : decode cX6_type 60 = .ok (.bipush 16, 2) := by decide +kernel
theorem dX6_type_62 : decode cX6_type 62 = .ok (.if_icmp .lt 6, 3) := by decide +kernel
theorem dX6_type_65 : decode cX6_type 65 = .ok (.bipush (-104), 2) := by decide +kernel
theorem dX6_type_67 : decode cX6_type 67 = .ok (.ireturn, 1) := by decide +kernel
theorem dX6_type_68 : decode cX6_type 68 = .ok (.aload_n 0, 1) := by decide +kernel
theorem dX6_type_69 : decode cX6_type 69 = .ok (.getfield 56, 3) := by decide +kernel
theorem dX6_type_72 : decode cX6_type 72 = .ok (.istore 4, 2) := by decide +kernel
theorem dX6_type_74 : decode cX6_type 74 = .ok (.aload_n 0, 1) := by decide +kernel
theorem dX6_type_75 : decode cX6_type 75 = .ok (.getfield 11, 3) := by decide +kernel
theorem dX6_type_78 : decode cX6_type 78 = .ok (.iload 4, 2) := by decide +kernel
theorem dX6_type_80 : decode cX6_type 80 = .ok (.aaload, 1) := by decide +kernel
theorem dX6_type_81 : decode cX6_type 81 = .ok (.iload_n 1, 1) := by decide +kernel
theorem dX6_type_82 : decode cX6_type 82 = .ok (.iload_n 2, 1) := by decide +kernel
theorem dX6_type_83 : decode cX6_type 83 = .ok (.iload_n 3, 1) := by decide +kernel
theorem dX6_type_84 : decode cX6_type 84 = .ok (.invokevirtual 60, 3) := by decide +kernel
theorem dX6_type_87 : decode cX6_type 87 = .ok (.aload_n 0, 1) := by decide +kernel
theorem dX6_type_88 : decode cX6_type 88 = .ok (.iload 4, 2) := by decide +kernel
theorem dX6_type_90 : decode cX6_type 90 = .ok (.invokevirtual 64, 3) := by decide +kernel
theorem dX6_type_93 : decode cX6_type 93 = .ok (.aload_n 0, 1) := by decide +kernel
theorem dX6_type_94 : decode cX6_type 94 = .ok (.dup, 1) := by decide +kernel
theorem dX6_type_95 : decode cX6_type 95 = .ok (.getfield 56, 3) := by decide +kernel
theorem dX6_type_98 : decode cX6_type 98 = .ok (.iconst 1, 1) := by decide +kernel
theorem dX6_type_99 : decode cX6_type 99 = .ok (.iadd, 1) := by decide +kernel
theorem dX6_type_100 : decode cX6_type 100 = .ok (.putfield 56, 3) := by decide +kernel
theorem dX6_type_103 : decode cX6_type 103 = .ok (.iload 4, 2) := by decide +kernel
theorem dX6_type_105 : decode cX6_type 105 = .ok (.ireturn, 1) := by decide +kernel
theorem dX6_face_0 : decode cX6_face 0 = .ok (.aload_n 0, 1) := by decide +kernel
theorem dX6_face_1 : decode cX6_face 1 = .ok (.iload_n 1, 1) := by decide +kernel
theorem dX6_face_2 : decode cX6_face 2 = .ok (.invokevirtual 68, 3) := by decide +kernel
theorem dX6_face_5 : decode cX6_face 5 = .ok (.ifCond .eq 28, 3) := by decide +kernel
theorem dX6_face_8 : decode cX6_face 8 = .ok (.aload_n 0, 1) := by decide +kernel
theorem dX6_face_9 : decode cX6_face 9 = .ok (.iload_n 2, 1) := by decide +kernel
theorem dX6_face_10 : decode cX6_face 10 = .ok (.invokevirtual 68, 3) := by decide +kernel
theorem dX6_face_13 : decode cX6_face 13 = .ok (.ifCond .eq 20, 3) := by decide +kernel
theorem dX6_face_16 : decode cX6_face 16 = .ok (.iload_n 2, 1) := by decide +kernel
theorem dX6_face_17 : decode cX6_face 17 = .ok (.iload_n 1, 1) := by decide +kernel
theorem dX6_face_18 : decode cX6_face 18 = .ok (.if_icmp .ge 15, 3) := by decide +kernel
theorem dX6_face_21 : decode cX6_face 21 = .ok (.aload_n 0, 1) := by decide +kernel
theorem dX6_face_22 : decode cX6_face 22 = .ok (.getfield 11, 3) := by decide +kernel
theorem dX6_face_25 : decode cX6_face 25 = .ok (.iload_n 2, 1) := by decide +kernel
theorem dX6_face_26 : decode cX6_face 26 = .ok (.aaload, 1) := by decide +kernel
theorem dX6_face_27 : decode cX6_face 27 = .ok (.getfield 71, 3) := by decide +kernel
theorem dX6_face_30 : decode cX6_face 30 = .ok (.ifCond .ne 6, 3) := by decide +kernel
theorem dX6_face_33 : decode cX6_face 33 = .ok (.bipush (-101), 2) := by decide +kernel
theorem dX6_face_35 : decode cX6_face 35 = .ok (.ireturn, 1) := by decide +kernel
theorem dX6_face_36 : decode cX6_face 36 = .ok (.aload_n 0, 1) := by decide +kernel
theorem dX6_face_37 : decode cX6_face 37 = .ok (.getfield 11, 3) := by decide +kernel
theorem dX6_face_40 : decode cX6_face 40 = .ok (.iload_n 1, 1) := by decide +kernel
theorem dX6_face_41 : decode cX6_face 41 = .ok (.aaload, 1) := by decide +kernel
theorem dX6_face_42 : decode cX6_face 42 = .ok (.astore_n 3, 1) := by decide +kernel
theorem dX6_face_43 : decode cX6_face 43 = .ok (.aload_n 3, 1) := by decide +kernel
theorem dX6_face_44 : decode cX6_face 44 = .ok (.getfield 52, 3) := by decide +kernel
theorem dX6_face_47 : decode cX6_face 47 = .ok (.ifCond .eq 15, 3) := by decide +kernel
theorem dX6_face_50 : decode cX6_face 50 = .ok (.aload_n 0, 1) := by decide +kernel
theorem dX6_face_51 : decode cX6_face 51 = .ok (.getfield 11, 3) := by decide +kernel
theorem dX6_face_54 : decode cX6_face 54 = .ok (.iload_n 2, 1) := by decide +kernel
theorem dX6_face_55 : decode cX6_face 55 = .ok (.aaload, 1) := by decide +kernel
theorem dX6_face_56 : decode cX6_face 56 = .ok (.getfield 52, 3) := by decide +kernel
theorem dX6_face_59 : decode cX6_face 59 = .ok (.ifCond .eq 14, 3) := by decide +kernel
theorem dX6_face_62 : decode cX6_face 62 = .ok (.aload_n 3, 1) := by decide +kernel
theorem dX6_face_63 : decode cX6_face 63 = .ok (.getfield 74, 3) := by decide +kernel
theorem dX6_face_66 : decode cX6_face 66 = .ok (.iload_n 2, 1) := by decide +kernel
theorem dX6_face_67 : decode cX6_face 67 = .ok (.invokevirtual 78, 3) := by decide +kernel
theorem dX6_face_70 : decode cX6_face 70 = .ok (.ifCond .eq 6, 3) := by decide +kernel
theorem dX6_face_73 : decode cX6_face 73 = .ok (.bipush (-103), 2) := by decide +kernel
theorem dX6_face_75 : decode cX6_face 75 = .ok (.ireturn, 1) := by decide +kernel
theorem dX6_face_76 : decode cX6_face 76 = .ok (.aload_n 3, 1) := by decide +kernel
theorem dX6_face_77 : decode cX6_face 77 = .ok (.getfield 74, 3) := by decide +kernel
theorem dX6_face_80 : decode cX6_face 80 = .ok (.getfield 83, 3) := by decide +kernel
theorem dX6_face_83 : decode cX6_face 83 = .ok (.iconst 3, 1) := by decide +kernel
theorem dX6_face_84 : decode cX6_face 84 = .ok (.if_icmp .lt 6, 3) := by decide +kernel
theorem dX6_face_87 : decode cX6_face 87 = .ok (.bipush (-104), 2) := by decide +kernel
theorem dX6_face_89 : decode cX6_face 89 = .ok (.ireturn, 1) := by decide +kernel
theorem dX6_face_90 : decode cX6_face 90 = .ok (.aload_n 3, 1) := by decide +kernel
theorem dX6_face_91 : decode cX6_face 91 = .ok (.getfield 74, 3) := by decide +kernel
theorem dX6_face_94 : decode cX6_face 94 = .ok (.iload_n 2, 1) := by decide +kernel
theorem dX6_face_95 : decode cX6_face 95 = .ok (.invokevirtual 86, 3) := by decide +kernel
theorem dX6_face_98 : decode cX6_face 98 = .ok (.iload_n 1, 1) := by decide +kernel
theorem dX6_face_99 : decode cX6_face 99 = .ok (.istore 4, 2) := by decide +kernel
theorem dX6_face_101 : decode cX6_face 101 = .ok (.iload 4, 2) := by decide +kernel
theorem dX6_face_103 : decode cX6_face 103 = .ok (.aload_n 0, 1) := by decide +kernel
theorem dX6_face_104 : decode cX6_face 104 = .ok (.getfield 56, 3) := by decide +kernel
theorem dX6_face_107 : decode cX6_face 107 = .ok (.if_icmp .ge 15, 3) := by decide +kernel
theorem dX6_face_110 : decode cX6_face 110 = .ok (.aload_n 0, 1) := by decide +kernel
theorem dX6_face_111 : decode cX6_face 111 = .ok (.iload 4, 2) := by decide +kernel
theorem dX6_face_113 : decode cX6_face 113 = .ok (.invokevirtual 64, 3) := by decide +kernel
theorem dX6_face_116 : decode cX6_face 116 = .ok (.iinc 4 1, 3) := by decide +kernel
theorem dX6_face_119 : decode cX6_face 119 = .ok (.goto (-18), 3) := by decide +kernel
theorem dX6_face_122 : decode cX6_face 122 = .ok (.aload_n 3, 1) := by decide +kernel
theorem dX6_face_123 : decode cX6_face 123 = .ok (.getfield 74, 3) := by decide +kernel
theorem dX6_face_126 : decode cX6_face 126 = .ok (.getfield 83, 3) := by decide +kernel
theorem dX6_face_129 : decode cX6_face 129 = .ok (.ireturn, 1) := by decide +kernel
theorem dX6_field_0 : decode cX6_field 0 = .ok (.aload_n 0, 1) := by decide +kernel
theorem dX6_field_1 : decode cX6_field 1 = .ok (.iload_n 1, 1) := by decide +kernel
theorem dX6_field_2 : decode cX6_field 2 = .ok (.invokevirtual 68, 3) := by decide +kernel
theorem dX6_field_5 : decode cX6_field 5 = .ok (.ifCond .ne 6, 3) := by decide +kernel
theorem dX6_field_8 : decode cX6_field 8 = .ok (.bipush (-101), 2) := by decide +kernel
theorem dX6_field_10 : decode cX6_field 10 = .ok (.ireturn, 1) := by decide +kernel
theorem dX6_field_11 : decode cX6_field 11 = .ok (.iload_n 2, 1) := by decide +kernel
theorem dX6_field_12 : decode cX6_field 12 = .ok (.invokestatic 89, 3) := by decide +kernel
theorem dX6_field_15 : decode cX6_field 15 = .ok (.ifCond .eq 15, 3) := by decide +kernel
theorem dX6_field_18 : decode cX6_field 18 = .ok (.iload_n 3, 1) := by decide +kernel
theorem dX6_field_19 : decode cX6_field 19 = .ok (.ifCond .eq 14, 3) := by decide +kernel
theorem dX6_field_22 : decode cX6_field 22 = .ok (.iload 4, 2) := by decide +kernel
theorem dX6_field_24 : decode cX6_field 24 = .ok (.invokestatic 92, 3) := by decide +kernel
theorem dX6_field_27 : decode cX6_field 27 = .ok (.ifCond .ne 6, 3) := by decide +kernel
theorem dX6_field_30 : decode cX6_field 30 = .ok (.bipush (-102), 2) := by decide +kernel
theorem dX6_field_32 : decode cX6_field 32 = .ok (.ireturn, 1) := by decide +kernel
theorem dX6_field_33 : decode cX6_field 33 = .ok (.iload_n 3, 1) := by decide +kernel
theorem dX6_field_34 : decode cX6_field 34 = .ok (.ifCond .ne 17, 3) := by decide +kernel
theorem dX6_field_37 : decode cX6_field 37 = .ok (.aload_n 0, 1) := by decide +kernel
theorem dX6_field_38 : decode cX6_field 38 = .ok (.getfield 11, 3) := by decide +kernel
theorem dX6_field_41 : decode cX6_field 41 = .ok (.iload_n 1, 1) := by decide +kernel
theorem dX6_field_42 : decode cX6_field 42 = .ok (.aaload, 1) := by decide +kernel
theorem dX6_field_43 : decode cX6_field 43 = .ok (.getfield 95, 3) := by decide +kernel
theorem dX6_field_46 : decode cX6_field 46 = .ok (.iload_n 2, 1) := by decide +kernel
theorem dX6_field_47 : decode cX6_field 47 = .ok (.iconst 2, 1) := by decide +kernel
theorem dX6_field_48 : decode cX6_field 48 = .ok (.iastore, 1) := by decide +kernel
theorem dX6_field_49 : decode cX6_field 49 = .ok (.iconst 0, 1) := by decide +kernel
theorem dX6_field_50 : decode cX6_field 50 = .ok (.ireturn, 1) := by decide +kernel
theorem dX6_field_51 : decode cX6_field 51 = .ok (.aload_n 0, 1) := by decide +kernel
theorem dX6_field_52 : decode cX6_field 52 = .ok (.getfield 11, 3) := by decide +kernel
theorem dX6_field_55 : decode cX6_field 55 = .ok (.iload_n 1, 1) := by decide +kernel
theorem dX6_field_56 : decode cX6_field 56 = .ok (.aaload, 1) := by decide +kernel
theorem dX6_field_57 : decode cX6_field 57 = .ok (.getfield 95, 3) := by decide +kernel
theorem dX6_field_60 : decode cX6_field 60 = .ok (.iload_n 2, 1) := by decide +kernel
theorem dX6_field_61 : decode cX6_field 61 = .ok (.iconst 1, 1) := by decide +kernel
theorem dX6_field_62 : decode cX6_field 62 = .ok (.iastore, 1) := by decide +kernel
theorem dX6_field_63 : decode cX6_field 63 = .ok (.aload_n 0, 1) := by decide +kernel
theorem dX6_field_64 : decode cX6_field 64 = .ok (.getfield 11, 3) := by decide +kernel
theorem dX6_field_67 : decode cX6_field 67 = .ok (.iload_n 1, 1) := by decide +kernel
theorem dX6_field_68 : decode cX6_field 68 = .ok (.aaload, 1) := by decide +kernel
theorem dX6_field_69 : decode cX6_field 69 = .ok (.getfield 99, 3) := by decide +kernel
theorem dX6_field_72 : decode cX6_field 72 = .ok (.iload_n 2, 1) := by decide +kernel
theorem dX6_field_73 : decode cX6_field 73 = .ok (.iload 4, 2) := by decide +kernel
theorem dX6_field_75 : decode cX6_field 75 = .ok (.iastore, 1) := by decide +kernel
theorem dX6_field_76 : decode cX6_field 76 = .ok (.iconst 1, 1) := by decide +kernel
theorem dX6_field_77 : decode cX6_field 77 = .ok (.ireturn, 1) := by decide +kernel
theorem dX6_line_0 : decode cX6_line 0 = .ok (.aload_n 0, 1) := by decide +kernel
theorem dX6_line_1 : decode cX6_line 1 = .ok (.iload_n 1, 1) := by decide +kernel
theorem dX6_line_2 : decode cX6_line 2 = .ok (.invokevirtual 68, 3) := by decide +kernel
theorem dX6_line_5 : decode cX6_line 5 = .ok (.ifCond .ne 6, 3) := by decide +kernel
theorem dX6_line_8 : decode cX6_line 8 = .ok (.bipush (-101), 2) := by decide +kernel
theorem dX6_line_10 : decode cX6_line 10 = .ok (.ireturn, 1) := by decide +kernel
theorem dX6_line_11 : decode cX6_line 11 = .ok (.iload_n 2, 1) := by decide +kernel
theorem dX6_line_12 : decode cX6_line 12 = .ok (.iload_n 3, 1) := by decide +kernel
theorem dX6_line_13 : decode cX6_line 13 = .ok (.iload 4, 2) := by decide +kernel
theorem dX6_line_15 : decode cX6_line 15 = .ok (.iload 5, 2) := by decide +kernel
theorem dX6_line_17 : decode cX6_line 17 = .ok (.invokestatic 102, 3) := by decide +kernel
theorem dX6_line_20 : decode cX6_line 20 = .ok (.ifCond .ne 6, 3) := by decide +kernel
theorem dX6_line_23 : decode cX6_line 23 = .ok (.bipush (-102), 2) := by decide +kernel
theorem dX6_line_25 : decode cX6_line 25 = .ok (.ireturn, 1) := by decide +kernel
theorem dX6_line_26 : decode cX6_line 26 = .ok (.aload_n 0, 1) := by decide +kernel
theorem dX6_line_27 : decode cX6_line 27 = .ok (.getfield 11, 3) := by decide +kernel
theorem dX6_line_30 : decode cX6_line 30 = .ok (.iload_n 1, 1) := by decide +kernel
theorem dX6_line_31 : decode cX6_line 31 = .ok (.aaload, 1) := by decide +kernel
theorem dX6_line_32 : decode cX6_line 32 = .ok (.getfield 106, 3) := by decide +kernel
theorem dX6_line_35 : decode cX6_line 35 = .ok (.bipush 8, 2) := by decide +kernel
theorem dX6_line_37 : decode cX6_line 37 = .ok (.if_icmp .lt 6, 3) := by decide +kernel
theorem dX6_line_40 : decode cX6_line 40 = .ok (.bipush (-104), 2) := by decide +kernel
theorem dX6_line_42 : decode cX6_line 42 = .ok (.ireturn, 1) := by decide +kernel
theorem dX6_line_43 : decode cX6_line 43 = .ok (.aload_n 0, 1) := by decide +kernel
theorem dX6_line_44 : decode cX6_line 44 = .ok (.getfield 11, 3) := by decide +kernel
theorem dX6_line_47 : decode cX6_line 47 = .ok (.iload_n 1, 1) := by decide +kernel
theorem dX6_line_48 : decode cX6_line 48 = .ok (.aaload, 1) := by decide +kernel
theorem dX6_line_49 : decode cX6_line 49 = .ok (.iload_n 2, 1) := by decide +kernel
theorem dX6_line_50 : decode cX6_line 50 = .ok (.iload_n 3, 1) := by decide +kernel
theorem dX6_line_51 : decode cX6_line 51 = .ok (.iload 4, 2) := by decide +kernel
theorem dX6_line_53 : decode cX6_line 53 = .ok (.iload 5, 2) := by decide +kernel
theorem dX6_line_55 : decode cX6_line 55 = .ok (.invokevirtual 109, 3) := by decide +kernel
theorem dX6_line_58 : decode cX6_line 58 = .ok (.ireturn, 1) := by decide +kernel
theorem dX6_use_0 : decode cX6_use 0 = .ok (.aload_n 0, 1) := by decide +kernel
theorem dX6_use_1 : decode cX6_use 1 = .ok (.iload_n 1, 1) := by decide +kernel
theorem dX6_use_2 : decode cX6_use 2 = .ok (.iload_n 2, 1) := by decide +kernel
theorem dX6_use_3 : decode cX6_use 3 = .ok (.iload_n 3, 1) := by decide +kernel
theorem dX6_use_4 : decode cX6_use 4 = .ok (.iload 4, 2) := by decide +kernel
theorem dX6_use_6 : decode cX6_use 6 = .ok (.iload 5, 2) := by decide +kernel
theorem dX6_use_8 : decode cX6_use 8 = .ok (.invokevirtual 113, 3) := by decide +kernel
theorem dX6_use_11 : decode cX6_use 11 = .ok (.istore 6, 2) := by decide +kernel
theorem dX6_use_13 : decode cX6_use 13 = .ok (.iload 6, 2) := by decide +kernel
theorem dX6_use_15 : decode cX6_use 15 = .ok (.ifCond .eq 6, 3) := by decide +kernel
theorem dX6_use_18 : decode cX6_use 18 = .ok (.iload 6, 2) := by decide +kernel
theorem dX6_use_20 : decode cX6_use 20 = .ok (.ireturn, 1) := by decide +kernel
theorem dX6_use_21 : decode cX6_use 21 = .ok (.aload_n 0, 1) := by decide +kernel
theorem dX6_use_22 : decode cX6_use 22 = .ok (.iload_n 1, 1) := by decide +kernel
theorem dX6_use_23 : decode cX6_use 23 = .ok (.putfield 117, 3) := by decide +kernel
theorem dX6_use_26 : decode cX6_use 26 = .ok (.aload_n 0, 1) := by decide +kernel
theorem dX6_use_27 : decode cX6_use 27 = .ok (.iconst 0, 1) := by decide +kernel
theorem dX6_use_28 : decode cX6_use 28 = .ok (.putfield 120, 3) := by decide +kernel
theorem dX6_use_31 : decode cX6_use 31 = .ok (.aload_n 0, 1) := by decide +kernel
theorem dX6_use_32 : decode cX6_use 32 = .ok (.iconst 0, 1) := by decide +kernel
theorem dX6_use_33 : decode cX6_use 33 = .ok (.putfield 123, 3) := by decide +kernel
theorem dX6_use_36 : decode cX6_use 36 = .ok (.aload_n 0, 1) := by decide +kernel
theorem dX6_use_37 : decode cX6_use 37 = .ok (.getfield 31, 3) := by decide +kernel
theorem dX6_use_40 : decode cX6_use 40 = .ok (.aload_n 0, 1) := by decide +kernel
theorem dX6_use_41 : decode cX6_use 41 = .ok (.getfield 17, 3) := by decide +kernel
theorem dX6_use_44 : decode cX6_use 44 = .ok (.iload_n 1, 1) := by decide +kernel
theorem dX6_use_45 : decode cX6_use 45 = .ok (.aaload, 1) := by decide +kernel
theorem dX6_use_46 : decode cX6_use 46 = .ok (.getfield 126, 3) := by decide +kernel
theorem dX6_use_49 : decode cX6_use 49 = .ok (.invokevirtual 129, 3) := by decide +kernel
theorem dX6_use_52 : decode cX6_use 52 = .ok (.istore 7, 2) := by decide +kernel
theorem dX6_use_54 : decode cX6_use 54 = .ok (.aload_n 0, 1) := by decide +kernel
theorem dX6_use_55 : decode cX6_use 55 = .ok (.getfield 17, 3) := by decide +kernel
theorem dX6_use_58 : decode cX6_use 58 = .ok (.iload_n 1, 1) := by decide +kernel
theorem dX6_use_59 : decode cX6_use 59 = .ok (.aaload, 1) := by decide +kernel
theorem dX6_use_60 : decode cX6_use 60 = .ok (.iload 7, 2) := by decide +kernel
theorem dX6_use_62 : decode cX6_use 62 = .ok (.putfield 126, 3) := by decide +kernel
theorem dX6_use_65 : decode cX6_use 65 = .ok (.aload_n 0, 1) := by decide +kernel
theorem dX6_use_66 : decode cX6_use 66 = .ok (.aload_n 0, 1) := by decide +kernel
theorem dX6_use_67 : decode cX6_use 67 = .ok (.iload_n 2, 1) := by decide +kernel
theorem dX6_use_68 : decode cX6_use 68 = .ok (.iload_n 3, 1) := by decide +kernel
theorem dX6_use_69 : decode cX6_use 69 = .ok (.iload 4, 2) := by decide +kernel
theorem dX6_use_71 : decode cX6_use 71 = .ok (.iload 5, 2) := by decide +kernel
theorem dX6_use_73 : decode cX6_use 73 = .ok (.invokevirtual 133, 3) := by decide +kernel
theorem dX6_use_76 : decode cX6_use 76 = .ok (.putfield 136, 3) := by decide +kernel
theorem dX6_use_79 : decode cX6_use 79 = .ok (.iload_n 3, 1) := by decide +kernel
theorem dX6_use_80 : decode cX6_use 80 = .ok (.ifCond .ne 14, 3) := by decide +kernel
theorem dX6_use_83 : decode cX6_use 83 = .ok (.aload_n 0, 1) := by decide +kernel
theorem dX6_use_84 : decode cX6_use 84 = .ok (.getfield 136, 3) := by decide +kernel
theorem dX6_use_87 : decode cX6_use 87 = .ok (.ifCond .ne 7, 3) := by decide +kernel
theorem dX6_use_90 : decode cX6_use 90 = .ok (.iconst 1, 1) := by decide +kernel
theorem dX6_use_91 : decode cX6_use 91 = .ok (.goto 4, 3) := by decide +kernel
theorem dX6_use_94 : decode cX6_use 94 = .ok (.iconst 0, 1) := by decide +kernel
theorem dX6_use_95 : decode cX6_use 95 = .ok (.istore 8, 2) := by decide +kernel
theorem dX6_use_97 : decode cX6_use 97 = .ok (.aload_n 0, 1) := by decide +kernel
theorem dX6_use_98 : decode cX6_use 98 = .ok (.getfield 31, 3) := by decide +kernel
theorem dX6_use_101 : decode cX6_use 101 = .ok (.iload 7, 2) := by decide +kernel
theorem dX6_use_103 : decode cX6_use 103 = .ok (.iload 8, 2) := by decide +kernel
theorem dX6_use_105 : decode cX6_use 105 = .ok (.ifCond .eq 7, 3) := by decide +kernel
theorem dX6_use_108 : decode cX6_use 108 = .ok (.iload_n 2, 1) := by decide +kernel
theorem dX6_use_109 : decode cX6_use 109 = .ok (.goto 4, 3) := by decide +kernel
theorem dX6_use_112 : decode cX6_use 112 = .ok (.iconst (-1), 1) := by decide +kernel
theorem dX6_use_113 : decode cX6_use 113 = .ok (.aload_n 0, 1) := by decide +kernel
theorem dX6_use_114 : decode cX6_use 114 = .ok (.getfield 120, 3) := by decide +kernel
theorem dX6_use_117 : decode cX6_use 117 = .ok (.invokevirtual 139, 3) := by decide +kernel
theorem dX6_use_120 : decode cX6_use 120 = .ok (.aload_n 0, 1) := by decide +kernel
theorem dX6_use_121 : decode cX6_use 121 = .ok (.getfield 136, 3) := by decide +kernel
theorem dX6_use_124 : decode cX6_use 124 = .ok (.ifCond .ne 10, 3) := by decide +kernel
theorem dX6_use_127 : decode cX6_use 127 = .ok (.aload_n 0, 1) := by decide +kernel
theorem dX6_use_128 : decode cX6_use 128 = .ok (.getfield 123, 3) := by decide +kernel
theorem dX6_use_131 : decode cX6_use 131 = .ok (.goto 4, 3) := by decide +kernel
theorem dX6_use_134 : decode cX6_use 134 = .ok (.iconst 0, 1) := by decide +kernel
theorem dX6_use_135 : decode cX6_use 135 = .ok (.ireturn, 1) := by decide +kernel
theorem dX6_failure_0 : decode cX6_failure 0 = .ok (.aload_n 0, 1) := by decide +kernel
theorem dX6_failure_1 : decode cX6_failure 1 = .ok (.getfield 136, 3) := by decide +kernel
theorem dX6_failure_4 : decode cX6_failure 4 = .ok (.ireturn, 1) := by decide +kernel
theorem dX6_told_0 : decode cX6_told 0 = .ok (.iload_n 1, 1) := by decide +kernel
theorem dX6_told_1 : decode cX6_told 1 = .ok (.invokestatic 143, 3) := by decide +kernel
theorem dX6_told_4 : decode cX6_told 4 = .ok (.ifCond .eq 11, 3) := by decide +kernel
theorem dX6_told_7 : decode cX6_told 7 = .ok (.aload_n 0, 1) := by decide +kernel
theorem dX6_told_8 : decode cX6_told 8 = .ok (.iload_n 2, 1) := by decide +kernel
theorem dX6_told_9 : decode cX6_told 9 = .ok (.invokevirtual 68, 3) := by decide +kernel
theorem dX6_told_12 : decode cX6_told 12 = .ok (.ifCond .ne 6, 3) := by decide +kernel
theorem dX6_told_15 : decode cX6_told 15 = .ok (.bipush (-101), 2) := by decide +kernel
theorem dX6_told_17 : decode cX6_told 17 = .ok (.ireturn, 1) := by decide +kernel
theorem dX6_told_18 : decode cX6_told 18 = .ok (.iload_n 3, 1) := by decide +kernel
theorem dX6_told_19 : decode cX6_told 19 = .ok (.tableswitch 56 0 2 #[25, 37, 49], 25) := by decide +kernel
theorem dX6_told_44 : decode cX6_told 44 = .ok (.aload_n 0, 1) := by decide +kernel
theorem dX6_told_45 : decode cX6_told 45 = .ok (.iload_n 1, 1) := by decide +kernel
theorem dX6_told_46 : decode cX6_told 46 = .ok (.iload_n 2, 1) := by decide +kernel
theorem dX6_told_47 : decode cX6_told 47 = .ok (.invokevirtual 146, 3) := by decide +kernel
theorem dX6_told_50 : decode cX6_told 50 = .ok (.getfield 150, 3) := by decide +kernel
theorem dX6_told_53 : decode cX6_told 53 = .ok (.iload_n 2, 1) := by decide +kernel
theorem dX6_told_54 : decode cX6_told 54 = .ok (.iaload, 1) := by decide +kernel
theorem dX6_told_55 : decode cX6_told 55 = .ok (.ireturn, 1) := by decide +kernel
theorem dX6_told_56 : decode cX6_told 56 = .ok (.aload_n 0, 1) := by decide +kernel
theorem dX6_told_57 : decode cX6_told 57 = .ok (.getfield 17, 3) := by decide +kernel
theorem dX6_told_60 : decode cX6_told 60 = .ok (.iload_n 1, 1) := by decide +kernel
theorem dX6_told_61 : decode cX6_told 61 = .ok (.aaload, 1) := by decide +kernel
theorem dX6_told_62 : decode cX6_told 62 = .ok (.getfield 153, 3) := by decide +kernel
theorem dX6_told_65 : decode cX6_told 65 = .ok (.iload_n 2, 1) := by decide +kernel
theorem dX6_told_66 : decode cX6_told 66 = .ok (.iaload, 1) := by decide +kernel
theorem dX6_told_67 : decode cX6_told 67 = .ok (.ireturn, 1) := by decide +kernel
theorem dX6_told_68 : decode cX6_told 68 = .ok (.aload_n 0, 1) := by decide +kernel
theorem dX6_told_69 : decode cX6_told 69 = .ok (.iload_n 1, 1) := by decide +kernel
theorem dX6_told_70 : decode cX6_told 70 = .ok (.iload_n 2, 1) := by decide +kernel
theorem dX6_told_71 : decode cX6_told 71 = .ok (.invokevirtual 156, 3) := by decide +kernel
theorem dX6_told_74 : decode cX6_told 74 = .ok (.ireturn, 1) := by decide +kernel
theorem dX6_told_75 : decode cX6_told 75 = .ok (.bipush (-102), 2) := by decide +kernel
theorem dX6_told_77 : decode cX6_told 77 = .ok (.ireturn, 1) := by decide +kernel
theorem dX6_peek_0 : decode cX6_peek 0 = .ok (.iload_n 1, 1) := by decide +kernel
theorem dX6_peek_1 : decode cX6_peek 1 = .ok (.invokestatic 143, 3) := by decide +kernel
theorem dX6_peek_4 : decode cX6_peek 4 = .ok (.ifCond .eq 11, 3) := by decide +kernel
theorem dX6_peek_7 : decode cX6_peek 7 = .ok (.aload_n 0, 1) := by decide +kernel
theorem dX6_peek_8 : decode cX6_peek 8 = .ok (.iload_n 2, 1) := by decide +kernel
theorem dX6_peek_9 : decode cX6_peek 9 = .ok (.invokevirtual 68, 3) := by decide +kernel
theorem dX6_peek_12 : decode cX6_peek 12 = .ok (.ifCond .ne 6, 3) := by decide +kernel
theorem dX6_peek_15 : decode cX6_peek 15 = .ok (.bipush (-101), 2) := by decide +kernel
theorem dX6_peek_17 : decode cX6_peek 17 = .ok (.ireturn, 1) := by decide +kernel
theorem dX6_peek_18 : decode cX6_peek 18 = .ok (.iload_n 3, 1) := by decide +kernel
theorem dX6_peek_19 : decode cX6_peek 19 = .ok (.invokestatic 89, 3) := by decide +kernel
theorem dX6_peek_22 : decode cX6_peek 22 = .ok (.ifCond .eq 18, 3) := by decide +kernel
theorem dX6_peek_25 : decode cX6_peek 25 = .ok (.aload_n 0, 1) := by decide +kernel
theorem dX6_peek_26 : decode cX6_peek 26 = .ok (.getfield 11, 3) := by decide +kernel
theorem dX6_peek_29 : decode cX6_peek 29 = .ok (.iload_n 2, 1) := by decide +kernel
theorem dX6_peek_30 : decode cX6_peek 30 = .ok (.aaload, 1) := by decide +kernel
theorem dX6_peek_31 : decode cX6_peek 31 = .ok (.getfield 95, 3) := by decide +kernel
theorem dX6_peek_34 : decode cX6_peek 34 = .ok (.iload_n 3, 1) := by decide +kernel
theorem dX6_peek_35 : decode cX6_peek 35 = .ok (.iaload, 1) := by decide +kernel
theorem dX6_peek_36 : decode cX6_peek 36 = .ok (.iconst 2, 1) := by decide +kernel
theorem dX6_peek_37 : decode cX6_peek 37 = .ok (.if_icmp .eq 6, 3) := by decide +kernel
theorem dX6_peek_40 : decode cX6_peek 40 = .ok (.bipush (-103), 2) := by decide +kernel
theorem dX6_peek_42 : decode cX6_peek 42 = .ok (.ireturn, 1) := by decide +kernel
theorem dX6_peek_43 : decode cX6_peek 43 = .ok (.aload_n 0, 1) := by decide +kernel
theorem dX6_peek_44 : decode cX6_peek 44 = .ok (.iload_n 1, 1) := by decide +kernel
theorem dX6_peek_45 : decode cX6_peek 45 = .ok (.iload_n 2, 1) := by decide +kernel
theorem dX6_peek_46 : decode cX6_peek 46 = .ok (.invokevirtual 146, 3) := by decide +kernel
theorem dX6_peek_49 : decode cX6_peek 49 = .ok (.iload_n 2, 1) := by decide +kernel
theorem dX6_peek_50 : decode cX6_peek 50 = .ok (.iload_n 3, 1) := by decide +kernel
theorem dX6_peek_51 : decode cX6_peek 51 = .ok (.invokevirtual 160, 3) := by decide +kernel
theorem dX6_peek_54 : decode cX6_peek 54 = .ok (.ireturn, 1) := by decide +kernel
theorem dX6_start_0 : decode cX6_start 0 = .ok (.iload_n 1, 1) := by decide +kernel
theorem dX6_start_1 : decode cX6_start 1 = .ok (.iconst 0, 1) := by decide +kernel
theorem dX6_start_2 : decode cX6_start 2 = .ok (.aload_n 0, 1) := by decide +kernel
theorem dX6_start_3 : decode cX6_start 3 = .ok (.getfield 38, 3) := by decide +kernel
theorem dX6_start_6 : decode cX6_start 6 = .ok (.getfield 163, 3) := by decide +kernel
theorem dX6_start_9 : decode cX6_start 9 = .ok (.iconst 1, 1) := by decide +kernel
theorem dX6_start_10 : decode cX6_start 10 = .ok (.isub, 1) := by decide +kernel
theorem dX6_start_11 : decode cX6_start 11 = .ok (.invokestatic 44, 3) := by decide +kernel
theorem dX6_start_14 : decode cX6_start 14 = .ok (.ifCond .ne 5, 3) := by decide +kernel
theorem dX6_start_17 : decode cX6_start 17 = .ok (.iconst (-1), 1) := by decide +kernel
theorem dX6_start_18 : decode cX6_start 18 = .ok (.ireturn, 1) := by decide +kernel
theorem dX6_start_19 : decode cX6_start 19 = .ok (.iload_n 2, 1) := by decide +kernel
theorem dX6_start_20 : decode cX6_start 20 = .ok (.iconst 0, 1) := by decide +kernel
theorem dX6_start_21 : decode cX6_start 21 = .ok (.iconst 3, 1) := by decide +kernel
theorem dX6_start_22 : decode cX6_start 22 = .ok (.invokestatic 44, 3) := by decide +kernel
theorem dX6_start_25 : decode cX6_start 25 = .ok (.ifCond .ne 6, 3) := by decide +kernel
theorem dX6_start_28 : decode cX6_start 28 = .ok (.bipush (-102), 2) := by decide +kernel
theorem dX6_start_30 : decode cX6_start 30 = .ok (.ireturn, 1) := by decide +kernel
theorem dX6_start_31 : decode cX6_start 31 = .ok (.aload_n 0, 1) := by decide +kernel
theorem dX6_start_32 : decode cX6_start 32 = .ok (.getfield 38, 3) := by decide +kernel
theorem dX6_start_35 : decode cX6_start 35 = .ok (.getfield 166, 3) := by decide +kernel
theorem dX6_start_38 : decode cX6_start 38 = .ok (.iload_n 1, 1) := by decide +kernel
theorem dX6_start_39 : decode cX6_start 39 = .ok (.iconst 4, 1) := by decide +kernel
theorem dX6_start_40 : decode cX6_start 40 = .ok (.imul, 1) := by decide +kernel
theorem dX6_start_41 : decode cX6_start 41 = .ok (.iload_n 2, 1) := by decide +kernel
theorem dX6_start_42 : decode cX6_start 42 = .ok (.iadd, 1) := by decide +kernel
theorem dX6_start_43 : decode cX6_start 43 = .ok (.iaload, 1) := by decide +kernel
theorem dX6_start_44 : decode cX6_start 44 = .ok (.ireturn, 1) := by decide +kernel
theorem dX6_message_0 : decode cX6_message 0 = .ok (.iload_n 1, 1) := by decide +kernel
theorem dX6_message_1 : decode cX6_message 1 = .ok (.iconst 0, 1) := by decide +kernel
theorem dX6_message_2 : decode cX6_message 2 = .ok (.aload_n 0, 1) := by decide +kernel
theorem dX6_message_3 : decode cX6_message 3 = .ok (.getfield 38, 3) := by decide +kernel
theorem dX6_message_6 : decode cX6_message 6 = .ok (.getfield 169, 3) := by decide +kernel
theorem dX6_message_9 : decode cX6_message 9 = .ok (.iconst 1, 1) := by decide +kernel
theorem dX6_message_10 : decode cX6_message 10 = .ok (.isub, 1) := by decide +kernel
theorem dX6_message_11 : decode cX6_message 11 = .ok (.invokestatic 44, 3) := by decide +kernel
theorem dX6_message_14 : decode cX6_message 14 = .ok (.ifCond .ne 13, 3) := by decide +kernel
theorem dX6_message_17 : decode cX6_message 17 = .ok (.new 172, 3) := by decide +kernel
theorem dX6_message_20 : decode cX6_message 20 = .ok (.dup, 1) := by decide +kernel
theorem dX6_message_21 : decode cX6_message 21 = .ok (.ldc 174, 2) := by decide +kernel
theorem dX6_message_23 : decode cX6_message 23 = .ok (.invokespecial 176, 3) := by decide +kernel
theorem dX6_message_26 : decode cX6_message 26 = .ok (.athrow, 1) := by decide +kernel
theorem dX6_message_27 : decode cX6_message 27 = .ok (.aload_n 0, 1) := by decide +kernel
theorem dX6_message_28 : decode cX6_message 28 = .ok (.getfield 38, 3) := by decide +kernel
theorem dX6_message_31 : decode cX6_message 31 = .ok (.getfield 179, 3) := by decide +kernel
theorem dX6_message_34 : decode cX6_message 34 = .ok (.iload_n 1, 1) := by decide +kernel
theorem dX6_message_35 : decode cX6_message 35 = .ok (.iaload, 1) := by decide +kernel
theorem dX6_message_36 : decode cX6_message 36 = .ok (.ireturn, 1) := by decide +kernel
theorem dX6_steps_0 : decode cX6_steps 0 = .ok (.iload_n 1, 1) := by decide +kernel
theorem dX6_steps_1 : decode cX6_steps 1 = .ok (.invokestatic 143, 3) := by decide +kernel
theorem dX6_steps_4 : decode cX6_steps 4 = .ok (.ifCond .ne 6, 3) := by decide +kernel
theorem dX6_steps_7 : decode cX6_steps 7 = .ok (.bipush (-101), 2) := by decide +kernel
theorem dX6_steps_9 : decode cX6_steps 9 = .ok (.ireturn, 1) := by decide +kernel
theorem dX6_steps_10 : decode cX6_steps 10 = .ok (.iload_n 2, 1) := by decide +kernel
theorem dX6_steps_11 : decode cX6_steps 11 = .ok (.iconst 0, 1) := by decide +kernel
theorem dX6_steps_12 : decode cX6_steps 12 = .ok (.ldc 182, 2) := by decide +kernel
theorem dX6_steps_14 : decode cX6_steps 14 = .ok (.invokestatic 44, 3) := by decide +kernel
theorem dX6_steps_17 : decode cX6_steps 17 = .ok (.ifCond .ne 6, 3) := by decide +kernel
theorem dX6_steps_20 : decode cX6_steps 20 = .ok (.bipush (-102), 2) := by decide +kernel
theorem dX6_steps_22 : decode cX6_steps 22 = .ok (.ireturn, 1) := by decide +kernel
theorem dX6_steps_23 : decode cX6_steps 23 = .ok (.aload_n 0, 1) := by decide +kernel
theorem dX6_steps_24 : decode cX6_steps 24 = .ok (.getfield 17, 3) := by decide +kernel
theorem dX6_steps_27 : decode cX6_steps 27 = .ok (.iload_n 1, 1) := by decide +kernel
theorem dX6_steps_28 : decode cX6_steps 28 = .ok (.aaload, 1) := by decide +kernel
theorem dX6_steps_29 : decode cX6_steps 29 = .ok (.getfield 183, 3) := by decide +kernel
theorem dX6_steps_32 : decode cX6_steps 32 = .ok (.istore_n 3, 1) := by decide +kernel
theorem dX6_steps_33 : decode cX6_steps 33 = .ok (.aload_n 0, 1) := by decide +kernel
theorem dX6_steps_34 : decode cX6_steps 34 = .ok (.getfield 17, 3) := by decide +kernel
theorem dX6_steps_37 : decode cX6_steps 37 = .ok (.iload_n 1, 1) := by decide +kernel
theorem dX6_steps_38 : decode cX6_steps 38 = .ok (.aaload, 1) := by decide +kernel
theorem dX6_steps_39 : decode cX6_steps 39 = .ok (.iload_n 2, 1) := by decide +kernel
theorem dX6_steps_40 : decode cX6_steps 40 = .ok (.putfield 183, 3) := by decide +kernel
theorem dX6_steps_43 : decode cX6_steps 43 = .ok (.iload_n 3, 1) := by decide +kernel
theorem dX6_steps_44 : decode cX6_steps 44 = .ok (.ireturn, 1) := by decide +kernel
theorem dX6_undo_0 : decode cX6_undo 0 = .ok (.iload_n 1, 1) := by decide +kernel
theorem dX6_undo_1 : decode cX6_undo 1 = .ok (.invokestatic 143, 3) := by decide +kernel
theorem dX6_undo_4 : decode cX6_undo 4 = .ok (.ifCond .ne 6, 3) := by decide +kernel
theorem dX6_undo_7 : decode cX6_undo 7 = .ok (.bipush (-101), 2) := by decide +kernel
theorem dX6_undo_9 : decode cX6_undo 9 = .ok (.ireturn, 1) := by decide +kernel
theorem dX6_undo_10 : decode cX6_undo 10 = .ok (.aload_n 0, 1) := by decide +kernel
theorem dX6_undo_11 : decode cX6_undo 11 = .ok (.getfield 17, 3) := by decide +kernel
theorem dX6_undo_14 : decode cX6_undo 14 = .ok (.iload_n 1, 1) := by decide +kernel
theorem dX6_undo_15 : decode cX6_undo 15 = .ok (.aaload, 1) := by decide +kernel
theorem dX6_undo_16 : decode cX6_undo 16 = .ok (.astore_n 2, 1) := by decide +kernel
theorem dX6_undo_17 : decode cX6_undo 17 = .ok (.aload_n 2, 1) := by decide +kernel
theorem dX6_undo_18 : decode cX6_undo 18 = .ok (.getfield 126, 3) := by decide +kernel
theorem dX6_undo_21 : decode cX6_undo 21 = .ok (.istore_n 3, 1) := by decide +kernel
theorem dX6_undo_22 : decode cX6_undo 22 = .ok (.iload_n 3, 1) := by decide +kernel
theorem dX6_undo_23 : decode cX6_undo 23 = .ok (.iconst (-1), 1) := by decide +kernel
theorem dX6_undo_24 : decode cX6_undo 24 = .ok (.if_icmp .ne 5, 3) := by decide +kernel
theorem dX6_undo_27 : decode cX6_undo 27 = .ok (.iconst (-1), 1) := by decide +kernel
theorem dX6_undo_28 : decode cX6_undo 28 = .ok (.ireturn, 1) := by decide +kernel
theorem dX6_undo_29 : decode cX6_undo 29 = .ok (.aload_n 2, 1) := by decide +kernel
theorem dX6_undo_30 : decode cX6_undo 30 = .ok (.aload_n 0, 1) := by decide +kernel
theorem dX6_undo_31 : decode cX6_undo 31 = .ok (.getfield 31, 3) := by decide +kernel
theorem dX6_undo_34 : decode cX6_undo 34 = .ok (.getfield 186, 3) := by decide +kernel
theorem dX6_undo_37 : decode cX6_undo 37 = .ok (.iload_n 3, 1) := by decide +kernel
theorem dX6_undo_38 : decode cX6_undo 38 = .ok (.iaload, 1) := by decide +kernel
theorem dX6_undo_39 : decode cX6_undo 39 = .ok (.putfield 126, 3) := by decide +kernel
theorem dX6_undo_42 : decode cX6_undo 42 = .ok (.aload_n 0, 1) := by decide +kernel
theorem dX6_undo_43 : decode cX6_undo 43 = .ok (.getfield 31, 3) := by decide +kernel
theorem dX6_undo_46 : decode cX6_undo 46 = .ok (.getfield 189, 3) := by decide +kernel
theorem dX6_undo_49 : decode cX6_undo 49 = .ok (.iload_n 3, 1) := by decide +kernel
theorem dX6_undo_50 : decode cX6_undo 50 = .ok (.iaload, 1) := by decide +kernel
theorem dX6_undo_51 : decode cX6_undo 51 = .ok (.istore 4, 2) := by decide +kernel
theorem dX6_undo_53 : decode cX6_undo 53 = .ok (.iload 4, 2) := by decide +kernel
theorem dX6_undo_55 : decode cX6_undo 55 = .ok (.iconst (-1), 1) := by decide +kernel
theorem dX6_undo_56 : decode cX6_undo 56 = .ok (.if_icmp .eq 14, 3) := by decide +kernel
theorem dX6_undo_59 : decode cX6_undo 59 = .ok (.aload_n 2, 1) := by decide +kernel
theorem dX6_undo_60 : decode cX6_undo 60 = .ok (.getfield 153, 3) := by decide +kernel
theorem dX6_undo_63 : decode cX6_undo 63 = .ok (.iload 4, 2) := by decide +kernel
theorem dX6_undo_65 : decode cX6_undo 65 = .ok (.dup2, 1) := by decide +kernel
theorem dX6_undo_66 : decode cX6_undo 66 = .ok (.iaload, 1) := by decide +kernel
theorem dX6_undo_67 : decode cX6_undo 67 = .ok (.iconst 1, 1) := by decide +kernel
theorem dX6_undo_68 : decode cX6_undo 68 = .ok (.isub, 1) := by decide +kernel
theorem dX6_undo_69 : decode cX6_undo 69 = .ok (.iastore, 1) := by decide +kernel
theorem dX6_undo_70 : decode cX6_undo 70 = .ok (.aload_n 0, 1) := by decide +kernel
theorem dX6_undo_71 : decode cX6_undo 71 = .ok (.getfield 31, 3) := by decide +kernel
theorem dX6_undo_74 : decode cX6_undo 74 = .ok (.getfield 192, 3) := by decide +kernel
theorem dX6_undo_77 : decode cX6_undo 77 = .ok (.iload_n 3, 1) := by decide +kernel
theorem dX6_undo_78 : decode cX6_undo 78 = .ok (.iaload, 1) := by decide +kernel
theorem dX6_undo_79 : decode cX6_undo 79 = .ok (.ireturn, 1) := by decide +kernel
theorem dX6_restart_0 : decode cX6_restart 0 = .ok (.iload_n 1, 1) := by decide +kernel
theorem dX6_restart_1 : decode cX6_restart 1 = .ok (.invokestatic 143, 3) := by decide +kernel
theorem dX6_restart_4 : decode cX6_restart 4 = .ok (.ifCond .eq 15, 3) := by decide +kernel
theorem dX6_restart_7 : decode cX6_restart 7 = .ok (.aload_n 0, 1) := by decide +kernel
theorem dX6_restart_8 : decode cX6_restart 8 = .ok (.getfield 17, 3) := by decide +kernel
theorem dX6_restart_11 : decode cX6_restart 11 = .ok (.iload_n 1, 1) := by decide +kernel
theorem dX6_restart_12 : decode cX6_restart 12 = .ok (.aaload, 1) := by decide +kernel
theorem dX6_restart_13 : decode cX6_restart 13 = .ok (.invokevirtual 194, 3) := by decide +kernel
theorem dX6_restart_16 : decode cX6_restart 16 = .ok (.goto 5, 3) := by decide +kernel
theorem dX6_restart_19 : decode cX6_restart 19 = .ok (.bipush (-101), 2) := by decide +kernel
theorem dX6_restart_21 : decode cX6_restart 21 = .ok (.ireturn, 1) := by decide +kernel
theorem dX6_about_0 : decode cX6_about 0 = .ok (.iload_n 1, 1) := by decide +kernel
theorem dX6_about_1 : decode cX6_about 1 = .ok (.tableswitch 69 0 4 #[35, 40, 48, 56, 64], 35) := by decide +kernel
theorem dX6_about_36 : decode cX6_about 36 = .ok (.aload_n 0, 1) := by decide +kernel
theorem dX6_about_37 : decode cX6_about 37 = .ok (.getfield 56, 3) := by decide +kernel
theorem dX6_about_40 : decode cX6_about 40 = .ok (.ireturn, 1) := by decide +kernel
theorem dX6_about_41 : decode cX6_about 41 = .ok (.aload_n 0, 1) := by decide +kernel
theorem dX6_about_42 : decode cX6_about 42 = .ok (.getfield 31, 3) := by decide +kernel
theorem dX6_about_45 : decode cX6_about 45 = .ok (.getfield 198, 3) := by decide +kernel
theorem dX6_about_48 : decode cX6_about 48 = .ok (.ireturn, 1) := by decide +kernel
theorem dX6_about_49 : decode cX6_about 49 = .ok (.aload_n 0, 1) := by decide +kernel
theorem dX6_about_50 : decode cX6_about 50 = .ok (.getfield 38, 3) := by decide +kernel
theorem dX6_about_53 : decode cX6_about 53 = .ok (.getfield 163, 3) := by decide +kernel
theorem dX6_about_56 : decode cX6_about 56 = .ok (.ireturn, 1) := by decide +kernel
theorem dX6_about_57 : decode cX6_about 57 = .ok (.aload_n 0, 1) := by decide +kernel
theorem dX6_about_58 : decode cX6_about 58 = .ok (.getfield 38, 3) := by decide +kernel
theorem dX6_about_61 : decode cX6_about 61 = .ok (.getfield 169, 3) := by decide +kernel
theorem dX6_about_64 : decode cX6_about 64 = .ok (.ireturn, 1) := by decide +kernel
theorem dX6_about_65 : decode cX6_about 65 = .ok (.aload_n 0, 1) := by decide +kernel
theorem dX6_about_66 : decode cX6_about 66 = .ok (.getfield 199, 3) := by decide +kernel
theorem dX6_about_69 : decode cX6_about 69 = .ok (.ireturn, 1) := by decide +kernel
theorem dX6_about_70 : decode cX6_about 70 = .ok (.bipush (-102), 2) := by decide +kernel
theorem dX6_about_72 : decode cX6_about 72 = .ok (.ireturn, 1) := by decide +kernel
theorem dX6_clear_0 : decode cX6_clear 0 = .ok (.aload_n 0, 1) := by decide +kernel
theorem dX6_clear_1 : decode cX6_clear 1 = .ok (.getfield 56, 3) := by decide +kernel
theorem dX6_clear_4 : decode cX6_clear 4 = .ok (.istore_n 1, 1) := by decide +kernel
theorem dX6_clear_5 : decode cX6_clear 5 = .ok (.iconst 0, 1) := by decide +kernel
theorem dX6_clear_6 : decode cX6_clear 6 = .ok (.istore_n 2, 1) := by decide +kernel
theorem dX6_clear_7 : decode cX6_clear 7 = .ok (.iload_n 2, 1) := by decide +kernel
theorem dX6_clear_8 : decode cX6_clear 8 = .ok (.iconst 4, 1) := by decide +kernel
theorem dX6_clear_9 : decode cX6_clear 9 = .ok (.if_icmp .ge 31, 3) := by decide +kernel
theorem dX6_clear_12 : decode cX6_clear 12 = .ok (.aload_n 0, 1) := by decide +kernel
theorem dX6_clear_13 : decode cX6_clear 13 = .ok (.getfield 17, 3) := by decide +kernel
theorem dX6_clear_16 : decode cX6_clear 16 = .ok (.iload_n 2, 1) := by decide +kernel
theorem dX6_clear_17 : decode cX6_clear 17 = .ok (.aaload, 1) := by decide +kernel
theorem dX6_clear_18 : decode cX6_clear 18 = .ok (.invokevirtual 194, 3) := by decide +kernel
theorem dX6_clear_21 : decode cX6_clear 21 = .ok (.pop, 1) := by decide +kernel
theorem dX6_clear_22 : decode cX6_clear 22 = .ok (.aload_n 0, 1) := by decide +kernel
theorem dX6_clear_23 : decode cX6_clear 23 = .ok (.getfield 17, 3) := by decide +kernel
theorem dX6_clear_26 : decode cX6_clear 26 = .ok (.iload_n 2, 1) := by decide +kernel
theorem dX6_clear_27 : decode cX6_clear 27 = .ok (.aaload, 1) := by decide +kernel
theorem dX6_clear_28 : decode cX6_clear 28 = .ok (.sipush 1000, 3) := by decide +kernel
theorem dX6_clear_31 : decode cX6_clear 31 = .ok (.putfield 183, 3) := by decide +kernel
theorem dX6_clear_34 : decode cX6_clear 34 = .ok (.iinc 2 1, 3) := by decide +kernel
theorem dX6_clear_37 : decode cX6_clear 37 = .ok (.goto (-30), 3) := by decide +kernel
theorem dX6_clear_40 : decode cX6_clear 40 = .ok (.aload_n 0, 1) := by decide +kernel
theorem dX6_clear_41 : decode cX6_clear 41 = .ok (.getfield 24, 3) := by decide +kernel
theorem dX6_clear_44 : decode cX6_clear 44 = .ok (.invokevirtual 202, 3) := by decide +kernel
theorem dX6_clear_47 : decode cX6_clear 47 = .ok (.pop, 1) := by decide +kernel
theorem dX6_clear_48 : decode cX6_clear 48 = .ok (.aload_n 0, 1) := by decide +kernel
theorem dX6_clear_49 : decode cX6_clear 49 = .ok (.getfield 31, 3) := by decide +kernel
theorem dX6_clear_52 : decode cX6_clear 52 = .ok (.iconst 0, 1) := by decide +kernel
theorem dX6_clear_53 : decode cX6_clear 53 = .ok (.putfield 198, 3) := by decide +kernel
theorem dX6_clear_56 : decode cX6_clear 56 = .ok (.aload_n 0, 1) := by decide +kernel
theorem dX6_clear_57 : decode cX6_clear 57 = .ok (.getfield 38, 3) := by decide +kernel
theorem dX6_clear_60 : decode cX6_clear 60 = .ok (.iconst 0, 1) := by decide +kernel
theorem dX6_clear_61 : decode cX6_clear 61 = .ok (.putfield 163, 3) := by decide +kernel
theorem dX6_clear_64 : decode cX6_clear 64 = .ok (.aload_n 0, 1) := by decide +kernel
theorem dX6_clear_65 : decode cX6_clear 65 = .ok (.getfield 38, 3) := by decide +kernel
theorem dX6_clear_68 : decode cX6_clear 68 = .ok (.iconst 0, 1) := by decide +kernel
theorem dX6_clear_69 : decode cX6_clear 69 = .ok (.putfield 169, 3) := by decide +kernel
theorem dX6_clear_72 : decode cX6_clear 72 = .ok (.aload_n 0, 1) := by decide +kernel
theorem dX6_clear_73 : decode cX6_clear 73 = .ok (.iconst 0, 1) := by decide +kernel
theorem dX6_clear_74 : decode cX6_clear 74 = .ok (.putfield 56, 3) := by decide +kernel
theorem dX6_clear_77 : decode cX6_clear 77 = .ok (.aload_n 0, 1) := by decide +kernel
theorem dX6_clear_78 : decode cX6_clear 78 = .ok (.iconst 0, 1) := by decide +kernel
theorem dX6_clear_79 : decode cX6_clear 79 = .ok (.putfield 199, 3) := by decide +kernel
theorem dX6_clear_82 : decode cX6_clear 82 = .ok (.aload_n 0, 1) := by decide +kernel
theorem dX6_clear_83 : decode cX6_clear 83 = .ok (.iconst 0, 1) := by decide +kernel
theorem dX6_clear_84 : decode cX6_clear 84 = .ok (.putfield 136, 3) := by decide +kernel
theorem dX6_clear_87 : decode cX6_clear 87 = .ok (.iload_n 1, 1) := by decide +kernel
theorem dX6_clear_88 : decode cX6_clear 88 = .ok (.ireturn, 1) := by decide +kernel
theorem dX6_within_0 : decode cX6_within 0 = .ok (.iload_n 0, 1) := by decide +kernel
theorem dX6_within_1 : decode cX6_within 1 = .ok (.iload_n 1, 1) := by decide +kernel
theorem dX6_within_2 : decode cX6_within 2 = .ok (.if_icmp .lt 12, 3) := by decide +kernel
theorem dX6_within_5 : decode cX6_within 5 = .ok (.iload_n 0, 1) := by decide +kernel
theorem dX6_within_6 : decode cX6_within 6 = .ok (.iload_n 2, 1) := by decide +kernel
theorem dX6_within_7 : decode cX6_within 7 = .ok (.if_icmp .gt 7, 3) := by decide +kernel
theorem dX6_within_10 : decode cX6_within 10 = .ok (.iconst 1, 1) := by decide +kernel
theorem dX6_within_11 : decode cX6_within 11 = .ok (.goto 4, 3) := by decide +kernel
theorem dX6_within_14 : decode cX6_within 14 = .ok (.iconst 0, 1) := by decide +kernel
theorem dX6_within_15 : decode cX6_within 15 = .ok (.ireturn, 1) := by decide +kernel
theorem dX6_isNumber_0 : decode cX6_isNumber 0 = .ok (.iload_n 0, 1) := by decide +kernel
theorem dX6_isNumber_1 : decode cX6_isNumber 1 = .ok (.sipush (-999), 3) := by decide +kernel
theorem dX6_isNumber_4 : decode cX6_isNumber 4 = .ok (.sipush 999, 3) := by decide +kernel
theorem dX6_isNumber_7 : decode cX6_isNumber 7 = .ok (.invokestatic 44, 3) := by decide +kernel
theorem dX6_isNumber_10 : decode cX6_isNumber 10 = .ok (.ireturn, 1) := by decide +kernel
theorem dX6_isField_0 : decode cX6_isField 0 = .ok (.iload_n 0, 1) := by decide +kernel
theorem dX6_isField_1 : decode cX6_isField 1 = .ok (.iconst 0, 1) := by decide +kernel
theorem dX6_isField_2 : decode cX6_isField 2 = .ok (.iconst 4, 1) := by decide +kernel
theorem dX6_isField_3 : decode cX6_isField 3 = .ok (.invokestatic 44, 3) := by decide +kernel
theorem dX6_isField_6 : decode cX6_isField 6 = .ok (.ireturn, 1) := by decide +kernel
theorem dX6_isSession_0 : decode cX6_isSession 0 = .ok (.iload_n 0, 1) := by decide +kernel
theorem dX6_isSession_1 : decode cX6_isSession 1 = .ok (.iconst 0, 1) := by decide +kernel
theorem dX6_isSession_2 : decode cX6_isSession 2 = .ok (.iconst 3, 1) := by decide +kernel
theorem dX6_isSession_3 : decode cX6_isSession 3 = .ok (.invokestatic 44, 3) := by decide +kernel
theorem dX6_isSession_6 : decode cX6_isSession 6 = .ok (.ireturn, 1) := by decide +kernel
theorem dX6_isType_0 : decode cX6_isType 0 = .ok (.iload_n 1, 1) := by decide +kernel
theorem dX6_isType_1 : decode cX6_isType 1 = .ok (.iconst 0, 1) := by decide +kernel
theorem dX6_isType_2 : decode cX6_isType 2 = .ok (.aload_n 0, 1) := by decide +kernel
theorem dX6_isType_3 : decode cX6_isType 3 = .ok (.getfield 56, 3) := by decide +kernel
theorem dX6_isType_6 : decode cX6_isType 6 = .ok (.iconst 1, 1) := by decide +kernel
theorem dX6_isType_7 : decode cX6_isType 7 = .ok (.isub, 1) := by decide +kernel
theorem dX6_isType_8 : decode cX6_isType 8 = .ok (.invokestatic 44, 3) := by decide +kernel
theorem dX6_isType_11 : decode cX6_isType 11 = .ok (.ireturn, 1) := by decide +kernel
theorem dX6_isClass_0 : decode cX6_isClass 0 = .ok (.aload_n 0, 1) := by decide +kernel
theorem dX6_isClass_1 : decode cX6_isClass 1 = .ok (.iload_n 1, 1) := by decide +kernel
theorem dX6_isClass_2 : decode cX6_isClass 2 = .ok (.invokevirtual 68, 3) := by decide +kernel
theorem dX6_isClass_5 : decode cX6_isClass 5 = .ok (.ifCond .eq 19, 3) := by decide +kernel
theorem dX6_isClass_8 : decode cX6_isClass 8 = .ok (.aload_n 0, 1) := by decide +kernel
theorem dX6_isClass_9 : decode cX6_isClass 9 = .ok (.getfield 11, 3) := by decide +kernel
theorem dX6_isClass_12 : decode cX6_isClass 12 = .ok (.iload_n 1, 1) := by decide +kernel
theorem dX6_isClass_13 : decode cX6_isClass 13 = .ok (.aaload, 1) := by decide +kernel
theorem dX6_isClass_14 : decode cX6_isClass 14 = .ok (.getfield 71, 3) := by decide +kernel
theorem dX6_isClass_17 : decode cX6_isClass 17 = .ok (.ifCond .ne 7, 3) := by decide +kernel
theorem dX6_isClass_20 : decode cX6_isClass 20 = .ok (.iconst 1, 1) := by decide +kernel
theorem dX6_isClass_21 : decode cX6_isClass 21 = .ok (.goto 4, 3) := by decide +kernel
theorem dX6_isClass_24 : decode cX6_isClass 24 = .ok (.iconst 0, 1) := by decide +kernel
theorem dX6_isClass_25 : decode cX6_isClass 25 = .ok (.ireturn, 1) := by decide +kernel
theorem dX6_mayNameType_0 : decode cX6_mayNameType 0 = .ok (.iload_n 0, 1) := by decide +kernel
theorem dX6_mayNameType_1 : decode cX6_mayNameType 1 = .ok (.iconst 0, 1) := by decide +kernel
theorem dX6_mayNameType_2 : decode cX6_mayNameType 2 = .ok (.bipush 15, 2) := by decide +kernel
theorem dX6_mayNameType_4 : decode cX6_mayNameType 4 = .ok (.invokestatic 44, 3) := by decide +kernel
theorem dX6_mayNameType_7 : decode cX6_mayNameType 7 = .ok (.ireturn, 1) := by decide +kernel
theorem dX6_isLine_0 : decode cX6_isLine 0 = .ok (.iload_n 0, 1) := by decide +kernel
theorem dX6_isLine_1 : decode cX6_isLine 1 = .ok (.tableswitch 137 0 6 #[43, 63, 90, 95, 103, 112, 117], 43) := by decide +kernel
theorem dX6_isLine_44 : decode cX6_isLine 44 = .ok (.iload_n 1, 1) := by decide +kernel
theorem dX6_isLine_45 : decode cX6_isLine 45 = .ok (.invokestatic 89, 3) := by decide +kernel
theorem dX6_isLine_48 : decode cX6_isLine 48 = .ok (.ifCond .eq 14, 3) := by decide +kernel
theorem dX6_isLine_51 : decode cX6_isLine 51 = .ok (.iload_n 2, 1) := by decide +kernel
theorem dX6_isLine_52 : decode cX6_isLine 52 = .ok (.invokestatic 92, 3) := by decide +kernel
theorem dX6_isLine_55 : decode cX6_isLine 55 = .ok (.ifCond .eq 7, 3) := by decide +kernel
theorem dX6_isLine_58 : decode cX6_isLine 58 = .ok (.iconst 1, 1) := by decide +kernel
theorem dX6_isLine_59 : decode cX6_isLine 59 = .ok (.goto 4, 3) := by decide +kernel
theorem dX6_isLine_62 : decode cX6_isLine 62 = .ok (.iconst 0, 1) := by decide +kernel
theorem dX6_isLine_63 : decode cX6_isLine 63 = .ok (.ireturn, 1) := by decide +kernel
theorem dX6_isLine_64 : decode cX6_isLine 64 = .ok (.iload_n 1, 1) := by decide +kernel
theorem dX6_isLine_65 : decode cX6_isLine 65 = .ok (.invokestatic 89, 3) := by decide +kernel
theorem dX6_isLine_68 : decode cX6_isLine 68 = .ok (.ifCond .eq 21, 3) := by decide +kernel
theorem dX6_isLine_71 : decode cX6_isLine 71 = .ok (.iload_n 2, 1) := by decide +kernel
theorem dX6_isLine_72 : decode cX6_isLine 72 = .ok (.invokestatic 203, 3) := by decide +kernel
theorem dX6_isLine_75 : decode cX6_isLine 75 = .ok (.ifCond .eq 14, 3) := by decide +kernel
theorem dX6_isLine_78 : decode cX6_isLine 78 = .ok (.iload_n 3, 1) := by decide +kernel
theorem dX6_isLine_79 : decode cX6_isLine 79 = .ok (.invokestatic 89, 3) := by decide +kernel
theorem dX6_isLine_82 : decode cX6_isLine 82 = .ok (.ifCond .eq 7, 3) := by decide +kernel
theorem dX6_isLine_85 : decode cX6_isLine 85 = .ok (.iconst 1, 1) := by decide +kernel
theorem dX6_isLine_86 : decode cX6_isLine 86 = .ok (.goto 4, 3) := by decide +kernel
theorem dX6_isLine_89 : decode cX6_isLine 89 = .ok (.iconst 0, 1) := by decide +kernel
theorem dX6_isLine_90 : decode cX6_isLine 90 = .ok (.ireturn, 1) := by decide +kernel
theorem dX6_isLine_91 : decode cX6_isLine 91 = .ok (.iload_n 1, 1) := by decide +kernel
theorem dX6_isLine_92 : decode cX6_isLine 92 = .ok (.invokestatic 203, 3) := by decide +kernel
theorem dX6_isLine_95 : decode cX6_isLine 95 = .ok (.ireturn, 1) := by decide +kernel
theorem dX6_isLine_96 : decode cX6_isLine 96 = .ok (.iload_n 1, 1) := by decide +kernel
theorem dX6_isLine_97 : decode cX6_isLine 97 = .ok (.iconst 0, 1) := by decide +kernel
theorem dX6_isLine_98 : decode cX6_isLine 98 = .ok (.bipush 6, 2) := by decide +kernel
theorem dX6_isLine_100 : decode cX6_isLine 100 = .ok (.invokestatic 44, 3) := by decide +kernel
theorem dX6_isLine_103 : decode cX6_isLine 103 = .ok (.ireturn, 1) := by decide +kernel
theorem dX6_isLine_104 : decode cX6_isLine 104 = .ok (.iload_n 1, 1) := by decide +kernel
theorem dX6_isLine_105 : decode cX6_isLine 105 = .ok (.iconst 0, 1) := by decide +kernel
theorem dX6_isLine_106 : decode cX6_isLine 106 = .ok (.sipush 1000, 3) := by decide +kernel
theorem dX6_isLine_109 : decode cX6_isLine 109 = .ok (.invokestatic 44, 3) := by decide +kernel
theorem dX6_isLine_112 : decode cX6_isLine 112 = .ok (.ireturn, 1) := by decide +kernel
theorem dX6_isLine_113 : decode cX6_isLine 113 = .ok (.iload_n 1, 1) := by decide +kernel
theorem dX6_isLine_114 : decode cX6_isLine 114 = .ok (.invokestatic 92, 3) := by decide +kernel
theorem dX6_isLine_117 : decode cX6_isLine 117 = .ok (.ireturn, 1) := by decide +kernel
theorem dX6_isLine_118 : decode cX6_isLine 118 = .ok (.iload_n 1, 1) := by decide +kernel
theorem dX6_isLine_119 : decode cX6_isLine 119 = .ok (.invokestatic 89, 3) := by decide +kernel
theorem dX6_isLine_122 : decode cX6_isLine 122 = .ok (.ifCond .eq 14, 3) := by decide +kernel
theorem dX6_isLine_125 : decode cX6_isLine 125 = .ok (.iload_n 2, 1) := by decide +kernel
theorem dX6_isLine_126 : decode cX6_isLine 126 = .ok (.invokestatic 203, 3) := by decide +kernel
theorem dX6_isLine_129 : decode cX6_isLine 129 = .ok (.ifCond .eq 7, 3) := by decide +kernel
theorem dX6_isLine_132 : decode cX6_isLine 132 = .ok (.iconst 1, 1) := by decide +kernel
theorem dX6_isLine_133 : decode cX6_isLine 133 = .ok (.goto 4, 3) := by decide +kernel
theorem dX6_isLine_136 : decode cX6_isLine 136 = .ok (.iconst 0, 1) := by decide +kernel
theorem dX6_isLine_137 : decode cX6_isLine 137 = .ok (.ireturn, 1) := by decide +kernel
theorem dX6_isLine_138 : decode cX6_isLine 138 = .ok (.iconst 0, 1) := by decide +kernel
theorem dX6_isLine_139 : decode cX6_isLine 139 = .ok (.ireturn, 1) := by decide +kernel
theorem dX6_refusalOfUse_0 : decode cX6_refusalOfUse 0 = .ok (.iload_n 1, 1) := by decide +kernel
theorem dX6_refusalOfUse_1 : decode cX6_refusalOfUse 1 = .ok (.invokestatic 143, 3) := by decide +kernel
theorem dX6_refusalOfUse_4 : decode cX6_refusalOfUse 4 = .ok (.ifCond .eq 11, 3) := by decide +kernel
theorem dX6_refusalOfUse_7 : decode cX6_refusalOfUse 7 = .ok (.aload_n 0, 1) := by decide +kernel
theorem dX6_refusalOfUse_8 : decode cX6_refusalOfUse 8 = .ok (.iload_n 2, 1) := by decide +kernel
theorem dX6_refusalOfUse_9 : decode cX6_refusalOfUse 9 = .ok (.invokevirtual 68, 3) := by decide +kernel
theorem dX6_refusalOfUse_12 : decode cX6_refusalOfUse 12 = .ok (.ifCond .ne 6, 3) := by decide +kernel
theorem dX6_refusalOfUse_15 : decode cX6_refusalOfUse 15 = .ok (.bipush (-101), 2) := by decide +kernel
theorem dX6_refusalOfUse_17 : decode cX6_refusalOfUse 17 = .ok (.ireturn, 1) := by decide +kernel
theorem dX6_refusalOfUse_18 : decode cX6_refusalOfUse 18 = .ok (.iload_n 3, 1) := by decide +kernel
theorem dX6_refusalOfUse_19 : decode cX6_refusalOfUse 19 = .ok (.iconst 1, 1) := by decide +kernel
theorem dX6_refusalOfUse_20 : decode cX6_refusalOfUse 20 = .ok (.if_icmp .eq 8, 3) := by decide +kernel
theorem dX6_refusalOfUse_23 : decode cX6_refusalOfUse 23 = .ok (.iload_n 3, 1) := by decide +kernel
theorem dX6_refusalOfUse_24 : decode cX6_refusalOfUse 24 = .ok (.iconst 2, 1) := by decide +kernel
theorem dX6_refusalOfUse_25 : decode cX6_refusalOfUse 25 = .ok (.if_icmp .ne 7, 3) := by decide +kernel
theorem dX6_refusalOfUse_28 : decode cX6_refusalOfUse 28 = .ok (.iconst 1, 1) := by decide +kernel
theorem dX6_refusalOfUse_29 : decode cX6_refusalOfUse 29 = .ok (.goto 4, 3) := by decide +kernel
theorem dX6_refusalOfUse_32 : decode cX6_refusalOfUse 32 = .ok (.iconst 0, 1) := by decide +kernel
theorem dX6_refusalOfUse_33 : decode cX6_refusalOfUse 33 = .ok (.istore 6, 2) := by decide +kernel
theorem dX6_refusalOfUse_35 : decode cX6_refusalOfUse 35 = .ok (.iload_n 3, 1) := by decide +kernel
theorem dX6_refusalOfUse_36 : decode cX6_refusalOfUse 36 = .ok (.iconst 0, 1) := by decide +kernel
theorem dX6_refusalOfUse_37 : decode cX6_refusalOfUse 37 = .ok (.iconst 3, 1) := by decide +kernel
theorem dX6_refusalOfUse_38 : decode cX6_refusalOfUse 38 = .ok (.invokestatic 44, 3) := by decide +kernel
theorem dX6_refusalOfUse_41 : decode cX6_refusalOfUse 41 = .ok (.ifCond .eq 29, 3) := by decide +kernel
theorem dX6_refusalOfUse_44 : decode cX6_refusalOfUse 44 = .ok (.iload 6, 2) := by decide +kernel
theorem dX6_refusalOfUse_46 : decode cX6_refusalOfUse 46 = .ok (.ifCond .eq 11, 3) := by decide +kernel
theorem dX6_refusalOfUse_49 : decode cX6_refusalOfUse 49 = .ok (.iload 4, 2) := by decide +kernel
theorem dX6_refusalOfUse_51 : decode cX6_refusalOfUse 51 = .ok (.invokestatic 89, 3) := by decide +kernel
theorem dX6_refusalOfUse_54 : decode cX6_refusalOfUse 54 = .ok (.ifCond .eq 16, 3) := by decide +kernel
theorem dX6_refusalOfUse_57 : decode cX6_refusalOfUse 57 = .ok (.iload_n 3, 1) := by decide +kernel
theorem dX6_refusalOfUse_58 : decode cX6_refusalOfUse 58 = .ok (.iconst 2, 1) := by decide +kernel
theorem dX6_refusalOfUse_59 : decode cX6_refusalOfUse 59 = .ok (.if_icmp .ne 14, 3) := by decide +kernel
theorem dX6_refusalOfUse_62 : decode cX6_refusalOfUse 62 = .ok (.iload 5, 2) := by decide +kernel
theorem dX6_refusalOfUse_64 : decode cX6_refusalOfUse 64 = .ok (.invokestatic 92, 3) := by decide +kernel
theorem dX6_refusalOfUse_67 : decode cX6_refusalOfUse 67 = .ok (.ifCond .ne 6, 3) := by decide +kernel
theorem dX6_refusalOfUse_70 : decode cX6_refusalOfUse 70 = .ok (.bipush (-102), 2) := by decide +kernel
theorem dX6_refusalOfUse_72 : decode cX6_refusalOfUse 72 = .ok (.ireturn, 1) := by decide +kernel
theorem dX6_refusalOfUse_73 : decode cX6_refusalOfUse 73 = .ok (.iload_n 3, 1) := by decide +kernel
theorem dX6_refusalOfUse_74 : decode cX6_refusalOfUse 74 = .ok (.ifCond .ne 11, 3) := by decide +kernel
theorem dX6_refusalOfUse_77 : decode cX6_refusalOfUse 77 = .ok (.aload_n 0, 1) := by decide +kernel
theorem dX6_refusalOfUse_78 : decode cX6_refusalOfUse 78 = .ok (.iload_n 2, 1) := by decide +kernel
theorem dX6_refusalOfUse_79 : decode cX6_refusalOfUse 79 = .ok (.invokevirtual 48, 3) := by decide +kernel
theorem dX6_refusalOfUse_82 : decode cX6_refusalOfUse 82 = .ok (.ifCond .eq 18, 3) := by decide +kernel
theorem dX6_refusalOfUse_85 : decode cX6_refusalOfUse 85 = .ok (.iload_n 3, 1) := by decide +kernel
theorem dX6_refusalOfUse_86 : decode cX6_refusalOfUse 86 = .ok (.iconst 2, 1) := by decide +kernel
theorem dX6_refusalOfUse_87 : decode cX6_refusalOfUse 87 = .ok (.if_icmp .ne 16, 3) := by decide +kernel
theorem dX6_refusalOfUse_90 : decode cX6_refusalOfUse 90 = .ok (.aload_n 0, 1) := by decide +kernel
theorem dX6_refusalOfUse_91 : decode cX6_refusalOfUse 91 = .ok (.iload_n 2, 1) := by decide +kernel
theorem dX6_refusalOfUse_92 : decode cX6_refusalOfUse 92 = .ok (.iload 4, 2) := by decide +kernel
theorem dX6_refusalOfUse_94 : decode cX6_refusalOfUse 94 = .ok (.invokevirtual 206, 3) := by decide +kernel
theorem dX6_refusalOfUse_97 : decode cX6_refusalOfUse 97 = .ok (.ifCond .ne 6, 3) := by decide +kernel
theorem dX6_refusalOfUse_100 : decode cX6_refusalOfUse 100 = .ok (.bipush (-103), 2) := by decide +kernel
theorem dX6_refusalOfUse_102 : decode cX6_refusalOfUse 102 = .ok (.ireturn, 1) := by decide +kernel
theorem dX6_refusalOfUse_103 : decode cX6_refusalOfUse 103 = .ok (.aload_n 0, 1) := by decide +kernel
theorem dX6_refusalOfUse_104 : decode cX6_refusalOfUse 104 = .ok (.getfield 31, 3) := by decide +kernel
theorem dX6_refusalOfUse_107 : decode cX6_refusalOfUse 107 = .ok (.getfield 198, 3) := by decide +kernel
theorem dX6_refusalOfUse_110 : decode cX6_refusalOfUse 110 = .ok (.sipush 512, 3) := by decide +kernel
theorem dX6_refusalOfUse_113 : decode cX6_refusalOfUse 113 = .ok (.if_icmp .lt 8, 3) := by decide +kernel
theorem dX6_refusalOfUse_116 : decode cX6_refusalOfUse 116 = .ok (.bipush (-104), 2) := by decide +kernel
theorem dX6_refusalOfUse_118 : decode cX6_refusalOfUse 118 = .ok (.goto 4, 3) := by decide +kernel
theorem dX6_refusalOfUse_121 : decode cX6_refusalOfUse 121 = .ok (.iconst 0, 1) := by decide +kernel
theorem dX6_refusalOfUse_122 : decode cX6_refusalOfUse 122 = .ok (.ireturn, 1) := by decide +kernel
theorem dX6_canBeSet_0 : decode cX6_canBeSet 0 = .ok (.aload_n 0, 1) := by decide +kernel
theorem dX6_canBeSet_1 : decode cX6_canBeSet 1 = .ok (.iload_n 1, 1) := by decide +kernel
theorem dX6_canBeSet_2 : decode cX6_canBeSet 2 = .ok (.iload_n 2, 1) := by decide +kernel
theorem dX6_canBeSet_3 : decode cX6_canBeSet 3 = .ok (.invokevirtual 210, 3) := by decide +kernel
theorem dX6_canBeSet_6 : decode cX6_canBeSet 6 = .ok (.istore_n 3, 1) := by decide +kernel
theorem dX6_canBeSet_7 : decode cX6_canBeSet 7 = .ok (.iload_n 3, 1) := by decide +kernel
theorem dX6_canBeSet_8 : decode cX6_canBeSet 8 = .ok (.iconst (-1), 1) := by decide +kernel
theorem dX6_canBeSet_9 : decode cX6_canBeSet 9 = .ok (.if_icmp .eq 22, 3) := by decide +kernel
theorem dX6_canBeSet_12 : decode cX6_canBeSet 12 = .ok (.aload_n 0, 1) := by decide +kernel
theorem dX6_canBeSet_13 : decode cX6_canBeSet 13 = .ok (.getfield 11, 3) := by decide +kernel
theorem dX6_canBeSet_16 : decode cX6_canBeSet 16 = .ok (.iload_n 3, 1) := by decide +kernel
theorem dX6_canBeSet_17 : decode cX6_canBeSet 17 = .ok (.aaload, 1) := by decide +kernel
theorem dX6_canBeSet_18 : decode cX6_canBeSet 18 = .ok (.getfield 95, 3) := by decide +kernel
theorem dX6_canBeSet_21 : decode cX6_canBeSet 21 = .ok (.iload_n 2, 1) := by decide +kernel
theorem dX6_canBeSet_22 : decode cX6_canBeSet 22 = .ok (.iaload, 1) := by decide +kernel
theorem dX6_canBeSet_23 : decode cX6_canBeSet 23 = .ok (.iconst 2, 1) := by decide +kernel
theorem dX6_canBeSet_24 : decode cX6_canBeSet 24 = .ok (.if_icmp .ne 7, 3) := by decide +kernel
theorem dX6_canBeSet_27 : decode cX6_canBeSet 27 = .ok (.iconst 1, 1) := by decide +kernel
theorem dX6_canBeSet_28 : decode cX6_canBeSet 28 = .ok (.goto 4, 3) := by decide +kernel
theorem dX6_canBeSet_31 : decode cX6_canBeSet 31 = .ok (.iconst 0, 1) := by decide +kernel
theorem dX6_canBeSet_32 : decode cX6_canBeSet 32 = .ok (.ireturn, 1) := by decide +kernel
theorem dX6_placeOf_0 : decode cX6_placeOf 0 = .ok (.aload_n 0, 1) := by decide +kernel
theorem dX6_placeOf_1 : decode cX6_placeOf 1 = .ok (.getfield 11, 3) := by decide +kernel
theorem dX6_placeOf_4 : decode cX6_placeOf 4 = .ok (.iload_n 2, 1) := by decide +kernel
theorem dX6_placeOf_5 : decode cX6_placeOf 5 = .ok (.aaload, 1) := by decide +kernel
theorem dX6_placeOf_6 : decode cX6_placeOf 6 = .ok (.getfield 52, 3) := by decide +kernel
theorem dX6_placeOf_9 : decode cX6_placeOf 9 = .ok (.ifCond .eq 10, 3) := by decide +kernel
theorem dX6_placeOf_12 : decode cX6_placeOf 12 = .ok (.aload_n 0, 1) := by decide +kernel
theorem dX6_placeOf_13 : decode cX6_placeOf 13 = .ok (.getfield 24, 3) := by decide +kernel
theorem dX6_placeOf_16 : decode cX6_placeOf 16 = .ok (.goto 12, 3) := by decide +kernel
theorem dX6_placeOf_19 : decode cX6_placeOf 19 = .ok (.aload_n 0, 1) := by decide +kernel
theorem dX6_placeOf_20 : decode cX6_placeOf 20 = .ok (.getfield 17, 3) := by decide +kernel
theorem dX6_placeOf_23 : decode cX6_placeOf 23 = .ok (.iload_n 1, 1) := by decide +kernel
theorem dX6_placeOf_24 : decode cX6_placeOf 24 = .ok (.aaload, 1) := by decide +kernel
theorem dX6_placeOf_25 : decode cX6_placeOf 25 = .ok (.getfield 213, 3) := by decide +kernel
theorem dX6_placeOf_28 : decode cX6_placeOf 28 = .ok (.areturn, 1) := by decide +kernel
theorem dX6_countNotZero_0 : decode cX6_countNotZero 0 = .ok (.aload_n 0, 1) := by decide +kernel
theorem dX6_countNotZero_1 : decode cX6_countNotZero 1 = .ok (.iload_n 1, 1) := by decide +kernel
theorem dX6_countNotZero_2 : decode cX6_countNotZero 2 = .ok (.iload_n 2, 1) := by decide +kernel
theorem dX6_countNotZero_3 : decode cX6_countNotZero 3 = .ok (.invokevirtual 146, 3) := by decide +kernel
theorem dX6_countNotZero_6 : decode cX6_countNotZero 6 = .ok (.astore_n 3, 1) := by decide +kernel
theorem dX6_countNotZero_7 : decode cX6_countNotZero 7 = .ok (.iconst 0, 1) := by decide +kernel
theorem dX6_countNotZero_8 : decode cX6_countNotZero 8 = .ok (.istore 4, 2) := by decide +kernel
theorem dX6_countNotZero_10 : decode cX6_countNotZero 10 = .ok (.iconst 0, 1) := by decide +kernel
theorem dX6_countNotZero_11 : decode cX6_countNotZero 11 = .ok (.istore 5, 2) := by decide +kernel
theorem dX6_countNotZero_13 : decode cX6_countNotZero 13 = .ok (.iload 5, 2) := by decide +kernel
theorem dX6_countNotZero_15 : decode cX6_countNotZero 15 = .ok (.iconst 5, 1) := by decide +kernel
theorem dX6_countNotZero_16 : decode cX6_countNotZero 16 = .ok (.if_icmp .ge 38, 3) := by decide +kernel
theorem dX6_countNotZero_19 : decode cX6_countNotZero 19 = .ok (.aload_n 0, 1) := by decide +kernel
theorem dX6_countNotZero_20 : decode cX6_countNotZero 20 = .ok (.getfield 11, 3) := by decide +kernel
theorem dX6_countNotZero_23 : decode cX6_countNotZero 23 = .ok (.iload_n 2, 1) := by decide +kernel
theorem dX6_countNotZero_24 : decode cX6_countNotZero 24 = .ok (.aaload, 1) := by decide +kernel
theorem dX6_countNotZero_25 : decode cX6_countNotZero 25 = .ok (.getfield 95, 3) := by decide +kernel
theorem dX6_countNotZero_28 : decode cX6_countNotZero 28 = .ok (.iload 5, 2) := by decide +kernel
theorem dX6_countNotZero_30 : decode cX6_countNotZero 30 = .ok (.iaload, 1) := by decide +kernel
theorem dX6_countNotZero_31 : decode cX6_countNotZero 31 = .ok (.iconst 2, 1) := by decide +kernel
theorem dX6_countNotZero_32 : decode cX6_countNotZero 32 = .ok (.if_icmp .ne 16, 3) := by decide +kernel
theorem dX6_countNotZero_35 : decode cX6_countNotZero 35 = .ok (.aload_n 3, 1) := by decide +kernel
theorem dX6_countNotZero_36 : decode cX6_countNotZero 36 = .ok (.iload_n 2, 1) := by decide +kernel
theorem dX6_countNotZero_37 : decode cX6_countNotZero 37 = .ok (.iload 5, 2) := by decide +kernel
theorem dX6_countNotZero_39 : decode cX6_countNotZero 39 = .ok (.invokevirtual 160, 3) := by decide +kernel
theorem dX6_countNotZero_42 : decode cX6_countNotZero 42 = .ok (.ifCond .eq 6, 3) := by decide +kernel
theorem dX6_countNotZero_45 : decode cX6_countNotZero 45 = .ok (.iinc 4 1, 3) := by decide +kernel
theorem dX6_countNotZero_48 : decode cX6_countNotZero 48 = .ok (.iinc 5 1, 3) := by decide +kernel
theorem dX6_countNotZero_51 : decode cX6_countNotZero 51 = .ok (.goto (-38), 3) := by decide +kernel
theorem dX6_countNotZero_54 : decode cX6_countNotZero 54 = .ok (.iload 4, 2) := by decide +kernel
theorem dX6_countNotZero_56 : decode cX6_countNotZero 56 = .ok (.ireturn, 1) := by decide +kernel
theorem dX6_arrange_0 : decode cX6_arrange 0 = .ok (.aload_n 0, 1) := by decide +kernel
theorem dX6_arrange_1 : decode cX6_arrange 1 = .ok (.getfield 11, 3) := by decide +kernel
theorem dX6_arrange_4 : decode cX6_arrange 4 = .ok (.iload_n 1, 1) := by decide +kernel
theorem dX6_arrange_5 : decode cX6_arrange 5 = .ok (.aaload, 1) := by decide +kernel
theorem dX6_arrange_6 : decode cX6_arrange 6 = .ok (.astore_n 2, 1) := by decide +kernel
theorem dX6_arrange_7 : decode cX6_arrange 7 = .ok (.aload_n 2, 1) := by decide +kernel
theorem dX6_arrange_8 : decode cX6_arrange 8 = .ok (.getfield 216, 3) := by decide +kernel
theorem dX6_arrange_11 : decode cX6_arrange 11 = .ok (.invokevirtual 219, 3) := by decide +kernel
theorem dX6_arrange_14 : decode cX6_arrange 14 = .ok (.aload_n 2, 1) := by decide +kernel
theorem dX6_arrange_15 : decode cX6_arrange 15 = .ok (.getfield 222, 3) := by decide +kernel
theorem dX6_arrange_18 : decode cX6_arrange 18 = .ok (.invokevirtual 219, 3) := by decide +kernel
theorem dX6_arrange_21 : decode cX6_arrange 21 = .ok (.aload_n 2, 1) := by decide +kernel
theorem dX6_arrange_22 : decode cX6_arrange 22 = .ok (.getfield 216, 3) := by decide +kernel
theorem dX6_arrange_25 : decode cX6_arrange 25 = .ok (.iload_n 1, 1) := by decide +kernel
theorem dX6_arrange_26 : decode cX6_arrange 26 = .ok (.invokevirtual 86, 3) := by decide +kernel
theorem dX6_arrange_29 : decode cX6_arrange 29 = .ok (.iconst 0, 1) := by decide +kernel
theorem dX6_arrange_30 : decode cX6_arrange 30 = .ok (.istore_n 3, 1) := by decide +kernel
theorem dX6_arrange_31 : decode cX6_arrange 31 = .ok (.iload_n 3, 1) := by decide +kernel
theorem dX6_arrange_32 : decode cX6_arrange 32 = .ok (.aload_n 2, 1) := by decide +kernel
theorem dX6_arrange_33 : decode cX6_arrange 33 = .ok (.getfield 74, 3) := by decide +kernel
theorem dX6_arrange_36 : decode cX6_arrange 36 = .ok (.getfield 83, 3) := by decide +kernel
theorem dX6_arrange_39 : decode cX6_arrange 39 = .ok (.if_icmp .ge 77, 3) := by decide +kernel
theorem dX6_arrange_42 : decode cX6_arrange 42 = .ok (.aload_n 2, 1) := by decide +kernel
theorem dX6_arrange_43 : decode cX6_arrange 43 = .ok (.getfield 74, 3) := by decide +kernel
theorem dX6_arrange_46 : decode cX6_arrange 46 = .ok (.getfield 225, 3) := by decide +kernel
theorem dX6_arrange_49 : decode cX6_arrange 49 = .ok (.iload_n 3, 1) := by decide +kernel
theorem dX6_arrange_50 : decode cX6_arrange 50 = .ok (.iaload, 1) := by decide +kernel
theorem dX6_arrange_51 : decode cX6_arrange 51 = .ok (.istore 4, 2) := by decide +kernel
theorem dX6_arrange_53 : decode cX6_arrange 53 = .ok (.aload_n 2, 1) := by decide +kernel
theorem dX6_arrange_54 : decode cX6_arrange 54 = .ok (.getfield 216, 3) := by decide +kernel
theorem dX6_arrange_57 : decode cX6_arrange 57 = .ok (.aload_n 0, 1) := by decide +kernel
theorem dX6_arrange_58 : decode cX6_arrange 58 = .ok (.getfield 11, 3) := by decide +kernel
theorem dX6_arrange_61 : decode cX6_arrange 61 = .ok (.iload 4, 2) := by decide +kernel
theorem dX6_arrange_63 : decode cX6_arrange 63 = .ok (.aaload, 1) := by decide +kernel
theorem dX6_arrange_64 : decode cX6_arrange 64 = .ok (.getfield 216, 3) := by decide +kernel
theorem dX6_arrange_67 : decode cX6_arrange 67 = .ok (.invokevirtual 228, 3) := by decide +kernel
theorem dX6_arrange_70 : decode cX6_arrange 70 = .ok (.aload_n 2, 1) := by decide +kernel
theorem dX6_arrange_71 : decode cX6_arrange 71 = .ok (.getfield 222, 3) := by decide +kernel
theorem dX6_arrange_74 : decode cX6_arrange 74 = .ok (.aload_n 0, 1) := by decide +kernel
theorem dX6_arrange_75 : decode cX6_arrange 75 = .ok (.getfield 11, 3) := by decide +kernel
theorem dX6_arrange_78 : decode cX6_arrange 78 = .ok (.iload 4, 2) := by decide +kernel
theorem dX6_arrange_80 : decode cX6_arrange 80 = .ok (.aaload, 1) := by decide +kernel
theorem dX6_arrange_81 : decode cX6_arrange 81 = .ok (.getfield 222, 3) := by decide +kernel
theorem dX6_arrange_84 : decode cX6_arrange 84 = .ok (.invokevirtual 228, 3) := by decide +kernel
theorem dX6_arrange_87 : decode cX6_arrange 87 = .ok (.aload_n 0, 1) := by decide +kernel
theorem dX6_arrange_88 : decode cX6_arrange 88 = .ok (.getfield 11, 3) := by decide +kernel
theorem dX6_arrange_91 : decode cX6_arrange 91 = .ok (.iload 4, 2) := by decide +kernel
theorem dX6_arrange_93 : decode cX6_arrange 93 = .ok (.aaload, 1) := by decide +kernel
theorem dX6_arrange_94 : decode cX6_arrange 94 = .ok (.getfield 71, 3) := by decide +kernel
theorem dX6_arrange_97 : decode cX6_arrange 97 = .ok (.iconst 2, 1) := by decide +kernel
theorem dX6_arrange_98 : decode cX6_arrange 98 = .ok (.if_icmp .ne 12, 3) := by decide +kernel
theorem dX6_arrange_101 : decode cX6_arrange 101 = .ok (.aload_n 2, 1) := by decide +kernel
theorem dX6_arrange_102 : decode cX6_arrange 102 = .ok (.getfield 222, 3) := by decide +kernel
theorem dX6_arrange_105 : decode cX6_arrange 105 = .ok (.iload 4, 2) := by decide +kernel
theorem dX6_arrange_107 : decode cX6_arrange 107 = .ok (.invokevirtual 86, 3) := by decide +kernel
theorem dX6_arrange_110 : decode cX6_arrange 110 = .ok (.iinc 3 1, 3) := by decide +kernel
theorem dX6_arrange_113 : decode cX6_arrange 113 = .ok (.goto (-82), 3) := by decide +kernel
theorem dX6_arrange_116 : decode cX6_arrange 116 = .ok (.aload_n 2, 1) := by decide +kernel
theorem dX6_arrange_117 : decode cX6_arrange 117 = .ok (.getfield 232, 3) := by decide +kernel
theorem dX6_arrange_120 : decode cX6_arrange 120 = .ok (.iconst (-1), 1) := by decide +kernel
theorem dX6_arrange_121 : decode cX6_arrange 121 = .ok (.if_icmp .eq 22, 3) := by decide +kernel
theorem dX6_arrange_124 : decode cX6_arrange 124 = .ok (.aload_n 2, 1) := by decide +kernel
theorem dX6_arrange_125 : decode cX6_arrange 125 = .ok (.getfield 216, 3) := by decide +kernel
theorem dX6_arrange_128 : decode cX6_arrange 128 = .ok (.aload_n 0, 1) := by decide +kernel
theorem dX6_arrange_129 : decode cX6_arrange 129 = .ok (.getfield 11, 3) := by decide +kernel
theorem dX6_arrange_132 : decode cX6_arrange 132 = .ok (.aload_n 2, 1) := by decide +kernel
theorem dX6_arrange_133 : decode cX6_arrange 133 = .ok (.getfield 232, 3) := by decide +kernel
theorem dX6_arrange_136 : decode cX6_arrange 136 = .ok (.aaload, 1) := by decide +kernel
theorem dX6_arrange_137 : decode cX6_arrange 137 = .ok (.getfield 216, 3) := by decide +kernel
theorem dX6_arrange_140 : decode cX6_arrange 140 = .ok (.invokevirtual 228, 3) := by decide +kernel
theorem dX6_arrange_143 : decode cX6_arrange 143 = .ok (.return_, 1) := by decide +kernel
theorem dX6_homeOf_0 : decode cX6_homeOf 0 = .ok (.aload_n 0, 1) := by decide +kernel
theorem dX6_homeOf_1 : decode cX6_homeOf 1 = .ok (.getfield 11, 3) := by decide +kernel
theorem dX6_homeOf_4 : decode cX6_homeOf 4 = .ok (.iload_n 1, 1) := by decide +kernel
theorem dX6_homeOf_5 : decode cX6_homeOf 5 = .ok (.aaload, 1) := by decide +kernel
theorem dX6_homeOf_6 : decode cX6_homeOf 6 = .ok (.getfield 216, 3) := by decide +kernel
theorem dX6_homeOf_9 : decode cX6_homeOf 9 = .ok (.astore_n 3, 1) := by decide +kernel
theorem dX6_homeOf_10 : decode cX6_homeOf 10 = .ok (.iconst 0, 1) := by decide +kernel
theorem dX6_homeOf_11 : decode cX6_homeOf 11 = .ok (.istore 4, 2) := by decide +kernel
theorem dX6_homeOf_13 : decode cX6_homeOf 13 = .ok (.iload 4, 2) := by decide +kernel
theorem dX6_homeOf_15 : decode cX6_homeOf 15 = .ok (.aload_n 3, 1) := by decide +kernel
theorem dX6_homeOf_16 : decode cX6_homeOf 16 = .ok (.getfield 83, 3) := by decide +kernel
theorem dX6_homeOf_19 : decode cX6_homeOf 19 = .ok (.if_icmp .ge 37, 3) := by decide +kernel
theorem dX6_homeOf_22 : decode cX6_homeOf 22 = .ok (.aload_n 0, 1) := by decide +kernel
theorem dX6_homeOf_23 : decode cX6_homeOf 23 = .ok (.getfield 11, 3) := by decide +kernel
theorem dX6_homeOf_26 : decode cX6_homeOf 26 = .ok (.aload_n 3, 1) := by decide +kernel
theorem dX6_homeOf_27 : decode cX6_homeOf 27 = .ok (.getfield 225, 3) := by decide +kernel
theorem dX6_homeOf_30 : decode cX6_homeOf 30 = .ok (.iload 4, 2) := by decide +kernel
theorem dX6_homeOf_32 : decode cX6_homeOf 32 = .ok (.iaload, 1) := by decide +kernel
theorem dX6_homeOf_33 : decode cX6_homeOf 33 = .ok (.aaload, 1) := by decide +kernel
theorem dX6_homeOf_34 : decode cX6_homeOf 34 = .ok (.getfield 95, 3) := by decide +kernel
theorem dX6_homeOf_37 : decode cX6_homeOf 37 = .ok (.iload_n 2, 1) := by decide +kernel
theorem dX6_homeOf_38 : decode cX6_homeOf 38 = .ok (.iaload, 1) := by decide +kernel
theorem dX6_homeOf_39 : decode cX6_homeOf 39 = .ok (.ifCond .eq 11, 3) := by decide +kernel
theorem dX6_homeOf_42 : decode cX6_homeOf 42 = .ok (.aload_n 3, 1) := by decide +kernel
theorem dX6_homeOf_43 : decode cX6_homeOf 43 = .ok (.getfield 225, 3) := by decide +kernel
theorem dX6_homeOf_46 : decode cX6_homeOf 46 = .ok (.iload 4, 2) := by decide +kernel
theorem dX6_homeOf_48 : decode cX6_homeOf 48 = .ok (.iaload, 1) := by decide +kernel
theorem dX6_homeOf_49 : decode cX6_homeOf 49 = .ok (.ireturn, 1) := by decide +kernel
theorem dX6_homeOf_50 : decode cX6_homeOf 50 = .ok (.iinc 4 1, 3) := by decide +kernel
theorem dX6_homeOf_53 : decode cX6_homeOf 53 = .ok (.goto (-40), 3) := by decide +kernel
theorem dX6_homeOf_56 : decode cX6_homeOf 56 = .ok (.iconst (-1), 1) := by decide +kernel
theorem dX6_homeOf_57 : decode cX6_homeOf 57 = .ok (.ireturn, 1) := by decide +kernel
theorem dX6_perform_0 : decode cX6_perform 0 = .ok (.iload_n 2, 1) := by decide +kernel
theorem dX6_perform_1 : decode cX6_perform 1 = .ok (.tableswitch 50 0 2 #[27, 33, 41], 27) := by decide +kernel
theorem dX6_perform_28 : decode cX6_perform 28 = .ok (.aload_n 0, 1) := by decide +kernel
theorem dX6_perform_29 : decode cX6_perform 29 = .ok (.iload_n 1, 1) := by decide +kernel
theorem dX6_perform_30 : decode cX6_perform 30 = .ok (.invokevirtual 235, 3) := by decide +kernel
theorem dX6_perform_33 : decode cX6_perform 33 = .ok (.ireturn, 1) := by decide +kernel
theorem dX6_perform_34 : decode cX6_perform 34 = .ok (.aload_n 0, 1) := by decide +kernel
theorem dX6_perform_35 : decode cX6_perform 35 = .ok (.iload_n 1, 1) := by decide +kernel
theorem dX6_perform_36 : decode cX6_perform 36 = .ok (.iload_n 3, 1) := by decide +kernel
theorem dX6_perform_37 : decode cX6_perform 37 = .ok (.iconst 0, 1) := by decide +kernel
theorem dX6_perform_38 : decode cX6_perform 38 = .ok (.invokevirtual 238, 3) := by decide +kernel
theorem dX6_perform_41 : decode cX6_perform 41 = .ok (.ireturn, 1) := by decide +kernel
theorem dX6_perform_42 : decode cX6_perform 42 = .ok (.aload_n 0, 1) := by decide +kernel
theorem dX6_perform_43 : decode cX6_perform 43 = .ok (.iload_n 1, 1) := by decide +kernel
theorem dX6_perform_44 : decode cX6_perform 44 = .ok (.iload_n 3, 1) := by decide +kernel
theorem dX6_perform_45 : decode cX6_perform 45 = .ok (.iload 4, 2) := by decide +kernel
theorem dX6_perform_47 : decode cX6_perform 47 = .ok (.invokevirtual 242, 3) := by decide +kernel
theorem dX6_perform_50 : decode cX6_perform 50 = .ok (.ireturn, 1) := by decide +kernel
theorem dX6_perform_51 : decode cX6_perform 51 = .ok (.iconst 0, 1) := by decide +kernel
theorem dX6_perform_52 : decode cX6_perform 52 = .ok (.ireturn, 1) := by decide +kernel
theorem dX6_makeAndCount_0 : decode cX6_makeAndCount 0 = .ok (.aload_n 0, 1) := by decide +kernel
theorem dX6_makeAndCount_1 : decode cX6_makeAndCount 1 = .ok (.iload_n 1, 1) := by decide +kernel
theorem dX6_makeAndCount_2 : decode cX6_makeAndCount 2 = .ok (.iconst 0, 1) := by decide +kernel
theorem dX6_makeAndCount_3 : decode cX6_makeAndCount 3 = .ok (.invokevirtual 245, 3) := by decide +kernel
theorem dX6_makeAndCount_6 : decode cX6_makeAndCount 6 = .ok (.istore_n 2, 1) := by decide +kernel
theorem dX6_makeAndCount_7 : decode cX6_makeAndCount 7 = .ok (.aload_n 0, 1) := by decide +kernel
theorem dX6_makeAndCount_8 : decode cX6_makeAndCount 8 = .ok (.aload_n 0, 1) := by decide +kernel
theorem dX6_makeAndCount_9 : decode cX6_makeAndCount 9 = .ok (.getfield 17, 3) := by decide +kernel
theorem dX6_makeAndCount_12 : decode cX6_makeAndCount 12 = .ok (.aload_n 0, 1) := by decide +kernel
theorem dX6_makeAndCount_13 : decode cX6_makeAndCount 13 = .ok (.getfield 117, 3) := by decide +kernel
theorem dX6_makeAndCount_16 : decode cX6_makeAndCount 16 = .ok (.aaload, 1) := by decide +kernel
theorem dX6_makeAndCount_17 : decode cX6_makeAndCount 17 = .ok (.getfield 153, 3) := by decide +kernel
theorem dX6_makeAndCount_20 : decode cX6_makeAndCount 20 = .ok (.iload_n 1, 1) := by decide +kernel
theorem dX6_makeAndCount_21 : decode cX6_makeAndCount 21 = .ok (.iaload, 1) := by decide +kernel
theorem dX6_makeAndCount_22 : decode cX6_makeAndCount 22 = .ok (.putfield 123, 3) := by decide +kernel
theorem dX6_makeAndCount_25 : decode cX6_makeAndCount 25 = .ok (.iload_n 2, 1) := by decide +kernel
theorem dX6_makeAndCount_26 : decode cX6_makeAndCount 26 = .ok (.ireturn, 1) := by decide +kernel
theorem dX6_askAndSet_0 : decode cX6_askAndSet 0 = .ok (.aload_n 0, 1) := by decide +kernel
theorem dX6_askAndSet_1 : decode cX6_askAndSet 1 = .ok (.iload_n 1, 1) := by decide +kernel
theorem dX6_askAndSet_2 : decode cX6_askAndSet 2 = .ok (.iload_n 2, 1) := by decide +kernel
theorem dX6_askAndSet_3 : decode cX6_askAndSet 3 = .ok (.iconst 0, 1) := by decide +kernel
theorem dX6_askAndSet_4 : decode cX6_askAndSet 4 = .ok (.invokevirtual 238, 3) := by decide +kernel
theorem dX6_askAndSet_7 : decode cX6_askAndSet 7 = .ok (.istore 4, 2) := by decide +kernel
theorem dX6_askAndSet_9 : decode cX6_askAndSet 9 = .ok (.iload 4, 2) := by decide +kernel
theorem dX6_askAndSet_11 : decode cX6_askAndSet 11 = .ok (.ifCond .ne 18, 3) := by decide +kernel
theorem dX6_askAndSet_14 : decode cX6_askAndSet 14 = .ok (.aload_n 0, 1) := by decide +kernel
theorem dX6_askAndSet_15 : decode cX6_askAndSet 15 = .ok (.aload_n 0, 1) := by decide +kernel
theorem dX6_askAndSet_16 : decode cX6_askAndSet 16 = .ok (.iload_n 1, 1) := by decide +kernel
theorem dX6_askAndSet_17 : decode cX6_askAndSet 17 = .ok (.iload_n 2, 1) := by decide +kernel
theorem dX6_askAndSet_18 : decode cX6_askAndSet 18 = .ok (.invokevirtual 210, 3) := by decide +kernel
theorem dX6_askAndSet_21 : decode cX6_askAndSet 21 = .ok (.iload_n 2, 1) := by decide +kernel
theorem dX6_askAndSet_22 : decode cX6_askAndSet 22 = .ok (.iload_n 3, 1) := by decide +kernel
theorem dX6_askAndSet_23 : decode cX6_askAndSet 23 = .ok (.invokevirtual 248, 3) := by decide +kernel
theorem dX6_askAndSet_26 : decode cX6_askAndSet 26 = .ok (.goto 5, 3) := by decide +kernel
theorem dX6_askAndSet_29 : decode cX6_askAndSet 29 = .ok (.iload 4, 2) := by decide +kernel
theorem dX6_askAndSet_31 : decode cX6_askAndSet 31 = .ok (.ireturn, 1) := by decide +kernel
theorem dX6_makeThing_0 : decode cX6_makeThing 0 = .ok (.aload_n 0, 1) := by decide +kernel
theorem dX6_makeThing_1 : decode cX6_makeThing 1 = .ok (.iload_n 1, 1) := by decide +kernel
theorem dX6_makeThing_2 : decode cX6_makeThing 2 = .ok (.invokevirtual 48, 3) := by decide +kernel
theorem dX6_makeThing_5 : decode cX6_makeThing 5 = .ok (.ifCond .ne 6, 3) := by decide +kernel
theorem dX6_makeThing_8 : decode cX6_makeThing 8 = .ok (.bipush 18, 2) := by decide +kernel
theorem dX6_makeThing_10 : decode cX6_makeThing 10 = .ok (.ireturn, 1) := by decide +kernel
theorem dX6_makeThing_11 : decode cX6_makeThing 11 = .ok (.aload_n 0, 1) := by decide +kernel
theorem dX6_makeThing_12 : decode cX6_makeThing 12 = .ok (.iload_n 1, 1) := by decide +kernel
theorem dX6_makeThing_13 : decode cX6_makeThing 13 = .ok (.iload_n 2, 1) := by decide +kernel
theorem dX6_makeThing_14 : decode cX6_makeThing 14 = .ok (.invokevirtual 251, 3) := by decide +kernel
theorem dX6_makeThing_17 : decode cX6_makeThing 17 = .ok (.istore_n 3, 1) := by decide +kernel
theorem dX6_makeThing_18 : decode cX6_makeThing 18 = .ok (.iload_n 3, 1) := by decide +kernel
theorem dX6_makeThing_19 : decode cX6_makeThing 19 = .ok (.ifCond .ne 21, 3) := by decide +kernel
theorem dX6_makeThing_22 : decode cX6_makeThing 22 = .ok (.aload_n 0, 1) := by decide +kernel
theorem dX6_makeThing_23 : decode cX6_makeThing 23 = .ok (.getfield 17, 3) := by decide +kernel
theorem dX6_makeThing_26 : decode cX6_makeThing 26 = .ok (.aload_n 0, 1) := by decide +kernel
theorem dX6_makeThing_27 : decode cX6_makeThing 27 = .ok (.getfield 117, 3) := by decide +kernel
theorem dX6_makeThing_30 : decode cX6_makeThing 30 = .ok (.aaload, 1) := by decide +kernel
theorem dX6_makeThing_31 : decode cX6_makeThing 31 = .ok (.getfield 153, 3) := by decide +kernel
theorem dX6_makeThing_34 : decode cX6_makeThing 34 = .ok (.iload_n 1, 1) := by decide +kernel
theorem dX6_makeThing_35 : decode cX6_makeThing 35 = .ok (.dup2, 1) := by decide +kernel
theorem dX6_makeThing_36 : decode cX6_makeThing 36 = .ok (.iaload, 1) := by decide +kernel
theorem dX6_makeThing_37 : decode cX6_makeThing 37 = .ok (.iconst 1, 1) := by decide +kernel
theorem dX6_makeThing_38 : decode cX6_makeThing 38 = .ok (.iadd, 1) := by decide +kernel
theorem dX6_makeThing_39 : decode cX6_makeThing 39 = .ok (.iastore, 1) := by decide +kernel
theorem dX6_makeThing_40 : decode cX6_makeThing 40 = .ok (.iload_n 3, 1) := by decide +kernel
theorem dX6_makeThing_41 : decode cX6_makeThing 41 = .ok (.ireturn, 1) := by decide +kernel
theorem dX6_ask_0 : decode cX6_ask 0 = .ok (.aload_n 0, 1) := by decide +kernel
theorem dX6_ask_1 : decode cX6_ask 1 = .ok (.iload_n 1, 1) := by decide +kernel
theorem dX6_ask_2 : decode cX6_ask 2 = .ok (.invokevirtual 68, 3) := by decide +kernel
theorem dX6_ask_5 : decode cX6_ask 5 = .ok (.ifCond .eq 12, 3) := by decide +kernel
theorem dX6_ask_8 : decode cX6_ask 8 = .ok (.aload_n 0, 1) := by decide +kernel
theorem dX6_ask_9 : decode cX6_ask 9 = .ok (.iload_n 1, 1) := by decide +kernel
theorem dX6_ask_10 : decode cX6_ask 10 = .ok (.iload_n 2, 1) := by decide +kernel
theorem dX6_ask_11 : decode cX6_ask 11 = .ok (.invokevirtual 210, 3) := by decide +kernel
theorem dX6_ask_14 : decode cX6_ask 14 = .ok (.goto 4, 3) := by decide +kernel
theorem dX6_ask_17 : decode cX6_ask 17 = .ok (.iconst (-1), 1) := by decide +kernel
theorem dX6_ask_18 : decode cX6_ask 18 = .ok (.istore 4, 2) := by decide +kernel
theorem dX6_ask_20 : decode cX6_ask 20 = .ok (.iload 4, 2) := by decide +kernel
theorem dX6_ask_22 : decode cX6_ask 22 = .ok (.iconst (-1), 1) := by decide +kernel
theorem dX6_ask_23 : decode cX6_ask 23 = .ok (.if_icmp .ne 6, 3) := by decide +kernel
theorem dX6_ask_26 : decode cX6_ask 26 = .ok (.bipush 18, 2) := by decide +kernel
theorem dX6_ask_28 : decode cX6_ask 28 = .ok (.ireturn, 1) := by decide +kernel
theorem dX6_ask_29 : decode cX6_ask 29 = .ok (.aload_n 0, 1) := by decide +kernel
theorem dX6_ask_30 : decode cX6_ask 30 = .ok (.getfield 11, 3) := by decide +kernel
theorem dX6_ask_33 : decode cX6_ask 33 = .ok (.iload 4, 2) := by decide +kernel
theorem dX6_ask_35 : decode cX6_ask 35 = .ok (.aaload, 1) := by decide +kernel
theorem dX6_ask_36 : decode cX6_ask 36 = .ok (.getfield 95, 3) := by decide +kernel
theorem dX6_ask_39 : decode cX6_ask 39 = .ok (.iload_n 2, 1) := by decide +kernel
theorem dX6_ask_40 : decode cX6_ask 40 = .ok (.iaload, 1) := by decide +kernel
theorem dX6_ask_41 : decode cX6_ask 41 = .ok (.iconst 1, 1) := by decide +kernel
theorem dX6_ask_42 : decode cX6_ask 42 = .ok (.if_icmp .ne 21, 3) := by decide +kernel
theorem dX6_ask_45 : decode cX6_ask 45 = .ok (.aload_n 0, 1) := by decide +kernel
theorem dX6_ask_46 : decode cX6_ask 46 = .ok (.aload_n 0, 1) := by decide +kernel
theorem dX6_ask_47 : decode cX6_ask 47 = .ok (.getfield 11, 3) := by decide +kernel
theorem dX6_ask_50 : decode cX6_ask 50 = .ok (.iload 4, 2) := by decide +kernel
theorem dX6_ask_52 : decode cX6_ask 52 = .ok (.aaload, 1) := by decide +kernel
theorem dX6_ask_53 : decode cX6_ask 53 = .ok (.getfield 99, 3) := by decide +kernel
theorem dX6_ask_56 : decode cX6_ask 56 = .ok (.iload_n 2, 1) := by decide +kernel
theorem dX6_ask_57 : decode cX6_ask 57 = .ok (.iaload, 1) := by decide +kernel
theorem dX6_ask_58 : decode cX6_ask 58 = .ok (.putfield 123, 3) := by decide +kernel
theorem dX6_ask_61 : decode cX6_ask 61 = .ok (.iconst 0, 1) := by decide +kernel
theorem dX6_ask_62 : decode cX6_ask 62 = .ok (.ireturn, 1) := by decide +kernel
theorem dX6_ask_63 : decode cX6_ask 63 = .ok (.aload_n 0, 1) := by decide +kernel
theorem dX6_ask_64 : decode cX6_ask 64 = .ok (.iload 4, 2) := by decide +kernel
theorem dX6_ask_66 : decode cX6_ask 66 = .ok (.iload_n 3, 1) := by decide +kernel
theorem dX6_ask_67 : decode cX6_ask 67 = .ok (.invokevirtual 251, 3) := by decide +kernel
theorem dX6_ask_70 : decode cX6_ask 70 = .ok (.istore 5, 2) := by decide +kernel
theorem dX6_ask_72 : decode cX6_ask 72 = .ok (.iload 5, 2) := by decide +kernel
theorem dX6_ask_74 : decode cX6_ask 74 = .ok (.ifCond .ne 23, 3) := by decide +kernel
theorem dX6_ask_77 : decode cX6_ask 77 = .ok (.aload_n 0, 1) := by decide +kernel
theorem dX6_ask_78 : decode cX6_ask 78 = .ok (.aload_n 0, 1) := by decide +kernel
theorem dX6_ask_79 : decode cX6_ask 79 = .ok (.aload_n 0, 1) := by decide +kernel
theorem dX6_ask_80 : decode cX6_ask 80 = .ok (.getfield 117, 3) := by decide +kernel
theorem dX6_ask_83 : decode cX6_ask 83 = .ok (.iload 4, 2) := by decide +kernel
theorem dX6_ask_85 : decode cX6_ask 85 = .ok (.invokevirtual 146, 3) := by decide +kernel
theorem dX6_ask_88 : decode cX6_ask 88 = .ok (.iload 4, 2) := by decide +kernel
theorem dX6_ask_90 : decode cX6_ask 90 = .ok (.iload_n 2, 1) := by decide +kernel
theorem dX6_ask_91 : decode cX6_ask 91 = .ok (.invokevirtual 160, 3) := by decide +kernel
theorem dX6_ask_94 : decode cX6_ask 94 = .ok (.putfield 123, 3) := by decide +kernel
theorem dX6_ask_97 : decode cX6_ask 97 = .ok (.iload 5, 2) := by decide +kernel
theorem dX6_ask_99 : decode cX6_ask 99 = .ok (.ireturn, 1) := by decide +kernel
theorem dX6_write_0 : decode cX6_write 0 = .ok (.aload_n 0, 1) := by decide +kernel
theorem dX6_write_1 : decode cX6_write 1 = .ok (.getfield 11, 3) := by decide +kernel
theorem dX6_write_4 : decode cX6_write 4 = .ok (.iload_n 1, 1) := by decide +kernel
theorem dX6_write_5 : decode cX6_write 5 = .ok (.aaload, 1) := by decide +kernel
theorem dX6_write_6 : decode cX6_write 6 = .ok (.getfield 95, 3) := by decide +kernel
theorem dX6_write_9 : decode cX6_write 9 = .ok (.iload_n 2, 1) := by decide +kernel
theorem dX6_write_10 : decode cX6_write 10 = .ok (.iaload, 1) := by decide +kernel
theorem dX6_write_11 : decode cX6_write 11 = .ok (.iconst 2, 1) := by decide +kernel
theorem dX6_write_12 : decode cX6_write 12 = .ok (.if_icmp .eq 6, 3) := by decide +kernel
theorem dX6_write_15 : decode cX6_write 15 = .ok (.bipush 12, 2) := by decide +kernel
theorem dX6_write_17 : decode cX6_write 17 = .ok (.ireturn, 1) := by decide +kernel
theorem dX6_write_18 : decode cX6_write 18 = .ok (.aload_n 0, 1) := by decide +kernel
theorem dX6_write_19 : decode cX6_write 19 = .ok (.aload_n 0, 1) := by decide +kernel
theorem dX6_write_20 : decode cX6_write 20 = .ok (.getfield 117, 3) := by decide +kernel
theorem dX6_write_23 : decode cX6_write 23 = .ok (.iload_n 1, 1) := by decide +kernel
theorem dX6_write_24 : decode cX6_write 24 = .ok (.invokevirtual 146, 3) := by decide +kernel
theorem dX6_write_27 : decode cX6_write 27 = .ok (.iload_n 1, 1) := by decide +kernel
theorem dX6_write_28 : decode cX6_write 28 = .ok (.iload_n 2, 1) := by decide +kernel
theorem dX6_write_29 : decode cX6_write 29 = .ok (.iload_n 3, 1) := by decide +kernel
theorem dX6_write_30 : decode cX6_write 30 = .ok (.invokevirtual 254, 3) := by decide +kernel
theorem dX6_write_33 : decode cX6_write 33 = .ok (.aload_n 0, 1) := by decide +kernel
theorem dX6_write_34 : decode cX6_write 34 = .ok (.dup, 1) := by decide +kernel
theorem dX6_write_35 : decode cX6_write 35 = .ok (.getfield 120, 3) := by decide +kernel
theorem dX6_write_38 : decode cX6_write 38 = .ok (.iconst 1, 1) := by decide +kernel
theorem dX6_write_39 : decode cX6_write 39 = .ok (.iadd, 1) := by decide +kernel
theorem dX6_write_40 : decode cX6_write 40 = .ok (.putfield 120, 3) := by decide +kernel
theorem dX6_write_43 : decode cX6_write 43 = .ok (.iconst 0, 1) := by decide +kernel
theorem dX6_write_44 : decode cX6_write 44 = .ok (.ireturn, 1) := by decide +kernel
theorem dX6_wake_0 : decode cX6_wake 0 = .ok (.aload_n 0, 1) := by decide +kernel
theorem dX6_wake_1 : decode cX6_wake 1 = .ok (.aload_n 0, 1) := by decide +kernel
theorem dX6_wake_2 : decode cX6_wake 2 = .ok (.getfield 117, 3) := by decide +kernel
theorem dX6_wake_5 : decode cX6_wake 5 = .ok (.iload_n 1, 1) := by decide +kernel
theorem dX6_wake_6 : decode cX6_wake 6 = .ok (.invokevirtual 146, 3) := by decide +kernel
theorem dX6_wake_9 : decode cX6_wake 9 = .ok (.getfield 150, 3) := by decide +kernel
theorem dX6_wake_12 : decode cX6_wake 12 = .ok (.astore_n 3, 1) := by decide +kernel
theorem dX6_wake_13 : decode cX6_wake 13 = .ok (.aload_n 3, 1) := by decide +kernel
theorem dX6_wake_14 : decode cX6_wake 14 = .ok (.iload_n 1, 1) := by decide +kernel
theorem dX6_wake_15 : decode cX6_wake 15 = .ok (.iaload, 1) := by decide +kernel
theorem dX6_wake_16 : decode cX6_wake 16 = .ok (.iconst 2, 1) := by decide +kernel
theorem dX6_wake_17 : decode cX6_wake 17 = .ok (.if_icmp .eq 10, 3) := by decide +kernel
theorem dX6_wake_20 : decode cX6_wake 20 = .ok (.aload_n 3, 1) := by decide +kernel
theorem dX6_wake_21 : decode cX6_wake 21 = .ok (.iload_n 1, 1) := by decide +kernel
theorem dX6_wake_22 : decode cX6_wake 22 = .ok (.iaload, 1) := by decide +kernel
theorem dX6_wake_23 : decode cX6_wake 23 = .ok (.iconst 1, 1) := by decide +kernel
theorem dX6_wake_24 : decode cX6_wake 24 = .ok (.if_icmp .ne 5, 3) := by decide +kernel
theorem dX6_wake_27 : decode cX6_wake 27 = .ok (.iconst 0, 1) := by decide +kernel
theorem dX6_wake_28 : decode cX6_wake 28 = .ok (.ireturn, 1) := by decide +kernel
theorem dX6_wake_29 : decode cX6_wake 29 = .ok (.aload_n 3, 1) := by decide +kernel
theorem dX6_wake_30 : decode cX6_wake 30 = .ok (.iload_n 1, 1) := by decide +kernel
theorem dX6_wake_31 : decode cX6_wake 31 = .ok (.iaload, 1) := by decide +kernel
theorem dX6_wake_32 : decode cX6_wake 32 = .ok (.iconst 3, 1) := by decide +kernel
theorem dX6_wake_33 : decode cX6_wake 33 = .ok (.if_icmp .eq 9, 3) := by decide +kernel
theorem dX6_wake_36 : decode cX6_wake 36 = .ok (.iload_n 2, 1) := by decide +kernel
theorem dX6_wake_37 : decode cX6_wake 37 = .ok (.bipush 16, 2) := by decide +kernel
theorem dX6_wake_39 : decode cX6_wake 39 = .ok (.if_icmp .lt 6, 3) := by decide +kernel
theorem dX6_wake_42 : decode cX6_wake 42 = .ok (.bipush 18, 2) := by decide +kernel
theorem dX6_wake_44 : decode cX6_wake 44 = .ok (.ireturn, 1) := by decide +kernel
theorem dX6_wake_45 : decode cX6_wake 45 = .ok (.aload_n 3, 1) := by decide +kernel
theorem dX6_wake_46 : decode cX6_wake 46 = .ok (.iload_n 1, 1) := by decide +kernel
theorem dX6_wake_47 : decode cX6_wake 47 = .ok (.iconst 1, 1) := by decide +kernel
theorem dX6_wake_48 : decode cX6_wake 48 = .ok (.iastore, 1) := by decide +kernel
theorem dX6_wake_49 : decode cX6_wake 49 = .ok (.aload_n 0, 1) := by decide +kernel
theorem dX6_wake_50 : decode cX6_wake 50 = .ok (.iload_n 1, 1) := by decide +kernel
theorem dX6_wake_51 : decode cX6_wake 51 = .ok (.iload_n 2, 1) := by decide +kernel
theorem dX6_wake_52 : decode cX6_wake 52 = .ok (.invokevirtual 257, 3) := by decide +kernel
theorem dX6_wake_55 : decode cX6_wake 55 = .ok (.istore 4, 2) := by decide +kernel
theorem dX6_wake_57 : decode cX6_wake 57 = .ok (.iload 4, 2) := by decide +kernel
theorem dX6_wake_59 : decode cX6_wake 59 = .ok (.ifCond .ne 11, 3) := by decide +kernel
theorem dX6_wake_62 : decode cX6_wake 62 = .ok (.aload_n 0, 1) := by decide +kernel
theorem dX6_wake_63 : decode cX6_wake 63 = .ok (.iload_n 1, 1) := by decide +kernel
theorem dX6_wake_64 : decode cX6_wake 64 = .ok (.iload_n 2, 1) := by decide +kernel
theorem dX6_wake_65 : decode cX6_wake 65 = .ok (.invokevirtual 260, 3) := by decide +kernel
theorem dX6_wake_68 : decode cX6_wake 68 = .ok (.istore 4, 2) := by decide +kernel
theorem dX6_wake_70 : decode cX6_wake 70 = .ok (.aload_n 3, 1) := by decide +kernel
theorem dX6_wake_71 : decode cX6_wake 71 = .ok (.iload_n 1, 1) := by decide +kernel
theorem dX6_wake_72 : decode cX6_wake 72 = .ok (.iload 4, 2) := by decide +kernel
theorem dX6_wake_74 : decode cX6_wake 74 = .ok (.ifCond .ne 7, 3) := by decide +kernel
theorem dX6_wake_77 : decode cX6_wake 77 = .ok (.iconst 2, 1) := by decide +kernel
theorem dX6_wake_78 : decode cX6_wake 78 = .ok (.goto 4, 3) := by decide +kernel
theorem dX6_wake_81 : decode cX6_wake 81 = .ok (.iconst 3, 1) := by decide +kernel
theorem dX6_wake_82 : decode cX6_wake 82 = .ok (.iastore, 1) := by decide +kernel
theorem dX6_wake_83 : decode cX6_wake 83 = .ok (.aload_n 0, 1) := by decide +kernel
theorem dX6_wake_84 : decode cX6_wake 84 = .ok (.getfield 38, 3) := by decide +kernel
theorem dX6_wake_87 : decode cX6_wake 87 = .ok (.iload_n 1, 1) := by decide +kernel
theorem dX6_wake_88 : decode cX6_wake 88 = .ok (.aload_n 0, 1) := by decide +kernel
theorem dX6_wake_89 : decode cX6_wake 89 = .ok (.getfield 117, 3) := by decide +kernel
theorem dX6_wake_92 : decode cX6_wake 92 = .ok (.iload 4, 2) := by decide +kernel
theorem dX6_wake_94 : decode cX6_wake 94 = .ok (.aload_n 0, 1) := by decide +kernel
theorem dX6_wake_95 : decode cX6_wake 95 = .ok (.getfield 31, 3) := by decide +kernel
theorem dX6_wake_98 : decode cX6_wake 98 = .ok (.getfield 198, 3) := by decide +kernel
theorem dX6_wake_101 : decode cX6_wake 101 = .ok (.invokevirtual 263, 3) := by decide +kernel
theorem dX6_wake_104 : decode cX6_wake 104 = .ok (.iload 4, 2) := by decide +kernel
theorem dX6_wake_106 : decode cX6_wake 106 = .ok (.ireturn, 1) := by decide +kernel
theorem dX6_wakeAbove_0 : decode cX6_wakeAbove 0 = .ok (.aload_n 0, 1) := by decide +kernel
theorem dX6_wakeAbove_1 : decode cX6_wakeAbove 1 = .ok (.getfield 11, 3) := by decide +kernel
theorem dX6_wakeAbove_4 : decode cX6_wakeAbove 4 = .ok (.iload_n 1, 1) := by decide +kernel
theorem dX6_wakeAbove_5 : decode cX6_wakeAbove 5 = .ok (.aaload, 1) := by decide +kernel
theorem dX6_wakeAbove_6 : decode cX6_wakeAbove 6 = .ok (.astore_n 3, 1) := by decide +kernel
theorem dX6_wakeAbove_7 : decode cX6_wakeAbove 7 = .ok (.aload_n 3, 1) := by decide +kernel
theorem dX6_wakeAbove_8 : decode cX6_wakeAbove 8 = .ok (.getfield 71, 3) := by decide +kernel
theorem dX6_wakeAbove_11 : decode cX6_wakeAbove 11 = .ok (.ifCond .eq 5, 3) := by decide +kernel
theorem dX6_wakeAbove_14 : decode cX6_wakeAbove 14 = .ok (.iconst 0, 1) := by decide +kernel
theorem dX6_wakeAbove_15 : decode cX6_wakeAbove 15 = .ok (.ireturn, 1) := by decide +kernel
theorem dX6_wakeAbove_16 : decode cX6_wakeAbove 16 = .ok (.aload_n 3, 1) := by decide +kernel
theorem dX6_wakeAbove_17 : decode cX6_wakeAbove 17 = .ok (.getfield 232, 3) := by decide +kernel
theorem dX6_wakeAbove_20 : decode cX6_wakeAbove 20 = .ok (.iconst (-1), 1) := by decide +kernel
theorem dX6_wakeAbove_21 : decode cX6_wakeAbove 21 = .ok (.if_icmp .ne 7, 3) := by decide +kernel
theorem dX6_wakeAbove_24 : decode cX6_wakeAbove 24 = .ok (.iconst 0, 1) := by decide +kernel
theorem dX6_wakeAbove_25 : decode cX6_wakeAbove 25 = .ok (.goto 14, 3) := by decide +kernel
theorem dX6_wakeAbove_28 : decode cX6_wakeAbove 28 = .ok (.aload_n 0, 1) := by decide +kernel
theorem dX6_wakeAbove_29 : decode cX6_wakeAbove 29 = .ok (.aload_n 3, 1) := by decide +kernel
theorem dX6_wakeAbove_30 : decode cX6_wakeAbove 30 = .ok (.getfield 232, 3) := by decide +kernel
theorem dX6_wakeAbove_33 : decode cX6_wakeAbove 33 = .ok (.iload_n 2, 1) := by decide +kernel
theorem dX6_wakeAbove_34 : decode cX6_wakeAbove 34 = .ok (.iconst 1, 1) := by decide +kernel
theorem dX6_wakeAbove_35 : decode cX6_wakeAbove 35 = .ok (.iadd, 1) := by decide +kernel
theorem dX6_wakeAbove_36 : decode cX6_wakeAbove 36 = .ok (.invokevirtual 251, 3) := by decide +kernel
theorem dX6_wakeAbove_39 : decode cX6_wakeAbove 39 = .ok (.istore 4, 2) := by decide +kernel
theorem dX6_wakeAbove_41 : decode cX6_wakeAbove 41 = .ok (.iconst 0, 1) := by decide +kernel
theorem dX6_wakeAbove_42 : decode cX6_wakeAbove 42 = .ok (.istore 5, 2) := by decide +kernel
theorem dX6_wakeAbove_44 : decode cX6_wakeAbove 44 = .ok (.iload 4, 2) := by decide +kernel
theorem dX6_wakeAbove_46 : decode cX6_wakeAbove 46 = .ok (.ifCond .ne 40, 3) := by decide +kernel
theorem dX6_wakeAbove_49 : decode cX6_wakeAbove 49 = .ok (.iload 5, 2) := by decide +kernel
theorem dX6_wakeAbove_51 : decode cX6_wakeAbove 51 = .ok (.aload_n 3, 1) := by decide +kernel
theorem dX6_wakeAbove_52 : decode cX6_wakeAbove 52 = .ok (.getfield 222, 3) := by decide +kernel
theorem dX6_wakeAbove_55 : decode cX6_wakeAbove 55 = .ok (.getfield 83, 3) := by decide +kernel
theorem dX6_wakeAbove_58 : decode cX6_wakeAbove 58 = .ok (.if_icmp .ge 28, 3) := by decide +kernel
theorem dX6_wakeAbove_61 : decode cX6_wakeAbove 61 = .ok (.aload_n 0, 1) := by decide +kernel
theorem dX6_wakeAbove_62 : decode cX6_wakeAbove 62 = .ok (.aload_n 3, 1) := by decide +kernel
theorem dX6_wakeAbove_63 : decode cX6_wakeAbove 63 = .ok (.getfield 222, 3) := by decide +kernel
theorem dX6_wakeAbove_66 : decode cX6_wakeAbove 66 = .ok (.getfield 225, 3) := by decide +kernel
theorem dX6_wakeAbove_69 : decode cX6_wakeAbove 69 = .ok (.iload 5, 2) := by decide +kernel
theorem dX6_wakeAbove_71 : decode cX6_wakeAbove 71 = .ok (.iaload, 1) := by decide +kernel
theorem dX6_wakeAbove_72 : decode cX6_wakeAbove 72 = .ok (.iload_n 2, 1) := by decide +kernel
theorem dX6_wakeAbove_73 : decode cX6_wakeAbove 73 = .ok (.iconst 1, 1) := by decide +kernel
theorem dX6_wakeAbove_74 : decode cX6_wakeAbove 74 = .ok (.iadd, 1) := by decide +kernel
theorem dX6_wakeAbove_75 : decode cX6_wakeAbove 75 = .ok (.invokevirtual 251, 3) := by decide +kernel
theorem dX6_wakeAbove_78 : decode cX6_wakeAbove 78 = .ok (.istore 4, 2) := by decide +kernel
theorem dX6_wakeAbove_80 : decode cX6_wakeAbove 80 = .ok (.iinc 5 1, 3) := by decide +kernel
theorem dX6_wakeAbove_83 : decode cX6_wakeAbove 83 = .ok (.goto (-39), 3) := by decide +kernel
theorem dX6_wakeAbove_86 : decode cX6_wakeAbove 86 = .ok (.iload 4, 2) := by decide +kernel
theorem dX6_wakeAbove_88 : decode cX6_wakeAbove 88 = .ok (.ireturn, 1) := by decide +kernel
theorem dX6_doLines_0 : decode cX6_doLines 0 = .ok (.iconst 0, 1) := by decide +kernel
theorem dX6_doLines_1 : decode cX6_doLines 1 = .ok (.istore_n 3, 1) := by decide +kernel
theorem dX6_doLines_2 : decode cX6_doLines 2 = .ok (.iconst 0, 1) := by decide +kernel
theorem dX6_doLines_3 : decode cX6_doLines 3 = .ok (.istore 4, 2) := by decide +kernel
theorem dX6_doLines_5 : decode cX6_doLines 5 = .ok (.iload_n 3, 1) := by decide +kernel
theorem dX6_doLines_6 : decode cX6_doLines 6 = .ok (.ifCond .ne 32, 3) := by decide +kernel
theorem dX6_doLines_9 : decode cX6_doLines 9 = .ok (.iload 4, 2) := by decide +kernel
theorem dX6_doLines_11 : decode cX6_doLines 11 = .ok (.aload_n 0, 1) := by decide +kernel
theorem dX6_doLines_12 : decode cX6_doLines 12 = .ok (.getfield 11, 3) := by decide +kernel
theorem dX6_doLines_15 : decode cX6_doLines 15 = .ok (.iload_n 1, 1) := by decide +kernel
theorem dX6_doLines_16 : decode cX6_doLines 16 = .ok (.aaload, 1) := by decide +kernel
theorem dX6_doLines_17 : decode cX6_doLines 17 = .ok (.getfield 106, 3) := by decide +kernel
theorem dX6_doLines_20 : decode cX6_doLines 20 = .ok (.if_icmp .ge 18, 3) := by decide +kernel
theorem dX6_doLines_23 : decode cX6_doLines 23 = .ok (.aload_n 0, 1) := by decide +kernel
theorem dX6_doLines_24 : decode cX6_doLines 24 = .ok (.iload_n 1, 1) := by decide +kernel
theorem dX6_doLines_25 : decode cX6_doLines 25 = .ok (.iload 4, 2) := by decide +kernel
theorem dX6_doLines_27 : decode cX6_doLines 27 = .ok (.iload_n 2, 1) := by decide +kernel
theorem dX6_doLines_28 : decode cX6_doLines 28 = .ok (.invokevirtual 267, 3) := by decide +kernel
theorem dX6_doLines_31 : decode cX6_doLines 31 = .ok (.istore_n 3, 1) := by decide +kernel
theorem dX6_doLines_32 : decode cX6_doLines 32 = .ok (.iinc 4 1, 3) := by decide +kernel
theorem dX6_doLines_35 : decode cX6_doLines 35 = .ok (.goto (-30), 3) := by decide +kernel
theorem dX6_doLines_38 : decode cX6_doLines 38 = .ok (.iload_n 3, 1) := by decide +kernel
theorem dX6_doLines_39 : decode cX6_doLines 39 = .ok (.ireturn, 1) := by decide +kernel
theorem dX6_doLine_0 : decode cX6_doLine 0 = .ok (.aload_n 0, 1) := by decide +kernel
theorem dX6_doLine_1 : decode cX6_doLine 1 = .ok (.getfield 11, 3) := by decide +kernel
theorem dX6_doLine_4 : decode cX6_doLine 4 = .ok (.iload_n 1, 1) := by decide +kernel
theorem dX6_doLine_5 : decode cX6_doLine 5 = .ok (.aaload, 1) := by decide +kernel
theorem dX6_doLine_6 : decode cX6_doLine 6 = .ok (.astore 4, 2) := by decide +kernel
theorem dX6_doLine_8 : decode cX6_doLine 8 = .ok (.aload 4, 2) := by decide +kernel
theorem dX6_doLine_10 : decode cX6_doLine 10 = .ok (.getfield 270, 3) := by decide +kernel
theorem dX6_doLine_13 : decode cX6_doLine 13 = .ok (.iload_n 2, 1) := by decide +kernel
theorem dX6_doLine_14 : decode cX6_doLine 14 = .ok (.iaload, 1) := by decide +kernel
theorem dX6_doLine_15 : decode cX6_doLine 15 = .ok (.istore 5, 2) := by decide +kernel
theorem dX6_doLine_17 : decode cX6_doLine 17 = .ok (.aload 4, 2) := by decide +kernel
theorem dX6_doLine_19 : decode cX6_doLine 19 = .ok (.getfield 273, 3) := by decide +kernel
theorem dX6_doLine_22 : decode cX6_doLine 22 = .ok (.iload_n 2, 1) := by decide +kernel
theorem dX6_doLine_23 : decode cX6_doLine 23 = .ok (.iaload, 1) := by decide +kernel
theorem dX6_doLine_24 : decode cX6_doLine 24 = .ok (.istore 6, 2) := by decide +kernel
theorem dX6_doLine_26 : decode cX6_doLine 26 = .ok (.aload_n 0, 1) := by decide +kernel
theorem dX6_doLine_27 : decode cX6_doLine 27 = .ok (.aload 4, 2) := by decide +kernel
theorem dX6_doLine_29 : decode cX6_doLine 29 = .ok (.getfield 276, 3) := by decide +kernel
theorem dX6_doLine_32 : decode cX6_doLine 32 = .ok (.iload_n 2, 1) := by decide +kernel
theorem dX6_doLine_33 : decode cX6_doLine 33 = .ok (.iaload, 1) := by decide +kernel
theorem dX6_doLine_34 : decode cX6_doLine 34 = .ok (.iconst 4, 1) := by decide +kernel
theorem dX6_doLine_35 : decode cX6_doLine 35 = .ok (.if_icmp .ne 10, 3) := by decide +kernel
theorem dX6_doLine_38 : decode cX6_doLine 38 = .ok (.iconst 1, 1) := by decide +kernel
theorem dX6_doLine_39 : decode cX6_doLine 39 = .ok (.iload 5, 2) := by decide +kernel
theorem dX6_doLine_41 : decode cX6_doLine 41 = .ok (.iadd, 1) := by decide +kernel
theorem dX6_doLine_42 : decode cX6_doLine 42 = .ok (.goto 4, 3) := by decide +kernel
theorem dX6_doLine_45 : decode cX6_doLine 45 = .ok (.iconst 1, 1) := by decide +kernel
theorem dX6_doLine_46 : decode cX6_doLine 46 = .ok (.invokevirtual 279, 3) := by decide +kernel
theorem dX6_doLine_49 : decode cX6_doLine 49 = .ok (.ifCond .ne 6, 3) := by decide +kernel
theorem dX6_doLine_52 : decode cX6_doLine 52 = .ok (.bipush 17, 2) := by decide +kernel
theorem dX6_doLine_54 : decode cX6_doLine 54 = .ok (.ireturn, 1) := by decide +kernel
theorem dX6_doLine_55 : decode cX6_doLine 55 = .ok (.aload 4, 2) := by decide +kernel
theorem dX6_doLine_57 : decode cX6_doLine 57 = .ok (.getfield 276, 3) := by decide +kernel
theorem dX6_doLine_60 : decode cX6_doLine 60 = .ok (.iload_n 2, 1) := by decide +kernel
theorem dX6_doLine_61 : decode cX6_doLine 61 = .ok (.iaload, 1) := by decide +kernel
theorem dX6_doLine_62 : decode cX6_doLine 62 = .ok (.tableswitch 116 0 6 #[42, 52, 72, 82, 116, 88, 99], 42) := by decide +kernel
theorem dX6_doLine_104 : decode cX6_doLine 104 = .ok (.aload_n 0, 1) := by decide +kernel
theorem dX6_doLine_105 : decode cX6_doLine 105 = .ok (.iload_n 1, 1) := by decide +kernel
theorem dX6_doLine_106 : decode cX6_doLine 106 = .ok (.iload 5, 2) := by decide +kernel
theorem dX6_doLine_108 : decode cX6_doLine 108 = .ok (.iload 6, 2) := by decide +kernel
theorem dX6_doLine_110 : decode cX6_doLine 110 = .ok (.invokevirtual 248, 3) := by decide +kernel
theorem dX6_doLine_113 : decode cX6_doLine 113 = .ok (.ireturn, 1) := by decide +kernel
theorem dX6_doLine_114 : decode cX6_doLine 114 = .ok (.aload_n 0, 1) := by decide +kernel
theorem dX6_doLine_115 : decode cX6_doLine 115 = .ok (.iload_n 1, 1) := by decide +kernel
theorem dX6_doLine_116 : decode cX6_doLine 116 = .ok (.iload 5, 2) := by decide +kernel
theorem dX6_doLine_118 : decode cX6_doLine 118 = .ok (.iload 6, 2) := by decide +kernel
theorem dX6_doLine_120 : decode cX6_doLine 120 = .ok (.aload 4, 2) := by decide +kernel
theorem dX6_doLine_122 : decode cX6_doLine 122 = .ok (.getfield 282, 3) := by decide +kernel
theorem dX6_doLine_125 : decode cX6_doLine 125 = .ok (.iload_n 2, 1) := by decide +kernel
theorem dX6_doLine_126 : decode cX6_doLine 126 = .ok (.iaload, 1) := by decide +kernel
theorem dX6_doLine_127 : decode cX6_doLine 127 = .ok (.iload_n 3, 1) := by decide +kernel
theorem dX6_doLine_128 : decode cX6_doLine 128 = .ok (.iconst 1, 1) := by decide +kernel
theorem dX6_doLine_129 : decode cX6_doLine 129 = .ok (.iadd, 1) := by decide +kernel
theorem dX6_doLine_130 : decode cX6_doLine 130 = .ok (.invokevirtual 285, 3) := by decide +kernel
theorem dX6_doLine_133 : decode cX6_doLine 133 = .ok (.ireturn, 1) := by decide +kernel
theorem dX6_doLine_134 : decode cX6_doLine 134 = .ok (.aload_n 0, 1) := by decide +kernel
theorem dX6_doLine_135 : decode cX6_doLine 135 = .ok (.iload 5, 2) := by decide +kernel
theorem dX6_doLine_137 : decode cX6_doLine 137 = .ok (.iload_n 3, 1) := by decide +kernel
theorem dX6_doLine_138 : decode cX6_doLine 138 = .ok (.iconst 1, 1) := by decide +kernel
theorem dX6_doLine_139 : decode cX6_doLine 139 = .ok (.iadd, 1) := by decide +kernel
theorem dX6_doLine_140 : decode cX6_doLine 140 = .ok (.invokevirtual 245, 3) := by decide +kernel
theorem dX6_doLine_143 : decode cX6_doLine 143 = .ok (.ireturn, 1) := by decide +kernel
theorem dX6_doLine_144 : decode cX6_doLine 144 = .ok (.bipush 10, 2) := by decide +kernel
theorem dX6_doLine_146 : decode cX6_doLine 146 = .ok (.iload 5, 2) := by decide +kernel
theorem dX6_doLine_148 : decode cX6_doLine 148 = .ok (.iadd, 1) := by decide +kernel
theorem dX6_doLine_149 : decode cX6_doLine 149 = .ok (.ireturn, 1) := by decide +kernel
theorem dX6_doLine_150 : decode cX6_doLine 150 = .ok (.aload_n 0, 1) := by decide +kernel
theorem dX6_doLine_151 : decode cX6_doLine 151 = .ok (.getfield 38, 3) := by decide +kernel
theorem dX6_doLine_154 : decode cX6_doLine 154 = .ok (.iload 5, 2) := by decide +kernel
theorem dX6_doLine_156 : decode cX6_doLine 156 = .ok (.invokevirtual 288, 3) := by decide +kernel
theorem dX6_doLine_159 : decode cX6_doLine 159 = .ok (.iconst 0, 1) := by decide +kernel
theorem dX6_doLine_160 : decode cX6_doLine 160 = .ok (.ireturn, 1) := by decide +kernel
theorem dX6_doLine_161 : decode cX6_doLine 161 = .ok (.aload_n 0, 1) := by decide +kernel
theorem dX6_doLine_162 : decode cX6_doLine 162 = .ok (.iload_n 1, 1) := by decide +kernel
theorem dX6_doLine_163 : decode cX6_doLine 163 = .ok (.iload 5, 2) := by decide +kernel
theorem dX6_doLine_165 : decode cX6_doLine 165 = .ok (.aload_n 0, 1) := by decide +kernel
theorem dX6_doLine_166 : decode cX6_doLine 166 = .ok (.iload 6, 2) := by decide +kernel
theorem dX6_doLine_168 : decode cX6_doLine 168 = .ok (.iload_n 3, 1) := by decide +kernel
theorem dX6_doLine_169 : decode cX6_doLine 169 = .ok (.iconst 1, 1) := by decide +kernel
theorem dX6_doLine_170 : decode cX6_doLine 170 = .ok (.iadd, 1) := by decide +kernel
theorem dX6_doLine_171 : decode cX6_doLine 171 = .ok (.invokevirtual 245, 3) := by decide +kernel
theorem dX6_doLine_174 : decode cX6_doLine 174 = .ok (.invokevirtual 248, 3) := by decide +kernel
theorem dX6_doLine_177 : decode cX6_doLine 177 = .ok (.ireturn, 1) := by decide +kernel
theorem dX6_doLine_178 : decode cX6_doLine 178 = .ok (.iconst 0, 1) := by decide +kernel
theorem dX6_doLine_179 : decode cX6_doLine 179 = .ok (.ireturn, 1) := by decide +kernel
theorem dX6_askAndAdd_0 : decode cX6_askAndAdd 0 = .ok (.aload_n 0, 1) := by decide +kernel
theorem dX6_askAndAdd_1 : decode cX6_askAndAdd 1 = .ok (.iload_n 3, 1) := by decide +kernel
theorem dX6_askAndAdd_2 : decode cX6_askAndAdd 2 = .ok (.iload 4, 2) := by decide +kernel
theorem dX6_askAndAdd_4 : decode cX6_askAndAdd 4 = .ok (.iload 5, 2) := by decide +kernel
theorem dX6_askAndAdd_6 : decode cX6_askAndAdd 6 = .ok (.invokevirtual 238, 3) := by decide +kernel
theorem dX6_askAndAdd_9 : decode cX6_askAndAdd 9 = .ok (.istore 6, 2) := by decide +kernel
theorem dX6_askAndAdd_11 : decode cX6_askAndAdd 11 = .ok (.iload 6, 2) := by decide +kernel
theorem dX6_askAndAdd_13 : decode cX6_askAndAdd 13 = .ok (.ifCond .ne 31, 3) := by decide +kernel
theorem dX6_askAndAdd_16 : decode cX6_askAndAdd 16 = .ok (.aload_n 0, 1) := by decide +kernel
theorem dX6_askAndAdd_17 : decode cX6_askAndAdd 17 = .ok (.iload_n 1, 1) := by decide +kernel
theorem dX6_askAndAdd_18 : decode cX6_askAndAdd 18 = .ok (.iload_n 2, 1) := by decide +kernel
theorem dX6_askAndAdd_19 : decode cX6_askAndAdd 19 = .ok (.aload_n 0, 1) := by decide +kernel
theorem dX6_askAndAdd_20 : decode cX6_askAndAdd 20 = .ok (.aload_n 0, 1) := by decide +kernel
theorem dX6_askAndAdd_21 : decode cX6_askAndAdd 21 = .ok (.getfield 117, 3) := by decide +kernel
theorem dX6_askAndAdd_24 : decode cX6_askAndAdd 24 = .ok (.iload_n 1, 1) := by decide +kernel
theorem dX6_askAndAdd_25 : decode cX6_askAndAdd 25 = .ok (.invokevirtual 146, 3) := by decide +kernel
theorem dX6_askAndAdd_28 : decode cX6_askAndAdd 28 = .ok (.iload_n 1, 1) := by decide +kernel
theorem dX6_askAndAdd_29 : decode cX6_askAndAdd 29 = .ok (.iload_n 2, 1) := by decide +kernel
theorem dX6_askAndAdd_30 : decode cX6_askAndAdd 30 = .ok (.invokevirtual 160, 3) := by decide +kernel
theorem dX6_askAndAdd_33 : decode cX6_askAndAdd 33 = .ok (.aload_n 0, 1) := by decide +kernel
theorem dX6_askAndAdd_34 : decode cX6_askAndAdd 34 = .ok (.getfield 123, 3) := by decide +kernel
theorem dX6_askAndAdd_37 : decode cX6_askAndAdd 37 = .ok (.iadd, 1) := by decide +kernel
theorem dX6_askAndAdd_38 : decode cX6_askAndAdd 38 = .ok (.invokevirtual 248, 3) := by decide +kernel
theorem dX6_askAndAdd_41 : decode cX6_askAndAdd 41 = .ok (.goto 5, 3) := by decide +kernel
theorem dX6_askAndAdd_44 : decode cX6_askAndAdd 44 = .ok (.iload 6, 2) := by decide +kernel
theorem dX6_askAndAdd_46 : decode cX6_askAndAdd 46 = .ok (.ireturn, 1) := by decide +kernel
theorem dX6_takeSteps_0 : decode cX6_takeSteps 0 = .ok (.aload_n 0, 1) := by decide +kernel
theorem dX6_takeSteps_1 : decode cX6_takeSteps 1 = .ok (.getfield 17, 3) := by decide +kernel
theorem dX6_takeSteps_4 : decode cX6_takeSteps 4 = .ok (.aload_n 0, 1) := by decide +kernel
theorem dX6_takeSteps_5 : decode cX6_takeSteps 5 = .ok (.getfield 117, 3) := by decide +kernel
theorem dX6_takeSteps_8 : decode cX6_takeSteps 8 = .ok (.aaload, 1) := by decide +kernel
theorem dX6_takeSteps_9 : decode cX6_takeSteps 9 = .ok (.getfield 183, 3) := by decide +kernel
theorem dX6_takeSteps_12 : decode cX6_takeSteps 12 = .ok (.iload_n 1, 1) := by decide +kernel
theorem dX6_takeSteps_13 : decode cX6_takeSteps 13 = .ok (.if_icmp .ge 5, 3) := by decide +kernel
theorem dX6_takeSteps_16 : decode cX6_takeSteps 16 = .ok (.iconst 0, 1) := by decide +kernel
theorem dX6_takeSteps_17 : decode cX6_takeSteps 17 = .ok (.ireturn, 1) := by decide +kernel
theorem dX6_takeSteps_18 : decode cX6_takeSteps 18 = .ok (.aload_n 0, 1) := by decide +kernel
theorem dX6_takeSteps_19 : decode cX6_takeSteps 19 = .ok (.getfield 17, 3) := by decide +kernel
theorem dX6_takeSteps_22 : decode cX6_takeSteps 22 = .ok (.aload_n 0, 1) := by decide +kernel
theorem dX6_takeSteps_23 : decode cX6_takeSteps 23 = .ok (.getfield 117, 3) := by decide +kernel
theorem dX6_takeSteps_26 : decode cX6_takeSteps 26 = .ok (.aaload, 1) := by decide +kernel
theorem dX6_takeSteps_27 : decode cX6_takeSteps 27 = .ok (.dup, 1) := by decide +kernel
theorem dX6_takeSteps_28 : decode cX6_takeSteps 28 = .ok (.getfield 183, 3) := by decide +kernel
theorem dX6_takeSteps_31 : decode cX6_takeSteps 31 = .ok (.iload_n 1, 1) := by decide +kernel
theorem dX6_takeSteps_32 : decode cX6_takeSteps 32 = .ok (.isub, 1) := by decide +kernel
theorem dX6_takeSteps_33 : decode cX6_takeSteps 33 = .ok (.putfield 183, 3) := by decide +kernel
theorem dX6_takeSteps_36 : decode cX6_takeSteps 36 = .ok (.aload_n 0, 1) := by decide +kernel
theorem dX6_takeSteps_37 : decode cX6_takeSteps 37 = .ok (.dup, 1) := by decide +kernel
theorem dX6_takeSteps_38 : decode cX6_takeSteps 38 = .ok (.getfield 199, 3) := by decide +kernel
theorem dX6_takeSteps_41 : decode cX6_takeSteps 41 = .ok (.iload_n 1, 1) := by decide +kernel
theorem dX6_takeSteps_42 : decode cX6_takeSteps 42 = .ok (.iadd, 1) := by decide +kernel
theorem dX6_takeSteps_43 : decode cX6_takeSteps 43 = .ok (.putfield 199, 3) := by decide +kernel
theorem dX6_takeSteps_46 : decode cX6_takeSteps 46 = .ok (.iconst 1, 1) := by decide +kernel
theorem dX6_takeSteps_47 : decode cX6_takeSteps 47 = .ok (.ireturn, 1) := by decide +kernel
theorem dJx00060_init_a7421_0 : decode cJx00060_init_a7421 0 = .ok (.aload_n 0, 1) := by decide +kernel
theorem dJx00060_init_a7421_1 : decode cJx00060_init_a7421 1 = .ok (.aload_n 1, 1) := by decide +kernel
theorem dJx00060_init_a7421_2 : decode cJx00060_init_a7421 2 = .ok (.invokespecial 7, 3) := by decide +kernel
theorem dJx00060_init_a7421_5 : decode cJx00060_init_a7421 5 = .ok (.return_, 1) := by decide +kernel
theorem dJ7_fill_53178_0 : decode cJ7_fill_53178 0 = .ok (.iconst 0, 1) := by decide +kernel
theorem dJ7_fill_53178_1 : decode cJ7_fill_53178 1 = .ok (.istore_n 2, 1) := by decide +kernel
theorem dJ7_fill_53178_2 : decode cJ7_fill_53178 2 = .ok (.aload_n 0, 1) := by decide +kernel
theorem dJ7_fill_53178_3 : decode cJ7_fill_53178 3 = .ok (.arraylength, 1) := by decide +kernel
theorem dJ7_fill_53178_4 : decode cJ7_fill_53178 4 = .ok (.istore_n 3, 1) := by decide +kernel
theorem dJ7_fill_53178_5 : decode cJ7_fill_53178 5 = .ok (.iload_n 2, 1) := by decide +kernel
theorem dJ7_fill_53178_6 : decode cJ7_fill_53178 6 = .ok (.iload_n 3, 1) := by decide +kernel
theorem dJ7_fill_53178_7 : decode cJ7_fill_53178 7 = .ok (.if_icmp .ge 13, 3) := by decide +kernel
theorem dJ7_fill_53178_10 : decode cJ7_fill_53178 10 = .ok (.aload_n 0, 1) := by decide +kernel
theorem dJ7_fill_53178_11 : decode cJ7_fill_53178 11 = .ok (.iload_n 2, 1) := by decide +kernel
theorem dJ7_fill_53178_12 : decode cJ7_fill_53178 12 = .ok (.iload_n 1, 1) := by decide +kernel
theorem dJ7_fill_53178_13 : decode cJ7_fill_53178 13 = .ok (.iastore, 1) := by decide +kernel
theorem dJ7_fill_53178_14 : decode cJ7_fill_53178 14 = .ok (.iinc 2 1, 3) := by decide +kernel
theorem dJ7_fill_53178_17 : decode cJ7_fill_53178 17 = .ok (.goto (-12), 3) := by decide +kernel
theorem dJ7_fill_53178_20 : decode cJ7_fill_53178 20 = .ok (.return_, 1) := by decide +kernel
end
section
theorem dX7_init_0 : decode cX7_init 0 = .ok (.aload_n 0, 1) := by decide +kernel
theorem dX7_init_1 : decode cX7_init 1 = .ok (.invokespecial 1, 3) := by decide +kernel
theorem dX7_init_4 : decode cX7_init 4 = .ok (.aload_n 0, 1) := by decide +kernel
theorem dX7_init_5 : decode cX7_init 5 = .ok (.bipush 16, 2) := by decide +kernel
theorem dX7_init_7 : decode cX7_init 7 = .ok (.newarray .int, 2) := by decide +kernel
theorem dX7_init_9 : decode cX7_init 9 = .ok (.putfield 7, 3) := by decide +kernel
theorem dX7_init_12 : decode cX7_init 12 = .ok (.aload_n 0, 1) := by decide +kernel
theorem dX7_init_13 : decode cX7_init 13 = .ok (.bipush 16, 2) := by decide +kernel
theorem dX7_init_15 : decode cX7_init 15 = .ok (.newarray .int, 2) := by decide +kernel
theorem dX7_init_17 : decode cX7_init 17 = .ok (.putfield 13, 3) := by decide +kernel
theorem dX7_init_20 : decode cX7_init 20 = .ok (.aload_n 0, 1) := by decide +kernel
theorem dX7_init_21 : decode cX7_init 21 = .ok (.bipush 16, 2) := by decide +kernel
theorem dX7_init_23 : decode cX7_init 23 = .ok (.newarray .boolean, 2) := by decide +kernel
theorem dX7_init_25 : decode cX7_init 25 = .ok (.putfield 16, 3) := by decide +kernel
theorem dX7_init_28 : decode cX7_init 28 = .ok (.aload_n 0, 1) := by decide +kernel
theorem dX7_init_29 : decode cX7_init 29 = .ok (.bipush 16, 2) := by decide +kernel
theorem dX7_init_31 : decode cX7_init 31 = .ok (.newarray .int, 2) := by decide +kernel
theorem dX7_init_33 : decode cX7_init 33 = .ok (.putfield 20, 3) := by decide +kernel
theorem dX7_init_36 : decode cX7_init 36 = .ok (.aload_n 0, 1) := by decide +kernel
theorem dX7_init_37 : decode cX7_init 37 = .ok (.bipush 48, 2) := by decide +kernel
theorem dX7_init_39 : decode cX7_init 39 = .ok (.newarray .int, 2) := by decide +kernel
theorem dX7_init_41 : decode cX7_init 41 = .ok (.putfield 23, 3) := by decide +kernel
theorem dX7_init_44 : decode cX7_init 44 = .ok (.aload_n 0, 1) := by decide +kernel
theorem dX7_init_45 : decode cX7_init 45 = .ok (.bipush 80, 2) := by decide +kernel
theorem dX7_init_47 : decode cX7_init 47 = .ok (.newarray .int, 2) := by decide +kernel
theorem dX7_init_49 : decode cX7_init 49 = .ok (.putfield 26, 3) := by decide +kernel
theorem dX7_init_52 : decode cX7_init 52 = .ok (.aload_n 0, 1) := by decide +kernel
theorem dX7_init_53 : decode cX7_init 53 = .ok (.bipush 80, 2) := by decide +kernel
theorem dX7_init_55 : decode cX7_init 55 = .ok (.newarray .int, 2) := by decide +kernel
theorem dX7_init_57 : decode cX7_init 57 = .ok (.putfield 29, 3) := by decide +kernel
theorem dX7_init_60 : decode cX7_init 60 = .ok (.aload_n 0, 1) := by decide +kernel
theorem dX7_init_61 : decode cX7_init 61 = .ok (.bipush 16, 2) := by decide +kernel
theorem dX7_init_63 : decode cX7_init 63 = .ok (.newarray .int, 2) := by decide +kernel
theorem dX7_init_65 : decode cX7_init 65 = .ok (.putfield 32, 3) := by decide +kernel
theorem dX7_init_68 : decode cX7_init 68 = .ok (.aload_n 0, 1) := by decide +kernel
theorem dX7_init_69 : decode cX7_init 69 = .ok (.sipush 512, 3) := by decide +kernel
theorem dX7_init_72 : decode cX7_init 72 = .ok (.newarray .int, 2) := by decide +kernel
theorem dX7_init_74 : decode cX7_init 74 = .ok (.putfield 35, 3) := by decide +kernel
theorem dX7_init_77 : decode cX7_init 77 = .ok (.aload_n 0, 1) := by decide +kernel
theorem dX7_init_78 : decode cX7_init 78 = .ok (.bipush 80, 2) := by decide +kernel
theorem dX7_init_80 : decode cX7_init 80 = .ok (.newarray .int, 2) := by decide +kernel
theorem dX7_init_82 : decode cX7_init 82 = .ok (.putfield 38, 3) := by decide +kernel
theorem dX7_init_85 : decode cX7_init 85 = .ok (.aload_n 0, 1) := by decide +kernel
theorem dX7_init_86 : decode cX7_init 86 = .ok (.sipush 400, 3) := by decide +kernel
theorem dX7_init_89 : decode cX7_init 89 = .ok (.newarray .int, 2) := by decide +kernel
theorem dX7_init_91 : decode cX7_init 91 = .ok (.putfield 41, 3) := by decide +kernel
theorem dX7_init_94 : decode cX7_init 94 = .ok (.aload_n 0, 1) := by decide +kernel
theorem dX7_init_95 : decode cX7_init 95 = .ok (.bipush 64, 2) := by decide +kernel
theorem dX7_init_97 : decode cX7_init 97 = .ok (.newarray .int, 2) := by decide +kernel
theorem dX7_init_99 : decode cX7_init 99 = .ok (.putfield 44, 3) := by decide +kernel
theorem dX7_init_102 : decode cX7_init 102 = .ok (.aload_n 0, 1) := by decide +kernel
theorem dX7_init_103 : decode cX7_init 103 = .ok (.iconst 4, 1) := by decide +kernel
theorem dX7_init_104 : decode cX7_init 104 = .ok (.newarray .int, 2) := by decide +kernel
theorem dX7_init_106 : decode cX7_init 106 = .ok (.putfield 47, 3) := by decide +kernel
theorem dX7_init_109 : decode cX7_init 109 = .ok (.aload_n 0, 1) := by decide +kernel
theorem dX7_init_110 : decode cX7_init 110 = .ok (.sipush 600, 3) := by decide +kernel
theorem dX7_init_113 : decode cX7_init 113 = .ok (.newarray .int, 2) := by decide +kernel
theorem dX7_init_115 : decode cX7_init 115 = .ok (.putfield 50, 3) := by decide +kernel
theorem dX7_init_118 : decode cX7_init 118 = .ok (.aload_n 0, 1) := by decide +kernel
theorem dX7_init_119 : decode cX7_init 119 = .ok (.bipush 100, 2) := by decide +kernel
theorem dX7_init_121 : decode cX7_init 121 = .ok (.newarray .int, 2) := by decide +kernel
theorem dX7_init_123 : decode cX7_init 123 = .ok (.putfield 53, 3) := by decide +kernel
theorem dX7_init_126 : decode cX7_init 126 = .ok (.aload_n 0, 1) := by decide +kernel
theorem dX7_init_127 : decode cX7_init 127 = .ok (.iconst 4, 1) := by decide +kernel
theorem dX7_init_128 : decode cX7_init 128 = .ok (.newarray .int, 2) := by decide +kernel
theorem dX7_init_130 : decode cX7_init 130 = .ok (.putfield 56, 3) := by decide +kernel
theorem dX7_init_133 : decode cX7_init 133 = .ok (.aload_n 0, 1) := by decide +kernel
theorem dX7_init_134 : decode cX7_init 134 = .ok (.sipush 2400, 3) := by decide +kernel
theorem dX7_init_137 : decode cX7_init 137 = .ok (.newarray .int, 2) := by decide +kernel
theorem dX7_init_139 : decode cX7_init 139 = .ok (.putfield 59, 3) := by decide +kernel
theorem dX7_init_142 : decode cX7_init 142 = .ok (.aload_n 0, 1) := by decide +kernel
theorem dX7_init_143 : decode cX7_init 143 = .ok (.sipush 2400, 3) := by decide +kernel
theorem dX7_init_146 : decode cX7_init 146 = .ok (.newarray .int, 2) := by decide +kernel
theorem dX7_init_148 : decode cX7_init 148 = .ok (.putfield 62, 3) := by decide +kernel
theorem dX7_init_151 : decode cX7_init 151 = .ok (.aload_n 0, 1) := by decide +kernel
theorem dX7_init_152 : decode cX7_init 152 = .ok (.bipush 16, 2) := by decide +kernel
theorem dX7_init_154 : decode cX7_init 154 = .ok (.newarray .int, 2) := by decide +kernel
theorem dX7_init_156 : decode cX7_init 156 = .ok (.putfield 65, 3) := by decide +kernel
theorem dX7_init_159 : decode cX7_init 159 = .ok (.aload_n 0, 1) := by decide +kernel
theorem dX7_init_160 : decode cX7_init 160 = .ok (.bipush 16, 2) := by decide +kernel
theorem dX7_init_162 : decode cX7_init 162 = .ok (.newarray .int, 2) := by decide +kernel
theorem dX7_init_164 : decode cX7_init 164 = .ok (.putfield 68, 3) := by decide +kernel
theorem dX7_init_167 : decode cX7_init 167 = .ok (.aload_n 0, 1) := by decide +kernel
theorem dX7_init_168 : decode cX7_init 168 = .ok (.bipush 16, 2) := by decide +kernel
theorem dX7_init_170 : decode cX7_init 170 = .ok (.newarray .int, 2) := by decide +kernel
theorem dX7_init_172 : decode cX7_init 172 = .ok (.putfield 71, 3) := by decide +kernel
theorem dX7_init_175 : decode cX7_init 175 = .ok (.aload_n 0, 1) := by decide +kernel
theorem dX7_init_176 : decode cX7_init 176 = .ok (.bipush 16, 2) := by decide +kernel
theorem dX7_init_178 : decode cX7_init 178 = .ok (.newarray .int, 2) := by decide +kernel
theorem dX7_init_180 : decode cX7_init 180 = .ok (.putfield 74, 3) := by decide +kernel
theorem dX7_init_183 : decode cX7_init 183 = .ok (.aload_n 0, 1) := by decide +kernel
theorem dX7_init_184 : decode cX7_init 184 = .ok (.bipush 16, 2) := by decide +kernel
theorem dX7_init_186 : decode cX7_init 186 = .ok (.newarray .int, 2) := by decide +kernel
theorem dX7_init_188 : decode cX7_init 188 = .ok (.putfield 77, 3) := by decide +kernel
theorem dX7_init_191 : decode cX7_init 191 = .ok (.aload_n 0, 1) := by decide +kernel
theorem dX7_init_192 : decode cX7_init 192 = .ok (.sipush 256, 3) := by decide +kernel
theorem dX7_init_195 : decode cX7_init 195 = .ok (.newarray .int, 2) := by decide +kernel
theorem dX7_init_197 : decode cX7_init 197 = .ok (.putfield 80, 3) := by decide +kernel
theorem dX7_init_200 : decode cX7_init 200 = .ok (.aload_n 0, 1) := by decide +kernel
theorem dX7_init_201 : decode cX7_init 201 = .ok (.bipush 16, 2) := by decide +kernel
theorem dX7_init_203 : decode cX7_init 203 = .ok (.newarray .int, 2) := by decide +kernel
theorem dX7_init_205 : decode cX7_init 205 = .ok (.putfield 83, 3) := by decide +kernel
theorem dX7_init_208 : decode cX7_init 208 = .ok (.aload_n 0, 1) := by decide +kernel
theorem dX7_init_209 : decode cX7_init 209 = .ok (.bipush 16, 2) := by decide +kernel
theorem dX7_init_211 : decode cX7_init 211 = .ok (.newarray .boolean, 2) := by decide +kernel
theorem dX7_init_213 : decode cX7_init 213 = .ok (.putfield 86, 3) := by decide +kernel
theorem dX7_init_216 : decode cX7_init 216 = .ok (.aload_n 0, 1) := by decide +kernel
theorem dX7_init_217 : decode cX7_init 217 = .ok (.bipush 17, 2) := by decide +kernel
theorem dX7_init_219 : decode cX7_init 219 = .ok (.newarray .int, 2) := by decide +kernel
theorem dX7_init_221 : decode cX7_init 221 = .ok (.putfield 89, 3) := by decide +kernel
theorem dX7_init_224 : decode cX7_init 224 = .ok (.aload_n 0, 1) := by decide +kernel
theorem dX7_init_225 : decode cX7_init 225 = .ok (.bipush 17, 2) := by decide +kernel
theorem dX7_init_227 : decode cX7_init 227 = .ok (.newarray .int, 2) := by decide +kernel
theorem dX7_init_229 : decode cX7_init 229 = .ok (.putfield 92, 3) := by decide +kernel
theorem dX7_init_232 : decode cX7_init 232 = .ok (.aload_n 0, 1) := by decide +kernel
theorem dX7_init_233 : decode cX7_init 233 = .ok (.bipush 80, 2) := by decide +kernel
theorem dX7_init_235 : decode cX7_init 235 = .ok (.newarray .int, 2) := by decide +kernel
theorem dX7_init_237 : decode cX7_init 237 = .ok (.putfield 95, 3) := by decide +kernel
theorem dX7_init_240 : decode cX7_init 240 = .ok (.aload_n 0, 1) := by decide +kernel
theorem dX7_init_241 : decode cX7_init 241 = .ok (.invokevirtual 98, 3) := by decide +kernel
theorem dX7_init_244 : decode cX7_init 244 = .ok (.return_, 1) := by decide +kernel
theorem dX7_begins_0 : decode cX7_begins 0 = .ok (.aload_n 0, 1) := by decide +kernel
theorem dX7_begins_1 : decode cX7_begins 1 = .ok (.iconst 0, 1) := by decide +kernel
theorem dX7_begins_2 : decode cX7_begins 2 = .ok (.putfield 101, 3) := by decide +kernel
theorem dX7_begins_5 : decode cX7_begins 5 = .ok (.aload_n 0, 1) := by decide +kernel
theorem dX7_begins_6 : decode cX7_begins 6 = .ok (.iconst 0, 1) := by decide +kernel
theorem dX7_begins_7 : decode cX7_begins 7 = .ok (.putfield 105, 3) := by decide +kernel
theorem dX7_begins_10 : decode cX7_begins 10 = .ok (.aload_n 0, 1) := by decide +kernel
theorem dX7_begins_11 : decode cX7_begins 11 = .ok (.iconst 0, 1) := by decide +kernel
theorem dX7_begins_12 : decode cX7_begins 12 = .ok (.putfield 108, 3) := by decide +kernel
theorem dX7_begins_15 : decode cX7_begins 15 = .ok (.aload_n 0, 1) := by decide +kernel
theorem dX7_begins_16 : decode cX7_begins 16 = .ok (.iconst 0, 1) := by decide +kernel
theorem dX7_begins_17 : decode cX7_begins 17 = .ok (.putfield 111, 3) := by decide +kernel
theorem dX7_begins_20 : decode cX7_begins 20 = .ok (.aload_n 0, 1) := by decide +kernel
theorem dX7_begins_21 : decode cX7_begins 21 = .ok (.iconst 0, 1) := by decide +kernel
theorem dX7_begins_22 : decode cX7_begins 22 = .ok (.putfield 114, 3) := by decide +kernel
theorem dX7_begins_25 : decode cX7_begins 25 = .ok (.aload_n 0, 1) := by decide +kernel
theorem dX7_begins_26 : decode cX7_begins 26 = .ok (.iconst 0, 1) := by decide +kernel
theorem dX7_begins_27 : decode cX7_begins 27 = .ok (.putfield 117, 3) := by decide +kernel
theorem dX7_begins_30 : decode cX7_begins 30 = .ok (.iconst 0, 1) := by decide +kernel
theorem dX7_begins_31 : decode cX7_begins 31 = .ok (.istore_n 1, 1) := by decide +kernel
theorem dX7_begins_32 : decode cX7_begins 32 = .ok (.iload_n 1, 1) := by decide +kernel
theorem dX7_begins_33 : decode cX7_begins 33 = .ok (.bipush 16, 2) := by decide +kernel
theorem dX7_begins_35 : decode cX7_begins 35 = .ok (.if_icmp .ge 23, 3) := by decide +kernel
theorem dX7_begins_38 : decode cX7_begins 38 = .ok (.aload_n 0, 1) := by decide +kernel
theorem dX7_begins_39 : decode cX7_begins 39 = .ok (.getfield 20, 3) := by decide +kernel
theorem dX7_begins_42 : decode cX7_begins 42 = .ok (.iload_n 1, 1) := by decide +kernel
theorem dX7_begins_43 : decode cX7_begins 43 = .ok (.iconst 0, 1) := by decide +kernel
theorem dX7_begins_44 : decode cX7_begins 44 = .ok (.iastore, 1) := by decide +kernel
theorem dX7_begins_45 : decode cX7_begins 45 = .ok (.aload_n 0, 1) := by decide +kernel
theorem dX7_begins_46 : decode cX7_begins 46 = .ok (.getfield 32, 3) := by decide +kernel
theorem dX7_begins_49 : decode cX7_begins 49 = .ok (.iload_n 1, 1) := by decide +kernel
theorem dX7_begins_50 : decode cX7_begins 50 = .ok (.iconst 0, 1) := by decide +kernel
theorem dX7_begins_51 : decode cX7_begins 51 = .ok (.iastore, 1) := by decide +kernel
theorem dX7_begins_52 : decode cX7_begins 52 = .ok (.iinc 1 1, 3) := by decide +kernel
theorem dX7_begins_55 : decode cX7_begins 55 = .ok (.goto (-23), 3) := by decide +kernel
theorem dX7_begins_58 : decode cX7_begins 58 = .ok (.iconst 0, 1) := by decide +kernel
theorem dX7_begins_59 : decode cX7_begins 59 = .ok (.istore_n 1, 1) := by decide +kernel
theorem dX7_begins_60 : decode cX7_begins 60 = .ok (.iload_n 1, 1) := by decide +kernel
theorem dX7_begins_61 : decode cX7_begins 61 = .ok (.bipush 80, 2) := by decide +kernel
theorem dX7_begins_63 : decode cX7_begins 63 = .ok (.if_icmp .ge 23, 3) := by decide +kernel
theorem dX7_begins_66 : decode cX7_begins 66 = .ok (.aload_n 0, 1) := by decide +kernel
theorem dX7_begins_67 : decode cX7_begins 67 = .ok (.getfield 26, 3) := by decide +kernel
theorem dX7_begins_70 : decode cX7_begins 70 = .ok (.iload_n 1, 1) := by decide +kernel
theorem dX7_begins_71 : decode cX7_begins 71 = .ok (.iconst 0, 1) := by decide +kernel
theorem dX7_begins_72 : decode cX7_begins 72 = .ok (.iastore, 1) := by decide +kernel
theorem dX7_begins_73 : decode cX7_begins 73 = .ok (.aload_n 0, 1) := by decide +kernel
theorem dX7_begins_74 : decode cX7_begins 74 = .ok (.getfield 38, 3) := by decide +kernel
theorem dX7_begins_77 : decode cX7_begins 77 = .ok (.iload_n 1, 1) := by decide +kernel
theorem dX7_begins_78 : decode cX7_begins 78 = .ok (.iconst 0, 1) := by decide +kernel
theorem dX7_begins_79 : decode cX7_begins 79 = .ok (.iastore, 1) := by decide +kernel
theorem dX7_begins_80 : decode cX7_begins 80 = .ok (.iinc 1 1, 3) := by decide +kernel
theorem dX7_begins_83 : decode cX7_begins 83 = .ok (.goto (-23), 3) := by decide +kernel
theorem dX7_begins_86 : decode cX7_begins 86 = .ok (.iconst 0, 1) := by decide +kernel
theorem dX7_begins_87 : decode cX7_begins 87 = .ok (.istore_n 1, 1) := by decide +kernel
theorem dX7_begins_88 : decode cX7_begins 88 = .ok (.iload_n 1, 1) := by decide +kernel
theorem dX7_begins_89 : decode cX7_begins 89 = .ok (.sipush 400, 3) := by decide +kernel
theorem dX7_begins_92 : decode cX7_begins 92 = .ok (.if_icmp .ge 16, 3) := by decide +kernel
theorem dX7_begins_95 : decode cX7_begins 95 = .ok (.aload_n 0, 1) := by decide +kernel
theorem dX7_begins_96 : decode cX7_begins 96 = .ok (.getfield 41, 3) := by decide +kernel
theorem dX7_begins_99 : decode cX7_begins 99 = .ok (.iload_n 1, 1) := by decide +kernel
theorem dX7_begins_100 : decode cX7_begins 100 = .ok (.iconst 0, 1) := by decide +kernel
theorem dX7_begins_101 : decode cX7_begins 101 = .ok (.iastore, 1) := by decide +kernel
theorem dX7_begins_102 : decode cX7_begins 102 = .ok (.iinc 1 1, 3) := by decide +kernel
theorem dX7_begins_105 : decode cX7_begins 105 = .ok (.goto (-17), 3) := by decide +kernel
theorem dX7_begins_108 : decode cX7_begins 108 = .ok (.iconst 0, 1) := by decide +kernel
theorem dX7_begins_109 : decode cX7_begins 109 = .ok (.istore_n 1, 1) := by decide +kernel
theorem dX7_begins_110 : decode cX7_begins 110 = .ok (.iload_n 1, 1) := by decide +kernel
theorem dX7_begins_111 : decode cX7_begins 111 = .ok (.bipush 64, 2) := by decide +kernel
theorem dX7_begins_113 : decode cX7_begins 113 = .ok (.if_icmp .ge 16, 3) := by decide +kernel
theorem dX7_begins_116 : decode cX7_begins 116 = .ok (.aload_n 0, 1) := by decide +kernel
theorem dX7_begins_117 : decode cX7_begins 117 = .ok (.getfield 44, 3) := by decide +kernel
theorem dX7_begins_120 : decode cX7_begins 120 = .ok (.iload_n 1, 1) := by decide +kernel
theorem dX7_begins_121 : decode cX7_begins 121 = .ok (.iconst 0, 1) := by decide +kernel
theorem dX7_begins_122 : decode cX7_begins 122 = .ok (.iastore, 1) := by decide +kernel
theorem dX7_begins_123 : decode cX7_begins 123 = .ok (.iinc 1 1, 3) := by decide +kernel
theorem dX7_begins_126 : decode cX7_begins 126 = .ok (.goto (-16), 3) := by decide +kernel
theorem dX7_begins_129 : decode cX7_begins 129 = .ok (.iconst 0, 1) := by decide +kernel
theorem dX7_begins_130 : decode cX7_begins 130 = .ok (.istore_n 1, 1) := by decide +kernel
theorem dX7_begins_131 : decode cX7_begins 131 = .ok (.iload_n 1, 1) := by decide +kernel
theorem dX7_begins_132 : decode cX7_begins 132 = .ok (.iconst 4, 1) := by decide +kernel
theorem dX7_begins_133 : decode cX7_begins 133 = .ok (.if_icmp .ge 25, 3) := by decide +kernel
theorem dX7_begins_136 : decode cX7_begins 136 = .ok (.aload_n 0, 1) := by decide +kernel
theorem dX7_begins_137 : decode cX7_begins 137 = .ok (.getfield 47, 3) := by decide +kernel
theorem dX7_begins_140 : decode cX7_begins 140 = .ok (.iload_n 1, 1) := by decide +kernel
theorem dX7_begins_141 : decode cX7_begins 141 = .ok (.sipush 1000, 3) := by decide +kernel
theorem dX7_begins_144 : decode cX7_begins 144 = .ok (.iastore, 1) := by decide +kernel
theorem dX7_begins_145 : decode cX7_begins 145 = .ok (.aload_n 0, 1) := by decide +kernel
theorem dX7_begins_146 : decode cX7_begins 146 = .ok (.getfield 56, 3) := by decide +kernel
theorem dX7_begins_149 : decode cX7_begins 149 = .ok (.iload_n 1, 1) := by decide +kernel
theorem dX7_begins_150 : decode cX7_begins 150 = .ok (.iconst 0, 1) := by decide +kernel
theorem dX7_begins_151 : decode cX7_begins 151 = .ok (.iastore, 1) := by decide +kernel
theorem dX7_begins_152 : decode cX7_begins 152 = .ok (.iinc 1 1, 3) := by decide +kernel
theorem dX7_begins_155 : decode cX7_begins 155 = .ok (.goto (-24), 3) := by decide +kernel
theorem dX7_begins_158 : decode cX7_begins 158 = .ok (.return_, 1) := by decide +kernel
theorem dX7_thrown_0 : decode cX7_thrown 0 = .ok (.aload_n 0, 1) := by decide +kernel
theorem dX7_thrown_1 : decode cX7_thrown 1 = .ok (.getfield 120, 3) := by decide +kernel
theorem dX7_thrown_4 : decode cX7_thrown 4 = .ok (.ireturn, 1) := by decide +kernel
theorem dX7_in_0 : decode cX7_in 0 = .ok (.iload_n 0, 1) := by decide +kernel
theorem dX7_in_1 : decode cX7_in 1 = .ok (.iload_n 1, 1) := by decide +kernel
theorem dX7_in_2 : decode cX7_in 2 = .ok (.if_icmp .lt 12, 3) := by decide +kernel
theorem dX7_in_5 : decode cX7_in 5 = .ok (.iload_n 0, 1) := by decide +kernel
theorem dX7_in_6 : decode cX7_in 6 = .ok (.iload_n 2, 1) := by decide +kernel
theorem dX7_in_7 : decode cX7_in 7 = .ok (.if_icmp .gt 7, 3) := by decide +kernel
theorem dX7_in_10 : decode cX7_in 10 = .ok (.iconst 1, 1) := by decide +kernel
theorem dX7_in_11 : decode cX7_in 11 = .ok (.goto 4, 3) := by decide +kernel
theorem dX7_in_14 : decode cX7_in 14 = .ok (.iconst 0, 1) := by decide +kernel
theorem dX7_in_15 : decode cX7_in 15 = .ok (.ireturn, 1) := by decide +kernel
theorem dX7_isType_0 : decode cX7_isType 0 = .ok (.iload_n 1, 1) := by decide +kernel
theorem dX7_isType_1 : decode cX7_isType 1 = .ok (.iconst 0, 1) := by decide +kernel
theorem dX7_isType_2 : decode cX7_isType 2 = .ok (.aload_n 0, 1) := by decide +kernel
theorem dX7_isType_3 : decode cX7_isType 3 = .ok (.getfield 101, 3) := by decide +kernel
theorem dX7_isType_6 : decode cX7_isType 6 = .ok (.iconst 1, 1) := by decide +kernel
theorem dX7_isType_7 : decode cX7_isType 7 = .ok (.isub, 1) := by decide +kernel
theorem dX7_isType_8 : decode cX7_isType 8 = .ok (.invokestatic 123, 3) := by decide +kernel
theorem dX7_isType_11 : decode cX7_isType 11 = .ok (.ireturn, 1) := by decide +kernel
theorem dX7_isSession_0 : decode cX7_isSession 0 = .ok (.iload_n 0, 1) := by decide +kernel
theorem dX7_isSession_1 : decode cX7_isSession 1 = .ok (.iconst 0, 1) := by decide +kernel
theorem dX7_isSession_2 : decode cX7_isSession 2 = .ok (.iconst 3, 1) := by decide +kernel
theorem dX7_isSession_3 : decode cX7_isSession 3 = .ok (.invokestatic 123, 3) := by decide +kernel
theorem dX7_isSession_6 : decode cX7_isSession 6 = .ok (.ireturn, 1) := by decide +kernel
theorem dX7_type_0 : decode cX7_type 0 = .ok (.aload_n 0, 1) := by decide +kernel
theorem dX7_type_1 : decode cX7_type 1 = .ok (.iconst 0, 1) := by decide +kernel
theorem dX7_type_2 : decode cX7_type 2 = .ok (.putfield 120, 3) := by decide +kernel
theorem dX7_type_5 : decode cX7_type 5 = .ok (.iload_n 1, 1) := by decide +kernel
theorem dX7_type_6 : decode cX7_type 6 = .ok (.iconst 0, 1) := by decide +kernel
theorem dX7_type_7 : decode cX7_type 7 = .ok (.iconst 2, 1) := by decide +kernel
theorem dX7_type_8 : decode cX7_type 8 = .ok (.invokestatic 123, 3) := by decide +kernel
theorem dX7_type_11 : decode cX7_type 11 = .ok (.ifCond .ne 6, 3) := by decide +kernel
theorem dX7_type_14 : decode cX7_type 14 = .ok (.bipush (-102), 2) := by decide +kernel
theorem dX7_type_16 : decode cX7_type 16 = .ok (.ireturn, 1) := by decide +kernel
theorem dX7_type_17 : decode cX7_type 17 = .ok (.iload_n 2, 1) := by decide +kernel
theorem dX7_type_18 : decode cX7_type 18 = .ok (.iconst (-1), 1) := by decide +kernel
theorem dX7_type_19 : decode cX7_type 19 = .ok (.if_icmp .eq 27, 3) := by decide +kernel
theorem dX7_type_22 : decode cX7_type 22 = .ok (.iload_n 1, 1) := by decide +kernel
theorem dX7_type_23 : decode cX7_type 23 = .ok (.ifCond .ne 20, 3) := by decide +kernel
theorem dX7_type_26 : decode cX7_type 26 = .ok (.aload_n 0, 1) := by decide +kernel
theorem dX7_type_27 : decode cX7_type 27 = .ok (.iload_n 2, 1) := by decide +kernel
theorem dX7_type_28 : decode cX7_type 28 = .ok (.invokevirtual 127, 3) := by decide +kernel
theorem dX7_type_31 : decode cX7_type 31 = .ok (.ifCond .eq 12, 3) := by decide +kernel
theorem dX7_type_34 : decode cX7_type 34 = .ok (.aload_n 0, 1) := by decide +kernel
theorem dX7_type_35 : decode cX7_type 35 = .ok (.getfield 7, 3) := by decide +kernel
theorem dX7_type_38 : decode cX7_type 38 = .ok (.iload_n 2, 1) := by decide +kernel
theorem dX7_type_39 : decode cX7_type 39 = .ok (.iaload, 1) := by decide +kernel
theorem dX7_type_40 : decode cX7_type 40 = .ok (.ifCond .eq 6, 3) := by decide +kernel
theorem dX7_type_43 : decode cX7_type 43 = .ok (.bipush (-101), 2) := by decide +kernel
theorem dX7_type_45 : decode cX7_type 45 = .ok (.ireturn, 1) := by decide +kernel
theorem dX7_type_46 : decode cX7_type 46 = .ok (.iload_n 3, 1) := by decide +kernel
theorem dX7_type_47 : decode cX7_type 47 = .ok (.ifCond .eq 20, 3) := by decide +kernel
theorem dX7_type_50 : decode cX7_type 50 = .ok (.iload_n 2, 1) := by decide +kernel
theorem dX7_type_51 : decode cX7_type 51 = .ok (.iconst (-1), 1) := by decide +kernel
theorem dX7_type_52 : decode cX7_type 52 = .ok (.if_icmp .eq 15, 3) := by decide +kernel
theorem dX7_type_55 : decode cX7_type 55 = .ok (.aload_n 0, 1) := by decide +kernel
theorem dX7_type_56 : decode cX7_type 56 = .ok (.getfield 16, 3) := by decide +kernel
theorem dX7_type_59 : decode cX7_type 59 = .ok (.iload_n 2, 1) := by decide +kernel
theorem dX7_type_60 : decode cX7_type 60 = .ok (.baload, 1) := by decide +kernel
theorem dX7_type_61 : decode cX7_type 61 = .ok (.ifCond .ne 6, 3) := by decide +kernel
theorem dX7_type_64 : decode cX7_type 64 = .ok (.bipush (-103), 2) := by decide +kernel
theorem dX7_type_66 : decode cX7_type 66 = .ok (.ireturn, 1) := by decide +kernel
theorem dX7_type_67 : decode cX7_type 67 = .ok (.aload_n 0, 1) := by decide +kernel
theorem dX7_type_68 : decode cX7_type 68 = .ok (.getfield 101, 3) := by decide +kernel
theorem dX7_type_71 : decode cX7_type 71 = .ok (.bipush 16, 2) := by decide +kernel
theorem dX7_type_73 : decode cX7_type 73 = .ok (.if_icmp .ne 6, 3) := by decide +kernel
theorem dX7_type_76 : decode cX7_type 76 = .ok (.bipush (-104), 2) := by decide +kernel
theorem dX7_type_78 : decode cX7_type 78 = .ok (.ireturn, 1) := by decide +kernel
theorem dX7_type_79 : decode cX7_type 79 = .ok (.aload_n 0, 1) := by decide +kernel
theorem dX7_type_80 : decode cX7_type 80 = .ok (.getfield 7, 3) := by decide +kernel
theorem dX7_type_83 : decode cX7_type 83 = .ok (.aload_n 0, 1) := by decide +kernel
theorem dX7_type_84 : decode cX7_type 84 = .ok (.getfield 101, 3) := by decide +kernel
theorem dX7_type_87 : decode cX7_type 87 = .ok (.iload_n 1, 1) := by decide +kernel
theorem dX7_type_88 : decode cX7_type 88 = .ok (.iastore, 1) := by decide +kernel
theorem dX7_type_89 : decode cX7_type 89 = .ok (.aload_n 0, 1) := by decide +kernel
theorem dX7_type_90 : decode cX7_type 90 = .ok (.getfield 13, 3) := by decide +kernel
theorem dX7_type_93 : decode cX7_type 93 = .ok (.aload_n 0, 1) := by decide +kernel
theorem dX7_type_94 : decode cX7_type 94 = .ok (.getfield 101, 3) := by decide +kernel
theorem dX7_type_97 : decode cX7_type 97 = .ok (.iload_n 2, 1) := by decide +kernel
theorem dX7_type_98 : decode cX7_type 98 = .ok (.iastore, 1) := by decide +kernel
theorem dX7_type_99 : decode cX7_type 99 = .ok (.aload_n 0, 1) := by decide +kernel
theorem dX7_type_100 : decode cX7_type 100 = .ok (.getfield 16, 3) := by decide +kernel
theorem dX7_type_103 : decode cX7_type 103 = .ok (.aload_n 0, 1) := by decide +kernel
theorem dX7_type_104 : decode cX7_type 104 = .ok (.getfield 101, 3) := by decide +kernel
theorem dX7_type_107 : decode cX7_type 107 = .ok (.iload_n 3, 1) := by decide +kernel
theorem dX7_type_108 : decode cX7_type 108 = .ok (.bastore, 1) := by decide +kernel
theorem dX7_type_109 : decode cX7_type 109 = .ok (.aload_n 0, 1) := by decide +kernel
theorem dX7_type_110 : decode cX7_type 110 = .ok (.dup, 1) := by decide +kernel
theorem dX7_type_111 : decode cX7_type 111 = .ok (.getfield 101, 3) := by decide +kernel
theorem dX7_type_114 : decode cX7_type 114 = .ok (.iconst 1, 1) := by decide +kernel
theorem dX7_type_115 : decode cX7_type 115 = .ok (.iadd, 1) := by decide +kernel
theorem dX7_type_116 : decode cX7_type 116 = .ok (.putfield 101, 3) := by decide +kernel
theorem dX7_type_119 : decode cX7_type 119 = .ok (.aload_n 0, 1) := by decide +kernel
theorem dX7_type_120 : decode cX7_type 120 = .ok (.getfield 101, 3) := by decide +kernel
theorem dX7_type_123 : decode cX7_type 123 = .ok (.iconst 1, 1) := by decide +kernel
theorem dX7_type_124 : decode cX7_type 124 = .ok (.isub, 1) := by decide +kernel
theorem dX7_type_125 : decode cX7_type 125 = .ok (.ireturn, 1) := by decide +kernel
theorem dX7_face_0 : decode cX7_face 0 = .ok (.aload_n 0, 1) := by decide +kernel
theorem dX7_face_1 : decode cX7_face 1 = .ok (.iconst 0, 1) := by decide +kernel
theorem dX7_face_2 : decode cX7_face 2 = .ok (.putfield 120, 3) := by decide +kernel
theorem dX7_face_5 : decode cX7_face 5 = .ok (.aload_n 0, 1) := by decide +kernel
theorem dX7_face_6 : decode cX7_face 6 = .ok (.iload_n 1, 1) := by decide +kernel
theorem dX7_face_7 : decode cX7_face 7 = .ok (.invokevirtual 127, 3) := by decide +kernel
theorem dX7_face_10 : decode cX7_face 10 = .ok (.ifCond .eq 25, 3) := by decide +kernel
theorem dX7_face_13 : decode cX7_face 13 = .ok (.aload_n 0, 1) := by decide +kernel
theorem dX7_face_14 : decode cX7_face 14 = .ok (.iload_n 2, 1) := by decide +kernel
theorem dX7_face_15 : decode cX7_face 15 = .ok (.invokevirtual 127, 3) := by decide +kernel
theorem dX7_face_18 : decode cX7_face 18 = .ok (.ifCond .eq 17, 3) := by decide +kernel
theorem dX7_face_21 : decode cX7_face 21 = .ok (.aload_n 0, 1) := by decide +kernel
theorem dX7_face_22 : decode cX7_face 22 = .ok (.getfield 7, 3) := by decide +kernel
theorem dX7_face_25 : decode cX7_face 25 = .ok (.iload_n 2, 1) := by decide +kernel
theorem dX7_face_26 : decode cX7_face 26 = .ok (.iaload, 1) := by decide +kernel
theorem dX7_face_27 : decode cX7_face 27 = .ok (.ifCond .eq 8, 3) := by decide +kernel
theorem dX7_face_30 : decode cX7_face 30 = .ok (.iload_n 2, 1) := by decide +kernel
theorem dX7_face_31 : decode cX7_face 31 = .ok (.iload_n 1, 1) := by decide +kernel
theorem dX7_face_32 : decode cX7_face 32 = .ok (.if_icmp .lt 6, 3) := by decide +kernel
theorem dX7_face_35 : decode cX7_face 35 = .ok (.bipush (-101), 2) := by decide +kernel
theorem dX7_face_37 : decode cX7_face 37 = .ok (.ireturn, 1) := by decide +kernel
theorem dX7_face_38 : decode cX7_face 38 = .ok (.aload_n 0, 1) := by decide +kernel
theorem dX7_face_39 : decode cX7_face 39 = .ok (.getfield 16, 3) := by decide +kernel
theorem dX7_face_42 : decode cX7_face 42 = .ok (.iload_n 1, 1) := by decide +kernel
theorem dX7_face_43 : decode cX7_face 43 = .ok (.baload, 1) := by decide +kernel
theorem dX7_face_44 : decode cX7_face 44 = .ok (.ifCond .eq 16, 3) := by decide +kernel
theorem dX7_face_47 : decode cX7_face 47 = .ok (.aload_n 0, 1) := by decide +kernel
theorem dX7_face_48 : decode cX7_face 48 = .ok (.getfield 16, 3) := by decide +kernel
theorem dX7_face_51 : decode cX7_face 51 = .ok (.iload_n 2, 1) := by decide +kernel
theorem dX7_face_52 : decode cX7_face 52 = .ok (.baload, 1) := by decide +kernel
theorem dX7_face_53 : decode cX7_face 53 = .ok (.ifCond .ne 7, 3) := by decide +kernel
theorem dX7_face_56 : decode cX7_face 56 = .ok (.iconst 1, 1) := by decide +kernel
theorem dX7_face_57 : decode cX7_face 57 = .ok (.goto 4, 3) := by decide +kernel
theorem dX7_face_60 : decode cX7_face 60 = .ok (.iconst 0, 1) := by decide +kernel
theorem dX7_face_61 : decode cX7_face 61 = .ok (.istore_n 3, 1) := by decide +kernel
theorem dX7_face_62 : decode cX7_face 62 = .ok (.iconst 0, 1) := by decide +kernel
theorem dX7_face_63 : decode cX7_face 63 = .ok (.istore 4, 2) := by decide +kernel
theorem dX7_face_65 : decode cX7_face 65 = .ok (.iload 4, 2) := by decide +kernel
theorem dX7_face_67 : decode cX7_face 67 = .ok (.aload_n 0, 1) := by decide +kernel
theorem dX7_face_68 : decode cX7_face 68 = .ok (.getfield 20, 3) := by decide +kernel
theorem dX7_face_71 : decode cX7_face 71 = .ok (.iload_n 1, 1) := by decide +kernel
theorem dX7_face_72 : decode cX7_face 72 = .ok (.iaload, 1) := by decide +kernel
theorem dX7_face_73 : decode cX7_face 73 = .ok (.if_icmp .ge 34, 3) := by decide +kernel
theorem dX7_face_76 : decode cX7_face 76 = .ok (.iload_n 3, 1) := by decide +kernel
theorem dX7_face_77 : decode cX7_face 77 = .ok (.ifCond .ne 18, 3) := by decide +kernel
theorem dX7_face_80 : decode cX7_face 80 = .ok (.aload_n 0, 1) := by decide +kernel
theorem dX7_face_81 : decode cX7_face 81 = .ok (.getfield 23, 3) := by decide +kernel
theorem dX7_face_84 : decode cX7_face 84 = .ok (.iconst 3, 1) := by decide +kernel
theorem dX7_face_85 : decode cX7_face 85 = .ok (.iload_n 1, 1) := by decide +kernel
theorem dX7_face_86 : decode cX7_face 86 = .ok (.imul, 1) := by decide +kernel
theorem dX7_face_87 : decode cX7_face 87 = .ok (.iload 4, 2) := by decide +kernel
theorem dX7_face_89 : decode cX7_face 89 = .ok (.iadd, 1) := by decide +kernel
theorem dX7_face_90 : decode cX7_face 90 = .ok (.iaload, 1) := by decide +kernel
theorem dX7_face_91 : decode cX7_face 91 = .ok (.iload_n 2, 1) := by decide +kernel
theorem dX7_face_92 : decode cX7_face 92 = .ok (.if_icmp .ne 7, 3) := by decide +kernel
theorem dX7_face_95 : decode cX7_face 95 = .ok (.iconst 1, 1) := by decide +kernel
theorem dX7_face_96 : decode cX7_face 96 = .ok (.goto 4, 3) := by decide +kernel
theorem dX7_face_99 : decode cX7_face 99 = .ok (.iconst 0, 1) := by decide +kernel
theorem dX7_face_100 : decode cX7_face 100 = .ok (.istore_n 3, 1) := by decide +kernel
theorem dX7_face_101 : decode cX7_face 101 = .ok (.iinc 4 1, 3) := by decide +kernel
theorem dX7_face_104 : decode cX7_face 104 = .ok (.goto (-39), 3) := by decide +kernel
theorem dX7_face_107 : decode cX7_face 107 = .ok (.iload_n 3, 1) := by decide +kernel
theorem dX7_face_108 : decode cX7_face 108 = .ok (.ifCond .eq 6, 3) := by decide +kernel
theorem dX7_face_111 : decode cX7_face 111 = .ok (.bipush (-103), 2) := by decide +kernel
theorem dX7_face_113 : decode cX7_face 113 = .ok (.ireturn, 1) := by decide +kernel
theorem dX7_face_114 : decode cX7_face 114 = .ok (.aload_n 0, 1) := by decide +kernel
theorem dX7_face_115 : decode cX7_face 115 = .ok (.getfield 20, 3) := by decide +kernel
theorem dX7_face_118 : decode cX7_face 118 = .ok (.iload_n 1, 1) := by decide +kernel
theorem dX7_face_119 : decode cX7_face 119 = .ok (.iaload, 1) := by decide +kernel
theorem dX7_face_120 : decode cX7_face 120 = .ok (.iconst 3, 1) := by decide +kernel
theorem dX7_face_121 : decode cX7_face 121 = .ok (.if_icmp .ne 6, 3) := by decide +kernel
theorem dX7_face_124 : decode cX7_face 124 = .ok (.bipush (-104), 2) := by decide +kernel
theorem dX7_face_126 : decode cX7_face 126 = .ok (.ireturn, 1) := by decide +kernel
theorem dX7_face_127 : decode cX7_face 127 = .ok (.aload_n 0, 1) := by decide +kernel
theorem dX7_face_128 : decode cX7_face 128 = .ok (.getfield 23, 3) := by decide +kernel
theorem dX7_face_131 : decode cX7_face 131 = .ok (.iconst 3, 1) := by decide +kernel
theorem dX7_face_132 : decode cX7_face 132 = .ok (.iload_n 1, 1) := by decide +kernel
theorem dX7_face_133 : decode cX7_face 133 = .ok (.imul, 1) := by decide +kernel
theorem dX7_face_134 : decode cX7_face 134 = .ok (.aload_n 0, 1) := by decide +kernel
theorem dX7_face_135 : decode cX7_face 135 = .ok (.getfield 20, 3) := by decide +kernel
theorem dX7_face_138 : decode cX7_face 138 = .ok (.iload_n 1, 1) := by decide +kernel
theorem dX7_face_139 : decode cX7_face 139 = .ok (.iaload, 1) := by decide +kernel
theorem dX7_face_140 : decode cX7_face 140 = .ok (.iadd, 1) := by decide +kernel
theorem dX7_face_141 : decode cX7_face 141 = .ok (.iload_n 2, 1) := by decide +kernel
theorem dX7_face_142 : decode cX7_face 142 = .ok (.iastore, 1) := by decide +kernel
theorem dX7_face_143 : decode cX7_face 143 = .ok (.aload_n 0, 1) := by decide +kernel
theorem dX7_face_144 : decode cX7_face 144 = .ok (.getfield 20, 3) := by decide +kernel
theorem dX7_face_147 : decode cX7_face 147 = .ok (.iload_n 1, 1) := by decide +kernel
theorem dX7_face_148 : decode cX7_face 148 = .ok (.dup2, 1) := by decide +kernel
theorem dX7_face_149 : decode cX7_face 149 = .ok (.iaload, 1) := by decide +kernel
theorem dX7_face_150 : decode cX7_face 150 = .ok (.iconst 1, 1) := by decide +kernel
theorem dX7_face_151 : decode cX7_face 151 = .ok (.iadd, 1) := by decide +kernel
theorem dX7_face_152 : decode cX7_face 152 = .ok (.iastore, 1) := by decide +kernel
theorem dX7_face_153 : decode cX7_face 153 = .ok (.aload_n 0, 1) := by decide +kernel
theorem dX7_face_154 : decode cX7_face 154 = .ok (.getfield 20, 3) := by decide +kernel
theorem dX7_face_157 : decode cX7_face 157 = .ok (.iload_n 1, 1) := by decide +kernel
theorem dX7_face_158 : decode cX7_face 158 = .ok (.iaload, 1) := by decide +kernel
theorem dX7_face_159 : decode cX7_face 159 = .ok (.ireturn, 1) := by decide +kernel
theorem dX7_field_0 : decode cX7_field 0 = .ok (.aload_n 0, 1) := by decide +kernel
theorem dX7_field_1 : decode cX7_field 1 = .ok (.iconst 0, 1) := by decide +kernel
theorem dX7_field_2 : decode cX7_field 2 = .ok (.putfield 120, 3) := by decide +kernel
theorem dX7_field_5 : decode cX7_field 5 = .ok (.aload_n 0, 1) := by decide +kernel
theorem dX7_field_6 : decode cX7_field 6 = .ok (.iload_n 1, 1) := by decide +kernel
theorem dX7_field_7 : decode cX7_field 7 = .ok (.invokevirtual 127, 3) := by decide +kernel
theorem dX7_field_10 : decode cX7_field 10 = .ok (.ifCond .ne 6, 3) := by decide +kernel
theorem dX7_field_13 : decode cX7_field 13 = .ok (.bipush (-101), 2) := by decide +kernel
theorem dX7_field_15 : decode cX7_field 15 = .ok (.ireturn, 1) := by decide +kernel
theorem dX7_field_16 : decode cX7_field 16 = .ok (.iload_n 2, 1) := by decide +kernel
theorem dX7_field_17 : decode cX7_field 17 = .ok (.iconst 0, 1) := by decide +kernel
theorem dX7_field_18 : decode cX7_field 18 = .ok (.iconst 4, 1) := by decide +kernel
theorem dX7_field_19 : decode cX7_field 19 = .ok (.invokestatic 123, 3) := by decide +kernel
theorem dX7_field_22 : decode cX7_field 22 = .ok (.ifCond .eq 21, 3) := by decide +kernel
theorem dX7_field_25 : decode cX7_field 25 = .ok (.iload_n 3, 1) := by decide +kernel
theorem dX7_field_26 : decode cX7_field 26 = .ok (.ifCond .eq 20, 3) := by decide +kernel
theorem dX7_field_29 : decode cX7_field 29 = .ok (.iload 4, 2) := by decide +kernel
theorem dX7_field_31 : decode cX7_field 31 = .ok (.sipush (-999), 3) := by decide +kernel
theorem dX7_field_34 : decode cX7_field 34 = .ok (.sipush 999, 3) := by decide +kernel
theorem dX7_field_37 : decode cX7_field 37 = .ok (.invokestatic 123, 3) := by decide +kernel
theorem dX7_field_40 : decode cX7_field 40 = .ok (.ifCond .ne 6, 3) := by decide +kernel
theorem dX7_field_43 : decode cX7_field 43 = .ok (.bipush (-102), 2) := by decide +kernel
theorem dX7_field_45 : decode cX7_field 45 = .ok (.ireturn, 1) := by decide +kernel
theorem dX7_field_46 : decode cX7_field 46 = .ok (.aload_n 0, 1) := by decide +kernel
theorem dX7_field_47 : decode cX7_field 47 = .ok (.getfield 26, 3) := by decide +kernel
theorem dX7_field_50 : decode cX7_field 50 = .ok (.iconst 5, 1) := by decide +kernel
theorem dX7_field_51 : decode cX7_field 51 = .ok (.iload_n 1, 1) := by decide +kernel
theorem dX7_field_52 : decode cX7_field 52 = .ok (.imul, 1) := by decide +kernel
theorem dX7_field_53 : decode cX7_field 53 = .ok (.iload_n 2, 1) := by decide +kernel
theorem dX7_field_54 : decode cX7_field 54 = .ok (.iadd, 1) := by decide +kernel
theorem dX7_field_55 : decode cX7_field 55 = .ok (.iload_n 3, 1) := by decide +kernel
theorem dX7_field_56 : decode cX7_field 56 = .ok (.ifCond .eq 7, 3) := by decide +kernel
theorem dX7_field_59 : decode cX7_field 59 = .ok (.iconst 1, 1) := by decide +kernel
theorem dX7_field_60 : decode cX7_field 60 = .ok (.goto 4, 3) := by decide +kernel
theorem dX7_field_63 : decode cX7_field 63 = .ok (.iconst 2, 1) := by decide +kernel
theorem dX7_field_64 : decode cX7_field 64 = .ok (.iastore, 1) := by decide +kernel
theorem dX7_field_65 : decode cX7_field 65 = .ok (.aload_n 0, 1) := by decide +kernel
theorem dX7_field_66 : decode cX7_field 66 = .ok (.getfield 29, 3) := by decide +kernel
theorem dX7_field_69 : decode cX7_field 69 = .ok (.iconst 5, 1) := by decide +kernel
theorem dX7_field_70 : decode cX7_field 70 = .ok (.iload_n 1, 1) := by decide +kernel
theorem dX7_field_71 : decode cX7_field 71 = .ok (.imul, 1) := by decide +kernel
theorem dX7_field_72 : decode cX7_field 72 = .ok (.iload_n 2, 1) := by decide +kernel
theorem dX7_field_73 : decode cX7_field 73 = .ok (.iadd, 1) := by decide +kernel
theorem dX7_field_74 : decode cX7_field 74 = .ok (.iload_n 3, 1) := by decide +kernel
theorem dX7_field_75 : decode cX7_field 75 = .ok (.ifCond .eq 8, 3) := by decide +kernel
theorem dX7_field_78 : decode cX7_field 78 = .ok (.iload 4, 2) := by decide +kernel
theorem dX7_field_80 : decode cX7_field 80 = .ok (.goto 4, 3) := by decide +kernel
theorem dX7_field_83 : decode cX7_field 83 = .ok (.iconst 0, 1) := by decide +kernel
theorem dX7_field_84 : decode cX7_field 84 = .ok (.iastore, 1) := by decide +kernel
theorem dX7_field_85 : decode cX7_field 85 = .ok (.iload_n 3, 1) := by decide +kernel
theorem dX7_field_86 : decode cX7_field 86 = .ok (.ifCond .eq 7, 3) := by decide +kernel
theorem dX7_field_89 : decode cX7_field 89 = .ok (.iconst 1, 1) := by decide +kernel
theorem dX7_field_90 : decode cX7_field 90 = .ok (.goto 4, 3) := by decide +kernel
theorem dX7_field_93 : decode cX7_field 93 = .ok (.iconst 0, 1) := by decide +kernel
theorem dX7_field_94 : decode cX7_field 94 = .ok (.ireturn, 1) := by decide +kernel
theorem dX7_isLine_0 : decode cX7_isLine 0 = .ok (.iload_n 0, 1) := by decide +kernel
theorem dX7_isLine_1 : decode cX7_isLine 1 = .ok (.tableswitch 166 0 6 #[43, 71, 105, 113, 121, 130, 141], 43) := by decide +kernel
theorem dX7_isLine_44 : decode cX7_isLine 44 = .ok (.iload_n 1, 1) := by decide +kernel
theorem dX7_isLine_45 : decode cX7_isLine 45 = .ok (.iconst 0, 1) := by decide +kernel
theorem dX7_isLine_46 : decode cX7_isLine 46 = .ok (.iconst 4, 1) := by decide +kernel
theorem dX7_isLine_47 : decode cX7_isLine 47 = .ok (.invokestatic 123, 3) := by decide +kernel
theorem dX7_isLine_50 : decode cX7_isLine 50 = .ok (.ifCond .eq 20, 3) := by decide +kernel
theorem dX7_isLine_53 : decode cX7_isLine 53 = .ok (.iload_n 2, 1) := by decide +kernel
theorem dX7_isLine_54 : decode cX7_isLine 54 = .ok (.sipush (-999), 3) := by decide +kernel
theorem dX7_isLine_57 : decode cX7_isLine 57 = .ok (.sipush 999, 3) := by decide +kernel
theorem dX7_isLine_60 : decode cX7_isLine 60 = .ok (.invokestatic 123, 3) := by decide +kernel
theorem dX7_isLine_63 : decode cX7_isLine 63 = .ok (.ifCond .eq 7, 3) := by decide +kernel
theorem dX7_isLine_66 : decode cX7_isLine 66 = .ok (.iconst 1, 1) := by decide +kernel
theorem dX7_isLine_67 : decode cX7_isLine 67 = .ok (.goto 4, 3) := by decide +kernel
theorem dX7_isLine_70 : decode cX7_isLine 70 = .ok (.iconst 0, 1) := by decide +kernel
theorem dX7_isLine_71 : decode cX7_isLine 71 = .ok (.ireturn, 1) := by decide +kernel
theorem dX7_isLine_72 : decode cX7_isLine 72 = .ok (.iload_n 1, 1) := by decide +kernel
theorem dX7_isLine_73 : decode cX7_isLine 73 = .ok (.iconst 0, 1) := by decide +kernel
theorem dX7_isLine_74 : decode cX7_isLine 74 = .ok (.iconst 4, 1) := by decide +kernel
theorem dX7_isLine_75 : decode cX7_isLine 75 = .ok (.invokestatic 123, 3) := by decide +kernel
theorem dX7_isLine_78 : decode cX7_isLine 78 = .ok (.ifCond .eq 26, 3) := by decide +kernel
theorem dX7_isLine_81 : decode cX7_isLine 81 = .ok (.iload_n 2, 1) := by decide +kernel
theorem dX7_isLine_82 : decode cX7_isLine 82 = .ok (.iconst 0, 1) := by decide +kernel
theorem dX7_isLine_83 : decode cX7_isLine 83 = .ok (.bipush 15, 2) := by decide +kernel
theorem dX7_isLine_85 : decode cX7_isLine 85 = .ok (.invokestatic 123, 3) := by decide +kernel
theorem dX7_isLine_88 : decode cX7_isLine 88 = .ok (.ifCond .eq 16, 3) := by decide +kernel
theorem dX7_isLine_91 : decode cX7_isLine 91 = .ok (.iload_n 3, 1) := by decide +kernel
theorem dX7_isLine_92 : decode cX7_isLine 92 = .ok (.iconst 0, 1) := by decide +kernel
theorem dX7_isLine_93 : decode cX7_isLine 93 = .ok (.iconst 4, 1) := by decide +kernel
theorem dX7_isLine_94 : decode cX7_isLine 94 = .ok (.invokestatic 123, 3) := by decide +kernel
theorem dX7_isLine_97 : decode cX7_isLine 97 = .ok (.ifCond .eq 7, 3) := by decide +kernel
theorem dX7_isLine_100 : decode cX7_isLine 100 = .ok (.iconst 1, 1) := by decide +kernel
theorem dX7_isLine_101 : decode cX7_isLine 101 = .ok (.goto 4, 3) := by decide +kernel
theorem dX7_isLine_104 : decode cX7_isLine 104 = .ok (.iconst 0, 1) := by decide +kernel
theorem dX7_isLine_105 : decode cX7_isLine 105 = .ok (.ireturn, 1) := by decide +kernel
theorem dX7_isLine_106 : decode cX7_isLine 106 = .ok (.iload_n 1, 1) := by decide +kernel
theorem dX7_isLine_107 : decode cX7_isLine 107 = .ok (.iconst 0, 1) := by decide +kernel
theorem dX7_isLine_108 : decode cX7_isLine 108 = .ok (.bipush 15, 2) := by decide +kernel
theorem dX7_isLine_110 : decode cX7_isLine 110 = .ok (.invokestatic 123, 3) := by decide +kernel
theorem dX7_isLine_113 : decode cX7_isLine 113 = .ok (.ireturn, 1) := by decide +kernel
theorem dX7_isLine_114 : decode cX7_isLine 114 = .ok (.iload_n 1, 1) := by decide +kernel
theorem dX7_isLine_115 : decode cX7_isLine 115 = .ok (.iconst 0, 1) := by decide +kernel
theorem dX7_isLine_116 : decode cX7_isLine 116 = .ok (.bipush 6, 2) := by decide +kernel
theorem dX7_isLine_118 : decode cX7_isLine 118 = .ok (.invokestatic 123, 3) := by decide +kernel
theorem dX7_isLine_121 : decode cX7_isLine 121 = .ok (.ireturn, 1) := by decide +kernel
theorem dX7_isLine_122 : decode cX7_isLine 122 = .ok (.iload_n 1, 1) := by decide +kernel
theorem dX7_isLine_123 : decode cX7_isLine 123 = .ok (.iconst 0, 1) := by decide +kernel
theorem dX7_isLine_124 : decode cX7_isLine 124 = .ok (.sipush 1000, 3) := by decide +kernel
theorem dX7_isLine_127 : decode cX7_isLine 127 = .ok (.invokestatic 123, 3) := by decide +kernel
theorem dX7_isLine_130 : decode cX7_isLine 130 = .ok (.ireturn, 1) := by decide +kernel
theorem dX7_isLine_131 : decode cX7_isLine 131 = .ok (.iload_n 1, 1) := by decide +kernel
theorem dX7_isLine_132 : decode cX7_isLine 132 = .ok (.sipush (-999), 3) := by decide +kernel
theorem dX7_isLine_135 : decode cX7_isLine 135 = .ok (.sipush 999, 3) := by decide +kernel
theorem dX7_isLine_138 : decode cX7_isLine 138 = .ok (.invokestatic 123, 3) := by decide +kernel
theorem dX7_isLine_141 : decode cX7_isLine 141 = .ok (.ireturn, 1) := by decide +kernel
theorem dX7_isLine_142 : decode cX7_isLine 142 = .ok (.iload_n 1, 1) := by decide +kernel
theorem dX7_isLine_143 : decode cX7_isLine 143 = .ok (.iconst 0, 1) := by decide +kernel
theorem dX7_isLine_144 : decode cX7_isLine 144 = .ok (.iconst 4, 1) := by decide +kernel
theorem dX7_isLine_145 : decode cX7_isLine 145 = .ok (.invokestatic 123, 3) := by decide +kernel
theorem dX7_isLine_148 : decode cX7_isLine 148 = .ok (.ifCond .eq 17, 3) := by decide +kernel
theorem dX7_isLine_151 : decode cX7_isLine 151 = .ok (.iload_n 2, 1) := by decide +kernel
theorem dX7_isLine_152 : decode cX7_isLine 152 = .ok (.iconst 0, 1) := by decide +kernel
theorem dX7_isLine_153 : decode cX7_isLine 153 = .ok (.bipush 15, 2) := by decide +kernel
theorem dX7_isLine_155 : decode cX7_isLine 155 = .ok (.invokestatic 123, 3) := by decide +kernel
theorem dX7_isLine_158 : decode cX7_isLine 158 = .ok (.ifCond .eq 7, 3) := by decide +kernel
theorem dX7_isLine_161 : decode cX7_isLine 161 = .ok (.iconst 1, 1) := by decide +kernel
theorem dX7_isLine_162 : decode cX7_isLine 162 = .ok (.goto 4, 3) := by decide +kernel
theorem dX7_isLine_165 : decode cX7_isLine 165 = .ok (.iconst 0, 1) := by decide +kernel
theorem dX7_isLine_166 : decode cX7_isLine 166 = .ok (.ireturn, 1) := by decide +kernel
theorem dX7_isLine_167 : decode cX7_isLine 167 = .ok (.iconst 0, 1) := by decide +kernel
theorem dX7_isLine_168 : decode cX7_isLine 168 = .ok (.ireturn, 1) := by decide +kernel
theorem dX7_line_0 : decode cX7_line 0 = .ok (.aload_n 0, 1) := by decide +kernel
theorem dX7_line_1 : decode cX7_line 1 = .ok (.iconst 0, 1) := by decide +kernel
theorem dX7_line_2 : decode cX7_line 2 = .ok (.putfield 120, 3) := by decide +kernel
theorem dX7_line_5 : decode cX7_line 5 = .ok (.aload_n 0, 1) := by decide +kernel
theorem dX7_line_6 : decode cX7_line 6 = .ok (.iload_n 1, 1) := by decide +kernel
theorem dX7_line_7 : decode cX7_line 7 = .ok (.invokevirtual 127, 3) := by decide +kernel
theorem dX7_line_10 : decode cX7_line 10 = .ok (.ifCond .ne 6, 3) := by decide +kernel
theorem dX7_line_13 : decode cX7_line 13 = .ok (.bipush (-101), 2) := by decide +kernel
theorem dX7_line_15 : decode cX7_line 15 = .ok (.ireturn, 1) := by decide +kernel
theorem dX7_line_16 : decode cX7_line 16 = .ok (.iload_n 2, 1) := by decide +kernel
theorem dX7_line_17 : decode cX7_line 17 = .ok (.iload_n 3, 1) := by decide +kernel
theorem dX7_line_18 : decode cX7_line 18 = .ok (.iload 4, 2) := by decide +kernel
theorem dX7_line_20 : decode cX7_line 20 = .ok (.iload 5, 2) := by decide +kernel
theorem dX7_line_22 : decode cX7_line 22 = .ok (.invokestatic 131, 3) := by decide +kernel
theorem dX7_line_25 : decode cX7_line 25 = .ok (.ifCond .ne 6, 3) := by decide +kernel
theorem dX7_line_28 : decode cX7_line 28 = .ok (.bipush (-102), 2) := by decide +kernel
theorem dX7_line_30 : decode cX7_line 30 = .ok (.ireturn, 1) := by decide +kernel
theorem dX7_line_31 : decode cX7_line 31 = .ok (.aload_n 0, 1) := by decide +kernel
theorem dX7_line_32 : decode cX7_line 32 = .ok (.getfield 32, 3) := by decide +kernel
theorem dX7_line_35 : decode cX7_line 35 = .ok (.iload_n 1, 1) := by decide +kernel
theorem dX7_line_36 : decode cX7_line 36 = .ok (.iaload, 1) := by decide +kernel
theorem dX7_line_37 : decode cX7_line 37 = .ok (.bipush 8, 2) := by decide +kernel
theorem dX7_line_39 : decode cX7_line 39 = .ok (.if_icmp .ne 6, 3) := by decide +kernel
theorem dX7_line_42 : decode cX7_line 42 = .ok (.bipush (-104), 2) := by decide +kernel
theorem dX7_line_44 : decode cX7_line 44 = .ok (.ireturn, 1) := by decide +kernel
theorem dX7_line_45 : decode cX7_line 45 = .ok (.bipush 32, 2) := by decide +kernel
theorem dX7_line_47 : decode cX7_line 47 = .ok (.iload_n 1, 1) := by decide +kernel
theorem dX7_line_48 : decode cX7_line 48 = .ok (.imul, 1) := by decide +kernel
theorem dX7_line_49 : decode cX7_line 49 = .ok (.iconst 4, 1) := by decide +kernel
theorem dX7_line_50 : decode cX7_line 50 = .ok (.aload_n 0, 1) := by decide +kernel
theorem dX7_line_51 : decode cX7_line 51 = .ok (.getfield 32, 3) := by decide +kernel
theorem dX7_line_54 : decode cX7_line 54 = .ok (.iload_n 1, 1) := by decide +kernel
theorem dX7_line_55 : decode cX7_line 55 = .ok (.iaload, 1) := by decide +kernel
theorem dX7_line_56 : decode cX7_line 56 = .ok (.imul, 1) := by decide +kernel
theorem dX7_line_57 : decode cX7_line 57 = .ok (.iadd, 1) := by decide +kernel
theorem dX7_line_58 : decode cX7_line 58 = .ok (.istore 6, 2) := by decide +kernel
theorem dX7_line_60 : decode cX7_line 60 = .ok (.aload_n 0, 1) := by decide +kernel
theorem dX7_line_61 : decode cX7_line 61 = .ok (.getfield 35, 3) := by decide +kernel
theorem dX7_line_64 : decode cX7_line 64 = .ok (.iload 6, 2) := by decide +kernel
theorem dX7_line_66 : decode cX7_line 66 = .ok (.iload_n 2, 1) := by decide +kernel
theorem dX7_line_67 : decode cX7_line 67 = .ok (.iastore, 1) := by decide +kernel
theorem dX7_line_68 : decode cX7_line 68 = .ok (.aload_n 0, 1) := by decide +kernel
theorem dX7_line_69 : decode cX7_line 69 = .ok (.getfield 35, 3) := by decide +kernel
theorem dX7_line_72 : decode cX7_line 72 = .ok (.iload 6, 2) := by decide +kernel
theorem dX7_line_74 : decode cX7_line 74 = .ok (.iconst 1, 1) := by decide +kernel
theorem dX7_line_75 : decode cX7_line 75 = .ok (.iadd, 1) := by decide +kernel
theorem dX7_line_76 : decode cX7_line 76 = .ok (.iload_n 3, 1) := by decide +kernel
theorem dX7_line_77 : decode cX7_line 77 = .ok (.iastore, 1) := by decide +kernel
theorem dX7_line_78 : decode cX7_line 78 = .ok (.aload_n 0, 1) := by decide +kernel
theorem dX7_line_79 : decode cX7_line 79 = .ok (.getfield 35, 3) := by decide +kernel
theorem dX7_line_82 : decode cX7_line 82 = .ok (.iload 6, 2) := by decide +kernel
theorem dX7_line_84 : decode cX7_line 84 = .ok (.iconst 2, 1) := by decide +kernel
theorem dX7_line_85 : decode cX7_line 85 = .ok (.iadd, 1) := by decide +kernel
theorem dX7_line_86 : decode cX7_line 86 = .ok (.iload 4, 2) := by decide +kernel
theorem dX7_line_88 : decode cX7_line 88 = .ok (.iastore, 1) := by decide +kernel
theorem dX7_line_89 : decode cX7_line 89 = .ok (.aload_n 0, 1) := by decide +kernel
theorem dX7_line_90 : decode cX7_line 90 = .ok (.getfield 35, 3) := by decide +kernel
theorem dX7_line_93 : decode cX7_line 93 = .ok (.iload 6, 2) := by decide +kernel
theorem dX7_line_95 : decode cX7_line 95 = .ok (.iconst 3, 1) := by decide +kernel
theorem dX7_line_96 : decode cX7_line 96 = .ok (.iadd, 1) := by decide +kernel
theorem dX7_line_97 : decode cX7_line 97 = .ok (.iload 5, 2) := by decide +kernel
theorem dX7_line_99 : decode cX7_line 99 = .ok (.iastore, 1) := by decide +kernel
theorem dX7_line_100 : decode cX7_line 100 = .ok (.aload_n 0, 1) := by decide +kernel
theorem dX7_line_101 : decode cX7_line 101 = .ok (.getfield 32, 3) := by decide +kernel
theorem dX7_line_104 : decode cX7_line 104 = .ok (.iload_n 1, 1) := by decide +kernel
theorem dX7_line_105 : decode cX7_line 105 = .ok (.dup2, 1) := by decide +kernel
theorem dX7_line_106 : decode cX7_line 106 = .ok (.iaload, 1) := by decide +kernel
theorem dX7_line_107 : decode cX7_line 107 = .ok (.iconst 1, 1) := by decide +kernel
theorem dX7_line_108 : decode cX7_line 108 = .ok (.iadd, 1) := by decide +kernel
theorem dX7_line_109 : decode cX7_line 109 = .ok (.iastore, 1) := by decide +kernel
theorem dX7_line_110 : decode cX7_line 110 = .ok (.aload_n 0, 1) := by decide +kernel
theorem dX7_line_111 : decode cX7_line 111 = .ok (.getfield 32, 3) := by decide +kernel
theorem dX7_line_114 : decode cX7_line 114 = .ok (.iload_n 1, 1) := by decide +kernel
theorem dX7_line_115 : decode cX7_line 115 = .ok (.iaload, 1) := by decide +kernel
theorem dX7_line_116 : decode cX7_line 116 = .ok (.ireturn, 1) := by decide +kernel
theorem dX7_at_0 : decode cX7_at 0 = .ok (.aload_n 0, 1) := by decide +kernel
theorem dX7_at_1 : decode cX7_at 1 = .ok (.getfield 16, 3) := by decide +kernel
theorem dX7_at_4 : decode cX7_at 4 = .ok (.iload_n 2, 1) := by decide +kernel
theorem dX7_at_5 : decode cX7_at 5 = .ok (.baload, 1) := by decide +kernel
theorem dX7_at_6 : decode cX7_at 6 = .ok (.ifCond .eq 10, 3) := by decide +kernel
theorem dX7_at_9 : decode cX7_at 9 = .ok (.bipush 64, 2) := by decide +kernel
theorem dX7_at_11 : decode cX7_at 11 = .ok (.iload_n 2, 1) := by decide +kernel
theorem dX7_at_12 : decode cX7_at 12 = .ok (.iadd, 1) := by decide +kernel
theorem dX7_at_13 : decode cX7_at 13 = .ok (.goto 9, 3) := by decide +kernel
theorem dX7_at_16 : decode cX7_at 16 = .ok (.bipush 16, 2) := by decide +kernel
theorem dX7_at_18 : decode cX7_at 18 = .ok (.iload_n 1, 1) := by decide +kernel
theorem dX7_at_19 : decode cX7_at 19 = .ok (.imul, 1) := by decide +kernel
theorem dX7_at_20 : decode cX7_at 20 = .ok (.iload_n 2, 1) := by decide +kernel
theorem dX7_at_21 : decode cX7_at 21 = .ok (.iadd, 1) := by decide +kernel
theorem dX7_at_22 : decode cX7_at 22 = .ok (.ireturn, 1) := by decide +kernel
theorem dX7_wakes_0 : decode cX7_wakes 0 = .ok (.aload_n 0, 1) := by decide +kernel
theorem dX7_wakes_1 : decode cX7_wakes 1 = .ok (.iconst 0, 1) := by decide +kernel
theorem dX7_wakes_2 : decode cX7_wakes 2 = .ok (.putfield 135, 3) := by decide +kernel
theorem dX7_wakes_5 : decode cX7_wakes 5 = .ok (.aload_n 0, 1) := by decide +kernel
theorem dX7_wakes_6 : decode cX7_wakes 6 = .ok (.iload_n 1, 1) := by decide +kernel
theorem dX7_wakes_7 : decode cX7_wakes 7 = .ok (.iload_n 2, 1) := by decide +kernel
theorem dX7_wakes_8 : decode cX7_wakes 8 = .ok (.invokevirtual 138, 3) := by decide +kernel
theorem dX7_wakes_11 : decode cX7_wakes 11 = .ok (.aload_n 0, 1) := by decide +kernel
theorem dX7_wakes_12 : decode cX7_wakes 12 = .ok (.getfield 135, 3) := by decide +kernel
theorem dX7_wakes_15 : decode cX7_wakes 15 = .ok (.ifCond .le 26, 3) := by decide +kernel
theorem dX7_wakes_18 : decode cX7_wakes 18 = .ok (.aload_n 0, 1) := by decide +kernel
theorem dX7_wakes_19 : decode cX7_wakes 19 = .ok (.getfield 142, 3) := by decide +kernel
theorem dX7_wakes_22 : decode cX7_wakes 22 = .ok (.ifCond .eq 11, 3) := by decide +kernel
theorem dX7_wakes_25 : decode cX7_wakes 25 = .ok (.aload_n 0, 1) := by decide +kernel
theorem dX7_wakes_26 : decode cX7_wakes 26 = .ok (.iload_n 1, 1) := by decide +kernel
theorem dX7_wakes_27 : decode cX7_wakes 27 = .ok (.invokevirtual 146, 3) := by decide +kernel
theorem dX7_wakes_30 : decode cX7_wakes 30 = .ok (.goto (-19), 3) := by decide +kernel
theorem dX7_wakes_33 : decode cX7_wakes 33 = .ok (.aload_n 0, 1) := by decide +kernel
theorem dX7_wakes_34 : decode cX7_wakes 34 = .ok (.iload_n 1, 1) := by decide +kernel
theorem dX7_wakes_35 : decode cX7_wakes 35 = .ok (.invokevirtual 150, 3) := by decide +kernel
theorem dX7_wakes_38 : decode cX7_wakes 38 = .ok (.goto (-27), 3) := by decide +kernel
theorem dX7_wakes_41 : decode cX7_wakes 41 = .ok (.aload_n 0, 1) := by decide +kernel
theorem dX7_wakes_42 : decode cX7_wakes 42 = .ok (.getfield 153, 3) := by decide +kernel
theorem dX7_wakes_45 : decode cX7_wakes 45 = .ok (.ireturn, 1) := by decide +kernel
theorem dX7_ask_0 : decode cX7_ask 0 = .ok (.aload_n 0, 1) := by decide +kernel
theorem dX7_ask_1 : decode cX7_ask 1 = .ok (.getfield 38, 3) := by decide +kernel
theorem dX7_ask_4 : decode cX7_ask 4 = .ok (.aload_n 0, 1) := by decide +kernel
theorem dX7_ask_5 : decode cX7_ask 5 = .ok (.iload_n 1, 1) := by decide +kernel
theorem dX7_ask_6 : decode cX7_ask 6 = .ok (.iload_n 2, 1) := by decide +kernel
theorem dX7_ask_7 : decode cX7_ask 7 = .ok (.invokevirtual 156, 3) := by decide +kernel
theorem dX7_ask_10 : decode cX7_ask 10 = .ok (.iaload, 1) := by decide +kernel
theorem dX7_ask_11 : decode cX7_ask 11 = .ok (.istore_n 3, 1) := by decide +kernel
theorem dX7_ask_12 : decode cX7_ask 12 = .ok (.aload_n 0, 1) := by decide +kernel
theorem dX7_ask_13 : decode cX7_ask 13 = .ok (.iload_n 3, 1) := by decide +kernel
theorem dX7_ask_14 : decode cX7_ask 14 = .ok (.ifCond .eq 7, 3) := by decide +kernel
theorem dX7_ask_17 : decode cX7_ask 17 = .ok (.iconst 1, 1) := by decide +kernel
theorem dX7_ask_18 : decode cX7_ask 18 = .ok (.goto 4, 3) := by decide +kernel
theorem dX7_ask_21 : decode cX7_ask 21 = .ok (.iconst 0, 1) := by decide +kernel
theorem dX7_ask_22 : decode cX7_ask 22 = .ok (.putfield 142, 3) := by decide +kernel
theorem dX7_ask_25 : decode cX7_ask 25 = .ok (.aload_n 0, 1) := by decide +kernel
theorem dX7_ask_26 : decode cX7_ask 26 = .ok (.iload_n 3, 1) := by decide +kernel
theorem dX7_ask_27 : decode cX7_ask 27 = .ok (.iconst 3, 1) := by decide +kernel
theorem dX7_ask_28 : decode cX7_ask 28 = .ok (.if_icmp .ne 8, 3) := by decide +kernel
theorem dX7_ask_31 : decode cX7_ask 31 = .ok (.bipush 18, 2) := by decide +kernel
theorem dX7_ask_33 : decode cX7_ask 33 = .ok (.goto 4, 3) := by decide +kernel
theorem dX7_ask_36 : decode cX7_ask 36 = .ok (.iconst 0, 1) := by decide +kernel
theorem dX7_ask_37 : decode cX7_ask 37 = .ok (.putfield 153, 3) := by decide +kernel
theorem dX7_ask_40 : decode cX7_ask 40 = .ok (.iload_n 3, 1) := by decide +kernel
theorem dX7_ask_41 : decode cX7_ask 41 = .ok (.ifCond .ne 69, 3) := by decide +kernel
theorem dX7_ask_44 : decode cX7_ask 44 = .ok (.aload_n 0, 1) := by decide +kernel
theorem dX7_ask_45 : decode cX7_ask 45 = .ok (.getfield 38, 3) := by decide +kernel
theorem dX7_ask_48 : decode cX7_ask 48 = .ok (.aload_n 0, 1) := by decide +kernel
theorem dX7_ask_49 : decode cX7_ask 49 = .ok (.iload_n 1, 1) := by decide +kernel
theorem dX7_ask_50 : decode cX7_ask 50 = .ok (.iload_n 2, 1) := by decide +kernel
theorem dX7_ask_51 : decode cX7_ask 51 = .ok (.invokevirtual 156, 3) := by decide +kernel
theorem dX7_ask_54 : decode cX7_ask 54 = .ok (.iconst 1, 1) := by decide +kernel
theorem dX7_ask_55 : decode cX7_ask 55 = .ok (.iastore, 1) := by decide +kernel
theorem dX7_ask_56 : decode cX7_ask 56 = .ok (.aload_n 0, 1) := by decide +kernel
theorem dX7_ask_57 : decode cX7_ask 57 = .ok (.getfield 65, 3) := by decide +kernel
theorem dX7_ask_60 : decode cX7_ask 60 = .ok (.aload_n 0, 1) := by decide +kernel
theorem dX7_ask_61 : decode cX7_ask 61 = .ok (.getfield 135, 3) := by decide +kernel
theorem dX7_ask_64 : decode cX7_ask 64 = .ok (.iload_n 2, 1) := by decide +kernel
theorem dX7_ask_65 : decode cX7_ask 65 = .ok (.iastore, 1) := by decide +kernel
theorem dX7_ask_66 : decode cX7_ask 66 = .ok (.aload_n 0, 1) := by decide +kernel
theorem dX7_ask_67 : decode cX7_ask 67 = .ok (.getfield 68, 3) := by decide +kernel
theorem dX7_ask_70 : decode cX7_ask 70 = .ok (.aload_n 0, 1) := by decide +kernel
theorem dX7_ask_71 : decode cX7_ask 71 = .ok (.getfield 135, 3) := by decide +kernel
theorem dX7_ask_74 : decode cX7_ask 74 = .ok (.iconst 0, 1) := by decide +kernel
theorem dX7_ask_75 : decode cX7_ask 75 = .ok (.iastore, 1) := by decide +kernel
theorem dX7_ask_76 : decode cX7_ask 76 = .ok (.aload_n 0, 1) := by decide +kernel
theorem dX7_ask_77 : decode cX7_ask 77 = .ok (.getfield 83, 3) := by decide +kernel
theorem dX7_ask_80 : decode cX7_ask 80 = .ok (.aload_n 0, 1) := by decide +kernel
theorem dX7_ask_81 : decode cX7_ask 81 = .ok (.getfield 135, 3) := by decide +kernel
theorem dX7_ask_84 : decode cX7_ask 84 = .ok (.iconst 0, 1) := by decide +kernel
theorem dX7_ask_85 : decode cX7_ask 85 = .ok (.iastore, 1) := by decide +kernel
theorem dX7_ask_86 : decode cX7_ask 86 = .ok (.aload_n 0, 1) := by decide +kernel
theorem dX7_ask_87 : decode cX7_ask 87 = .ok (.getfield 7, 3) := by decide +kernel
theorem dX7_ask_90 : decode cX7_ask 90 = .ok (.iload_n 2, 1) := by decide +kernel
theorem dX7_ask_91 : decode cX7_ask 91 = .ok (.iaload, 1) := by decide +kernel
theorem dX7_ask_92 : decode cX7_ask 92 = .ok (.ifCond .ne 8, 3) := by decide +kernel
theorem dX7_ask_95 : decode cX7_ask 95 = .ok (.aload_n 0, 1) := by decide +kernel
theorem dX7_ask_96 : decode cX7_ask 96 = .ok (.iload_n 2, 1) := by decide +kernel
theorem dX7_ask_97 : decode cX7_ask 97 = .ok (.invokevirtual 160, 3) := by decide +kernel
theorem dX7_ask_100 : decode cX7_ask 100 = .ok (.aload_n 0, 1) := by decide +kernel
theorem dX7_ask_101 : decode cX7_ask 101 = .ok (.dup, 1) := by decide +kernel
theorem dX7_ask_102 : decode cX7_ask 102 = .ok (.getfield 135, 3) := by decide +kernel
theorem dX7_ask_105 : decode cX7_ask 105 = .ok (.iconst 1, 1) := by decide +kernel
theorem dX7_ask_106 : decode cX7_ask 106 = .ok (.iadd, 1) := by decide +kernel
theorem dX7_ask_107 : decode cX7_ask 107 = .ok (.putfield 135, 3) := by decide +kernel
theorem dX7_ask_110 : decode cX7_ask 110 = .ok (.return_, 1) := by decide +kernel
theorem dX7_listFulls_0 : decode cX7_listFulls 0 = .ok (.iconst 0, 1) := by decide +kernel
theorem dX7_listFulls_1 : decode cX7_listFulls 1 = .ok (.istore_n 2, 1) := by decide +kernel
theorem dX7_listFulls_2 : decode cX7_listFulls 2 = .ok (.iload_n 2, 1) := by decide +kernel
theorem dX7_listFulls_3 : decode cX7_listFulls 3 = .ok (.bipush 16, 2) := by decide +kernel
theorem dX7_listFulls_5 : decode cX7_listFulls 5 = .ok (.if_icmp .ge 16, 3) := by decide +kernel
theorem dX7_listFulls_8 : decode cX7_listFulls 8 = .ok (.aload_n 0, 1) := by decide +kernel
theorem dX7_listFulls_9 : decode cX7_listFulls 9 = .ok (.getfield 86, 3) := by decide +kernel
theorem dX7_listFulls_12 : decode cX7_listFulls 12 = .ok (.iload_n 2, 1) := by decide +kernel
theorem dX7_listFulls_13 : decode cX7_listFulls 13 = .ok (.iconst 0, 1) := by decide +kernel
theorem dX7_listFulls_14 : decode cX7_listFulls 14 = .ok (.bastore, 1) := by decide +kernel
theorem dX7_listFulls_15 : decode cX7_listFulls 15 = .ok (.iinc 2 1, 3) := by decide +kernel
theorem dX7_listFulls_18 : decode cX7_listFulls 18 = .ok (.goto (-16), 3) := by decide +kernel
theorem dX7_listFulls_21 : decode cX7_listFulls 21 = .ok (.iconst 1, 1) := by decide +kernel
theorem dX7_listFulls_22 : decode cX7_listFulls 22 = .ok (.istore_n 2, 1) := by decide +kernel
theorem dX7_listFulls_23 : decode cX7_listFulls 23 = .ok (.aload_n 0, 1) := by decide +kernel
theorem dX7_listFulls_24 : decode cX7_listFulls 24 = .ok (.getfield 89, 3) := by decide +kernel
theorem dX7_listFulls_27 : decode cX7_listFulls 27 = .ok (.iconst 0, 1) := by decide +kernel
theorem dX7_listFulls_28 : decode cX7_listFulls 28 = .ok (.iload_n 1, 1) := by decide +kernel
theorem dX7_listFulls_29 : decode cX7_listFulls 29 = .ok (.iastore, 1) := by decide +kernel
theorem dX7_listFulls_30 : decode cX7_listFulls 30 = .ok (.aload_n 0, 1) := by decide +kernel
theorem dX7_listFulls_31 : decode cX7_listFulls 31 = .ok (.getfield 92, 3) := by decide +kernel
theorem dX7_listFulls_34 : decode cX7_listFulls 34 = .ok (.iconst 0, 1) := by decide +kernel
theorem dX7_listFulls_35 : decode cX7_listFulls 35 = .ok (.iconst 0, 1) := by decide +kernel
theorem dX7_listFulls_36 : decode cX7_listFulls 36 = .ok (.iastore, 1) := by decide +kernel
theorem dX7_listFulls_37 : decode cX7_listFulls 37 = .ok (.iload_n 2, 1) := by decide +kernel
theorem dX7_listFulls_38 : decode cX7_listFulls 38 = .ok (.ifCond .le 155, 3) := by decide +kernel
theorem dX7_listFulls_41 : decode cX7_listFulls 41 = .ok (.aload_n 0, 1) := by decide +kernel
theorem dX7_listFulls_42 : decode cX7_listFulls 42 = .ok (.getfield 89, 3) := by decide +kernel
theorem dX7_listFulls_45 : decode cX7_listFulls 45 = .ok (.iload_n 2, 1) := by decide +kernel
theorem dX7_listFulls_46 : decode cX7_listFulls 46 = .ok (.iconst 1, 1) := by decide +kernel
theorem dX7_listFulls_47 : decode cX7_listFulls 47 = .ok (.isub, 1) := by decide +kernel
theorem dX7_listFulls_48 : decode cX7_listFulls 48 = .ok (.iaload, 1) := by decide +kernel
theorem dX7_listFulls_49 : decode cX7_listFulls 49 = .ok (.istore_n 3, 1) := by decide +kernel
theorem dX7_listFulls_50 : decode cX7_listFulls 50 = .ok (.aload_n 0, 1) := by decide +kernel
theorem dX7_listFulls_51 : decode cX7_listFulls 51 = .ok (.getfield 92, 3) := by decide +kernel
theorem dX7_listFulls_54 : decode cX7_listFulls 54 = .ok (.iload_n 2, 1) := by decide +kernel
theorem dX7_listFulls_55 : decode cX7_listFulls 55 = .ok (.iconst 1, 1) := by decide +kernel
theorem dX7_listFulls_56 : decode cX7_listFulls 56 = .ok (.isub, 1) := by decide +kernel
theorem dX7_listFulls_57 : decode cX7_listFulls 57 = .ok (.iaload, 1) := by decide +kernel
theorem dX7_listFulls_58 : decode cX7_listFulls 58 = .ok (.aload_n 0, 1) := by decide +kernel
theorem dX7_listFulls_59 : decode cX7_listFulls 59 = .ok (.getfield 20, 3) := by decide +kernel
theorem dX7_listFulls_62 : decode cX7_listFulls 62 = .ok (.iload_n 3, 1) := by decide +kernel
theorem dX7_listFulls_63 : decode cX7_listFulls 63 = .ok (.iaload, 1) := by decide +kernel
theorem dX7_listFulls_64 : decode cX7_listFulls 64 = .ok (.if_icmp .ge 73, 3) := by decide +kernel
theorem dX7_listFulls_67 : decode cX7_listFulls 67 = .ok (.aload_n 0, 1) := by decide +kernel
theorem dX7_listFulls_68 : decode cX7_listFulls 68 = .ok (.getfield 23, 3) := by decide +kernel
theorem dX7_listFulls_71 : decode cX7_listFulls 71 = .ok (.iconst 3, 1) := by decide +kernel
theorem dX7_listFulls_72 : decode cX7_listFulls 72 = .ok (.iload_n 3, 1) := by decide +kernel
theorem dX7_listFulls_73 : decode cX7_listFulls 73 = .ok (.imul, 1) := by decide +kernel
theorem dX7_listFulls_74 : decode cX7_listFulls 74 = .ok (.aload_n 0, 1) := by decide +kernel
theorem dX7_listFulls_75 : decode cX7_listFulls 75 = .ok (.getfield 92, 3) := by decide +kernel
theorem dX7_listFulls_78 : decode cX7_listFulls 78 = .ok (.iload_n 2, 1) := by decide +kernel
theorem dX7_listFulls_79 : decode cX7_listFulls 79 = .ok (.iconst 1, 1) := by decide +kernel
theorem dX7_listFulls_80 : decode cX7_listFulls 80 = .ok (.isub, 1) := by decide +kernel
theorem dX7_listFulls_81 : decode cX7_listFulls 81 = .ok (.iaload, 1) := by decide +kernel
theorem dX7_listFulls_82 : decode cX7_listFulls 82 = .ok (.iadd, 1) := by decide +kernel
theorem dX7_listFulls_83 : decode cX7_listFulls 83 = .ok (.iaload, 1) := by decide +kernel
theorem dX7_listFulls_84 : decode cX7_listFulls 84 = .ok (.istore 4, 2) := by decide +kernel
theorem dX7_listFulls_86 : decode cX7_listFulls 86 = .ok (.aload_n 0, 1) := by decide +kernel
theorem dX7_listFulls_87 : decode cX7_listFulls 87 = .ok (.getfield 92, 3) := by decide +kernel
theorem dX7_listFulls_90 : decode cX7_listFulls 90 = .ok (.iload_n 2, 1) := by decide +kernel
theorem dX7_listFulls_91 : decode cX7_listFulls 91 = .ok (.iconst 1, 1) := by decide +kernel
theorem dX7_listFulls_92 : decode cX7_listFulls 92 = .ok (.isub, 1) := by decide +kernel
theorem dX7_listFulls_93 : decode cX7_listFulls 93 = .ok (.dup2, 1) := by decide +kernel
theorem dX7_listFulls_94 : decode cX7_listFulls 94 = .ok (.iaload, 1) := by decide +kernel
theorem dX7_listFulls_95 : decode cX7_listFulls 95 = .ok (.iconst 1, 1) := by decide +kernel
theorem dX7_listFulls_96 : decode cX7_listFulls 96 = .ok (.iadd, 1) := by decide +kernel
theorem dX7_listFulls_97 : decode cX7_listFulls 97 = .ok (.iastore, 1) := by decide +kernel
theorem dX7_listFulls_98 : decode cX7_listFulls 98 = .ok (.aload_n 0, 1) := by decide +kernel
theorem dX7_listFulls_99 : decode cX7_listFulls 99 = .ok (.getfield 86, 3) := by decide +kernel
theorem dX7_listFulls_102 : decode cX7_listFulls 102 = .ok (.iload 4, 2) := by decide +kernel
theorem dX7_listFulls_104 : decode cX7_listFulls 104 = .ok (.baload, 1) := by decide +kernel
theorem dX7_listFulls_105 : decode cX7_listFulls 105 = .ok (.ifCond .ne 29, 3) := by decide +kernel
theorem dX7_listFulls_108 : decode cX7_listFulls 108 = .ok (.aload_n 0, 1) := by decide +kernel
theorem dX7_listFulls_109 : decode cX7_listFulls 109 = .ok (.getfield 86, 3) := by decide +kernel
theorem dX7_listFulls_112 : decode cX7_listFulls 112 = .ok (.iload 4, 2) := by decide +kernel
theorem dX7_listFulls_114 : decode cX7_listFulls 114 = .ok (.iconst 1, 1) := by decide +kernel
theorem dX7_listFulls_115 : decode cX7_listFulls 115 = .ok (.bastore, 1) := by decide +kernel
theorem dX7_listFulls_116 : decode cX7_listFulls 116 = .ok (.aload_n 0, 1) := by decide +kernel
theorem dX7_listFulls_117 : decode cX7_listFulls 117 = .ok (.getfield 89, 3) := by decide +kernel
theorem dX7_listFulls_120 : decode cX7_listFulls 120 = .ok (.iload_n 2, 1) := by decide +kernel
theorem dX7_listFulls_121 : decode cX7_listFulls 121 = .ok (.iload 4, 2) := by decide +kernel
theorem dX7_listFulls_123 : decode cX7_listFulls 123 = .ok (.iastore, 1) := by decide +kernel
theorem dX7_listFulls_124 : decode cX7_listFulls 124 = .ok (.aload_n 0, 1) := by decide +kernel
theorem dX7_listFulls_125 : decode cX7_listFulls 125 = .ok (.getfield 92, 3) := by decide +kernel
theorem dX7_listFulls_128 : decode cX7_listFulls 128 = .ok (.iload_n 2, 1) := by decide +kernel
theorem dX7_listFulls_129 : decode cX7_listFulls 129 = .ok (.iconst 0, 1) := by decide +kernel
theorem dX7_listFulls_130 : decode cX7_listFulls 130 = .ok (.iastore, 1) := by decide +kernel
theorem dX7_listFulls_131 : decode cX7_listFulls 131 = .ok (.iinc 2 1, 3) := by decide +kernel
theorem dX7_listFulls_134 : decode cX7_listFulls 134 = .ok (.goto 56, 3) := by decide +kernel
theorem dX7_listFulls_137 : decode cX7_listFulls 137 = .ok (.iinc 2 (-1), 3) := by decide +kernel
theorem dX7_listFulls_140 : decode cX7_listFulls 140 = .ok (.iload_n 2, 1) := by decide +kernel
theorem dX7_listFulls_141 : decode cX7_listFulls 141 = .ok (.ifCond .le 49, 3) := by decide +kernel
theorem dX7_listFulls_144 : decode cX7_listFulls 144 = .ok (.aload_n 0, 1) := by decide +kernel
theorem dX7_listFulls_145 : decode cX7_listFulls 145 = .ok (.getfield 7, 3) := by decide +kernel
theorem dX7_listFulls_148 : decode cX7_listFulls 148 = .ok (.iload_n 3, 1) := by decide +kernel
theorem dX7_listFulls_149 : decode cX7_listFulls 149 = .ok (.iaload, 1) := by decide +kernel
theorem dX7_listFulls_150 : decode cX7_listFulls 150 = .ok (.iconst 2, 1) := by decide +kernel
theorem dX7_listFulls_151 : decode cX7_listFulls 151 = .ok (.if_icmp .ne 39, 3) := by decide +kernel
theorem dX7_listFulls_154 : decode cX7_listFulls 154 = .ok (.aload_n 0, 1) := by decide +kernel
theorem dX7_listFulls_155 : decode cX7_listFulls 155 = .ok (.getfield 80, 3) := by decide +kernel
theorem dX7_listFulls_158 : decode cX7_listFulls 158 = .ok (.bipush 16, 2) := by decide +kernel
theorem dX7_listFulls_160 : decode cX7_listFulls 160 = .ok (.aload_n 0, 1) := by decide +kernel
theorem dX7_listFulls_161 : decode cX7_listFulls 161 = .ok (.getfield 135, 3) := by decide +kernel
theorem dX7_listFulls_164 : decode cX7_listFulls 164 = .ok (.imul, 1) := by decide +kernel
theorem dX7_listFulls_165 : decode cX7_listFulls 165 = .ok (.aload_n 0, 1) := by decide +kernel
theorem dX7_listFulls_166 : decode cX7_listFulls 166 = .ok (.getfield 83, 3) := by decide +kernel
theorem dX7_listFulls_169 : decode cX7_listFulls 169 = .ok (.aload_n 0, 1) := by decide +kernel
theorem dX7_listFulls_170 : decode cX7_listFulls 170 = .ok (.getfield 135, 3) := by decide +kernel
theorem dX7_listFulls_173 : decode cX7_listFulls 173 = .ok (.iaload, 1) := by decide +kernel
theorem dX7_listFulls_174 : decode cX7_listFulls 174 = .ok (.iadd, 1) := by decide +kernel
theorem dX7_listFulls_175 : decode cX7_listFulls 175 = .ok (.iload_n 3, 1) := by decide +kernel
theorem dX7_listFulls_176 : decode cX7_listFulls 176 = .ok (.iastore, 1) := by decide +kernel
theorem dX7_listFulls_177 : decode cX7_listFulls 177 = .ok (.aload_n 0, 1) := by decide +kernel
theorem dX7_listFulls_178 : decode cX7_listFulls 178 = .ok (.getfield 83, 3) := by decide +kernel
theorem dX7_listFulls_181 : decode cX7_listFulls 181 = .ok (.aload_n 0, 1) := by decide +kernel
theorem dX7_listFulls_182 : decode cX7_listFulls 182 = .ok (.getfield 135, 3) := by decide +kernel
theorem dX7_listFulls_185 : decode cX7_listFulls 185 = .ok (.dup2, 1) := by decide +kernel
theorem dX7_listFulls_186 : decode cX7_listFulls 186 = .ok (.iaload, 1) := by decide +kernel
theorem dX7_listFulls_187 : decode cX7_listFulls 187 = .ok (.iconst 1, 1) := by decide +kernel
theorem dX7_listFulls_188 : decode cX7_listFulls 188 = .ok (.iadd, 1) := by decide +kernel
theorem dX7_listFulls_189 : decode cX7_listFulls 189 = .ok (.iastore, 1) := by decide +kernel
theorem dX7_listFulls_190 : decode cX7_listFulls 190 = .ok (.goto (-153), 3) := by decide +kernel
theorem dX7_listFulls_193 : decode cX7_listFulls 193 = .ok (.return_, 1) := by decide +kernel
theorem dX7_end_0 : decode cX7_end 0 = .ok (.aload_n 0, 1) := by decide +kernel
theorem dX7_end_1 : decode cX7_end 1 = .ok (.dup, 1) := by decide +kernel
theorem dX7_end_2 : decode cX7_end 2 = .ok (.getfield 135, 3) := by decide +kernel
theorem dX7_end_5 : decode cX7_end 5 = .ok (.iconst 1, 1) := by decide +kernel
theorem dX7_end_6 : decode cX7_end 6 = .ok (.isub, 1) := by decide +kernel
theorem dX7_end_7 : decode cX7_end 7 = .ok (.putfield 135, 3) := by decide +kernel
theorem dX7_end_10 : decode cX7_end 10 = .ok (.aload_n 0, 1) := by decide +kernel
theorem dX7_end_11 : decode cX7_end 11 = .ok (.getfield 65, 3) := by decide +kernel
theorem dX7_end_14 : decode cX7_end 14 = .ok (.aload_n 0, 1) := by decide +kernel
theorem dX7_end_15 : decode cX7_end 15 = .ok (.getfield 135, 3) := by decide +kernel
theorem dX7_end_18 : decode cX7_end 18 = .ok (.iaload, 1) := by decide +kernel
theorem dX7_end_19 : decode cX7_end 19 = .ok (.istore_n 3, 1) := by decide +kernel
theorem dX7_end_20 : decode cX7_end 20 = .ok (.aload_n 0, 1) := by decide +kernel
theorem dX7_end_21 : decode cX7_end 21 = .ok (.getfield 38, 3) := by decide +kernel
theorem dX7_end_24 : decode cX7_end 24 = .ok (.aload_n 0, 1) := by decide +kernel
theorem dX7_end_25 : decode cX7_end 25 = .ok (.iload_n 1, 1) := by decide +kernel
theorem dX7_end_26 : decode cX7_end 26 = .ok (.iload_n 3, 1) := by decide +kernel
theorem dX7_end_27 : decode cX7_end 27 = .ok (.invokevirtual 156, 3) := by decide +kernel
theorem dX7_end_30 : decode cX7_end 30 = .ok (.iload_n 2, 1) := by decide +kernel
theorem dX7_end_31 : decode cX7_end 31 = .ok (.ifCond .ne 7, 3) := by decide +kernel
theorem dX7_end_34 : decode cX7_end 34 = .ok (.iconst 2, 1) := by decide +kernel
theorem dX7_end_35 : decode cX7_end 35 = .ok (.goto 4, 3) := by decide +kernel
theorem dX7_end_38 : decode cX7_end 38 = .ok (.iconst 3, 1) := by decide +kernel
theorem dX7_end_39 : decode cX7_end 39 = .ok (.iastore, 1) := by decide +kernel
theorem dX7_end_40 : decode cX7_end 40 = .ok (.aload_n 0, 1) := by decide +kernel
theorem dX7_end_41 : decode cX7_end 41 = .ok (.getfield 111, 3) := by decide +kernel
theorem dX7_end_44 : decode cX7_end 44 = .ok (.sipush 150, 3) := by decide +kernel
theorem dX7_end_47 : decode cX7_end 47 = .ok (.if_icmp .ge 70, 3) := by decide +kernel
theorem dX7_end_50 : decode cX7_end 50 = .ok (.aload_n 0, 1) := by decide +kernel
theorem dX7_end_51 : decode cX7_end 51 = .ok (.getfield 50, 3) := by decide +kernel
theorem dX7_end_54 : decode cX7_end 54 = .ok (.iconst 4, 1) := by decide +kernel
theorem dX7_end_55 : decode cX7_end 55 = .ok (.aload_n 0, 1) := by decide +kernel
theorem dX7_end_56 : decode cX7_end 56 = .ok (.getfield 111, 3) := by decide +kernel
theorem dX7_end_59 : decode cX7_end 59 = .ok (.imul, 1) := by decide +kernel
theorem dX7_end_60 : decode cX7_end 60 = .ok (.iload_n 3, 1) := by decide +kernel
theorem dX7_end_61 : decode cX7_end 61 = .ok (.iastore, 1) := by decide +kernel
theorem dX7_end_62 : decode cX7_end 62 = .ok (.aload_n 0, 1) := by decide +kernel
theorem dX7_end_63 : decode cX7_end 63 = .ok (.getfield 50, 3) := by decide +kernel
theorem dX7_end_66 : decode cX7_end 66 = .ok (.iconst 4, 1) := by decide +kernel
theorem dX7_end_67 : decode cX7_end 67 = .ok (.aload_n 0, 1) := by decide +kernel
theorem dX7_end_68 : decode cX7_end 68 = .ok (.getfield 111, 3) := by decide +kernel
theorem dX7_end_71 : decode cX7_end 71 = .ok (.imul, 1) := by decide +kernel
theorem dX7_end_72 : decode cX7_end 72 = .ok (.iconst 1, 1) := by decide +kernel
theorem dX7_end_73 : decode cX7_end 73 = .ok (.iadd, 1) := by decide +kernel
theorem dX7_end_74 : decode cX7_end 74 = .ok (.iload_n 1, 1) := by decide +kernel
theorem dX7_end_75 : decode cX7_end 75 = .ok (.iastore, 1) := by decide +kernel
theorem dX7_end_76 : decode cX7_end 76 = .ok (.aload_n 0, 1) := by decide +kernel
theorem dX7_end_77 : decode cX7_end 77 = .ok (.getfield 50, 3) := by decide +kernel
theorem dX7_end_80 : decode cX7_end 80 = .ok (.iconst 4, 1) := by decide +kernel
theorem dX7_end_81 : decode cX7_end 81 = .ok (.aload_n 0, 1) := by decide +kernel
theorem dX7_end_82 : decode cX7_end 82 = .ok (.getfield 111, 3) := by decide +kernel
theorem dX7_end_85 : decode cX7_end 85 = .ok (.imul, 1) := by decide +kernel
theorem dX7_end_86 : decode cX7_end 86 = .ok (.iconst 2, 1) := by decide +kernel
theorem dX7_end_87 : decode cX7_end 87 = .ok (.iadd, 1) := by decide +kernel
theorem dX7_end_88 : decode cX7_end 88 = .ok (.iload_n 2, 1) := by decide +kernel
theorem dX7_end_89 : decode cX7_end 89 = .ok (.iastore, 1) := by decide +kernel
theorem dX7_end_90 : decode cX7_end 90 = .ok (.aload_n 0, 1) := by decide +kernel
theorem dX7_end_91 : decode cX7_end 91 = .ok (.getfield 50, 3) := by decide +kernel
theorem dX7_end_94 : decode cX7_end 94 = .ok (.iconst 4, 1) := by decide +kernel
theorem dX7_end_95 : decode cX7_end 95 = .ok (.aload_n 0, 1) := by decide +kernel
theorem dX7_end_96 : decode cX7_end 96 = .ok (.getfield 111, 3) := by decide +kernel
theorem dX7_end_99 : decode cX7_end 99 = .ok (.imul, 1) := by decide +kernel
theorem dX7_end_100 : decode cX7_end 100 = .ok (.iconst 3, 1) := by decide +kernel
theorem dX7_end_101 : decode cX7_end 101 = .ok (.iadd, 1) := by decide +kernel
theorem dX7_end_102 : decode cX7_end 102 = .ok (.aload_n 0, 1) := by decide +kernel
theorem dX7_end_103 : decode cX7_end 103 = .ok (.getfield 108, 3) := by decide +kernel
theorem dX7_end_106 : decode cX7_end 106 = .ok (.iastore, 1) := by decide +kernel
theorem dX7_end_107 : decode cX7_end 107 = .ok (.aload_n 0, 1) := by decide +kernel
theorem dX7_end_108 : decode cX7_end 108 = .ok (.dup, 1) := by decide +kernel
theorem dX7_end_109 : decode cX7_end 109 = .ok (.getfield 111, 3) := by decide +kernel
theorem dX7_end_112 : decode cX7_end 112 = .ok (.iconst 1, 1) := by decide +kernel
theorem dX7_end_113 : decode cX7_end 113 = .ok (.iadd, 1) := by decide +kernel
theorem dX7_end_114 : decode cX7_end 114 = .ok (.putfield 111, 3) := by decide +kernel
theorem dX7_end_117 : decode cX7_end 117 = .ok (.aload_n 0, 1) := by decide +kernel
theorem dX7_end_118 : decode cX7_end 118 = .ok (.iconst 1, 1) := by decide +kernel
theorem dX7_end_119 : decode cX7_end 119 = .ok (.putfield 142, 3) := by decide +kernel
theorem dX7_end_122 : decode cX7_end 122 = .ok (.aload_n 0, 1) := by decide +kernel
theorem dX7_end_123 : decode cX7_end 123 = .ok (.iload_n 2, 1) := by decide +kernel
theorem dX7_end_124 : decode cX7_end 124 = .ok (.putfield 153, 3) := by decide +kernel
theorem dX7_end_127 : decode cX7_end 127 = .ok (.return_, 1) := by decide +kernel
theorem dX7_heard_0 : decode cX7_heard 0 = .ok (.aload_n 0, 1) := by decide +kernel
theorem dX7_heard_1 : decode cX7_heard 1 = .ok (.getfield 135, 3) := by decide +kernel
theorem dX7_heard_4 : decode cX7_heard 4 = .ok (.iconst 1, 1) := by decide +kernel
theorem dX7_heard_5 : decode cX7_heard 5 = .ok (.isub, 1) := by decide +kernel
theorem dX7_heard_6 : decode cX7_heard 6 = .ok (.istore_n 2, 1) := by decide +kernel
theorem dX7_heard_7 : decode cX7_heard 7 = .ok (.aload_n 0, 1) := by decide +kernel
theorem dX7_heard_8 : decode cX7_heard 8 = .ok (.getfield 65, 3) := by decide +kernel
theorem dX7_heard_11 : decode cX7_heard 11 = .ok (.iload_n 2, 1) := by decide +kernel
theorem dX7_heard_12 : decode cX7_heard 12 = .ok (.iaload, 1) := by decide +kernel
theorem dX7_heard_13 : decode cX7_heard 13 = .ok (.istore_n 3, 1) := by decide +kernel
theorem dX7_heard_14 : decode cX7_heard 14 = .ok (.aload_n 0, 1) := by decide +kernel
theorem dX7_heard_15 : decode cX7_heard 15 = .ok (.getfield 74, 3) := by decide +kernel
theorem dX7_heard_18 : decode cX7_heard 18 = .ok (.iload_n 2, 1) := by decide +kernel
theorem dX7_heard_19 : decode cX7_heard 19 = .ok (.iaload, 1) := by decide +kernel
theorem dX7_heard_20 : decode cX7_heard 20 = .ok (.istore 4, 2) := by decide +kernel
theorem dX7_heard_22 : decode cX7_heard 22 = .ok (.aload_n 0, 1) := by decide +kernel
theorem dX7_heard_23 : decode cX7_heard 23 = .ok (.getfield 35, 3) := by decide +kernel
theorem dX7_heard_26 : decode cX7_heard 26 = .ok (.iload 4, 2) := by decide +kernel
theorem dX7_heard_28 : decode cX7_heard 28 = .ok (.iconst 1, 1) := by decide +kernel
theorem dX7_heard_29 : decode cX7_heard 29 = .ok (.iadd, 1) := by decide +kernel
theorem dX7_heard_30 : decode cX7_heard 30 = .ok (.iaload, 1) := by decide +kernel
theorem dX7_heard_31 : decode cX7_heard 31 = .ok (.istore 5, 2) := by decide +kernel
theorem dX7_heard_33 : decode cX7_heard 33 = .ok (.aload_n 0, 1) := by decide +kernel
theorem dX7_heard_34 : decode cX7_heard 34 = .ok (.getfield 153, 3) := by decide +kernel
theorem dX7_heard_37 : decode cX7_heard 37 = .ok (.istore 6, 2) := by decide +kernel
theorem dX7_heard_39 : decode cX7_heard 39 = .ok (.aload_n 0, 1) := by decide +kernel
theorem dX7_heard_40 : decode cX7_heard 40 = .ok (.iconst 0, 1) := by decide +kernel
theorem dX7_heard_41 : decode cX7_heard 41 = .ok (.putfield 142, 3) := by decide +kernel
theorem dX7_heard_44 : decode cX7_heard 44 = .ok (.aload_n 0, 1) := by decide +kernel
theorem dX7_heard_45 : decode cX7_heard 45 = .ok (.getfield 71, 3) := by decide +kernel
theorem dX7_heard_48 : decode cX7_heard 48 = .ok (.iload_n 2, 1) := by decide +kernel
theorem dX7_heard_49 : decode cX7_heard 49 = .ok (.iaload, 1) := by decide +kernel
theorem dX7_heard_50 : decode cX7_heard 50 = .ok (.iconst 1, 1) := by decide +kernel
theorem dX7_heard_51 : decode cX7_heard 51 = .ok (.if_icmp .eq 13, 3) := by decide +kernel
theorem dX7_heard_54 : decode cX7_heard 54 = .ok (.aload_n 0, 1) := by decide +kernel
theorem dX7_heard_55 : decode cX7_heard 55 = .ok (.getfield 71, 3) := by decide +kernel
theorem dX7_heard_58 : decode cX7_heard 58 = .ok (.iload_n 2, 1) := by decide +kernel
theorem dX7_heard_59 : decode cX7_heard 59 = .ok (.iaload, 1) := by decide +kernel
theorem dX7_heard_60 : decode cX7_heard 60 = .ok (.iconst 2, 1) := by decide +kernel
theorem dX7_heard_61 : decode cX7_heard 61 = .ok (.if_icmp .ne 80, 3) := by decide +kernel
theorem dX7_heard_64 : decode cX7_heard 64 = .ok (.aload_n 0, 1) := by decide +kernel
theorem dX7_heard_65 : decode cX7_heard 65 = .ok (.getfield 71, 3) := by decide +kernel
theorem dX7_heard_68 : decode cX7_heard 68 = .ok (.iload_n 2, 1) := by decide +kernel
theorem dX7_heard_69 : decode cX7_heard 69 = .ok (.iaload, 1) := by decide +kernel
theorem dX7_heard_70 : decode cX7_heard 70 = .ok (.iconst 1, 1) := by decide +kernel
theorem dX7_heard_71 : decode cX7_heard 71 = .ok (.if_icmp .ne 8, 3) := by decide +kernel
theorem dX7_heard_74 : decode cX7_heard 74 = .ok (.iload 5, 2) := by decide +kernel
theorem dX7_heard_76 : decode cX7_heard 76 = .ok (.goto 12, 3) := by decide +kernel
theorem dX7_heard_79 : decode cX7_heard 79 = .ok (.aload_n 0, 1) := by decide +kernel
theorem dX7_heard_80 : decode cX7_heard 80 = .ok (.getfield 35, 3) := by decide +kernel
theorem dX7_heard_83 : decode cX7_heard 83 = .ok (.iload 4, 2) := by decide +kernel
theorem dX7_heard_85 : decode cX7_heard 85 = .ok (.iconst 2, 1) := by decide +kernel
theorem dX7_heard_86 : decode cX7_heard 86 = .ok (.iadd, 1) := by decide +kernel
theorem dX7_heard_87 : decode cX7_heard 87 = .ok (.iaload, 1) := by decide +kernel
theorem dX7_heard_88 : decode cX7_heard 88 = .ok (.istore 7, 2) := by decide +kernel
theorem dX7_heard_90 : decode cX7_heard 90 = .ok (.iload 6, 2) := by decide +kernel
theorem dX7_heard_92 : decode cX7_heard 92 = .ok (.ifCond .ne 19, 3) := by decide +kernel
theorem dX7_heard_95 : decode cX7_heard 95 = .ok (.aload_n 0, 1) := by decide +kernel
theorem dX7_heard_96 : decode cX7_heard 96 = .ok (.getfield 44, 3) := by decide +kernel
theorem dX7_heard_99 : decode cX7_heard 99 = .ok (.bipush 16, 2) := by decide +kernel
theorem dX7_heard_101 : decode cX7_heard 101 = .ok (.iload_n 1, 1) := by decide +kernel
theorem dX7_heard_102 : decode cX7_heard 102 = .ok (.imul, 1) := by decide +kernel
theorem dX7_heard_103 : decode cX7_heard 103 = .ok (.iload 7, 2) := by decide +kernel
theorem dX7_heard_105 : decode cX7_heard 105 = .ok (.iadd, 1) := by decide +kernel
theorem dX7_heard_106 : decode cX7_heard 106 = .ok (.dup2, 1) := by decide +kernel
theorem dX7_heard_107 : decode cX7_heard 107 = .ok (.iaload, 1) := by decide +kernel
theorem dX7_heard_108 : decode cX7_heard 108 = .ok (.iconst 1, 1) := by decide +kernel
theorem dX7_heard_109 : decode cX7_heard 109 = .ok (.iadd, 1) := by decide +kernel
theorem dX7_heard_110 : decode cX7_heard 110 = .ok (.iastore, 1) := by decide +kernel
theorem dX7_heard_111 : decode cX7_heard 111 = .ok (.aload_n 0, 1) := by decide +kernel
theorem dX7_heard_112 : decode cX7_heard 112 = .ok (.getfield 71, 3) := by decide +kernel
theorem dX7_heard_115 : decode cX7_heard 115 = .ok (.iload_n 2, 1) := by decide +kernel
theorem dX7_heard_116 : decode cX7_heard 116 = .ok (.iaload, 1) := by decide +kernel
theorem dX7_heard_117 : decode cX7_heard 117 = .ok (.iconst 1, 1) := by decide +kernel
theorem dX7_heard_118 : decode cX7_heard 118 = .ok (.if_icmp .ne 8, 3) := by decide +kernel
theorem dX7_heard_121 : decode cX7_heard 121 = .ok (.iload 6, 2) := by decide +kernel
theorem dX7_heard_123 : decode cX7_heard 123 = .ok (.goto 13, 3) := by decide +kernel
theorem dX7_heard_126 : decode cX7_heard 126 = .ok (.aload_n 0, 1) := by decide +kernel
theorem dX7_heard_127 : decode cX7_heard 127 = .ok (.iload_n 1, 1) := by decide +kernel
theorem dX7_heard_128 : decode cX7_heard 128 = .ok (.iload_n 3, 1) := by decide +kernel
theorem dX7_heard_129 : decode cX7_heard 129 = .ok (.iload 5, 2) := by decide +kernel
theorem dX7_heard_131 : decode cX7_heard 131 = .ok (.iload 6, 2) := by decide +kernel
theorem dX7_heard_133 : decode cX7_heard 133 = .ok (.invokevirtual 163, 3) := by decide +kernel
theorem dX7_heard_136 : decode cX7_heard 136 = .ok (.istore 6, 2) := by decide +kernel
theorem dX7_heard_138 : decode cX7_heard 138 = .ok (.goto 57, 3) := by decide +kernel
theorem dX7_heard_141 : decode cX7_heard 141 = .ok (.aload_n 0, 1) := by decide +kernel
theorem dX7_heard_142 : decode cX7_heard 142 = .ok (.getfield 71, 3) := by decide +kernel
theorem dX7_heard_145 : decode cX7_heard 145 = .ok (.iload_n 2, 1) := by decide +kernel
theorem dX7_heard_146 : decode cX7_heard 146 = .ok (.iaload, 1) := by decide +kernel
theorem dX7_heard_147 : decode cX7_heard 147 = .ok (.iconst 3, 1) := by decide +kernel
theorem dX7_heard_148 : decode cX7_heard 148 = .ok (.if_icmp .ne 47, 3) := by decide +kernel
theorem dX7_heard_151 : decode cX7_heard 151 = .ok (.iload 6, 2) := by decide +kernel
theorem dX7_heard_153 : decode cX7_heard 153 = .ok (.ifCond .ne 42, 3) := by decide +kernel
theorem dX7_heard_156 : decode cX7_heard 156 = .ok (.aload_n 0, 1) := by decide +kernel
theorem dX7_heard_157 : decode cX7_heard 157 = .ok (.iload_n 1, 1) := by decide +kernel
theorem dX7_heard_158 : decode cX7_heard 158 = .ok (.iload_n 3, 1) := by decide +kernel
theorem dX7_heard_159 : decode cX7_heard 159 = .ok (.iload 5, 2) := by decide +kernel
theorem dX7_heard_161 : decode cX7_heard 161 = .ok (.aload_n 0, 1) := by decide +kernel
theorem dX7_heard_162 : decode cX7_heard 162 = .ok (.iload_n 1, 1) := by decide +kernel
theorem dX7_heard_163 : decode cX7_heard 163 = .ok (.iload_n 3, 1) := by decide +kernel
theorem dX7_heard_164 : decode cX7_heard 164 = .ok (.iload 5, 2) := by decide +kernel
theorem dX7_heard_166 : decode cX7_heard 166 = .ok (.invokevirtual 167, 3) := by decide +kernel
theorem dX7_heard_169 : decode cX7_heard 169 = .ok (.aload_n 0, 1) := by decide +kernel
theorem dX7_heard_170 : decode cX7_heard 170 = .ok (.iload_n 1, 1) := by decide +kernel
theorem dX7_heard_171 : decode cX7_heard 171 = .ok (.aload_n 0, 1) := by decide +kernel
theorem dX7_heard_172 : decode cX7_heard 172 = .ok (.getfield 77, 3) := by decide +kernel
theorem dX7_heard_175 : decode cX7_heard 175 = .ok (.iload_n 2, 1) := by decide +kernel
theorem dX7_heard_176 : decode cX7_heard 176 = .ok (.iaload, 1) := by decide +kernel
theorem dX7_heard_177 : decode cX7_heard 177 = .ok (.aload_n 0, 1) := by decide +kernel
theorem dX7_heard_178 : decode cX7_heard 178 = .ok (.getfield 35, 3) := by decide +kernel
theorem dX7_heard_181 : decode cX7_heard 181 = .ok (.iload 4, 2) := by decide +kernel
theorem dX7_heard_183 : decode cX7_heard 183 = .ok (.iconst 3, 1) := by decide +kernel
theorem dX7_heard_184 : decode cX7_heard 184 = .ok (.iadd, 1) := by decide +kernel
theorem dX7_heard_185 : decode cX7_heard 185 = .ok (.iaload, 1) := by decide +kernel
theorem dX7_heard_186 : decode cX7_heard 186 = .ok (.invokevirtual 167, 3) := by decide +kernel
theorem dX7_heard_189 : decode cX7_heard 189 = .ok (.iadd, 1) := by decide +kernel
theorem dX7_heard_190 : decode cX7_heard 190 = .ok (.invokevirtual 163, 3) := by decide +kernel
theorem dX7_heard_193 : decode cX7_heard 193 = .ok (.istore 6, 2) := by decide +kernel
theorem dX7_heard_195 : decode cX7_heard 195 = .ok (.iload 6, 2) := by decide +kernel
theorem dX7_heard_197 : decode cX7_heard 197 = .ok (.ifCond .eq 10, 3) := by decide +kernel
theorem dX7_heard_200 : decode cX7_heard 200 = .ok (.aload_n 0, 1) := by decide +kernel
theorem dX7_heard_201 : decode cX7_heard 201 = .ok (.iload_n 1, 1) := by decide +kernel
theorem dX7_heard_202 : decode cX7_heard 202 = .ok (.iload 6, 2) := by decide +kernel
theorem dX7_heard_204 : decode cX7_heard 204 = .ok (.invokevirtual 171, 3) := by decide +kernel
theorem dX7_heard_207 : decode cX7_heard 207 = .ok (.return_, 1) := by decide +kernel
theorem dX7_goes_0 : decode cX7_goes 0 = .ok (.aload_n 0, 1) := by decide +kernel
theorem dX7_goes_1 : decode cX7_goes 1 = .ok (.getfield 135, 3) := by decide +kernel
theorem dX7_goes_4 : decode cX7_goes 4 = .ok (.iconst 1, 1) := by decide +kernel
theorem dX7_goes_5 : decode cX7_goes 5 = .ok (.isub, 1) := by decide +kernel
theorem dX7_goes_6 : decode cX7_goes 6 = .ok (.istore_n 2, 1) := by decide +kernel
theorem dX7_goes_7 : decode cX7_goes 7 = .ok (.aload_n 0, 1) := by decide +kernel
theorem dX7_goes_8 : decode cX7_goes 8 = .ok (.getfield 65, 3) := by decide +kernel
theorem dX7_goes_11 : decode cX7_goes 11 = .ok (.iload_n 2, 1) := by decide +kernel
theorem dX7_goes_12 : decode cX7_goes 12 = .ok (.iaload, 1) := by decide +kernel
theorem dX7_goes_13 : decode cX7_goes 13 = .ok (.istore_n 3, 1) := by decide +kernel
theorem dX7_goes_14 : decode cX7_goes 14 = .ok (.aload_n 0, 1) := by decide +kernel
theorem dX7_goes_15 : decode cX7_goes 15 = .ok (.getfield 68, 3) := by decide +kernel
theorem dX7_goes_18 : decode cX7_goes 18 = .ok (.iload_n 2, 1) := by decide +kernel
theorem dX7_goes_19 : decode cX7_goes 19 = .ok (.iaload, 1) := by decide +kernel
theorem dX7_goes_20 : decode cX7_goes 20 = .ok (.istore 4, 2) := by decide +kernel
theorem dX7_goes_22 : decode cX7_goes 22 = .ok (.aload_n 0, 1) := by decide +kernel
theorem dX7_goes_23 : decode cX7_goes 23 = .ok (.getfield 68, 3) := by decide +kernel
theorem dX7_goes_26 : decode cX7_goes 26 = .ok (.iload_n 2, 1) := by decide +kernel
theorem dX7_goes_27 : decode cX7_goes 27 = .ok (.dup2, 1) := by decide +kernel
theorem dX7_goes_28 : decode cX7_goes 28 = .ok (.iaload, 1) := by decide +kernel
theorem dX7_goes_29 : decode cX7_goes 29 = .ok (.iconst 1, 1) := by decide +kernel
theorem dX7_goes_30 : decode cX7_goes 30 = .ok (.iadd, 1) := by decide +kernel
theorem dX7_goes_31 : decode cX7_goes 31 = .ok (.iastore, 1) := by decide +kernel
theorem dX7_goes_32 : decode cX7_goes 32 = .ok (.iload 4, 2) := by decide +kernel
theorem dX7_goes_34 : decode cX7_goes 34 = .ok (.ifCond .ne 34, 3) := by decide +kernel
theorem dX7_goes_37 : decode cX7_goes 37 = .ok (.aload_n 0, 1) := by decide +kernel
theorem dX7_goes_38 : decode cX7_goes 38 = .ok (.getfield 13, 3) := by decide +kernel
theorem dX7_goes_41 : decode cX7_goes 41 = .ok (.iload_n 3, 1) := by decide +kernel
theorem dX7_goes_42 : decode cX7_goes 42 = .ok (.iaload, 1) := by decide +kernel
theorem dX7_goes_43 : decode cX7_goes 43 = .ok (.iconst (-1), 1) := by decide +kernel
theorem dX7_goes_44 : decode cX7_goes 44 = .ok (.if_icmp .eq 123, 3) := by decide +kernel
theorem dX7_goes_47 : decode cX7_goes 47 = .ok (.aload_n 0, 1) := by decide +kernel
theorem dX7_goes_48 : decode cX7_goes 48 = .ok (.getfield 71, 3) := by decide +kernel
theorem dX7_goes_51 : decode cX7_goes 51 = .ok (.iload_n 2, 1) := by decide +kernel
theorem dX7_goes_52 : decode cX7_goes 52 = .ok (.iconst 0, 1) := by decide +kernel
theorem dX7_goes_53 : decode cX7_goes 53 = .ok (.iastore, 1) := by decide +kernel
theorem dX7_goes_54 : decode cX7_goes 54 = .ok (.aload_n 0, 1) := by decide +kernel
theorem dX7_goes_55 : decode cX7_goes 55 = .ok (.iload_n 1, 1) := by decide +kernel
theorem dX7_goes_56 : decode cX7_goes 56 = .ok (.aload_n 0, 1) := by decide +kernel
theorem dX7_goes_57 : decode cX7_goes 57 = .ok (.getfield 13, 3) := by decide +kernel
theorem dX7_goes_60 : decode cX7_goes 60 = .ok (.iload_n 3, 1) := by decide +kernel
theorem dX7_goes_61 : decode cX7_goes 61 = .ok (.iaload, 1) := by decide +kernel
theorem dX7_goes_62 : decode cX7_goes 62 = .ok (.invokevirtual 138, 3) := by decide +kernel
theorem dX7_goes_65 : decode cX7_goes 65 = .ok (.goto 102, 3) := by decide +kernel
theorem dX7_goes_68 : decode cX7_goes 68 = .ok (.iload 4, 2) := by decide +kernel
theorem dX7_goes_70 : decode cX7_goes 70 = .ok (.aload_n 0, 1) := by decide +kernel
theorem dX7_goes_71 : decode cX7_goes 71 = .ok (.getfield 83, 3) := by decide +kernel
theorem dX7_goes_74 : decode cX7_goes 74 = .ok (.iload_n 2, 1) := by decide +kernel
theorem dX7_goes_75 : decode cX7_goes 75 = .ok (.iaload, 1) := by decide +kernel
theorem dX7_goes_76 : decode cX7_goes 76 = .ok (.if_icmp .gt 32, 3) := by decide +kernel
theorem dX7_goes_79 : decode cX7_goes 79 = .ok (.aload_n 0, 1) := by decide +kernel
theorem dX7_goes_80 : decode cX7_goes 80 = .ok (.getfield 71, 3) := by decide +kernel
theorem dX7_goes_83 : decode cX7_goes 83 = .ok (.iload_n 2, 1) := by decide +kernel
theorem dX7_goes_84 : decode cX7_goes 84 = .ok (.iconst 0, 1) := by decide +kernel
theorem dX7_goes_85 : decode cX7_goes 85 = .ok (.iastore, 1) := by decide +kernel
theorem dX7_goes_86 : decode cX7_goes 86 = .ok (.aload_n 0, 1) := by decide +kernel
theorem dX7_goes_87 : decode cX7_goes 87 = .ok (.iload_n 1, 1) := by decide +kernel
theorem dX7_goes_88 : decode cX7_goes 88 = .ok (.aload_n 0, 1) := by decide +kernel
theorem dX7_goes_89 : decode cX7_goes 89 = .ok (.getfield 80, 3) := by decide +kernel
theorem dX7_goes_92 : decode cX7_goes 92 = .ok (.bipush 16, 2) := by decide +kernel
theorem dX7_goes_94 : decode cX7_goes 94 = .ok (.iload_n 2, 1) := by decide +kernel
theorem dX7_goes_95 : decode cX7_goes 95 = .ok (.imul, 1) := by decide +kernel
theorem dX7_goes_96 : decode cX7_goes 96 = .ok (.iload 4, 2) := by decide +kernel
theorem dX7_goes_98 : decode cX7_goes 98 = .ok (.iadd, 1) := by decide +kernel
theorem dX7_goes_99 : decode cX7_goes 99 = .ok (.iconst 1, 1) := by decide +kernel
theorem dX7_goes_100 : decode cX7_goes 100 = .ok (.isub, 1) := by decide +kernel
theorem dX7_goes_101 : decode cX7_goes 101 = .ok (.iaload, 1) := by decide +kernel
theorem dX7_goes_102 : decode cX7_goes 102 = .ok (.invokevirtual 138, 3) := by decide +kernel
theorem dX7_goes_105 : decode cX7_goes 105 = .ok (.goto 62, 3) := by decide +kernel
theorem dX7_goes_108 : decode cX7_goes 108 = .ok (.iload 4, 2) := by decide +kernel
theorem dX7_goes_110 : decode cX7_goes 110 = .ok (.iconst 1, 1) := by decide +kernel
theorem dX7_goes_111 : decode cX7_goes 111 = .ok (.isub, 1) := by decide +kernel
theorem dX7_goes_112 : decode cX7_goes 112 = .ok (.aload_n 0, 1) := by decide +kernel
theorem dX7_goes_113 : decode cX7_goes 113 = .ok (.getfield 83, 3) := by decide +kernel
theorem dX7_goes_116 : decode cX7_goes 116 = .ok (.iload_n 2, 1) := by decide +kernel
theorem dX7_goes_117 : decode cX7_goes 117 = .ok (.iaload, 1) := by decide +kernel
theorem dX7_goes_118 : decode cX7_goes 118 = .ok (.isub, 1) := by decide +kernel
theorem dX7_goes_119 : decode cX7_goes 119 = .ok (.aload_n 0, 1) := by decide +kernel
theorem dX7_goes_120 : decode cX7_goes 120 = .ok (.getfield 32, 3) := by decide +kernel
theorem dX7_goes_123 : decode cX7_goes 123 = .ok (.iload_n 3, 1) := by decide +kernel
theorem dX7_goes_124 : decode cX7_goes 124 = .ok (.iaload, 1) := by decide +kernel
theorem dX7_goes_125 : decode cX7_goes 125 = .ok (.if_icmp .ge 36, 3) := by decide +kernel
theorem dX7_goes_128 : decode cX7_goes 128 = .ok (.aload_n 0, 1) := by decide +kernel
theorem dX7_goes_129 : decode cX7_goes 129 = .ok (.getfield 74, 3) := by decide +kernel
theorem dX7_goes_132 : decode cX7_goes 132 = .ok (.iload_n 2, 1) := by decide +kernel
theorem dX7_goes_133 : decode cX7_goes 133 = .ok (.bipush 32, 2) := by decide +kernel
theorem dX7_goes_135 : decode cX7_goes 135 = .ok (.iload_n 3, 1) := by decide +kernel
theorem dX7_goes_136 : decode cX7_goes 136 = .ok (.imul, 1) := by decide +kernel
theorem dX7_goes_137 : decode cX7_goes 137 = .ok (.iconst 4, 1) := by decide +kernel
theorem dX7_goes_138 : decode cX7_goes 138 = .ok (.iload 4, 2) := by decide +kernel
theorem dX7_goes_140 : decode cX7_goes 140 = .ok (.iconst 1, 1) := by decide +kernel
theorem dX7_goes_141 : decode cX7_goes 141 = .ok (.isub, 1) := by decide +kernel
theorem dX7_goes_142 : decode cX7_goes 142 = .ok (.aload_n 0, 1) := by decide +kernel
theorem dX7_goes_143 : decode cX7_goes 143 = .ok (.getfield 83, 3) := by decide +kernel
theorem dX7_goes_146 : decode cX7_goes 146 = .ok (.iload_n 2, 1) := by decide +kernel
theorem dX7_goes_147 : decode cX7_goes 147 = .ok (.iaload, 1) := by decide +kernel
theorem dX7_goes_148 : decode cX7_goes 148 = .ok (.isub, 1) := by decide +kernel
theorem dX7_goes_149 : decode cX7_goes 149 = .ok (.imul, 1) := by decide +kernel
theorem dX7_goes_150 : decode cX7_goes 150 = .ok (.iadd, 1) := by decide +kernel
theorem dX7_goes_151 : decode cX7_goes 151 = .ok (.iastore, 1) := by decide +kernel
theorem dX7_goes_152 : decode cX7_goes 152 = .ok (.aload_n 0, 1) := by decide +kernel
theorem dX7_goes_153 : decode cX7_goes 153 = .ok (.iload_n 1, 1) := by decide +kernel
theorem dX7_goes_154 : decode cX7_goes 154 = .ok (.iload_n 2, 1) := by decide +kernel
theorem dX7_goes_155 : decode cX7_goes 155 = .ok (.invokevirtual 174, 3) := by decide +kernel
theorem dX7_goes_158 : decode cX7_goes 158 = .ok (.goto 9, 3) := by decide +kernel
theorem dX7_goes_161 : decode cX7_goes 161 = .ok (.aload_n 0, 1) := by decide +kernel
theorem dX7_goes_162 : decode cX7_goes 162 = .ok (.iload_n 1, 1) := by decide +kernel
theorem dX7_goes_163 : decode cX7_goes 163 = .ok (.iconst 0, 1) := by decide +kernel
theorem dX7_goes_164 : decode cX7_goes 164 = .ok (.invokevirtual 171, 3) := by decide +kernel
theorem dX7_goes_167 : decode cX7_goes 167 = .ok (.return_, 1) := by decide +kernel
theorem dX7_does_0 : decode cX7_does 0 = .ok (.aload_n 0, 1) := by decide +kernel
theorem dX7_does_1 : decode cX7_does 1 = .ok (.getfield 74, 3) := by decide +kernel
theorem dX7_does_4 : decode cX7_does 4 = .ok (.iload_n 2, 1) := by decide +kernel
theorem dX7_does_5 : decode cX7_does 5 = .ok (.iaload, 1) := by decide +kernel
theorem dX7_does_6 : decode cX7_does 6 = .ok (.istore_n 3, 1) := by decide +kernel
theorem dX7_does_7 : decode cX7_does 7 = .ok (.aload_n 0, 1) := by decide +kernel
theorem dX7_does_8 : decode cX7_does 8 = .ok (.getfield 65, 3) := by decide +kernel
theorem dX7_does_11 : decode cX7_does 11 = .ok (.iload_n 2, 1) := by decide +kernel
theorem dX7_does_12 : decode cX7_does 12 = .ok (.iaload, 1) := by decide +kernel
theorem dX7_does_13 : decode cX7_does 13 = .ok (.istore 4, 2) := by decide +kernel
theorem dX7_does_15 : decode cX7_does 15 = .ok (.aload_n 0, 1) := by decide +kernel
theorem dX7_does_16 : decode cX7_does 16 = .ok (.getfield 35, 3) := by decide +kernel
theorem dX7_does_19 : decode cX7_does 19 = .ok (.iload_n 3, 1) := by decide +kernel
theorem dX7_does_20 : decode cX7_does 20 = .ok (.iaload, 1) := by decide +kernel
theorem dX7_does_21 : decode cX7_does 21 = .ok (.istore 5, 2) := by decide +kernel
theorem dX7_does_23 : decode cX7_does 23 = .ok (.aload_n 0, 1) := by decide +kernel
theorem dX7_does_24 : decode cX7_does 24 = .ok (.getfield 35, 3) := by decide +kernel
theorem dX7_does_27 : decode cX7_does 27 = .ok (.iload_n 3, 1) := by decide +kernel
theorem dX7_does_28 : decode cX7_does 28 = .ok (.iconst 1, 1) := by decide +kernel
theorem dX7_does_29 : decode cX7_does 29 = .ok (.iadd, 1) := by decide +kernel
theorem dX7_does_30 : decode cX7_does 30 = .ok (.iaload, 1) := by decide +kernel
theorem dX7_does_31 : decode cX7_does 31 = .ok (.istore 6, 2) := by decide +kernel
theorem dX7_does_33 : decode cX7_does 33 = .ok (.iload 5, 2) := by decide +kernel
theorem dX7_does_35 : decode cX7_does 35 = .ok (.iconst 4, 1) := by decide +kernel
theorem dX7_does_36 : decode cX7_does 36 = .ok (.if_icmp .ne 10, 3) := by decide +kernel
theorem dX7_does_39 : decode cX7_does 39 = .ok (.iconst 1, 1) := by decide +kernel
theorem dX7_does_40 : decode cX7_does 40 = .ok (.iload 6, 2) := by decide +kernel
theorem dX7_does_42 : decode cX7_does 42 = .ok (.iadd, 1) := by decide +kernel
theorem dX7_does_43 : decode cX7_does 43 = .ok (.goto 4, 3) := by decide +kernel
theorem dX7_does_46 : decode cX7_does 46 = .ok (.iconst 1, 1) := by decide +kernel
theorem dX7_does_47 : decode cX7_does 47 = .ok (.istore 7, 2) := by decide +kernel
theorem dX7_does_49 : decode cX7_does 49 = .ok (.aload_n 0, 1) := by decide +kernel
theorem dX7_does_50 : decode cX7_does 50 = .ok (.getfield 47, 3) := by decide +kernel
theorem dX7_does_53 : decode cX7_does 53 = .ok (.iload_n 1, 1) := by decide +kernel
theorem dX7_does_54 : decode cX7_does 54 = .ok (.iaload, 1) := by decide +kernel
theorem dX7_does_55 : decode cX7_does 55 = .ok (.iload 7, 2) := by decide +kernel
theorem dX7_does_57 : decode cX7_does 57 = .ok (.if_icmp .ge 8, 3) := by decide +kernel
theorem dX7_does_60 : decode cX7_does 60 = .ok (.bipush 17, 2) := by decide +kernel
theorem dX7_does_62 : decode cX7_does 62 = .ok (.goto 4, 3) := by decide +kernel
theorem dX7_does_65 : decode cX7_does 65 = .ok (.iconst 0, 1) := by decide +kernel
theorem dX7_does_66 : decode cX7_does 66 = .ok (.istore 8, 2) := by decide +kernel
theorem dX7_does_68 : decode cX7_does 68 = .ok (.iload 8, 2) := by decide +kernel
theorem dX7_does_70 : decode cX7_does 70 = .ok (.ifCond .ne 178, 3) := by decide +kernel
theorem dX7_does_73 : decode cX7_does 73 = .ok (.aload_n 0, 1) := by decide +kernel
theorem dX7_does_74 : decode cX7_does 74 = .ok (.getfield 47, 3) := by decide +kernel
theorem dX7_does_77 : decode cX7_does 77 = .ok (.iload_n 1, 1) := by decide +kernel
theorem dX7_does_78 : decode cX7_does 78 = .ok (.dup2, 1) := by decide +kernel
theorem dX7_does_79 : decode cX7_does 79 = .ok (.iaload, 1) := by decide +kernel
theorem dX7_does_80 : decode cX7_does 80 = .ok (.iload 7, 2) := by decide +kernel
theorem dX7_does_82 : decode cX7_does 82 = .ok (.isub, 1) := by decide +kernel
theorem dX7_does_83 : decode cX7_does 83 = .ok (.iastore, 1) := by decide +kernel
theorem dX7_does_84 : decode cX7_does 84 = .ok (.aload_n 0, 1) := by decide +kernel
theorem dX7_does_85 : decode cX7_does 85 = .ok (.dup, 1) := by decide +kernel
theorem dX7_does_86 : decode cX7_does 86 = .ok (.getfield 117, 3) := by decide +kernel
theorem dX7_does_89 : decode cX7_does 89 = .ok (.iload 7, 2) := by decide +kernel
theorem dX7_does_91 : decode cX7_does 91 = .ok (.iadd, 1) := by decide +kernel
theorem dX7_does_92 : decode cX7_does 92 = .ok (.putfield 117, 3) := by decide +kernel
theorem dX7_does_95 : decode cX7_does 95 = .ok (.iload 5, 2) := by decide +kernel
theorem dX7_does_97 : decode cX7_does 97 = .ok (.ifCond .ne 25, 3) := by decide +kernel
theorem dX7_does_100 : decode cX7_does 100 = .ok (.aload_n 0, 1) := by decide +kernel
theorem dX7_does_101 : decode cX7_does 101 = .ok (.iload_n 1, 1) := by decide +kernel
theorem dX7_does_102 : decode cX7_does 102 = .ok (.iload 4, 2) := by decide +kernel
theorem dX7_does_104 : decode cX7_does 104 = .ok (.iload 6, 2) := by decide +kernel
theorem dX7_does_106 : decode cX7_does 106 = .ok (.aload_n 0, 1) := by decide +kernel
theorem dX7_does_107 : decode cX7_does 107 = .ok (.getfield 35, 3) := by decide +kernel
theorem dX7_does_110 : decode cX7_does 110 = .ok (.iload_n 3, 1) := by decide +kernel
theorem dX7_does_111 : decode cX7_does 111 = .ok (.iconst 2, 1) := by decide +kernel
theorem dX7_does_112 : decode cX7_does 112 = .ok (.iadd, 1) := by decide +kernel
theorem dX7_does_113 : decode cX7_does 113 = .ok (.iaload, 1) := by decide +kernel
theorem dX7_does_114 : decode cX7_does 114 = .ok (.invokevirtual 163, 3) := by decide +kernel
theorem dX7_does_117 : decode cX7_does 117 = .ok (.istore 8, 2) := by decide +kernel
theorem dX7_does_119 : decode cX7_does 119 = .ok (.goto 129, 3) := by decide +kernel
theorem dX7_does_122 : decode cX7_does 122 = .ok (.iload 5, 2) := by decide +kernel
theorem dX7_does_124 : decode cX7_does 124 = .ok (.iconst 1, 1) := by decide +kernel
theorem dX7_does_125 : decode cX7_does 125 = .ok (.if_icmp .ne 14, 3) := by decide +kernel
theorem dX7_does_128 : decode cX7_does 128 = .ok (.aload_n 0, 1) := by decide +kernel
theorem dX7_does_129 : decode cX7_does 129 = .ok (.iload_n 1, 1) := by decide +kernel
theorem dX7_does_130 : decode cX7_does 130 = .ok (.iload_n 2, 1) := by decide +kernel
theorem dX7_does_131 : decode cX7_does 131 = .ok (.invokevirtual 177, 3) := by decide +kernel
theorem dX7_does_134 : decode cX7_does 134 = .ok (.istore 8, 2) := by decide +kernel
theorem dX7_does_136 : decode cX7_does 136 = .ok (.goto 112, 3) := by decide +kernel
theorem dX7_does_139 : decode cX7_does 139 = .ok (.iload 5, 2) := by decide +kernel
theorem dX7_does_141 : decode cX7_does 141 = .ok (.iconst 2, 1) := by decide +kernel
theorem dX7_does_142 : decode cX7_does 142 = .ok (.if_icmp .eq 10, 3) := by decide +kernel
theorem dX7_does_145 : decode cX7_does 145 = .ok (.iload 5, 2) := by decide +kernel
theorem dX7_does_147 : decode cX7_does 147 = .ok (.bipush 6, 2) := by decide +kernel
theorem dX7_does_149 : decode cX7_does 149 = .ok (.if_icmp .ne 47, 3) := by decide +kernel
theorem dX7_does_152 : decode cX7_does 152 = .ok (.aload_n 0, 1) := by decide +kernel
theorem dX7_does_153 : decode cX7_does 153 = .ok (.getfield 71, 3) := by decide +kernel
theorem dX7_does_156 : decode cX7_does 156 = .ok (.iload_n 2, 1) := by decide +kernel
theorem dX7_does_157 : decode cX7_does 157 = .ok (.iload 5, 2) := by decide +kernel
theorem dX7_does_159 : decode cX7_does 159 = .ok (.iconst 2, 1) := by decide +kernel
theorem dX7_does_160 : decode cX7_does 160 = .ok (.if_icmp .ne 7, 3) := by decide +kernel
theorem dX7_does_163 : decode cX7_does 163 = .ok (.iconst 1, 1) := by decide +kernel
theorem dX7_does_164 : decode cX7_does 164 = .ok (.goto 4, 3) := by decide +kernel
theorem dX7_does_167 : decode cX7_does 167 = .ok (.iconst 2, 1) := by decide +kernel
theorem dX7_does_168 : decode cX7_does 168 = .ok (.iastore, 1) := by decide +kernel
theorem dX7_does_169 : decode cX7_does 169 = .ok (.aload_n 0, 1) := by decide +kernel
theorem dX7_does_170 : decode cX7_does 170 = .ok (.iload_n 1, 1) := by decide +kernel
theorem dX7_does_171 : decode cX7_does 171 = .ok (.iload 5, 2) := by decide +kernel
theorem dX7_does_173 : decode cX7_does 173 = .ok (.iconst 2, 1) := by decide +kernel
theorem dX7_does_174 : decode cX7_does 174 = .ok (.if_icmp .ne 8, 3) := by decide +kernel
theorem dX7_does_177 : decode cX7_does 177 = .ok (.iload 6, 2) := by decide +kernel
theorem dX7_does_179 : decode cX7_does 179 = .ok (.goto 11, 3) := by decide +kernel
theorem dX7_does_182 : decode cX7_does 182 = .ok (.aload_n 0, 1) := by decide +kernel
theorem dX7_does_183 : decode cX7_does 183 = .ok (.getfield 35, 3) := by decide +kernel
theorem dX7_does_186 : decode cX7_does 186 = .ok (.iload_n 3, 1) := by decide +kernel
theorem dX7_does_187 : decode cX7_does 187 = .ok (.iconst 2, 1) := by decide +kernel
theorem dX7_does_188 : decode cX7_does 188 = .ok (.iadd, 1) := by decide +kernel
theorem dX7_does_189 : decode cX7_does 189 = .ok (.iaload, 1) := by decide +kernel
theorem dX7_does_190 : decode cX7_does 190 = .ok (.invokevirtual 180, 3) := by decide +kernel
theorem dX7_does_193 : decode cX7_does 193 = .ok (.goto 55, 3) := by decide +kernel
theorem dX7_does_196 : decode cX7_does 196 = .ok (.iload 5, 2) := by decide +kernel
theorem dX7_does_198 : decode cX7_does 198 = .ok (.iconst 3, 1) := by decide +kernel
theorem dX7_does_199 : decode cX7_does 199 = .ok (.if_icmp .ne 13, 3) := by decide +kernel
theorem dX7_does_202 : decode cX7_does 202 = .ok (.bipush 10, 2) := by decide +kernel
theorem dX7_does_204 : decode cX7_does 204 = .ok (.iload 6, 2) := by decide +kernel
theorem dX7_does_206 : decode cX7_does 206 = .ok (.iadd, 1) := by decide +kernel
theorem dX7_does_207 : decode cX7_does 207 = .ok (.istore 8, 2) := by decide +kernel
theorem dX7_does_209 : decode cX7_does 209 = .ok (.goto 39, 3) := by decide +kernel
theorem dX7_does_212 : decode cX7_does 212 = .ok (.iload 5, 2) := by decide +kernel
theorem dX7_does_214 : decode cX7_does 214 = .ok (.iconst 5, 1) := by decide +kernel
theorem dX7_does_215 : decode cX7_does 215 = .ok (.if_icmp .ne 33, 3) := by decide +kernel
theorem dX7_does_218 : decode cX7_does 218 = .ok (.aload_n 0, 1) := by decide +kernel
theorem dX7_does_219 : decode cX7_does 219 = .ok (.getfield 114, 3) := by decide +kernel
theorem dX7_does_222 : decode cX7_does 222 = .ok (.bipush 100, 2) := by decide +kernel
theorem dX7_does_224 : decode cX7_does 224 = .ok (.if_icmp .ge 24, 3) := by decide +kernel
theorem dX7_does_227 : decode cX7_does 227 = .ok (.aload_n 0, 1) := by decide +kernel
theorem dX7_does_228 : decode cX7_does 228 = .ok (.getfield 53, 3) := by decide +kernel
theorem dX7_does_231 : decode cX7_does 231 = .ok (.aload_n 0, 1) := by decide +kernel
theorem dX7_does_232 : decode cX7_does 232 = .ok (.getfield 114, 3) := by decide +kernel
theorem dX7_does_235 : decode cX7_does 235 = .ok (.iload 6, 2) := by decide +kernel
theorem dX7_does_237 : decode cX7_does 237 = .ok (.iastore, 1) := by decide +kernel
theorem dX7_does_238 : decode cX7_does 238 = .ok (.aload_n 0, 1) := by decide +kernel
theorem dX7_does_239 : decode cX7_does 239 = .ok (.dup, 1) := by decide +kernel
theorem dX7_does_240 : decode cX7_does 240 = .ok (.getfield 114, 3) := by decide +kernel
theorem dX7_does_243 : decode cX7_does 243 = .ok (.iconst 1, 1) := by decide +kernel
theorem dX7_does_244 : decode cX7_does 244 = .ok (.iadd, 1) := by decide +kernel
theorem dX7_does_245 : decode cX7_does 245 = .ok (.putfield 114, 3) := by decide +kernel
theorem dX7_does_248 : decode cX7_does 248 = .ok (.iload 8, 2) := by decide +kernel
theorem dX7_does_250 : decode cX7_does 250 = .ok (.ifCond .eq 10, 3) := by decide +kernel
theorem dX7_does_253 : decode cX7_does 253 = .ok (.aload_n 0, 1) := by decide +kernel
theorem dX7_does_254 : decode cX7_does 254 = .ok (.iload_n 1, 1) := by decide +kernel
theorem dX7_does_255 : decode cX7_does 255 = .ok (.iload 8, 2) := by decide +kernel
theorem dX7_does_257 : decode cX7_does 257 = .ok (.invokevirtual 171, 3) := by decide +kernel
theorem dX7_does_260 : decode cX7_does 260 = .ok (.return_, 1) := by decide +kernel
theorem dX7_make_0 : decode cX7_make 0 = .ok (.aload_n 0, 1) := by decide +kernel
theorem dX7_make_1 : decode cX7_make 1 = .ok (.iload_n 2, 1) := by decide +kernel
theorem dX7_make_2 : decode cX7_make 2 = .ok (.invokevirtual 127, 3) := by decide +kernel
theorem dX7_make_5 : decode cX7_make 5 = .ok (.ifCond .eq 21, 3) := by decide +kernel
theorem dX7_make_8 : decode cX7_make 8 = .ok (.aload_n 0, 1) := by decide +kernel
theorem dX7_make_9 : decode cX7_make 9 = .ok (.getfield 7, 3) := by decide +kernel
theorem dX7_make_12 : decode cX7_make 12 = .ok (.iload_n 2, 1) := by decide +kernel
theorem dX7_make_13 : decode cX7_make 13 = .ok (.iaload, 1) := by decide +kernel
theorem dX7_make_14 : decode cX7_make 14 = .ok (.ifCond .ne 12, 3) := by decide +kernel
theorem dX7_make_17 : decode cX7_make 17 = .ok (.aload_n 0, 1) := by decide +kernel
theorem dX7_make_18 : decode cX7_make 18 = .ok (.iload_n 1, 1) := by decide +kernel
theorem dX7_make_19 : decode cX7_make 19 = .ok (.iload_n 2, 1) := by decide +kernel
theorem dX7_make_20 : decode cX7_make 20 = .ok (.invokevirtual 138, 3) := by decide +kernel
theorem dX7_make_23 : decode cX7_make 23 = .ok (.goto 14, 3) := by decide +kernel
theorem dX7_make_26 : decode cX7_make 26 = .ok (.aload_n 0, 1) := by decide +kernel
theorem dX7_make_27 : decode cX7_make 27 = .ok (.iconst 1, 1) := by decide +kernel
theorem dX7_make_28 : decode cX7_make 28 = .ok (.putfield 142, 3) := by decide +kernel
theorem dX7_make_31 : decode cX7_make 31 = .ok (.aload_n 0, 1) := by decide +kernel
theorem dX7_make_32 : decode cX7_make 32 = .ok (.bipush 18, 2) := by decide +kernel
theorem dX7_make_34 : decode cX7_make 34 = .ok (.putfield 153, 3) := by decide +kernel
theorem dX7_make_37 : decode cX7_make 37 = .ok (.return_, 1) := by decide +kernel
theorem dX7_asksFor_0 : decode cX7_asksFor 0 = .ok (.aload_n 0, 1) := by decide +kernel
theorem dX7_asksFor_1 : decode cX7_asksFor 1 = .ok (.getfield 74, 3) := by decide +kernel
theorem dX7_asksFor_4 : decode cX7_asksFor 4 = .ok (.iload_n 2, 1) := by decide +kernel
theorem dX7_asksFor_5 : decode cX7_asksFor 5 = .ok (.iaload, 1) := by decide +kernel
theorem dX7_asksFor_6 : decode cX7_asksFor 6 = .ok (.istore_n 3, 1) := by decide +kernel
theorem dX7_asksFor_7 : decode cX7_asksFor 7 = .ok (.aload_n 0, 1) := by decide +kernel
theorem dX7_asksFor_8 : decode cX7_asksFor 8 = .ok (.getfield 35, 3) := by decide +kernel
theorem dX7_asksFor_11 : decode cX7_asksFor 11 = .ok (.iload_n 3, 1) := by decide +kernel
theorem dX7_asksFor_12 : decode cX7_asksFor 12 = .ok (.iconst 2, 1) := by decide +kernel
theorem dX7_asksFor_13 : decode cX7_asksFor 13 = .ok (.iadd, 1) := by decide +kernel
theorem dX7_asksFor_14 : decode cX7_asksFor 14 = .ok (.iaload, 1) := by decide +kernel
theorem dX7_asksFor_15 : decode cX7_asksFor 15 = .ok (.istore 4, 2) := by decide +kernel
theorem dX7_asksFor_17 : decode cX7_asksFor 17 = .ok (.aload_n 0, 1) := by decide +kernel
theorem dX7_asksFor_18 : decode cX7_asksFor 18 = .ok (.getfield 35, 3) := by decide +kernel
theorem dX7_asksFor_21 : decode cX7_asksFor 21 = .ok (.iload_n 3, 1) := by decide +kernel
theorem dX7_asksFor_22 : decode cX7_asksFor 22 = .ok (.iconst 3, 1) := by decide +kernel
theorem dX7_asksFor_23 : decode cX7_asksFor 23 = .ok (.iadd, 1) := by decide +kernel
theorem dX7_asksFor_24 : decode cX7_asksFor 24 = .ok (.iaload, 1) := by decide +kernel
theorem dX7_asksFor_25 : decode cX7_asksFor 25 = .ok (.istore 5, 2) := by decide +kernel
theorem dX7_asksFor_27 : decode cX7_asksFor 27 = .ok (.aload_n 0, 1) := by decide +kernel
theorem dX7_asksFor_28 : decode cX7_asksFor 28 = .ok (.iload 4, 2) := by decide +kernel
theorem dX7_asksFor_30 : decode cX7_asksFor 30 = .ok (.invokevirtual 127, 3) := by decide +kernel
theorem dX7_asksFor_33 : decode cX7_asksFor 33 = .ok (.ifCond .eq 14, 3) := by decide +kernel
theorem dX7_asksFor_36 : decode cX7_asksFor 36 = .ok (.aload_n 0, 1) := by decide +kernel
theorem dX7_asksFor_37 : decode cX7_asksFor 37 = .ok (.iload 4, 2) := by decide +kernel
theorem dX7_asksFor_39 : decode cX7_asksFor 39 = .ok (.iload 5, 2) := by decide +kernel
theorem dX7_asksFor_41 : decode cX7_asksFor 41 = .ok (.invokevirtual 183, 3) := by decide +kernel
theorem dX7_asksFor_44 : decode cX7_asksFor 44 = .ok (.goto 4, 3) := by decide +kernel
theorem dX7_asksFor_47 : decode cX7_asksFor 47 = .ok (.iconst (-1), 1) := by decide +kernel
theorem dX7_asksFor_48 : decode cX7_asksFor 48 = .ok (.istore 6, 2) := by decide +kernel
theorem dX7_asksFor_50 : decode cX7_asksFor 50 = .ok (.iload 6, 2) := by decide +kernel
theorem dX7_asksFor_52 : decode cX7_asksFor 52 = .ok (.iconst (-1), 1) := by decide +kernel
theorem dX7_asksFor_53 : decode cX7_asksFor 53 = .ok (.if_icmp .ne 6, 3) := by decide +kernel
theorem dX7_asksFor_56 : decode cX7_asksFor 56 = .ok (.bipush 18, 2) := by decide +kernel
theorem dX7_asksFor_58 : decode cX7_asksFor 58 = .ok (.ireturn, 1) := by decide +kernel
theorem dX7_asksFor_59 : decode cX7_asksFor 59 = .ok (.aload_n 0, 1) := by decide +kernel
theorem dX7_asksFor_60 : decode cX7_asksFor 60 = .ok (.getfield 26, 3) := by decide +kernel
theorem dX7_asksFor_63 : decode cX7_asksFor 63 = .ok (.iconst 5, 1) := by decide +kernel
theorem dX7_asksFor_64 : decode cX7_asksFor 64 = .ok (.iload 6, 2) := by decide +kernel
theorem dX7_asksFor_66 : decode cX7_asksFor 66 = .ok (.imul, 1) := by decide +kernel
theorem dX7_asksFor_67 : decode cX7_asksFor 67 = .ok (.iload 5, 2) := by decide +kernel
theorem dX7_asksFor_69 : decode cX7_asksFor 69 = .ok (.iadd, 1) := by decide +kernel
theorem dX7_asksFor_70 : decode cX7_asksFor 70 = .ok (.iaload, 1) := by decide +kernel
theorem dX7_asksFor_71 : decode cX7_asksFor 71 = .ok (.iconst 1, 1) := by decide +kernel
theorem dX7_asksFor_72 : decode cX7_asksFor 72 = .ok (.if_icmp .ne 55, 3) := by decide +kernel
theorem dX7_asksFor_75 : decode cX7_asksFor 75 = .ok (.aload_n 0, 1) := by decide +kernel
theorem dX7_asksFor_76 : decode cX7_asksFor 76 = .ok (.iload_n 1, 1) := by decide +kernel
theorem dX7_asksFor_77 : decode cX7_asksFor 77 = .ok (.aload_n 0, 1) := by decide +kernel
theorem dX7_asksFor_78 : decode cX7_asksFor 78 = .ok (.getfield 65, 3) := by decide +kernel
theorem dX7_asksFor_81 : decode cX7_asksFor 81 = .ok (.iload_n 2, 1) := by decide +kernel
theorem dX7_asksFor_82 : decode cX7_asksFor 82 = .ok (.iaload, 1) := by decide +kernel
theorem dX7_asksFor_83 : decode cX7_asksFor 83 = .ok (.aload_n 0, 1) := by decide +kernel
theorem dX7_asksFor_84 : decode cX7_asksFor 84 = .ok (.getfield 35, 3) := by decide +kernel
theorem dX7_asksFor_87 : decode cX7_asksFor 87 = .ok (.iload_n 3, 1) := by decide +kernel
theorem dX7_asksFor_88 : decode cX7_asksFor 88 = .ok (.iconst 1, 1) := by decide +kernel
theorem dX7_asksFor_89 : decode cX7_asksFor 89 = .ok (.iadd, 1) := by decide +kernel
theorem dX7_asksFor_90 : decode cX7_asksFor 90 = .ok (.iaload, 1) := by decide +kernel
theorem dX7_asksFor_91 : decode cX7_asksFor 91 = .ok (.aload_n 0, 1) := by decide +kernel
theorem dX7_asksFor_92 : decode cX7_asksFor 92 = .ok (.iload_n 1, 1) := by decide +kernel
theorem dX7_asksFor_93 : decode cX7_asksFor 93 = .ok (.aload_n 0, 1) := by decide +kernel
theorem dX7_asksFor_94 : decode cX7_asksFor 94 = .ok (.getfield 65, 3) := by decide +kernel
theorem dX7_asksFor_97 : decode cX7_asksFor 97 = .ok (.iload_n 2, 1) := by decide +kernel
theorem dX7_asksFor_98 : decode cX7_asksFor 98 = .ok (.iaload, 1) := by decide +kernel
theorem dX7_asksFor_99 : decode cX7_asksFor 99 = .ok (.aload_n 0, 1) := by decide +kernel
theorem dX7_asksFor_100 : decode cX7_asksFor 100 = .ok (.getfield 35, 3) := by decide +kernel
theorem dX7_asksFor_103 : decode cX7_asksFor 103 = .ok (.iload_n 3, 1) := by decide +kernel
theorem dX7_asksFor_104 : decode cX7_asksFor 104 = .ok (.iconst 1, 1) := by decide +kernel
theorem dX7_asksFor_105 : decode cX7_asksFor 105 = .ok (.iadd, 1) := by decide +kernel
theorem dX7_asksFor_106 : decode cX7_asksFor 106 = .ok (.iaload, 1) := by decide +kernel
theorem dX7_asksFor_107 : decode cX7_asksFor 107 = .ok (.invokevirtual 167, 3) := by decide +kernel
theorem dX7_asksFor_110 : decode cX7_asksFor 110 = .ok (.aload_n 0, 1) := by decide +kernel
theorem dX7_asksFor_111 : decode cX7_asksFor 111 = .ok (.getfield 29, 3) := by decide +kernel
theorem dX7_asksFor_114 : decode cX7_asksFor 114 = .ok (.iconst 5, 1) := by decide +kernel
theorem dX7_asksFor_115 : decode cX7_asksFor 115 = .ok (.iload 6, 2) := by decide +kernel
theorem dX7_asksFor_117 : decode cX7_asksFor 117 = .ok (.imul, 1) := by decide +kernel
theorem dX7_asksFor_118 : decode cX7_asksFor 118 = .ok (.iload 5, 2) := by decide +kernel
theorem dX7_asksFor_120 : decode cX7_asksFor 120 = .ok (.iadd, 1) := by decide +kernel
theorem dX7_asksFor_121 : decode cX7_asksFor 121 = .ok (.iaload, 1) := by decide +kernel
theorem dX7_asksFor_122 : decode cX7_asksFor 122 = .ok (.iadd, 1) := by decide +kernel
theorem dX7_asksFor_123 : decode cX7_asksFor 123 = .ok (.invokevirtual 163, 3) := by decide +kernel
theorem dX7_asksFor_126 : decode cX7_asksFor 126 = .ok (.ireturn, 1) := by decide +kernel
theorem dX7_asksFor_127 : decode cX7_asksFor 127 = .ok (.aload_n 0, 1) := by decide +kernel
theorem dX7_asksFor_128 : decode cX7_asksFor 128 = .ok (.getfield 71, 3) := by decide +kernel
theorem dX7_asksFor_131 : decode cX7_asksFor 131 = .ok (.iload_n 2, 1) := by decide +kernel
theorem dX7_asksFor_132 : decode cX7_asksFor 132 = .ok (.iconst 3, 1) := by decide +kernel
theorem dX7_asksFor_133 : decode cX7_asksFor 133 = .ok (.iastore, 1) := by decide +kernel
theorem dX7_asksFor_134 : decode cX7_asksFor 134 = .ok (.aload_n 0, 1) := by decide +kernel
theorem dX7_asksFor_135 : decode cX7_asksFor 135 = .ok (.getfield 77, 3) := by decide +kernel
theorem dX7_asksFor_138 : decode cX7_asksFor 138 = .ok (.iload_n 2, 1) := by decide +kernel
theorem dX7_asksFor_139 : decode cX7_asksFor 139 = .ok (.iload 6, 2) := by decide +kernel
theorem dX7_asksFor_141 : decode cX7_asksFor 141 = .ok (.iastore, 1) := by decide +kernel
theorem dX7_asksFor_142 : decode cX7_asksFor 142 = .ok (.aload_n 0, 1) := by decide +kernel
theorem dX7_asksFor_143 : decode cX7_asksFor 143 = .ok (.iload_n 1, 1) := by decide +kernel
theorem dX7_asksFor_144 : decode cX7_asksFor 144 = .ok (.iload 6, 2) := by decide +kernel
theorem dX7_asksFor_146 : decode cX7_asksFor 146 = .ok (.invokevirtual 138, 3) := by decide +kernel
theorem dX7_asksFor_149 : decode cX7_asksFor 149 = .ok (.iconst 0, 1) := by decide +kernel
theorem dX7_asksFor_150 : decode cX7_asksFor 150 = .ok (.ireturn, 1) := by decide +kernel
theorem dX7_plain_0 : decode cX7_plain 0 = .ok (.aload_n 0, 1) := by decide +kernel
theorem dX7_plain_1 : decode cX7_plain 1 = .ok (.getfield 41, 3) := by decide +kernel
theorem dX7_plain_4 : decode cX7_plain 4 = .ok (.iconst 5, 1) := by decide +kernel
theorem dX7_plain_5 : decode cX7_plain 5 = .ok (.aload_n 0, 1) := by decide +kernel
theorem dX7_plain_6 : decode cX7_plain 6 = .ok (.iload_n 1, 1) := by decide +kernel
theorem dX7_plain_7 : decode cX7_plain 7 = .ok (.iload_n 2, 1) := by decide +kernel
theorem dX7_plain_8 : decode cX7_plain 8 = .ok (.invokevirtual 156, 3) := by decide +kernel
theorem dX7_plain_11 : decode cX7_plain 11 = .ok (.imul, 1) := by decide +kernel
theorem dX7_plain_12 : decode cX7_plain 12 = .ok (.iload_n 3, 1) := by decide +kernel
theorem dX7_plain_13 : decode cX7_plain 13 = .ok (.iadd, 1) := by decide +kernel
theorem dX7_plain_14 : decode cX7_plain 14 = .ok (.iaload, 1) := by decide +kernel
theorem dX7_plain_15 : decode cX7_plain 15 = .ok (.ireturn, 1) := by decide +kernel
theorem dX7_write_0 : decode cX7_write 0 = .ok (.aload_n 0, 1) := by decide +kernel
theorem dX7_write_1 : decode cX7_write 1 = .ok (.getfield 26, 3) := by decide +kernel
theorem dX7_write_4 : decode cX7_write 4 = .ok (.iconst 5, 1) := by decide +kernel
theorem dX7_write_5 : decode cX7_write 5 = .ok (.iload_n 2, 1) := by decide +kernel
theorem dX7_write_6 : decode cX7_write 6 = .ok (.imul, 1) := by decide +kernel
theorem dX7_write_7 : decode cX7_write 7 = .ok (.iload_n 3, 1) := by decide +kernel
theorem dX7_write_8 : decode cX7_write 8 = .ok (.iadd, 1) := by decide +kernel
theorem dX7_write_9 : decode cX7_write 9 = .ok (.iaload, 1) := by decide +kernel
theorem dX7_write_10 : decode cX7_write 10 = .ok (.iconst 2, 1) := by decide +kernel
theorem dX7_write_11 : decode cX7_write 11 = .ok (.if_icmp .eq 6, 3) := by decide +kernel
theorem dX7_write_14 : decode cX7_write 14 = .ok (.bipush 12, 2) := by decide +kernel
theorem dX7_write_16 : decode cX7_write 16 = .ok (.ireturn, 1) := by decide +kernel
theorem dX7_write_17 : decode cX7_write 17 = .ok (.aload_n 0, 1) := by decide +kernel
theorem dX7_write_18 : decode cX7_write 18 = .ok (.getfield 41, 3) := by decide +kernel
theorem dX7_write_21 : decode cX7_write 21 = .ok (.iconst 5, 1) := by decide +kernel
theorem dX7_write_22 : decode cX7_write 22 = .ok (.aload_n 0, 1) := by decide +kernel
theorem dX7_write_23 : decode cX7_write 23 = .ok (.iload_n 1, 1) := by decide +kernel
theorem dX7_write_24 : decode cX7_write 24 = .ok (.iload_n 2, 1) := by decide +kernel
theorem dX7_write_25 : decode cX7_write 25 = .ok (.invokevirtual 156, 3) := by decide +kernel
theorem dX7_write_28 : decode cX7_write 28 = .ok (.imul, 1) := by decide +kernel
theorem dX7_write_29 : decode cX7_write 29 = .ok (.iload_n 3, 1) := by decide +kernel
theorem dX7_write_30 : decode cX7_write 30 = .ok (.iadd, 1) := by decide +kernel
theorem dX7_write_31 : decode cX7_write 31 = .ok (.iload 4, 2) := by decide +kernel
theorem dX7_write_33 : decode cX7_write 33 = .ok (.iastore, 1) := by decide +kernel
theorem dX7_write_34 : decode cX7_write 34 = .ok (.aload_n 0, 1) := by decide +kernel
theorem dX7_write_35 : decode cX7_write 35 = .ok (.dup, 1) := by decide +kernel
theorem dX7_write_36 : decode cX7_write 36 = .ok (.getfield 186, 3) := by decide +kernel
theorem dX7_write_39 : decode cX7_write 39 = .ok (.iconst 1, 1) := by decide +kernel
theorem dX7_write_40 : decode cX7_write 40 = .ok (.iadd, 1) := by decide +kernel
theorem dX7_write_41 : decode cX7_write 41 = .ok (.putfield 186, 3) := by decide +kernel
theorem dX7_write_44 : decode cX7_write 44 = .ok (.iconst 0, 1) := by decide +kernel
theorem dX7_write_45 : decode cX7_write 45 = .ok (.ireturn, 1) := by decide +kernel
theorem dX7_makes_0 : decode cX7_makes 0 = .ok (.aload_n 0, 1) := by decide +kernel
theorem dX7_makes_1 : decode cX7_makes 1 = .ok (.iload_n 2, 1) := by decide +kernel
theorem dX7_makes_2 : decode cX7_makes 2 = .ok (.invokevirtual 127, 3) := by decide +kernel
theorem dX7_makes_5 : decode cX7_makes 5 = .ok (.ifCond .eq 12, 3) := by decide +kernel
theorem dX7_makes_8 : decode cX7_makes 8 = .ok (.aload_n 0, 1) := by decide +kernel
theorem dX7_makes_9 : decode cX7_makes 9 = .ok (.getfield 7, 3) := by decide +kernel
theorem dX7_makes_12 : decode cX7_makes 12 = .ok (.iload_n 2, 1) := by decide +kernel
theorem dX7_makes_13 : decode cX7_makes 13 = .ok (.iaload, 1) := by decide +kernel
theorem dX7_makes_14 : decode cX7_makes 14 = .ok (.ifCond .eq 6, 3) := by decide +kernel
theorem dX7_makes_17 : decode cX7_makes 17 = .ok (.bipush 18, 2) := by decide +kernel
theorem dX7_makes_19 : decode cX7_makes 19 = .ok (.ireturn, 1) := by decide +kernel
theorem dX7_makes_20 : decode cX7_makes 20 = .ok (.aload_n 0, 1) := by decide +kernel
theorem dX7_makes_21 : decode cX7_makes 21 = .ok (.iload_n 1, 1) := by decide +kernel
theorem dX7_makes_22 : decode cX7_makes 22 = .ok (.iload_n 2, 1) := by decide +kernel
theorem dX7_makes_23 : decode cX7_makes 23 = .ok (.invokevirtual 189, 3) := by decide +kernel
theorem dX7_makes_26 : decode cX7_makes 26 = .ok (.istore_n 3, 1) := by decide +kernel
theorem dX7_makes_27 : decode cX7_makes 27 = .ok (.aload_n 0, 1) := by decide +kernel
theorem dX7_makes_28 : decode cX7_makes 28 = .ok (.getfield 44, 3) := by decide +kernel
theorem dX7_makes_31 : decode cX7_makes 31 = .ok (.bipush 16, 2) := by decide +kernel
theorem dX7_makes_33 : decode cX7_makes 33 = .ok (.iload_n 1, 1) := by decide +kernel
theorem dX7_makes_34 : decode cX7_makes 34 = .ok (.imul, 1) := by decide +kernel
theorem dX7_makes_35 : decode cX7_makes 35 = .ok (.iload_n 2, 1) := by decide +kernel
theorem dX7_makes_36 : decode cX7_makes 36 = .ok (.iadd, 1) := by decide +kernel
theorem dX7_makes_37 : decode cX7_makes 37 = .ok (.dup2, 1) := by decide +kernel
theorem dX7_makes_38 : decode cX7_makes 38 = .ok (.iaload, 1) := by decide +kernel
theorem dX7_makes_39 : decode cX7_makes 39 = .ok (.iload_n 3, 1) := by decide +kernel
theorem dX7_makes_40 : decode cX7_makes 40 = .ok (.ifCond .ne 7, 3) := by decide +kernel
theorem dX7_makes_43 : decode cX7_makes 43 = .ok (.iconst 1, 1) := by decide +kernel
theorem dX7_makes_44 : decode cX7_makes 44 = .ok (.goto 4, 3) := by decide +kernel
theorem dX7_makes_47 : decode cX7_makes 47 = .ok (.iconst 0, 1) := by decide +kernel
theorem dX7_makes_48 : decode cX7_makes 48 = .ok (.iadd, 1) := by decide +kernel
theorem dX7_makes_49 : decode cX7_makes 49 = .ok (.iastore, 1) := by decide +kernel
theorem dX7_makes_50 : decode cX7_makes 50 = .ok (.iload_n 3, 1) := by decide +kernel
theorem dX7_makes_51 : decode cX7_makes 51 = .ok (.ireturn, 1) := by decide +kernel
theorem dX7_asks_0 : decode cX7_asks 0 = .ok (.aload_n 0, 1) := by decide +kernel
theorem dX7_asks_1 : decode cX7_asks 1 = .ok (.iload_n 2, 1) := by decide +kernel
theorem dX7_asks_2 : decode cX7_asks 2 = .ok (.invokevirtual 127, 3) := by decide +kernel
theorem dX7_asks_5 : decode cX7_asks 5 = .ok (.ifCond .eq 12, 3) := by decide +kernel
theorem dX7_asks_8 : decode cX7_asks 8 = .ok (.aload_n 0, 1) := by decide +kernel
theorem dX7_asks_9 : decode cX7_asks 9 = .ok (.iload_n 2, 1) := by decide +kernel
theorem dX7_asks_10 : decode cX7_asks 10 = .ok (.iload_n 3, 1) := by decide +kernel
theorem dX7_asks_11 : decode cX7_asks 11 = .ok (.invokevirtual 183, 3) := by decide +kernel
theorem dX7_asks_14 : decode cX7_asks 14 = .ok (.goto 4, 3) := by decide +kernel
theorem dX7_asks_17 : decode cX7_asks 17 = .ok (.iconst (-1), 1) := by decide +kernel
theorem dX7_asks_18 : decode cX7_asks 18 = .ok (.istore 4, 2) := by decide +kernel
theorem dX7_asks_20 : decode cX7_asks 20 = .ok (.iload 4, 2) := by decide +kernel
theorem dX7_asks_22 : decode cX7_asks 22 = .ok (.iconst (-1), 1) := by decide +kernel
theorem dX7_asks_23 : decode cX7_asks 23 = .ok (.if_icmp .ne 6, 3) := by decide +kernel
theorem dX7_asks_26 : decode cX7_asks 26 = .ok (.bipush 18, 2) := by decide +kernel
theorem dX7_asks_28 : decode cX7_asks 28 = .ok (.ireturn, 1) := by decide +kernel
theorem dX7_asks_29 : decode cX7_asks 29 = .ok (.aload_n 0, 1) := by decide +kernel
theorem dX7_asks_30 : decode cX7_asks 30 = .ok (.getfield 26, 3) := by decide +kernel
theorem dX7_asks_33 : decode cX7_asks 33 = .ok (.iconst 5, 1) := by decide +kernel
theorem dX7_asks_34 : decode cX7_asks 34 = .ok (.iload 4, 2) := by decide +kernel
theorem dX7_asks_36 : decode cX7_asks 36 = .ok (.imul, 1) := by decide +kernel
theorem dX7_asks_37 : decode cX7_asks 37 = .ok (.iload_n 3, 1) := by decide +kernel
theorem dX7_asks_38 : decode cX7_asks 38 = .ok (.iadd, 1) := by decide +kernel
theorem dX7_asks_39 : decode cX7_asks 39 = .ok (.iaload, 1) := by decide +kernel
theorem dX7_asks_40 : decode cX7_asks 40 = .ok (.iconst 1, 1) := by decide +kernel
theorem dX7_asks_41 : decode cX7_asks 41 = .ok (.if_icmp .ne 20, 3) := by decide +kernel
theorem dX7_asks_44 : decode cX7_asks 44 = .ok (.aload_n 0, 1) := by decide +kernel
theorem dX7_asks_45 : decode cX7_asks 45 = .ok (.aload_n 0, 1) := by decide +kernel
theorem dX7_asks_46 : decode cX7_asks 46 = .ok (.getfield 29, 3) := by decide +kernel
theorem dX7_asks_49 : decode cX7_asks 49 = .ok (.iconst 5, 1) := by decide +kernel
theorem dX7_asks_50 : decode cX7_asks 50 = .ok (.iload 4, 2) := by decide +kernel
theorem dX7_asks_52 : decode cX7_asks 52 = .ok (.imul, 1) := by decide +kernel
theorem dX7_asks_53 : decode cX7_asks 53 = .ok (.iload_n 3, 1) := by decide +kernel
theorem dX7_asks_54 : decode cX7_asks 54 = .ok (.iadd, 1) := by decide +kernel
theorem dX7_asks_55 : decode cX7_asks 55 = .ok (.iaload, 1) := by decide +kernel
theorem dX7_asks_56 : decode cX7_asks 56 = .ok (.putfield 192, 3) := by decide +kernel
theorem dX7_asks_59 : decode cX7_asks 59 = .ok (.iconst 0, 1) := by decide +kernel
theorem dX7_asks_60 : decode cX7_asks 60 = .ok (.ireturn, 1) := by decide +kernel
theorem dX7_asks_61 : decode cX7_asks 61 = .ok (.aload_n 0, 1) := by decide +kernel
theorem dX7_asks_62 : decode cX7_asks 62 = .ok (.iload_n 1, 1) := by decide +kernel
theorem dX7_asks_63 : decode cX7_asks 63 = .ok (.iload 4, 2) := by decide +kernel
theorem dX7_asks_65 : decode cX7_asks 65 = .ok (.invokevirtual 189, 3) := by decide +kernel
theorem dX7_asks_68 : decode cX7_asks 68 = .ok (.istore 5, 2) := by decide +kernel
theorem dX7_asks_70 : decode cX7_asks 70 = .ok (.aload_n 0, 1) := by decide +kernel
theorem dX7_asks_71 : decode cX7_asks 71 = .ok (.aload_n 0, 1) := by decide +kernel
theorem dX7_asks_72 : decode cX7_asks 72 = .ok (.iload_n 1, 1) := by decide +kernel
theorem dX7_asks_73 : decode cX7_asks 73 = .ok (.iload 4, 2) := by decide +kernel
theorem dX7_asks_75 : decode cX7_asks 75 = .ok (.iload_n 3, 1) := by decide +kernel
theorem dX7_asks_76 : decode cX7_asks 76 = .ok (.invokevirtual 167, 3) := by decide +kernel
theorem dX7_asks_79 : decode cX7_asks 79 = .ok (.putfield 192, 3) := by decide +kernel
theorem dX7_asks_82 : decode cX7_asks 82 = .ok (.iload 5, 2) := by decide +kernel
theorem dX7_asks_84 : decode cX7_asks 84 = .ok (.ireturn, 1) := by decide +kernel
theorem dX7_homeOf_0 : decode cX7_homeOf 0 = .ok (.iconst 0, 1) := by decide +kernel
theorem dX7_homeOf_1 : decode cX7_homeOf 1 = .ok (.istore_n 3, 1) := by decide +kernel
theorem dX7_homeOf_2 : decode cX7_homeOf 2 = .ok (.iload_n 3, 1) := by decide +kernel
theorem dX7_homeOf_3 : decode cX7_homeOf 3 = .ok (.bipush 16, 2) := by decide +kernel
theorem dX7_homeOf_5 : decode cX7_homeOf 5 = .ok (.if_icmp .ge 16, 3) := by decide +kernel
theorem dX7_homeOf_8 : decode cX7_homeOf 8 = .ok (.aload_n 0, 1) := by decide +kernel
theorem dX7_homeOf_9 : decode cX7_homeOf 9 = .ok (.getfield 86, 3) := by decide +kernel
theorem dX7_homeOf_12 : decode cX7_homeOf 12 = .ok (.iload_n 3, 1) := by decide +kernel
theorem dX7_homeOf_13 : decode cX7_homeOf 13 = .ok (.iconst 0, 1) := by decide +kernel
theorem dX7_homeOf_14 : decode cX7_homeOf 14 = .ok (.bastore, 1) := by decide +kernel
theorem dX7_homeOf_15 : decode cX7_homeOf 15 = .ok (.iinc 3 1, 3) := by decide +kernel
theorem dX7_homeOf_18 : decode cX7_homeOf 18 = .ok (.goto (-16), 3) := by decide +kernel
theorem dX7_homeOf_21 : decode cX7_homeOf 21 = .ok (.iconst 1, 1) := by decide +kernel
theorem dX7_homeOf_22 : decode cX7_homeOf 22 = .ok (.istore_n 3, 1) := by decide +kernel
theorem dX7_homeOf_23 : decode cX7_homeOf 23 = .ok (.aload_n 0, 1) := by decide +kernel
theorem dX7_homeOf_24 : decode cX7_homeOf 24 = .ok (.getfield 95, 3) := by decide +kernel
theorem dX7_homeOf_27 : decode cX7_homeOf 27 = .ok (.iconst 0, 1) := by decide +kernel
theorem dX7_homeOf_28 : decode cX7_homeOf 28 = .ok (.iload_n 1, 1) := by decide +kernel
theorem dX7_homeOf_29 : decode cX7_homeOf 29 = .ok (.iastore, 1) := by decide +kernel
theorem dX7_homeOf_30 : decode cX7_homeOf 30 = .ok (.iload_n 3, 1) := by decide +kernel
theorem dX7_homeOf_31 : decode cX7_homeOf 31 = .ok (.ifCond .le 122, 3) := by decide +kernel
theorem dX7_homeOf_34 : decode cX7_homeOf 34 = .ok (.iinc 3 (-1), 3) := by decide +kernel
theorem dX7_homeOf_37 : decode cX7_homeOf 37 = .ok (.aload_n 0, 1) := by decide +kernel
theorem dX7_homeOf_38 : decode cX7_homeOf 38 = .ok (.getfield 95, 3) := by decide +kernel
theorem dX7_homeOf_41 : decode cX7_homeOf 41 = .ok (.iload_n 3, 1) := by decide +kernel
theorem dX7_homeOf_42 : decode cX7_homeOf 42 = .ok (.iaload, 1) := by decide +kernel
theorem dX7_homeOf_43 : decode cX7_homeOf 43 = .ok (.istore 4, 2) := by decide +kernel
theorem dX7_homeOf_45 : decode cX7_homeOf 45 = .ok (.aload_n 0, 1) := by decide +kernel
theorem dX7_homeOf_46 : decode cX7_homeOf 46 = .ok (.getfield 86, 3) := by decide +kernel
theorem dX7_homeOf_49 : decode cX7_homeOf 49 = .ok (.iload 4, 2) := by decide +kernel
theorem dX7_homeOf_51 : decode cX7_homeOf 51 = .ok (.baload, 1) := by decide +kernel
theorem dX7_homeOf_52 : decode cX7_homeOf 52 = .ok (.ifCond .ne 98, 3) := by decide +kernel
theorem dX7_homeOf_55 : decode cX7_homeOf 55 = .ok (.aload_n 0, 1) := by decide +kernel
theorem dX7_homeOf_56 : decode cX7_homeOf 56 = .ok (.getfield 86, 3) := by decide +kernel
theorem dX7_homeOf_59 : decode cX7_homeOf 59 = .ok (.iload 4, 2) := by decide +kernel
theorem dX7_homeOf_61 : decode cX7_homeOf 61 = .ok (.iconst 1, 1) := by decide +kernel
theorem dX7_homeOf_62 : decode cX7_homeOf 62 = .ok (.bastore, 1) := by decide +kernel
theorem dX7_homeOf_63 : decode cX7_homeOf 63 = .ok (.aload_n 0, 1) := by decide +kernel
theorem dX7_homeOf_64 : decode cX7_homeOf 64 = .ok (.getfield 26, 3) := by decide +kernel
theorem dX7_homeOf_67 : decode cX7_homeOf 67 = .ok (.iconst 5, 1) := by decide +kernel
theorem dX7_homeOf_68 : decode cX7_homeOf 68 = .ok (.iload 4, 2) := by decide +kernel
theorem dX7_homeOf_70 : decode cX7_homeOf 70 = .ok (.imul, 1) := by decide +kernel
theorem dX7_homeOf_71 : decode cX7_homeOf 71 = .ok (.iload_n 2, 1) := by decide +kernel
theorem dX7_homeOf_72 : decode cX7_homeOf 72 = .ok (.iadd, 1) := by decide +kernel
theorem dX7_homeOf_73 : decode cX7_homeOf 73 = .ok (.iaload, 1) := by decide +kernel
theorem dX7_homeOf_74 : decode cX7_homeOf 74 = .ok (.ifCond .le 6, 3) := by decide +kernel
theorem dX7_homeOf_77 : decode cX7_homeOf 77 = .ok (.iload 4, 2) := by decide +kernel
theorem dX7_homeOf_79 : decode cX7_homeOf 79 = .ok (.ireturn, 1) := by decide +kernel
theorem dX7_homeOf_80 : decode cX7_homeOf 80 = .ok (.aload_n 0, 1) := by decide +kernel
theorem dX7_homeOf_81 : decode cX7_homeOf 81 = .ok (.getfield 13, 3) := by decide +kernel
theorem dX7_homeOf_84 : decode cX7_homeOf 84 = .ok (.iload 4, 2) := by decide +kernel
theorem dX7_homeOf_86 : decode cX7_homeOf 86 = .ok (.iaload, 1) := by decide +kernel
theorem dX7_homeOf_87 : decode cX7_homeOf 87 = .ok (.iconst (-1), 1) := by decide +kernel
theorem dX7_homeOf_88 : decode cX7_homeOf 88 = .ok (.if_icmp .eq 19, 3) := by decide +kernel
theorem dX7_homeOf_91 : decode cX7_homeOf 91 = .ok (.aload_n 0, 1) := by decide +kernel
theorem dX7_homeOf_92 : decode cX7_homeOf 92 = .ok (.getfield 95, 3) := by decide +kernel
theorem dX7_homeOf_95 : decode cX7_homeOf 95 = .ok (.iload_n 3, 1) := by decide +kernel
theorem dX7_homeOf_96 : decode cX7_homeOf 96 = .ok (.aload_n 0, 1) := by decide +kernel
theorem dX7_homeOf_97 : decode cX7_homeOf 97 = .ok (.getfield 13, 3) := by decide +kernel
theorem dX7_homeOf_100 : decode cX7_homeOf 100 = .ok (.iload 4, 2) := by decide +kernel
theorem dX7_homeOf_102 : decode cX7_homeOf 102 = .ok (.iaload, 1) := by decide +kernel
theorem dX7_homeOf_103 : decode cX7_homeOf 103 = .ok (.iastore, 1) := by decide +kernel
theorem dX7_homeOf_104 : decode cX7_homeOf 104 = .ok (.iinc 3 1, 3) := by decide +kernel
theorem dX7_homeOf_107 : decode cX7_homeOf 107 = .ok (.aload_n 0, 1) := by decide +kernel
theorem dX7_homeOf_108 : decode cX7_homeOf 108 = .ok (.getfield 20, 3) := by decide +kernel
theorem dX7_homeOf_111 : decode cX7_homeOf 111 = .ok (.iload 4, 2) := by decide +kernel
theorem dX7_homeOf_113 : decode cX7_homeOf 113 = .ok (.iaload, 1) := by decide +kernel
theorem dX7_homeOf_114 : decode cX7_homeOf 114 = .ok (.iconst 1, 1) := by decide +kernel
theorem dX7_homeOf_115 : decode cX7_homeOf 115 = .ok (.isub, 1) := by decide +kernel
theorem dX7_homeOf_116 : decode cX7_homeOf 116 = .ok (.istore 5, 2) := by decide +kernel
theorem dX7_homeOf_118 : decode cX7_homeOf 118 = .ok (.iload 5, 2) := by decide +kernel
theorem dX7_homeOf_120 : decode cX7_homeOf 120 = .ok (.ifCond .lt 30, 3) := by decide +kernel
theorem dX7_homeOf_123 : decode cX7_homeOf 123 = .ok (.aload_n 0, 1) := by decide +kernel
theorem dX7_homeOf_124 : decode cX7_homeOf 124 = .ok (.getfield 95, 3) := by decide +kernel
theorem dX7_homeOf_127 : decode cX7_homeOf 127 = .ok (.iload_n 3, 1) := by decide +kernel
theorem dX7_homeOf_128 : decode cX7_homeOf 128 = .ok (.aload_n 0, 1) := by decide +kernel
theorem dX7_homeOf_129 : decode cX7_homeOf 129 = .ok (.getfield 23, 3) := by decide +kernel
theorem dX7_homeOf_132 : decode cX7_homeOf 132 = .ok (.iconst 3, 1) := by decide +kernel
theorem dX7_homeOf_133 : decode cX7_homeOf 133 = .ok (.iload 4, 2) := by decide +kernel
theorem dX7_homeOf_135 : decode cX7_homeOf 135 = .ok (.imul, 1) := by decide +kernel
theorem dX7_homeOf_136 : decode cX7_homeOf 136 = .ok (.iload 5, 2) := by decide +kernel
theorem dX7_homeOf_138 : decode cX7_homeOf 138 = .ok (.iadd, 1) := by decide +kernel
theorem dX7_homeOf_139 : decode cX7_homeOf 139 = .ok (.iaload, 1) := by decide +kernel
theorem dX7_homeOf_140 : decode cX7_homeOf 140 = .ok (.iastore, 1) := by decide +kernel
theorem dX7_homeOf_141 : decode cX7_homeOf 141 = .ok (.iinc 3 1, 3) := by decide +kernel
theorem dX7_homeOf_144 : decode cX7_homeOf 144 = .ok (.iinc 5 (-1), 3) := by decide +kernel
theorem dX7_homeOf_147 : decode cX7_homeOf 147 = .ok (.goto (-29), 3) := by decide +kernel
theorem dX7_homeOf_150 : decode cX7_homeOf 150 = .ok (.goto (-120), 3) := by decide +kernel
theorem dX7_homeOf_153 : decode cX7_homeOf 153 = .ok (.iconst (-1), 1) := by decide +kernel
theorem dX7_homeOf_154 : decode cX7_homeOf 154 = .ok (.ireturn, 1) := by decide +kernel
theorem dX7_use_0 : decode cX7_use 0 = .ok (.aload_n 0, 1) := by decide +kernel
theorem dX7_use_1 : decode cX7_use 1 = .ok (.iconst 0, 1) := by decide +kernel
theorem dX7_use_2 : decode cX7_use 2 = .ok (.putfield 120, 3) := by decide +kernel
theorem dX7_use_5 : decode cX7_use 5 = .ok (.iload_n 1, 1) := by decide +kernel
theorem dX7_use_6 : decode cX7_use 6 = .ok (.invokestatic 195, 3) := by decide +kernel
theorem dX7_use_9 : decode cX7_use 9 = .ok (.ifCond .eq 11, 3) := by decide +kernel
theorem dX7_use_12 : decode cX7_use 12 = .ok (.aload_n 0, 1) := by decide +kernel
theorem dX7_use_13 : decode cX7_use 13 = .ok (.iload_n 2, 1) := by decide +kernel
theorem dX7_use_14 : decode cX7_use 14 = .ok (.invokevirtual 127, 3) := by decide +kernel
theorem dX7_use_17 : decode cX7_use 17 = .ok (.ifCond .ne 6, 3) := by decide +kernel
theorem dX7_use_20 : decode cX7_use 20 = .ok (.bipush (-101), 2) := by decide +kernel
theorem dX7_use_22 : decode cX7_use 22 = .ok (.ireturn, 1) := by decide +kernel
theorem dX7_use_23 : decode cX7_use 23 = .ok (.iload_n 3, 1) := by decide +kernel
theorem dX7_use_24 : decode cX7_use 24 = .ok (.iconst 1, 1) := by decide +kernel
theorem dX7_use_25 : decode cX7_use 25 = .ok (.if_icmp .eq 8, 3) := by decide +kernel
theorem dX7_use_28 : decode cX7_use 28 = .ok (.iload_n 3, 1) := by decide +kernel
theorem dX7_use_29 : decode cX7_use 29 = .ok (.iconst 2, 1) := by decide +kernel
theorem dX7_use_30 : decode cX7_use 30 = .ok (.if_icmp .ne 7, 3) := by decide +kernel
theorem dX7_use_33 : decode cX7_use 33 = .ok (.iconst 1, 1) := by decide +kernel
theorem dX7_use_34 : decode cX7_use 34 = .ok (.goto 4, 3) := by decide +kernel
theorem dX7_use_37 : decode cX7_use 37 = .ok (.iconst 0, 1) := by decide +kernel
theorem dX7_use_38 : decode cX7_use 38 = .ok (.istore 6, 2) := by decide +kernel
theorem dX7_use_40 : decode cX7_use 40 = .ok (.iload_n 3, 1) := by decide +kernel
theorem dX7_use_41 : decode cX7_use 41 = .ok (.iconst 0, 1) := by decide +kernel
theorem dX7_use_42 : decode cX7_use 42 = .ok (.iconst 3, 1) := by decide +kernel
theorem dX7_use_43 : decode cX7_use 43 = .ok (.invokestatic 123, 3) := by decide +kernel
theorem dX7_use_46 : decode cX7_use 46 = .ok (.ifCond .eq 37, 3) := by decide +kernel
theorem dX7_use_49 : decode cX7_use 49 = .ok (.iload 6, 2) := by decide +kernel
theorem dX7_use_51 : decode cX7_use 51 = .ok (.ifCond .eq 13, 3) := by decide +kernel
theorem dX7_use_54 : decode cX7_use 54 = .ok (.iload 4, 2) := by decide +kernel
theorem dX7_use_56 : decode cX7_use 56 = .ok (.iconst 0, 1) := by decide +kernel
theorem dX7_use_57 : decode cX7_use 57 = .ok (.iconst 4, 1) := by decide +kernel
theorem dX7_use_58 : decode cX7_use 58 = .ok (.invokestatic 123, 3) := by decide +kernel
theorem dX7_use_61 : decode cX7_use 61 = .ok (.ifCond .eq 22, 3) := by decide +kernel
theorem dX7_use_64 : decode cX7_use 64 = .ok (.iload_n 3, 1) := by decide +kernel
theorem dX7_use_65 : decode cX7_use 65 = .ok (.iconst 2, 1) := by decide +kernel
theorem dX7_use_66 : decode cX7_use 66 = .ok (.if_icmp .ne 20, 3) := by decide +kernel
theorem dX7_use_69 : decode cX7_use 69 = .ok (.iload 5, 2) := by decide +kernel
theorem dX7_use_71 : decode cX7_use 71 = .ok (.sipush (-999), 3) := by decide +kernel
theorem dX7_use_74 : decode cX7_use 74 = .ok (.sipush 999, 3) := by decide +kernel
theorem dX7_use_77 : decode cX7_use 77 = .ok (.invokestatic 123, 3) := by decide +kernel
theorem dX7_use_80 : decode cX7_use 80 = .ok (.ifCond .ne 6, 3) := by decide +kernel
theorem dX7_use_83 : decode cX7_use 83 = .ok (.bipush (-102), 2) := by decide +kernel
theorem dX7_use_85 : decode cX7_use 85 = .ok (.ireturn, 1) := by decide +kernel
theorem dX7_use_86 : decode cX7_use 86 = .ok (.iload_n 3, 1) := by decide +kernel
theorem dX7_use_87 : decode cX7_use 87 = .ok (.iconst 2, 1) := by decide +kernel
theorem dX7_use_88 : decode cX7_use 88 = .ok (.if_icmp .ne 13, 3) := by decide +kernel
theorem dX7_use_91 : decode cX7_use 91 = .ok (.aload_n 0, 1) := by decide +kernel
theorem dX7_use_92 : decode cX7_use 92 = .ok (.iload_n 2, 1) := by decide +kernel
theorem dX7_use_93 : decode cX7_use 93 = .ok (.iload 4, 2) := by decide +kernel
theorem dX7_use_95 : decode cX7_use 95 = .ok (.invokevirtual 183, 3) := by decide +kernel
theorem dX7_use_98 : decode cX7_use 98 = .ok (.goto 4, 3) := by decide +kernel
theorem dX7_use_101 : decode cX7_use 101 = .ok (.iconst (-1), 1) := by decide +kernel
theorem dX7_use_102 : decode cX7_use 102 = .ok (.istore 7, 2) := by decide +kernel
theorem dX7_use_104 : decode cX7_use 104 = .ok (.iload_n 3, 1) := by decide +kernel
theorem dX7_use_105 : decode cX7_use 105 = .ok (.ifCond .ne 12, 3) := by decide +kernel
theorem dX7_use_108 : decode cX7_use 108 = .ok (.aload_n 0, 1) := by decide +kernel
theorem dX7_use_109 : decode cX7_use 109 = .ok (.getfield 7, 3) := by decide +kernel
theorem dX7_use_112 : decode cX7_use 112 = .ok (.iload_n 2, 1) := by decide +kernel
theorem dX7_use_113 : decode cX7_use 113 = .ok (.iaload, 1) := by decide +kernel
theorem dX7_use_114 : decode cX7_use 114 = .ok (.ifCond .ne 30, 3) := by decide +kernel
theorem dX7_use_117 : decode cX7_use 117 = .ok (.iload_n 3, 1) := by decide +kernel
theorem dX7_use_118 : decode cX7_use 118 = .ok (.iconst 2, 1) := by decide +kernel
theorem dX7_use_119 : decode cX7_use 119 = .ok (.if_icmp .ne 28, 3) := by decide +kernel
theorem dX7_use_122 : decode cX7_use 122 = .ok (.iload 7, 2) := by decide +kernel
theorem dX7_use_124 : decode cX7_use 124 = .ok (.iconst (-1), 1) := by decide +kernel
theorem dX7_use_125 : decode cX7_use 125 = .ok (.if_icmp .eq 19, 3) := by decide +kernel
theorem dX7_use_128 : decode cX7_use 128 = .ok (.aload_n 0, 1) := by decide +kernel
theorem dX7_use_129 : decode cX7_use 129 = .ok (.getfield 26, 3) := by decide +kernel
theorem dX7_use_132 : decode cX7_use 132 = .ok (.iconst 5, 1) := by decide +kernel
theorem dX7_use_133 : decode cX7_use 133 = .ok (.iload 7, 2) := by decide +kernel
theorem dX7_use_135 : decode cX7_use 135 = .ok (.imul, 1) := by decide +kernel
theorem dX7_use_136 : decode cX7_use 136 = .ok (.iload 4, 2) := by decide +kernel
theorem dX7_use_138 : decode cX7_use 138 = .ok (.iadd, 1) := by decide +kernel
theorem dX7_use_139 : decode cX7_use 139 = .ok (.iaload, 1) := by decide +kernel
theorem dX7_use_140 : decode cX7_use 140 = .ok (.iconst 1, 1) := by decide +kernel
theorem dX7_use_141 : decode cX7_use 141 = .ok (.if_icmp .ne 6, 3) := by decide +kernel
theorem dX7_use_144 : decode cX7_use 144 = .ok (.bipush (-103), 2) := by decide +kernel
theorem dX7_use_146 : decode cX7_use 146 = .ok (.ireturn, 1) := by decide +kernel
theorem dX7_use_147 : decode cX7_use 147 = .ok (.aload_n 0, 1) := by decide +kernel
theorem dX7_use_148 : decode cX7_use 148 = .ok (.dup, 1) := by decide +kernel
theorem dX7_use_149 : decode cX7_use 149 = .ok (.getfield 108, 3) := by decide +kernel
theorem dX7_use_152 : decode cX7_use 152 = .ok (.iconst 1, 1) := by decide +kernel
theorem dX7_use_153 : decode cX7_use 153 = .ok (.iadd, 1) := by decide +kernel
theorem dX7_use_154 : decode cX7_use 154 = .ok (.putfield 108, 3) := by decide +kernel
theorem dX7_use_157 : decode cX7_use 157 = .ok (.aload_n 0, 1) := by decide +kernel
theorem dX7_use_158 : decode cX7_use 158 = .ok (.iconst 0, 1) := by decide +kernel
theorem dX7_use_159 : decode cX7_use 159 = .ok (.putfield 186, 3) := by decide +kernel
theorem dX7_use_162 : decode cX7_use 162 = .ok (.iconst 0, 1) := by decide +kernel
theorem dX7_use_163 : decode cX7_use 163 = .ok (.istore 8, 2) := by decide +kernel
theorem dX7_use_165 : decode cX7_use 165 = .ok (.iload_n 3, 1) := by decide +kernel
theorem dX7_use_166 : decode cX7_use 166 = .ok (.tableswitch 120 0 2 #[26, 52, 73], 26) := by decide +kernel
theorem dX7_use_192 : decode cX7_use 192 = .ok (.aload_n 0, 1) := by decide +kernel
theorem dX7_use_193 : decode cX7_use 193 = .ok (.aload_n 0, 1) := by decide +kernel
theorem dX7_use_194 : decode cX7_use 194 = .ok (.iload_n 1, 1) := by decide +kernel
theorem dX7_use_195 : decode cX7_use 195 = .ok (.iload_n 2, 1) := by decide +kernel
theorem dX7_use_196 : decode cX7_use 196 = .ok (.invokevirtual 198, 3) := by decide +kernel
theorem dX7_use_199 : decode cX7_use 199 = .ok (.putfield 105, 3) := by decide +kernel
theorem dX7_use_202 : decode cX7_use 202 = .ok (.aload_n 0, 1) := by decide +kernel
theorem dX7_use_203 : decode cX7_use 203 = .ok (.getfield 44, 3) := by decide +kernel
theorem dX7_use_206 : decode cX7_use 206 = .ok (.bipush 16, 2) := by decide +kernel
theorem dX7_use_208 : decode cX7_use 208 = .ok (.iload_n 1, 1) := by decide +kernel
theorem dX7_use_209 : decode cX7_use 209 = .ok (.imul, 1) := by decide +kernel
theorem dX7_use_210 : decode cX7_use 210 = .ok (.iload_n 2, 1) := by decide +kernel
theorem dX7_use_211 : decode cX7_use 211 = .ok (.iadd, 1) := by decide +kernel
theorem dX7_use_212 : decode cX7_use 212 = .ok (.iaload, 1) := by decide +kernel
theorem dX7_use_213 : decode cX7_use 213 = .ok (.istore 8, 2) := by decide +kernel
theorem dX7_use_215 : decode cX7_use 215 = .ok (.goto 76, 3) := by decide +kernel
theorem dX7_use_218 : decode cX7_use 218 = .ok (.aload_n 0, 1) := by decide +kernel
theorem dX7_use_219 : decode cX7_use 219 = .ok (.aload_n 0, 1) := by decide +kernel
theorem dX7_use_220 : decode cX7_use 220 = .ok (.iload_n 1, 1) := by decide +kernel
theorem dX7_use_221 : decode cX7_use 221 = .ok (.iload_n 2, 1) := by decide +kernel
theorem dX7_use_222 : decode cX7_use 222 = .ok (.iload 4, 2) := by decide +kernel
theorem dX7_use_224 : decode cX7_use 224 = .ok (.invokevirtual 201, 3) := by decide +kernel
theorem dX7_use_227 : decode cX7_use 227 = .ok (.putfield 105, 3) := by decide +kernel
theorem dX7_use_230 : decode cX7_use 230 = .ok (.aload_n 0, 1) := by decide +kernel
theorem dX7_use_231 : decode cX7_use 231 = .ok (.getfield 192, 3) := by decide +kernel
theorem dX7_use_234 : decode cX7_use 234 = .ok (.istore 8, 2) := by decide +kernel
theorem dX7_use_236 : decode cX7_use 236 = .ok (.goto 55, 3) := by decide +kernel
theorem dX7_use_239 : decode cX7_use 239 = .ok (.aload_n 0, 1) := by decide +kernel
theorem dX7_use_240 : decode cX7_use 240 = .ok (.aload_n 0, 1) := by decide +kernel
theorem dX7_use_241 : decode cX7_use 241 = .ok (.iload_n 1, 1) := by decide +kernel
theorem dX7_use_242 : decode cX7_use 242 = .ok (.iload 7, 2) := by decide +kernel
theorem dX7_use_244 : decode cX7_use 244 = .ok (.invokevirtual 189, 3) := by decide +kernel
theorem dX7_use_247 : decode cX7_use 247 = .ok (.putfield 105, 3) := by decide +kernel
theorem dX7_use_250 : decode cX7_use 250 = .ok (.aload_n 0, 1) := by decide +kernel
theorem dX7_use_251 : decode cX7_use 251 = .ok (.iload_n 1, 1) := by decide +kernel
theorem dX7_use_252 : decode cX7_use 252 = .ok (.iload 7, 2) := by decide +kernel
theorem dX7_use_254 : decode cX7_use 254 = .ok (.iload 4, 2) := by decide +kernel
theorem dX7_use_256 : decode cX7_use 256 = .ok (.invokevirtual 167, 3) := by decide +kernel
theorem dX7_use_259 : decode cX7_use 259 = .ok (.istore 8, 2) := by decide +kernel
theorem dX7_use_261 : decode cX7_use 261 = .ok (.aload_n 0, 1) := by decide +kernel
theorem dX7_use_262 : decode cX7_use 262 = .ok (.getfield 105, 3) := by decide +kernel
theorem dX7_use_265 : decode cX7_use 265 = .ok (.ifCond .ne 26, 3) := by decide +kernel
theorem dX7_use_268 : decode cX7_use 268 = .ok (.aload_n 0, 1) := by decide +kernel
theorem dX7_use_269 : decode cX7_use 269 = .ok (.aload_n 0, 1) := by decide +kernel
theorem dX7_use_270 : decode cX7_use 270 = .ok (.iload_n 1, 1) := by decide +kernel
theorem dX7_use_271 : decode cX7_use 271 = .ok (.iload 7, 2) := by decide +kernel
theorem dX7_use_273 : decode cX7_use 273 = .ok (.iload 4, 2) := by decide +kernel
theorem dX7_use_275 : decode cX7_use 275 = .ok (.iload 5, 2) := by decide +kernel
theorem dX7_use_277 : decode cX7_use 277 = .ok (.invokevirtual 163, 3) := by decide +kernel
theorem dX7_use_280 : decode cX7_use 280 = .ok (.putfield 105, 3) := by decide +kernel
theorem dX7_use_283 : decode cX7_use 283 = .ok (.goto 8, 3) := by decide +kernel
theorem dX7_use_286 : decode cX7_use 286 = .ok (.aload_n 0, 1) := by decide +kernel
theorem dX7_use_287 : decode cX7_use 287 = .ok (.iconst 0, 1) := by decide +kernel
theorem dX7_use_288 : decode cX7_use 288 = .ok (.putfield 105, 3) := by decide +kernel
theorem dX7_use_291 : decode cX7_use 291 = .ok (.aload_n 0, 1) := by decide +kernel
theorem dX7_use_292 : decode cX7_use 292 = .ok (.getfield 59, 3) := by decide +kernel
theorem dX7_use_295 : decode cX7_use 295 = .ok (.sipush 600, 3) := by decide +kernel
theorem dX7_use_298 : decode cX7_use 298 = .ok (.iload_n 1, 1) := by decide +kernel
theorem dX7_use_299 : decode cX7_use 299 = .ok (.imul, 1) := by decide +kernel
theorem dX7_use_300 : decode cX7_use 300 = .ok (.aload_n 0, 1) := by decide +kernel
theorem dX7_use_301 : decode cX7_use 301 = .ok (.getfield 56, 3) := by decide +kernel
theorem dX7_use_304 : decode cX7_use 304 = .ok (.iload_n 1, 1) := by decide +kernel
theorem dX7_use_305 : decode cX7_use 305 = .ok (.iaload, 1) := by decide +kernel
theorem dX7_use_306 : decode cX7_use 306 = .ok (.iadd, 1) := by decide +kernel
theorem dX7_use_307 : decode cX7_use 307 = .ok (.iload_n 3, 1) := by decide +kernel
theorem dX7_use_308 : decode cX7_use 308 = .ok (.ifCond .ne 14, 3) := by decide +kernel
theorem dX7_use_311 : decode cX7_use 311 = .ok (.aload_n 0, 1) := by decide +kernel
theorem dX7_use_312 : decode cX7_use 312 = .ok (.getfield 105, 3) := by decide +kernel
theorem dX7_use_315 : decode cX7_use 315 = .ok (.ifCond .ne 7, 3) := by decide +kernel
theorem dX7_use_318 : decode cX7_use 318 = .ok (.iload_n 2, 1) := by decide +kernel
theorem dX7_use_319 : decode cX7_use 319 = .ok (.goto 4, 3) := by decide +kernel
theorem dX7_use_322 : decode cX7_use 322 = .ok (.iconst (-1), 1) := by decide +kernel
theorem dX7_use_323 : decode cX7_use 323 = .ok (.iastore, 1) := by decide +kernel
theorem dX7_use_324 : decode cX7_use 324 = .ok (.aload_n 0, 1) := by decide +kernel
theorem dX7_use_325 : decode cX7_use 325 = .ok (.getfield 62, 3) := by decide +kernel
theorem dX7_use_328 : decode cX7_use 328 = .ok (.sipush 600, 3) := by decide +kernel
theorem dX7_use_331 : decode cX7_use 331 = .ok (.iload_n 1, 1) := by decide +kernel
theorem dX7_use_332 : decode cX7_use 332 = .ok (.imul, 1) := by decide +kernel
theorem dX7_use_333 : decode cX7_use 333 = .ok (.aload_n 0, 1) := by decide +kernel
theorem dX7_use_334 : decode cX7_use 334 = .ok (.getfield 56, 3) := by decide +kernel
theorem dX7_use_337 : decode cX7_use 337 = .ok (.iload_n 1, 1) := by decide +kernel
theorem dX7_use_338 : decode cX7_use 338 = .ok (.iaload, 1) := by decide +kernel
theorem dX7_use_339 : decode cX7_use 339 = .ok (.iadd, 1) := by decide +kernel
theorem dX7_use_340 : decode cX7_use 340 = .ok (.aload_n 0, 1) := by decide +kernel
theorem dX7_use_341 : decode cX7_use 341 = .ok (.getfield 186, 3) := by decide +kernel
theorem dX7_use_344 : decode cX7_use 344 = .ok (.iastore, 1) := by decide +kernel
theorem dX7_use_345 : decode cX7_use 345 = .ok (.aload_n 0, 1) := by decide +kernel
theorem dX7_use_346 : decode cX7_use 346 = .ok (.getfield 56, 3) := by decide +kernel
theorem dX7_use_349 : decode cX7_use 349 = .ok (.iload_n 1, 1) := by decide +kernel
theorem dX7_use_350 : decode cX7_use 350 = .ok (.dup2, 1) := by decide +kernel
theorem dX7_use_351 : decode cX7_use 351 = .ok (.iaload, 1) := by decide +kernel
theorem dX7_use_352 : decode cX7_use 352 = .ok (.iconst 1, 1) := by decide +kernel
theorem dX7_use_353 : decode cX7_use 353 = .ok (.iadd, 1) := by decide +kernel
theorem dX7_use_354 : decode cX7_use 354 = .ok (.iastore, 1) := by decide +kernel
theorem dX7_use_355 : decode cX7_use 355 = .ok (.aload_n 0, 1) := by decide +kernel
theorem dX7_use_356 : decode cX7_use 356 = .ok (.getfield 105, 3) := by decide +kernel
theorem dX7_use_359 : decode cX7_use 359 = .ok (.ifCond .ne 8, 3) := by decide +kernel
theorem dX7_use_362 : decode cX7_use 362 = .ok (.iload 8, 2) := by decide +kernel
theorem dX7_use_364 : decode cX7_use 364 = .ok (.goto 4, 3) := by decide +kernel
theorem dX7_use_367 : decode cX7_use 367 = .ok (.iconst 0, 1) := by decide +kernel
theorem dX7_use_368 : decode cX7_use 368 = .ok (.ireturn, 1) := by decide +kernel
theorem dX7_failure_0 : decode cX7_failure 0 = .ok (.aload_n 0, 1) := by decide +kernel
theorem dX7_failure_1 : decode cX7_failure 1 = .ok (.iconst 0, 1) := by decide +kernel
theorem dX7_failure_2 : decode cX7_failure 2 = .ok (.putfield 120, 3) := by decide +kernel
theorem dX7_failure_5 : decode cX7_failure 5 = .ok (.aload_n 0, 1) := by decide +kernel
theorem dX7_failure_6 : decode cX7_failure 6 = .ok (.getfield 105, 3) := by decide +kernel
theorem dX7_failure_9 : decode cX7_failure 9 = .ok (.ireturn, 1) := by decide +kernel
theorem dX7_told_0 : decode cX7_told 0 = .ok (.aload_n 0, 1) := by decide +kernel
theorem dX7_told_1 : decode cX7_told 1 = .ok (.iconst 0, 1) := by decide +kernel
theorem dX7_told_2 : decode cX7_told 2 = .ok (.putfield 120, 3) := by decide +kernel
theorem dX7_told_5 : decode cX7_told 5 = .ok (.iload_n 1, 1) := by decide +kernel
theorem dX7_told_6 : decode cX7_told 6 = .ok (.invokestatic 195, 3) := by decide +kernel
theorem dX7_told_9 : decode cX7_told 9 = .ok (.ifCond .eq 11, 3) := by decide +kernel
theorem dX7_told_12 : decode cX7_told 12 = .ok (.aload_n 0, 1) := by decide +kernel
theorem dX7_told_13 : decode cX7_told 13 = .ok (.iload_n 2, 1) := by decide +kernel
theorem dX7_told_14 : decode cX7_told 14 = .ok (.invokevirtual 127, 3) := by decide +kernel
theorem dX7_told_17 : decode cX7_told 17 = .ok (.ifCond .ne 6, 3) := by decide +kernel
theorem dX7_told_20 : decode cX7_told 20 = .ok (.bipush (-101), 2) := by decide +kernel
theorem dX7_told_22 : decode cX7_told 22 = .ok (.ireturn, 1) := by decide +kernel
theorem dX7_told_23 : decode cX7_told 23 = .ok (.iload_n 3, 1) := by decide +kernel
theorem dX7_told_24 : decode cX7_told 24 = .ok (.ifCond .ne 15, 3) := by decide +kernel
theorem dX7_told_27 : decode cX7_told 27 = .ok (.aload_n 0, 1) := by decide +kernel
theorem dX7_told_28 : decode cX7_told 28 = .ok (.getfield 38, 3) := by decide +kernel
theorem dX7_told_31 : decode cX7_told 31 = .ok (.aload_n 0, 1) := by decide +kernel
theorem dX7_told_32 : decode cX7_told 32 = .ok (.iload_n 1, 1) := by decide +kernel
theorem dX7_told_33 : decode cX7_told 33 = .ok (.iload_n 2, 1) := by decide +kernel
theorem dX7_told_34 : decode cX7_told 34 = .ok (.invokevirtual 156, 3) := by decide +kernel
theorem dX7_told_37 : decode cX7_told 37 = .ok (.iaload, 1) := by decide +kernel
theorem dX7_told_38 : decode cX7_told 38 = .ok (.ireturn, 1) := by decide +kernel
theorem dX7_told_39 : decode cX7_told 39 = .ok (.iload_n 3, 1) := by decide +kernel
theorem dX7_told_40 : decode cX7_told 40 = .ok (.iconst 1, 1) := by decide +kernel
theorem dX7_told_41 : decode cX7_told 41 = .ok (.if_icmp .ne 15, 3) := by decide +kernel
theorem dX7_told_44 : decode cX7_told 44 = .ok (.aload_n 0, 1) := by decide +kernel
theorem dX7_told_45 : decode cX7_told 45 = .ok (.getfield 44, 3) := by decide +kernel
theorem dX7_told_48 : decode cX7_told 48 = .ok (.bipush 16, 2) := by decide +kernel
theorem dX7_told_50 : decode cX7_told 50 = .ok (.iload_n 1, 1) := by decide +kernel
theorem dX7_told_51 : decode cX7_told 51 = .ok (.imul, 1) := by decide +kernel
theorem dX7_told_52 : decode cX7_told 52 = .ok (.iload_n 2, 1) := by decide +kernel
theorem dX7_told_53 : decode cX7_told 53 = .ok (.iadd, 1) := by decide +kernel
theorem dX7_told_54 : decode cX7_told 54 = .ok (.iaload, 1) := by decide +kernel
theorem dX7_told_55 : decode cX7_told 55 = .ok (.ireturn, 1) := by decide +kernel
theorem dX7_told_56 : decode cX7_told 56 = .ok (.iconst 0, 1) := by decide +kernel
theorem dX7_told_57 : decode cX7_told 57 = .ok (.istore 4, 2) := by decide +kernel
theorem dX7_told_59 : decode cX7_told 59 = .ok (.iconst 0, 1) := by decide +kernel
theorem dX7_told_60 : decode cX7_told 60 = .ok (.istore 5, 2) := by decide +kernel
theorem dX7_told_62 : decode cX7_told 62 = .ok (.iload 5, 2) := by decide +kernel
theorem dX7_told_64 : decode cX7_told 64 = .ok (.iconst 5, 1) := by decide +kernel
theorem dX7_told_65 : decode cX7_told 65 = .ok (.if_icmp .ge 45, 3) := by decide +kernel
theorem dX7_told_68 : decode cX7_told 68 = .ok (.iload 4, 2) := by decide +kernel
theorem dX7_told_70 : decode cX7_told 70 = .ok (.aload_n 0, 1) := by decide +kernel
theorem dX7_told_71 : decode cX7_told 71 = .ok (.getfield 26, 3) := by decide +kernel
theorem dX7_told_74 : decode cX7_told 74 = .ok (.iconst 5, 1) := by decide +kernel
theorem dX7_told_75 : decode cX7_told 75 = .ok (.iload_n 2, 1) := by decide +kernel
theorem dX7_told_76 : decode cX7_told 76 = .ok (.imul, 1) := by decide +kernel
theorem dX7_told_77 : decode cX7_told 77 = .ok (.iload 5, 2) := by decide +kernel
theorem dX7_told_79 : decode cX7_told 79 = .ok (.iadd, 1) := by decide +kernel
theorem dX7_told_80 : decode cX7_told 80 = .ok (.iaload, 1) := by decide +kernel
theorem dX7_told_81 : decode cX7_told 81 = .ok (.iconst 2, 1) := by decide +kernel
theorem dX7_told_82 : decode cX7_told 82 = .ok (.if_icmp .ne 18, 3) := by decide +kernel
theorem dX7_told_85 : decode cX7_told 85 = .ok (.aload_n 0, 1) := by decide +kernel
theorem dX7_told_86 : decode cX7_told 86 = .ok (.iload_n 1, 1) := by decide +kernel
theorem dX7_told_87 : decode cX7_told 87 = .ok (.iload_n 2, 1) := by decide +kernel
theorem dX7_told_88 : decode cX7_told 88 = .ok (.iload 5, 2) := by decide +kernel
theorem dX7_told_90 : decode cX7_told 90 = .ok (.invokevirtual 167, 3) := by decide +kernel
theorem dX7_told_93 : decode cX7_told 93 = .ok (.ifCond .eq 7, 3) := by decide +kernel
theorem dX7_told_96 : decode cX7_told 96 = .ok (.iconst 1, 1) := by decide +kernel
theorem dX7_told_97 : decode cX7_told 97 = .ok (.goto 4, 3) := by decide +kernel
theorem dX7_told_100 : decode cX7_told 100 = .ok (.iconst 0, 1) := by decide +kernel
theorem dX7_told_101 : decode cX7_told 101 = .ok (.iadd, 1) := by decide +kernel
theorem dX7_told_102 : decode cX7_told 102 = .ok (.istore 4, 2) := by decide +kernel
theorem dX7_told_104 : decode cX7_told 104 = .ok (.iinc 5 1, 3) := by decide +kernel
theorem dX7_told_107 : decode cX7_told 107 = .ok (.goto (-45), 3) := by decide +kernel
theorem dX7_told_110 : decode cX7_told 110 = .ok (.iload_n 3, 1) := by decide +kernel
theorem dX7_told_111 : decode cX7_told 111 = .ok (.iconst 2, 1) := by decide +kernel
theorem dX7_told_112 : decode cX7_told 112 = .ok (.if_icmp .ne 8, 3) := by decide +kernel
theorem dX7_told_115 : decode cX7_told 115 = .ok (.iload 4, 2) := by decide +kernel
theorem dX7_told_117 : decode cX7_told 117 = .ok (.goto 5, 3) := by decide +kernel
theorem dX7_told_120 : decode cX7_told 120 = .ok (.bipush (-102), 2) := by decide +kernel
theorem dX7_told_122 : decode cX7_told 122 = .ok (.ireturn, 1) := by decide +kernel
theorem dX7_peek_0 : decode cX7_peek 0 = .ok (.aload_n 0, 1) := by decide +kernel
theorem dX7_peek_1 : decode cX7_peek 1 = .ok (.iconst 0, 1) := by decide +kernel
theorem dX7_peek_2 : decode cX7_peek 2 = .ok (.putfield 120, 3) := by decide +kernel
theorem dX7_peek_5 : decode cX7_peek 5 = .ok (.iload_n 1, 1) := by decide +kernel
theorem dX7_peek_6 : decode cX7_peek 6 = .ok (.invokestatic 195, 3) := by decide +kernel
theorem dX7_peek_9 : decode cX7_peek 9 = .ok (.ifCond .eq 11, 3) := by decide +kernel
theorem dX7_peek_12 : decode cX7_peek 12 = .ok (.aload_n 0, 1) := by decide +kernel
theorem dX7_peek_13 : decode cX7_peek 13 = .ok (.iload_n 2, 1) := by decide +kernel
theorem dX7_peek_14 : decode cX7_peek 14 = .ok (.invokevirtual 127, 3) := by decide +kernel
theorem dX7_peek_17 : decode cX7_peek 17 = .ok (.ifCond .ne 6, 3) := by decide +kernel
theorem dX7_peek_20 : decode cX7_peek 20 = .ok (.bipush (-101), 2) := by decide +kernel
theorem dX7_peek_22 : decode cX7_peek 22 = .ok (.ireturn, 1) := by decide +kernel
theorem dX7_peek_23 : decode cX7_peek 23 = .ok (.iload_n 3, 1) := by decide +kernel
theorem dX7_peek_24 : decode cX7_peek 24 = .ok (.iconst 0, 1) := by decide +kernel
theorem dX7_peek_25 : decode cX7_peek 25 = .ok (.iconst 4, 1) := by decide +kernel
theorem dX7_peek_26 : decode cX7_peek 26 = .ok (.invokestatic 123, 3) := by decide +kernel
theorem dX7_peek_29 : decode cX7_peek 29 = .ok (.ifCond .eq 27, 3) := by decide +kernel
theorem dX7_peek_32 : decode cX7_peek 32 = .ok (.aload_n 0, 1) := by decide +kernel
theorem dX7_peek_33 : decode cX7_peek 33 = .ok (.getfield 26, 3) := by decide +kernel
theorem dX7_peek_36 : decode cX7_peek 36 = .ok (.iconst 5, 1) := by decide +kernel
theorem dX7_peek_37 : decode cX7_peek 37 = .ok (.iload_n 2, 1) := by decide +kernel
theorem dX7_peek_38 : decode cX7_peek 38 = .ok (.imul, 1) := by decide +kernel
theorem dX7_peek_39 : decode cX7_peek 39 = .ok (.iload_n 3, 1) := by decide +kernel
theorem dX7_peek_40 : decode cX7_peek 40 = .ok (.iadd, 1) := by decide +kernel
theorem dX7_peek_41 : decode cX7_peek 41 = .ok (.iaload, 1) := by decide +kernel
theorem dX7_peek_42 : decode cX7_peek 42 = .ok (.iconst 2, 1) := by decide +kernel
theorem dX7_peek_43 : decode cX7_peek 43 = .ok (.if_icmp .ne 13, 3) := by decide +kernel
theorem dX7_peek_46 : decode cX7_peek 46 = .ok (.aload_n 0, 1) := by decide +kernel
theorem dX7_peek_47 : decode cX7_peek 47 = .ok (.iload_n 1, 1) := by decide +kernel
theorem dX7_peek_48 : decode cX7_peek 48 = .ok (.iload_n 2, 1) := by decide +kernel
theorem dX7_peek_49 : decode cX7_peek 49 = .ok (.iload_n 3, 1) := by decide +kernel
theorem dX7_peek_50 : decode cX7_peek 50 = .ok (.invokevirtual 167, 3) := by decide +kernel
theorem dX7_peek_53 : decode cX7_peek 53 = .ok (.goto 5, 3) := by decide +kernel
theorem dX7_peek_56 : decode cX7_peek 56 = .ok (.bipush (-103), 2) := by decide +kernel
theorem dX7_peek_58 : decode cX7_peek 58 = .ok (.ireturn, 1) := by decide +kernel
theorem dX7_start_0 : decode cX7_start 0 = .ok (.aload_n 0, 1) := by decide +kernel
theorem dX7_start_1 : decode cX7_start 1 = .ok (.iconst 0, 1) := by decide +kernel
theorem dX7_start_2 : decode cX7_start 2 = .ok (.putfield 120, 3) := by decide +kernel
theorem dX7_start_5 : decode cX7_start 5 = .ok (.iload_n 1, 1) := by decide +kernel
theorem dX7_start_6 : decode cX7_start 6 = .ok (.iconst 0, 1) := by decide +kernel
theorem dX7_start_7 : decode cX7_start 7 = .ok (.aload_n 0, 1) := by decide +kernel
theorem dX7_start_8 : decode cX7_start 8 = .ok (.getfield 111, 3) := by decide +kernel
theorem dX7_start_11 : decode cX7_start 11 = .ok (.iconst 1, 1) := by decide +kernel
theorem dX7_start_12 : decode cX7_start 12 = .ok (.isub, 1) := by decide +kernel
theorem dX7_start_13 : decode cX7_start 13 = .ok (.invokestatic 123, 3) := by decide +kernel
theorem dX7_start_16 : decode cX7_start 16 = .ok (.ifCond .ne 5, 3) := by decide +kernel
theorem dX7_start_19 : decode cX7_start 19 = .ok (.iconst (-1), 1) := by decide +kernel
theorem dX7_start_20 : decode cX7_start 20 = .ok (.ireturn, 1) := by decide +kernel
theorem dX7_start_21 : decode cX7_start 21 = .ok (.iload_n 2, 1) := by decide +kernel
theorem dX7_start_22 : decode cX7_start 22 = .ok (.iconst 0, 1) := by decide +kernel
theorem dX7_start_23 : decode cX7_start 23 = .ok (.iconst 3, 1) := by decide +kernel
theorem dX7_start_24 : decode cX7_start 24 = .ok (.invokestatic 123, 3) := by decide +kernel
theorem dX7_start_27 : decode cX7_start 27 = .ok (.ifCond .eq 16, 3) := by decide +kernel
theorem dX7_start_30 : decode cX7_start 30 = .ok (.aload_n 0, 1) := by decide +kernel
theorem dX7_start_31 : decode cX7_start 31 = .ok (.getfield 50, 3) := by decide +kernel
theorem dX7_start_34 : decode cX7_start 34 = .ok (.iconst 4, 1) := by decide +kernel
theorem dX7_start_35 : decode cX7_start 35 = .ok (.iload_n 1, 1) := by decide +kernel
theorem dX7_start_36 : decode cX7_start 36 = .ok (.imul, 1) := by decide +kernel
theorem dX7_start_37 : decode cX7_start 37 = .ok (.iload_n 2, 1) := by decide +kernel
theorem dX7_start_38 : decode cX7_start 38 = .ok (.iadd, 1) := by decide +kernel
theorem dX7_start_39 : decode cX7_start 39 = .ok (.iaload, 1) := by decide +kernel
theorem dX7_start_40 : decode cX7_start 40 = .ok (.goto 5, 3) := by decide +kernel
theorem dX7_start_43 : decode cX7_start 43 = .ok (.bipush (-102), 2) := by decide +kernel
theorem dX7_start_45 : decode cX7_start 45 = .ok (.ireturn, 1) := by decide +kernel
theorem dX7_message_0 : decode cX7_message 0 = .ok (.aload_n 0, 1) := by decide +kernel
theorem dX7_message_1 : decode cX7_message 1 = .ok (.iload_n 1, 1) := by decide +kernel
theorem dX7_message_2 : decode cX7_message 2 = .ok (.iconst 0, 1) := by decide +kernel
theorem dX7_message_3 : decode cX7_message 3 = .ok (.aload_n 0, 1) := by decide +kernel
theorem dX7_message_4 : decode cX7_message 4 = .ok (.getfield 114, 3) := by decide +kernel
theorem dX7_message_7 : decode cX7_message 7 = .ok (.iconst 1, 1) := by decide +kernel
theorem dX7_message_8 : decode cX7_message 8 = .ok (.isub, 1) := by decide +kernel
theorem dX7_message_9 : decode cX7_message 9 = .ok (.invokestatic 123, 3) := by decide +kernel
theorem dX7_message_12 : decode cX7_message 12 = .ok (.ifCond .eq 7, 3) := by decide +kernel
theorem dX7_message_15 : decode cX7_message 15 = .ok (.iconst 0, 1) := by decide +kernel
theorem dX7_message_16 : decode cX7_message 16 = .ok (.goto 4, 3) := by decide +kernel
theorem dX7_message_19 : decode cX7_message 19 = .ok (.iconst 1, 1) := by decide +kernel
theorem dX7_message_20 : decode cX7_message 20 = .ok (.putfield 120, 3) := by decide +kernel
theorem dX7_message_23 : decode cX7_message 23 = .ok (.aload_n 0, 1) := by decide +kernel
theorem dX7_message_24 : decode cX7_message 24 = .ok (.getfield 120, 3) := by decide +kernel
theorem dX7_message_27 : decode cX7_message 27 = .ok (.ifCond .le 7, 3) := by decide +kernel
theorem dX7_message_30 : decode cX7_message 30 = .ok (.iconst 0, 1) := by decide +kernel
theorem dX7_message_31 : decode cX7_message 31 = .ok (.goto 9, 3) := by decide +kernel
theorem dX7_message_34 : decode cX7_message 34 = .ok (.aload_n 0, 1) := by decide +kernel
theorem dX7_message_35 : decode cX7_message 35 = .ok (.getfield 53, 3) := by decide +kernel
theorem dX7_message_38 : decode cX7_message 38 = .ok (.iload_n 1, 1) := by decide +kernel
theorem dX7_message_39 : decode cX7_message 39 = .ok (.iaload, 1) := by decide +kernel
theorem dX7_message_40 : decode cX7_message 40 = .ok (.ireturn, 1) := by decide +kernel
theorem dX7_steps_0 : decode cX7_steps 0 = .ok (.aload_n 0, 1) := by decide +kernel
theorem dX7_steps_1 : decode cX7_steps 1 = .ok (.iconst 0, 1) := by decide +kernel
theorem dX7_steps_2 : decode cX7_steps 2 = .ok (.putfield 120, 3) := by decide +kernel
theorem dX7_steps_5 : decode cX7_steps 5 = .ok (.iload_n 1, 1) := by decide +kernel
theorem dX7_steps_6 : decode cX7_steps 6 = .ok (.invokestatic 195, 3) := by decide +kernel
theorem dX7_steps_9 : decode cX7_steps 9 = .ok (.ifCond .ne 6, 3) := by decide +kernel
theorem dX7_steps_12 : decode cX7_steps 12 = .ok (.bipush (-101), 2) := by decide +kernel
theorem dX7_steps_14 : decode cX7_steps 14 = .ok (.ireturn, 1) := by decide +kernel
theorem dX7_steps_15 : decode cX7_steps 15 = .ok (.iload_n 2, 1) := by decide +kernel
theorem dX7_steps_16 : decode cX7_steps 16 = .ok (.iconst 0, 1) := by decide +kernel
theorem dX7_steps_17 : decode cX7_steps 17 = .ok (.ldc 204, 2) := by decide +kernel
theorem dX7_steps_19 : decode cX7_steps 19 = .ok (.invokestatic 123, 3) := by decide +kernel
theorem dX7_steps_22 : decode cX7_steps 22 = .ok (.ifCond .ne 6, 3) := by decide +kernel
theorem dX7_steps_25 : decode cX7_steps 25 = .ok (.bipush (-102), 2) := by decide +kernel
theorem dX7_steps_27 : decode cX7_steps 27 = .ok (.ireturn, 1) := by decide +kernel
theorem dX7_steps_28 : decode cX7_steps 28 = .ok (.aload_n 0, 1) := by decide +kernel
theorem dX7_steps_29 : decode cX7_steps 29 = .ok (.getfield 47, 3) := by decide +kernel
theorem dX7_steps_32 : decode cX7_steps 32 = .ok (.iload_n 1, 1) := by decide +kernel
theorem dX7_steps_33 : decode cX7_steps 33 = .ok (.iaload, 1) := by decide +kernel
theorem dX7_steps_34 : decode cX7_steps 34 = .ok (.istore_n 3, 1) := by decide +kernel
theorem dX7_steps_35 : decode cX7_steps 35 = .ok (.aload_n 0, 1) := by decide +kernel
theorem dX7_steps_36 : decode cX7_steps 36 = .ok (.getfield 47, 3) := by decide +kernel
theorem dX7_steps_39 : decode cX7_steps 39 = .ok (.iload_n 1, 1) := by decide +kernel
theorem dX7_steps_40 : decode cX7_steps 40 = .ok (.iload_n 2, 1) := by decide +kernel
theorem dX7_steps_41 : decode cX7_steps 41 = .ok (.iastore, 1) := by decide +kernel
theorem dX7_steps_42 : decode cX7_steps 42 = .ok (.iload_n 3, 1) := by decide +kernel
theorem dX7_steps_43 : decode cX7_steps 43 = .ok (.ireturn, 1) := by decide +kernel
theorem dX7_undo_0 : decode cX7_undo 0 = .ok (.aload_n 0, 1) := by decide +kernel
theorem dX7_undo_1 : decode cX7_undo 1 = .ok (.iconst 0, 1) := by decide +kernel
theorem dX7_undo_2 : decode cX7_undo 2 = .ok (.putfield 120, 3) := by decide +kernel
theorem dX7_undo_5 : decode cX7_undo 5 = .ok (.iload_n 1, 1) := by decide +kernel
theorem dX7_undo_6 : decode cX7_undo 6 = .ok (.invokestatic 195, 3) := by decide +kernel
theorem dX7_undo_9 : decode cX7_undo 9 = .ok (.ifCond .ne 6, 3) := by decide +kernel
theorem dX7_undo_12 : decode cX7_undo 12 = .ok (.bipush (-101), 2) := by decide +kernel
theorem dX7_undo_14 : decode cX7_undo 14 = .ok (.ireturn, 1) := by decide +kernel
theorem dX7_undo_15 : decode cX7_undo 15 = .ok (.aload_n 0, 1) := by decide +kernel
theorem dX7_undo_16 : decode cX7_undo 16 = .ok (.getfield 56, 3) := by decide +kernel
theorem dX7_undo_19 : decode cX7_undo 19 = .ok (.iload_n 1, 1) := by decide +kernel
theorem dX7_undo_20 : decode cX7_undo 20 = .ok (.iaload, 1) := by decide +kernel
theorem dX7_undo_21 : decode cX7_undo 21 = .ok (.ifCond .ne 5, 3) := by decide +kernel
theorem dX7_undo_24 : decode cX7_undo 24 = .ok (.iconst (-1), 1) := by decide +kernel
theorem dX7_undo_25 : decode cX7_undo 25 = .ok (.ireturn, 1) := by decide +kernel
theorem dX7_undo_26 : decode cX7_undo 26 = .ok (.aload_n 0, 1) := by decide +kernel
theorem dX7_undo_27 : decode cX7_undo 27 = .ok (.getfield 56, 3) := by decide +kernel
theorem dX7_undo_30 : decode cX7_undo 30 = .ok (.iload_n 1, 1) := by decide +kernel
theorem dX7_undo_31 : decode cX7_undo 31 = .ok (.dup2, 1) := by decide +kernel
theorem dX7_undo_32 : decode cX7_undo 32 = .ok (.iaload, 1) := by decide +kernel
theorem dX7_undo_33 : decode cX7_undo 33 = .ok (.iconst 1, 1) := by decide +kernel
theorem dX7_undo_34 : decode cX7_undo 34 = .ok (.isub, 1) := by decide +kernel
theorem dX7_undo_35 : decode cX7_undo 35 = .ok (.iastore, 1) := by decide +kernel
theorem dX7_undo_36 : decode cX7_undo 36 = .ok (.sipush 600, 3) := by decide +kernel
theorem dX7_undo_39 : decode cX7_undo 39 = .ok (.iload_n 1, 1) := by decide +kernel
theorem dX7_undo_40 : decode cX7_undo 40 = .ok (.imul, 1) := by decide +kernel
theorem dX7_undo_41 : decode cX7_undo 41 = .ok (.aload_n 0, 1) := by decide +kernel
theorem dX7_undo_42 : decode cX7_undo 42 = .ok (.getfield 56, 3) := by decide +kernel
theorem dX7_undo_45 : decode cX7_undo 45 = .ok (.iload_n 1, 1) := by decide +kernel
theorem dX7_undo_46 : decode cX7_undo 46 = .ok (.iaload, 1) := by decide +kernel
theorem dX7_undo_47 : decode cX7_undo 47 = .ok (.iadd, 1) := by decide +kernel
theorem dX7_undo_48 : decode cX7_undo 48 = .ok (.istore_n 2, 1) := by decide +kernel
theorem dX7_undo_49 : decode cX7_undo 49 = .ok (.aload_n 0, 1) := by decide +kernel
theorem dX7_undo_50 : decode cX7_undo 50 = .ok (.getfield 59, 3) := by decide +kernel
theorem dX7_undo_53 : decode cX7_undo 53 = .ok (.iload_n 2, 1) := by decide +kernel
theorem dX7_undo_54 : decode cX7_undo 54 = .ok (.iaload, 1) := by decide +kernel
theorem dX7_undo_55 : decode cX7_undo 55 = .ok (.iconst (-1), 1) := by decide +kernel
theorem dX7_undo_56 : decode cX7_undo 56 = .ok (.if_icmp .eq 23, 3) := by decide +kernel
theorem dX7_undo_59 : decode cX7_undo 59 = .ok (.aload_n 0, 1) := by decide +kernel
theorem dX7_undo_60 : decode cX7_undo 60 = .ok (.getfield 44, 3) := by decide +kernel
theorem dX7_undo_63 : decode cX7_undo 63 = .ok (.bipush 16, 2) := by decide +kernel
theorem dX7_undo_65 : decode cX7_undo 65 = .ok (.iload_n 1, 1) := by decide +kernel
theorem dX7_undo_66 : decode cX7_undo 66 = .ok (.imul, 1) := by decide +kernel
theorem dX7_undo_67 : decode cX7_undo 67 = .ok (.aload_n 0, 1) := by decide +kernel
theorem dX7_undo_68 : decode cX7_undo 68 = .ok (.getfield 59, 3) := by decide +kernel
theorem dX7_undo_71 : decode cX7_undo 71 = .ok (.iload_n 2, 1) := by decide +kernel
theorem dX7_undo_72 : decode cX7_undo 72 = .ok (.iaload, 1) := by decide +kernel
theorem dX7_undo_73 : decode cX7_undo 73 = .ok (.iadd, 1) := by decide +kernel
theorem dX7_undo_74 : decode cX7_undo 74 = .ok (.dup2, 1) := by decide +kernel
theorem dX7_undo_75 : decode cX7_undo 75 = .ok (.iaload, 1) := by decide +kernel
theorem dX7_undo_76 : decode cX7_undo 76 = .ok (.iconst 1, 1) := by decide +kernel
theorem dX7_undo_77 : decode cX7_undo 77 = .ok (.isub, 1) := by decide +kernel
theorem dX7_undo_78 : decode cX7_undo 78 = .ok (.iastore, 1) := by decide +kernel
theorem dX7_undo_79 : decode cX7_undo 79 = .ok (.aload_n 0, 1) := by decide +kernel
theorem dX7_undo_80 : decode cX7_undo 80 = .ok (.getfield 62, 3) := by decide +kernel
theorem dX7_undo_83 : decode cX7_undo 83 = .ok (.iload_n 2, 1) := by decide +kernel
theorem dX7_undo_84 : decode cX7_undo 84 = .ok (.iaload, 1) := by decide +kernel
theorem dX7_undo_85 : decode cX7_undo 85 = .ok (.ireturn, 1) := by decide +kernel
theorem dX7_restart_0 : decode cX7_restart 0 = .ok (.aload_n 0, 1) := by decide +kernel
theorem dX7_restart_1 : decode cX7_restart 1 = .ok (.iconst 0, 1) := by decide +kernel
theorem dX7_restart_2 : decode cX7_restart 2 = .ok (.putfield 120, 3) := by decide +kernel
theorem dX7_restart_5 : decode cX7_restart 5 = .ok (.iload_n 1, 1) := by decide +kernel
theorem dX7_restart_6 : decode cX7_restart 6 = .ok (.invokestatic 195, 3) := by decide +kernel
theorem dX7_restart_9 : decode cX7_restart 9 = .ok (.ifCond .ne 6, 3) := by decide +kernel
theorem dX7_restart_12 : decode cX7_restart 12 = .ok (.bipush (-101), 2) := by decide +kernel
theorem dX7_restart_14 : decode cX7_restart 14 = .ok (.ireturn, 1) := by decide +kernel
theorem dX7_restart_15 : decode cX7_restart 15 = .ok (.iconst 0, 1) := by decide +kernel
theorem dX7_restart_16 : decode cX7_restart 16 = .ok (.istore_n 2, 1) := by decide +kernel
theorem dX7_restart_17 : decode cX7_restart 17 = .ok (.iconst 0, 1) := by decide +kernel
theorem dX7_restart_18 : decode cX7_restart 18 = .ok (.istore_n 3, 1) := by decide +kernel
theorem dX7_restart_19 : decode cX7_restart 19 = .ok (.iload_n 3, 1) := by decide +kernel
theorem dX7_restart_20 : decode cX7_restart 20 = .ok (.aload_n 0, 1) := by decide +kernel
theorem dX7_restart_21 : decode cX7_restart 21 = .ok (.getfield 101, 3) := by decide +kernel
theorem dX7_restart_24 : decode cX7_restart 24 = .ok (.if_icmp .ge 88, 3) := by decide +kernel
theorem dX7_restart_27 : decode cX7_restart 27 = .ok (.bipush 16, 2) := by decide +kernel
theorem dX7_restart_29 : decode cX7_restart 29 = .ok (.iload_n 1, 1) := by decide +kernel
theorem dX7_restart_30 : decode cX7_restart 30 = .ok (.imul, 1) := by decide +kernel
theorem dX7_restart_31 : decode cX7_restart 31 = .ok (.iload_n 3, 1) := by decide +kernel
theorem dX7_restart_32 : decode cX7_restart 32 = .ok (.iadd, 1) := by decide +kernel
theorem dX7_restart_33 : decode cX7_restart 33 = .ok (.istore 4, 2) := by decide +kernel
theorem dX7_restart_35 : decode cX7_restart 35 = .ok (.aload_n 0, 1) := by decide +kernel
theorem dX7_restart_36 : decode cX7_restart 36 = .ok (.getfield 44, 3) := by decide +kernel
theorem dX7_restart_39 : decode cX7_restart 39 = .ok (.iload 4, 2) := by decide +kernel
theorem dX7_restart_41 : decode cX7_restart 41 = .ok (.iconst 0, 1) := by decide +kernel
theorem dX7_restart_42 : decode cX7_restart 42 = .ok (.iastore, 1) := by decide +kernel
theorem dX7_restart_43 : decode cX7_restart 43 = .ok (.aload_n 0, 1) := by decide +kernel
theorem dX7_restart_44 : decode cX7_restart 44 = .ok (.getfield 16, 3) := by decide +kernel
theorem dX7_restart_47 : decode cX7_restart 47 = .ok (.iload_n 3, 1) := by decide +kernel
theorem dX7_restart_48 : decode cX7_restart 48 = .ok (.baload, 1) := by decide +kernel
theorem dX7_restart_49 : decode cX7_restart 49 = .ok (.ifCond .ne 57, 3) := by decide +kernel
theorem dX7_restart_52 : decode cX7_restart 52 = .ok (.iload_n 2, 1) := by decide +kernel
theorem dX7_restart_53 : decode cX7_restart 53 = .ok (.aload_n 0, 1) := by decide +kernel
theorem dX7_restart_54 : decode cX7_restart 54 = .ok (.getfield 38, 3) := by decide +kernel
theorem dX7_restart_57 : decode cX7_restart 57 = .ok (.iload 4, 2) := by decide +kernel
theorem dX7_restart_59 : decode cX7_restart 59 = .ok (.iaload, 1) := by decide +kernel
theorem dX7_restart_60 : decode cX7_restart 60 = .ok (.ifCond .ne 7, 3) := by decide +kernel
theorem dX7_restart_63 : decode cX7_restart 63 = .ok (.iconst 0, 1) := by decide +kernel
theorem dX7_restart_64 : decode cX7_restart 64 = .ok (.goto 4, 3) := by decide +kernel
theorem dX7_restart_67 : decode cX7_restart 67 = .ok (.iconst 1, 1) := by decide +kernel
theorem dX7_restart_68 : decode cX7_restart 68 = .ok (.iadd, 1) := by decide +kernel
theorem dX7_restart_69 : decode cX7_restart 69 = .ok (.istore_n 2, 1) := by decide +kernel
theorem dX7_restart_70 : decode cX7_restart 70 = .ok (.aload_n 0, 1) := by decide +kernel
theorem dX7_restart_71 : decode cX7_restart 71 = .ok (.getfield 38, 3) := by decide +kernel
theorem dX7_restart_74 : decode cX7_restart 74 = .ok (.iload 4, 2) := by decide +kernel
theorem dX7_restart_76 : decode cX7_restart 76 = .ok (.iconst 0, 1) := by decide +kernel
theorem dX7_restart_77 : decode cX7_restart 77 = .ok (.iastore, 1) := by decide +kernel
theorem dX7_restart_78 : decode cX7_restart 78 = .ok (.iconst 0, 1) := by decide +kernel
theorem dX7_restart_79 : decode cX7_restart 79 = .ok (.istore 5, 2) := by decide +kernel
theorem dX7_restart_81 : decode cX7_restart 81 = .ok (.iload 5, 2) := by decide +kernel
theorem dX7_restart_83 : decode cX7_restart 83 = .ok (.iconst 5, 1) := by decide +kernel
theorem dX7_restart_84 : decode cX7_restart 84 = .ok (.if_icmp .ge 22, 3) := by decide +kernel
theorem dX7_restart_87 : decode cX7_restart 87 = .ok (.aload_n 0, 1) := by decide +kernel
theorem dX7_restart_88 : decode cX7_restart 88 = .ok (.getfield 41, 3) := by decide +kernel
theorem dX7_restart_91 : decode cX7_restart 91 = .ok (.iconst 5, 1) := by decide +kernel
theorem dX7_restart_92 : decode cX7_restart 92 = .ok (.iload 4, 2) := by decide +kernel
theorem dX7_restart_94 : decode cX7_restart 94 = .ok (.imul, 1) := by decide +kernel
theorem dX7_restart_95 : decode cX7_restart 95 = .ok (.iload 5, 2) := by decide +kernel
theorem dX7_restart_97 : decode cX7_restart 97 = .ok (.iadd, 1) := by decide +kernel
theorem dX7_restart_98 : decode cX7_restart 98 = .ok (.iconst 0, 1) := by decide +kernel
theorem dX7_restart_99 : decode cX7_restart 99 = .ok (.iastore, 1) := by decide +kernel
theorem dX7_restart_100 : decode cX7_restart 100 = .ok (.iinc 5 1, 3) := by decide +kernel
theorem dX7_restart_103 : decode cX7_restart 103 = .ok (.goto (-22), 3) := by decide +kernel
theorem dX7_restart_106 : decode cX7_restart 106 = .ok (.iinc 3 1, 3) := by decide +kernel
theorem dX7_restart_109 : decode cX7_restart 109 = .ok (.goto (-90), 3) := by decide +kernel
theorem dX7_restart_112 : decode cX7_restart 112 = .ok (.aload_n 0, 1) := by decide +kernel
theorem dX7_restart_113 : decode cX7_restart 113 = .ok (.getfield 56, 3) := by decide +kernel
theorem dX7_restart_116 : decode cX7_restart 116 = .ok (.iload_n 1, 1) := by decide +kernel
theorem dX7_restart_117 : decode cX7_restart 117 = .ok (.iconst 0, 1) := by decide +kernel
theorem dX7_restart_118 : decode cX7_restart 118 = .ok (.iastore, 1) := by decide +kernel
theorem dX7_restart_119 : decode cX7_restart 119 = .ok (.iload_n 2, 1) := by decide +kernel
theorem dX7_restart_120 : decode cX7_restart 120 = .ok (.ireturn, 1) := by decide +kernel
theorem dX7_about_0 : decode cX7_about 0 = .ok (.aload_n 0, 1) := by decide +kernel
theorem dX7_about_1 : decode cX7_about 1 = .ok (.iconst 0, 1) := by decide +kernel
theorem dX7_about_2 : decode cX7_about 2 = .ok (.putfield 120, 3) := by decide +kernel
theorem dX7_about_5 : decode cX7_about 5 = .ok (.iload_n 1, 1) := by decide +kernel
theorem dX7_about_6 : decode cX7_about 6 = .ok (.ifCond .ne 10, 3) := by decide +kernel
theorem dX7_about_9 : decode cX7_about 9 = .ok (.aload_n 0, 1) := by decide +kernel
theorem dX7_about_10 : decode cX7_about 10 = .ok (.getfield 101, 3) := by decide +kernel
theorem dX7_about_13 : decode cX7_about 13 = .ok (.goto 53, 3) := by decide +kernel
theorem dX7_about_16 : decode cX7_about 16 = .ok (.iload_n 1, 1) := by decide +kernel
theorem dX7_about_17 : decode cX7_about 17 = .ok (.iconst 1, 1) := by decide +kernel
theorem dX7_about_18 : decode cX7_about 18 = .ok (.if_icmp .ne 10, 3) := by decide +kernel
theorem dX7_about_21 : decode cX7_about 21 = .ok (.aload_n 0, 1) := by decide +kernel
theorem dX7_about_22 : decode cX7_about 22 = .ok (.getfield 108, 3) := by decide +kernel
theorem dX7_about_25 : decode cX7_about 25 = .ok (.goto 41, 3) := by decide +kernel
theorem dX7_about_28 : decode cX7_about 28 = .ok (.iload_n 1, 1) := by decide +kernel
theorem dX7_about_29 : decode cX7_about 29 = .ok (.iconst 2, 1) := by decide +kernel
theorem dX7_about_30 : decode cX7_about 30 = .ok (.if_icmp .ne 10, 3) := by decide +kernel
theorem dX7_about_33 : decode cX7_about 33 = .ok (.aload_n 0, 1) := by decide +kernel
theorem dX7_about_34 : decode cX7_about 34 = .ok (.getfield 111, 3) := by decide +kernel
theorem dX7_about_37 : decode cX7_about 37 = .ok (.goto 29, 3) := by decide +kernel
theorem dX7_about_40 : decode cX7_about 40 = .ok (.iload_n 1, 1) := by decide +kernel
theorem dX7_about_41 : decode cX7_about 41 = .ok (.iconst 3, 1) := by decide +kernel
theorem dX7_about_42 : decode cX7_about 42 = .ok (.if_icmp .ne 10, 3) := by decide +kernel
theorem dX7_about_45 : decode cX7_about 45 = .ok (.aload_n 0, 1) := by decide +kernel
theorem dX7_about_46 : decode cX7_about 46 = .ok (.getfield 114, 3) := by decide +kernel
theorem dX7_about_49 : decode cX7_about 49 = .ok (.goto 17, 3) := by decide +kernel
theorem dX7_about_52 : decode cX7_about 52 = .ok (.iload_n 1, 1) := by decide +kernel
theorem dX7_about_53 : decode cX7_about 53 = .ok (.iconst 4, 1) := by decide +kernel
theorem dX7_about_54 : decode cX7_about 54 = .ok (.if_icmp .ne 10, 3) := by decide +kernel
theorem dX7_about_57 : decode cX7_about 57 = .ok (.aload_n 0, 1) := by decide +kernel
theorem dX7_about_58 : decode cX7_about 58 = .ok (.getfield 117, 3) := by decide +kernel
theorem dX7_about_61 : decode cX7_about 61 = .ok (.goto 5, 3) := by decide +kernel
theorem dX7_about_64 : decode cX7_about 64 = .ok (.bipush (-102), 2) := by decide +kernel
theorem dX7_about_66 : decode cX7_about 66 = .ok (.ireturn, 1) := by decide +kernel
theorem dX7_clear_0 : decode cX7_clear 0 = .ok (.aload_n 0, 1) := by decide +kernel
theorem dX7_clear_1 : decode cX7_clear 1 = .ok (.iconst 0, 1) := by decide +kernel
theorem dX7_clear_2 : decode cX7_clear 2 = .ok (.putfield 120, 3) := by decide +kernel
theorem dX7_clear_5 : decode cX7_clear 5 = .ok (.aload_n 0, 1) := by decide +kernel
theorem dX7_clear_6 : decode cX7_clear 6 = .ok (.getfield 101, 3) := by decide +kernel
theorem dX7_clear_9 : decode cX7_clear 9 = .ok (.istore_n 1, 1) := by decide +kernel
theorem dX7_clear_10 : decode cX7_clear 10 = .ok (.aload_n 0, 1) := by decide +kernel
theorem dX7_clear_11 : decode cX7_clear 11 = .ok (.invokevirtual 98, 3) := by decide +kernel
theorem dX7_clear_14 : decode cX7_clear 14 = .ok (.iload_n 1, 1) := by decide +kernel
theorem dX7_clear_15 : decode cX7_clear 15 = .ok (.ireturn, 1) := by decide +kernel
end
section
theorem dL_message_0 : decode cL_message 0 = .ok (.aload_n 2, 1) := by decide +kernel
theorem dL_message_1 : decode cL_message 1 = .ok (.iconst 0, 1) := by decide +kernel
theorem dL_message_2 : decode cL_message 2 = .ok (.aload_n 0, 1) := by decide +kernel
theorem dL_message_3 : decode cL_message 3 = .ok (.iload_n 1, 1) := by decide +kernel
theorem dL_message_4 : decode cL_message 4 = .ok (.invokevirtual 7, 3) := by decide +kernel
theorem dL_message_7 : decode cL_message 7 = .ok (.i2l, 1) := by decide +kernel
theorem dL_message_8 : decode cL_message 8 = .ok (.lastore, 1) := by decide +kernel
theorem dL_message_9 : decode cL_message 9 = .ok (.goto 6, 3) := by decide +kernel
theorem dL_message_12 : decode cL_message 12 = .ok (.astore_n 3, 1) := by decide +kernel
theorem dL_message_13 : decode cL_message 13 = .ok (.iconst 1, 1) := by decide +kernel
theorem dL_message_14 : decode cL_message 14 = .ok (.ireturn, 1) := by decide +kernel
theorem dL_message_15 : decode cL_message 15 = .ok (.iconst 0, 1) := by decide +kernel
theorem dL_message_16 : decode cL_message 16 = .ok (.ireturn, 1) := by decide +kernel
theorem dL_law_0 : decode cL_law 0 = .ok (.new 8, 3) := by decide +kernel
theorem dL_law_3 : decode cL_law 3 = .ok (.dup, 1) := by decide +kernel
theorem dL_law_4 : decode cL_law 4 = .ok (.invokespecial 15, 3) := by decide +kernel
theorem dL_law_7 : decode cL_law 7 = .ok (.astore_n 1, 1) := by decide +kernel
theorem dL_law_8 : decode cL_law 8 = .ok (.new 16, 3) := by decide +kernel
theorem dL_law_11 : decode cL_law 11 = .ok (.dup, 1) := by decide +kernel
theorem dL_law_12 : decode cL_law 12 = .ok (.invokespecial 18, 3) := by decide +kernel
theorem dL_law_15 : decode cL_law 15 = .ok (.astore_n 2, 1) := by decide +kernel
theorem dL_law_16 : decode cL_law 16 = .ok (.iconst 1, 1) := by decide +kernel
theorem dL_law_17 : decode cL_law 17 = .ok (.newarray .long, 2) := by decide +kernel
theorem dL_law_19 : decode cL_law 19 = .ok (.astore_n 3, 1) := by decide +kernel
theorem dL_law_20 : decode cL_law 20 = .ok (.iconst 0, 1) := by decide +kernel
theorem dL_law_21 : decode cL_law 21 = .ok (.istore 4, 2) := by decide +kernel
theorem dL_law_23 : decode cL_law 23 = .ok (.iload 4, 2) := by decide +kernel
theorem dL_law_25 : decode cL_law 25 = .ok (.aload_n 0, 1) := by decide +kernel
theorem dL_law_26 : decode cL_law 26 = .ok (.arraylength, 1) := by decide +kernel
theorem dL_law_27 : decode cL_law 27 = .ok (.bipush 6, 2) := by decide +kernel
theorem dL_law_29 : decode cL_law 29 = .ok (.isub, 1) := by decide +kernel
theorem dL_law_30 : decode cL_law 30 = .ok (.if_icmp .gt 746, 3) := by decide +kernel
theorem dL_law_33 : decode cL_law 33 = .ok (.aload_n 0, 1) := by decide +kernel
theorem dL_law_34 : decode cL_law 34 = .ok (.iload 4, 2) := by decide +kernel
theorem dL_law_36 : decode cL_law 36 = .ok (.iaload, 1) := by decide +kernel
theorem dL_law_37 : decode cL_law 37 = .ok (.bipush 15, 2) := by decide +kernel
theorem dL_law_39 : decode cL_law 39 = .ok (.iand, 1) := by decide +kernel
theorem dL_law_40 : decode cL_law 40 = .ok (.tableswitch 730 0 14 #[76, 141, 178, 255, 328, 401, 414, 463, 512, 549, 605, 642, 667, 692, 717], 76) := by decide +kernel
theorem dL_law_116 : decode cL_law 116 = .ok (.aload_n 1, 1) := by decide +kernel
theorem dL_law_117 : decode cL_law 117 = .ok (.aload_n 0, 1) := by decide +kernel
theorem dL_law_118 : decode cL_law 118 = .ok (.iload 4, 2) := by decide +kernel
theorem dL_law_120 : decode cL_law 120 = .ok (.iconst 1, 1) := by decide +kernel
theorem dL_law_121 : decode cL_law 121 = .ok (.iadd, 1) := by decide +kernel
theorem dL_law_122 : decode cL_law 122 = .ok (.iaload, 1) := by decide +kernel
theorem dL_law_123 : decode cL_law 123 = .ok (.aload_n 0, 1) := by decide +kernel
theorem dL_law_124 : decode cL_law 124 = .ok (.iload 4, 2) := by decide +kernel
theorem dL_law_126 : decode cL_law 126 = .ok (.iconst 2, 1) := by decide +kernel
theorem dL_law_127 : decode cL_law 127 = .ok (.iadd, 1) := by decide +kernel
theorem dL_law_128 : decode cL_law 128 = .ok (.iaload, 1) := by decide +kernel
theorem dL_law_129 : decode cL_law 129 = .ok (.aload_n 0, 1) := by decide +kernel
theorem dL_law_130 : decode cL_law 130 = .ok (.iload 4, 2) := by decide +kernel
theorem dL_law_132 : decode cL_law 132 = .ok (.iconst 3, 1) := by decide +kernel
theorem dL_law_133 : decode cL_law 133 = .ok (.iadd, 1) := by decide +kernel
theorem dL_law_134 : decode cL_law 134 = .ok (.iaload, 1) := by decide +kernel
theorem dL_law_135 : decode cL_law 135 = .ok (.ifCond .eq 7, 3) := by decide +kernel
theorem dL_law_138 : decode cL_law 138 = .ok (.iconst 1, 1) := by decide +kernel
theorem dL_law_139 : decode cL_law 139 = .ok (.goto 4, 3) := by decide +kernel
theorem dL_law_142 : decode cL_law 142 = .ok (.iconst 0, 1) := by decide +kernel
theorem dL_law_143 : decode cL_law 143 = .ok (.invokevirtual 19, 3) := by decide +kernel
theorem dL_law_146 : decode cL_law 146 = .ok (.aload_n 2, 1) := by decide +kernel
theorem dL_law_147 : decode cL_law 147 = .ok (.aload_n 0, 1) := by decide +kernel
theorem dL_law_148 : decode cL_law 148 = .ok (.iload 4, 2) := by decide +kernel
theorem dL_law_150 : decode cL_law 150 = .ok (.iconst 1, 1) := by decide +kernel
theorem dL_law_151 : decode cL_law 151 = .ok (.iadd, 1) := by decide +kernel
theorem dL_law_152 : decode cL_law 152 = .ok (.iaload, 1) := by decide +kernel
theorem dL_law_153 : decode cL_law 153 = .ok (.aload_n 0, 1) := by decide +kernel
theorem dL_law_154 : decode cL_law 154 = .ok (.iload 4, 2) := by decide +kernel
theorem dL_law_156 : decode cL_law 156 = .ok (.iconst 2, 1) := by decide +kernel
theorem dL_law_157 : decode cL_law 157 = .ok (.iadd, 1) := by decide +kernel
theorem dL_law_158 : decode cL_law 158 = .ok (.iaload, 1) := by decide +kernel
theorem dL_law_159 : decode cL_law 159 = .ok (.aload_n 0, 1) := by decide +kernel
theorem dL_law_160 : decode cL_law 160 = .ok (.iload 4, 2) := by decide +kernel
theorem dL_law_162 : decode cL_law 162 = .ok (.iconst 3, 1) := by decide +kernel
theorem dL_law_163 : decode cL_law 163 = .ok (.iadd, 1) := by decide +kernel
theorem dL_law_164 : decode cL_law 164 = .ok (.iaload, 1) := by decide +kernel
theorem dL_law_165 : decode cL_law 165 = .ok (.ifCond .eq 7, 3) := by decide +kernel
theorem dL_law_168 : decode cL_law 168 = .ok (.iconst 1, 1) := by decide +kernel
theorem dL_law_169 : decode cL_law 169 = .ok (.goto 4, 3) := by decide +kernel
theorem dL_law_172 : decode cL_law 172 = .ok (.iconst 0, 1) := by decide +kernel
theorem dL_law_173 : decode cL_law 173 = .ok (.invokevirtual 23, 3) := by decide +kernel
theorem dL_law_176 : decode cL_law 176 = .ok (.if_icmp .eq 594, 3) := by decide +kernel
theorem dL_law_179 : decode cL_law 179 = .ok (.iconst 0, 1) := by decide +kernel
theorem dL_law_180 : decode cL_law 180 = .ok (.ireturn, 1) := by decide +kernel
theorem dL_law_181 : decode cL_law 181 = .ok (.aload_n 1, 1) := by decide +kernel
theorem dL_law_182 : decode cL_law 182 = .ok (.aload_n 0, 1) := by decide +kernel
theorem dL_law_183 : decode cL_law 183 = .ok (.iload 4, 2) := by decide +kernel
theorem dL_law_185 : decode cL_law 185 = .ok (.iconst 1, 1) := by decide +kernel
theorem dL_law_186 : decode cL_law 186 = .ok (.iadd, 1) := by decide +kernel
theorem dL_law_187 : decode cL_law 187 = .ok (.iaload, 1) := by decide +kernel
theorem dL_law_188 : decode cL_law 188 = .ok (.aload_n 0, 1) := by decide +kernel
theorem dL_law_189 : decode cL_law 189 = .ok (.iload 4, 2) := by decide +kernel
theorem dL_law_191 : decode cL_law 191 = .ok (.iconst 2, 1) := by decide +kernel
theorem dL_law_192 : decode cL_law 192 = .ok (.iadd, 1) := by decide +kernel
theorem dL_law_193 : decode cL_law 193 = .ok (.iaload, 1) := by decide +kernel
theorem dL_law_194 : decode cL_law 194 = .ok (.invokevirtual 24, 3) := by decide +kernel
theorem dL_law_197 : decode cL_law 197 = .ok (.aload_n 2, 1) := by decide +kernel
theorem dL_law_198 : decode cL_law 198 = .ok (.aload_n 0, 1) := by decide +kernel
theorem dL_law_199 : decode cL_law 199 = .ok (.iload 4, 2) := by decide +kernel
theorem dL_law_201 : decode cL_law 201 = .ok (.iconst 1, 1) := by decide +kernel
theorem dL_law_202 : decode cL_law 202 = .ok (.iadd, 1) := by decide +kernel
theorem dL_law_203 : decode cL_law 203 = .ok (.iaload, 1) := by decide +kernel
theorem dL_law_204 : decode cL_law 204 = .ok (.aload_n 0, 1) := by decide +kernel
theorem dL_law_205 : decode cL_law 205 = .ok (.iload 4, 2) := by decide +kernel
theorem dL_law_207 : decode cL_law 207 = .ok (.iconst 2, 1) := by decide +kernel
theorem dL_law_208 : decode cL_law 208 = .ok (.iadd, 1) := by decide +kernel
theorem dL_law_209 : decode cL_law 209 = .ok (.iaload, 1) := by decide +kernel
theorem dL_law_210 : decode cL_law 210 = .ok (.invokevirtual 28, 3) := by decide +kernel
theorem dL_law_213 : decode cL_law 213 = .ok (.if_icmp .eq 557, 3) := by decide +kernel
theorem dL_law_216 : decode cL_law 216 = .ok (.iconst 0, 1) := by decide +kernel
theorem dL_law_217 : decode cL_law 217 = .ok (.ireturn, 1) := by decide +kernel
theorem dL_law_218 : decode cL_law 218 = .ok (.aload_n 1, 1) := by decide +kernel
theorem dL_law_219 : decode cL_law 219 = .ok (.aload_n 0, 1) := by decide +kernel
theorem dL_law_220 : decode cL_law 220 = .ok (.iload 4, 2) := by decide +kernel
theorem dL_law_222 : decode cL_law 222 = .ok (.iconst 1, 1) := by decide +kernel
theorem dL_law_223 : decode cL_law 223 = .ok (.iadd, 1) := by decide +kernel
theorem dL_law_224 : decode cL_law 224 = .ok (.iaload, 1) := by decide +kernel
theorem dL_law_225 : decode cL_law 225 = .ok (.aload_n 0, 1) := by decide +kernel
theorem dL_law_226 : decode cL_law 226 = .ok (.iload 4, 2) := by decide +kernel
theorem dL_law_228 : decode cL_law 228 = .ok (.iconst 2, 1) := by decide +kernel
theorem dL_law_229 : decode cL_law 229 = .ok (.iadd, 1) := by decide +kernel
theorem dL_law_230 : decode cL_law 230 = .ok (.iaload, 1) := by decide +kernel
theorem dL_law_231 : decode cL_law 231 = .ok (.aload_n 0, 1) := by decide +kernel
theorem dL_law_232 : decode cL_law 232 = .ok (.iload 4, 2) := by decide +kernel
theorem dL_law_234 : decode cL_law 234 = .ok (.iconst 3, 1) := by decide +kernel
theorem dL_law_235 : decode cL_law 235 = .ok (.iadd, 1) := by decide +kernel
theorem dL_law_236 : decode cL_law 236 = .ok (.iaload, 1) := by decide +kernel
theorem dL_law_237 : decode cL_law 237 = .ok (.ifCond .eq 7, 3) := by decide +kernel
theorem dL_law_240 : decode cL_law 240 = .ok (.iconst 1, 1) := by decide +kernel
theorem dL_law_241 : decode cL_law 241 = .ok (.goto 4, 3) := by decide +kernel
theorem dL_law_244 : decode cL_law 244 = .ok (.iconst 0, 1) := by decide +kernel
theorem dL_law_245 : decode cL_law 245 = .ok (.aload_n 0, 1) := by decide +kernel
theorem dL_law_246 : decode cL_law 246 = .ok (.iload 4, 2) := by decide +kernel
theorem dL_law_248 : decode cL_law 248 = .ok (.iconst 4, 1) := by decide +kernel
theorem dL_law_249 : decode cL_law 249 = .ok (.iadd, 1) := by decide +kernel
theorem dL_law_250 : decode cL_law 250 = .ok (.iaload, 1) := by decide +kernel
theorem dL_law_251 : decode cL_law 251 = .ok (.invokevirtual 29, 3) := by decide +kernel
theorem dL_law_254 : decode cL_law 254 = .ok (.aload_n 2, 1) := by decide +kernel
theorem dL_law_255 : decode cL_law 255 = .ok (.aload_n 0, 1) := by decide +kernel
theorem dL_law_256 : decode cL_law 256 = .ok (.iload 4, 2) := by decide +kernel
theorem dL_law_258 : decode cL_law 258 = .ok (.iconst 1, 1) := by decide +kernel
theorem dL_law_259 : decode cL_law 259 = .ok (.iadd, 1) := by decide +kernel
theorem dL_law_260 : decode cL_law 260 = .ok (.iaload, 1) := by decide +kernel
theorem dL_law_261 : decode cL_law 261 = .ok (.aload_n 0, 1) := by decide +kernel
theorem dL_law_262 : decode cL_law 262 = .ok (.iload 4, 2) := by decide +kernel
theorem dL_law_264 : decode cL_law 264 = .ok (.iconst 2, 1) := by decide +kernel
theorem dL_law_265 : decode cL_law 265 = .ok (.iadd, 1) := by decide +kernel
theorem dL_law_266 : decode cL_law 266 = .ok (.iaload, 1) := by decide +kernel
theorem dL_law_267 : decode cL_law 267 = .ok (.aload_n 0, 1) := by decide +kernel
theorem dL_law_268 : decode cL_law 268 = .ok (.iload 4, 2) := by decide +kernel
theorem dL_law_270 : decode cL_law 270 = .ok (.iconst 3, 1) := by decide +kernel
theorem dL_law_271 : decode cL_law 271 = .ok (.iadd, 1) := by decide +kernel
theorem dL_law_272 : decode cL_law 272 = .ok (.iaload, 1) := by decide +kernel
theorem dL_law_273 : decode cL_law 273 = .ok (.ifCond .eq 7, 3) := by decide +kernel
theorem dL_law_276 : decode cL_law 276 = .ok (.iconst 1, 1) := by decide +kernel
theorem dL_law_277 : decode cL_law 277 = .ok (.goto 4, 3) := by decide +kernel
theorem dL_law_280 : decode cL_law 280 = .ok (.iconst 0, 1) := by decide +kernel
theorem dL_law_281 : decode cL_law 281 = .ok (.aload_n 0, 1) := by decide +kernel
theorem dL_law_282 : decode cL_law 282 = .ok (.iload 4, 2) := by decide +kernel
theorem dL_law_284 : decode cL_law 284 = .ok (.iconst 4, 1) := by decide +kernel
theorem dL_law_285 : decode cL_law 285 = .ok (.iadd, 1) := by decide +kernel
theorem dL_law_286 : decode cL_law 286 = .ok (.iaload, 1) := by decide +kernel
theorem dL_law_287 : decode cL_law 287 = .ok (.invokevirtual 33, 3) := by decide +kernel
theorem dL_law_290 : decode cL_law 290 = .ok (.if_icmp .eq 480, 3) := by decide +kernel
theorem dL_law_293 : decode cL_law 293 = .ok (.iconst 0, 1) := by decide +kernel
theorem dL_law_294 : decode cL_law 294 = .ok (.ireturn, 1) := by decide +kernel
theorem dL_law_295 : decode cL_law 295 = .ok (.aload_n 1, 1) := by decide +kernel
theorem dL_law_296 : decode cL_law 296 = .ok (.aload_n 0, 1) := by decide +kernel
theorem dL_law_297 : decode cL_law 297 = .ok (.iload 4, 2) := by decide +kernel
theorem dL_law_299 : decode cL_law 299 = .ok (.iconst 1, 1) := by decide +kernel
theorem dL_law_300 : decode cL_law 300 = .ok (.iadd, 1) := by decide +kernel
theorem dL_law_301 : decode cL_law 301 = .ok (.iaload, 1) := by decide +kernel
theorem dL_law_302 : decode cL_law 302 = .ok (.aload_n 0, 1) := by decide +kernel
theorem dL_law_303 : decode cL_law 303 = .ok (.iload 4, 2) := by decide +kernel
theorem dL_law_305 : decode cL_law 305 = .ok (.iconst 2, 1) := by decide +kernel
theorem dL_law_306 : decode cL_law 306 = .ok (.iadd, 1) := by decide +kernel
theorem dL_law_307 : decode cL_law 307 = .ok (.iaload, 1) := by decide +kernel
theorem dL_law_308 : decode cL_law 308 = .ok (.aload_n 0, 1) := by decide +kernel
theorem dL_law_309 : decode cL_law 309 = .ok (.iload 4, 2) := by decide +kernel
theorem dL_law_311 : decode cL_law 311 = .ok (.iconst 3, 1) := by decide +kernel
theorem dL_law_312 : decode cL_law 312 = .ok (.iadd, 1) := by decide +kernel
theorem dL_law_313 : decode cL_law 313 = .ok (.iaload, 1) := by decide +kernel
theorem dL_law_314 : decode cL_law 314 = .ok (.aload_n 0, 1) := by decide +kernel
theorem dL_law_315 : decode cL_law 315 = .ok (.iload 4, 2) := by decide +kernel
theorem dL_law_317 : decode cL_law 317 = .ok (.iconst 4, 1) := by decide +kernel
theorem dL_law_318 : decode cL_law 318 = .ok (.iadd, 1) := by decide +kernel
theorem dL_law_319 : decode cL_law 319 = .ok (.iaload, 1) := by decide +kernel
theorem dL_law_320 : decode cL_law 320 = .ok (.aload_n 0, 1) := by decide +kernel
theorem dL_law_321 : decode cL_law 321 = .ok (.iload 4, 2) := by decide +kernel
theorem dL_law_323 : decode cL_law 323 = .ok (.iconst 5, 1) := by decide +kernel
theorem dL_law_324 : decode cL_law 324 = .ok (.iadd, 1) := by decide +kernel
theorem dL_law_325 : decode cL_law 325 = .ok (.iaload, 1) := by decide +kernel
theorem dL_law_326 : decode cL_law 326 = .ok (.invokevirtual 34, 3) := by decide +kernel
theorem dL_law_329 : decode cL_law 329 = .ok (.aload_n 2, 1) := by decide +kernel
theorem dL_law_330 : decode cL_law 330 = .ok (.aload_n 0, 1) := by decide +kernel
theorem dL_law_331 : decode cL_law 331 = .ok (.iload 4, 2) := by decide +kernel
theorem dL_law_333 : decode cL_law 333 = .ok (.iconst 1, 1) := by decide +kernel
theorem dL_law_334 : decode cL_law 334 = .ok (.iadd, 1) := by decide +kernel
theorem dL_law_335 : decode cL_law 335 = .ok (.iaload, 1) := by decide +kernel
theorem dL_law_336 : decode cL_law 336 = .ok (.aload_n 0, 1) := by decide +kernel
theorem dL_law_337 : decode cL_law 337 = .ok (.iload 4, 2) := by decide +kernel
theorem dL_law_339 : decode cL_law 339 = .ok (.iconst 2, 1) := by decide +kernel
theorem dL_law_340 : decode cL_law 340 = .ok (.iadd, 1) := by decide +kernel
theorem dL_law_341 : decode cL_law 341 = .ok (.iaload, 1) := by decide +kernel
theorem dL_law_342 : decode cL_law 342 = .ok (.aload_n 0, 1) := by decide +kernel
theorem dL_law_343 : decode cL_law 343 = .ok (.iload 4, 2) := by decide +kernel
theorem dL_law_345 : decode cL_law 345 = .ok (.iconst 3, 1) := by decide +kernel
theorem dL_law_346 : decode cL_law 346 = .ok (.iadd, 1) := by decide +kernel
theorem dL_law_347 : decode cL_law 347 = .ok (.iaload, 1) := by decide +kernel
theorem dL_law_348 : decode cL_law 348 = .ok (.aload_n 0, 1) := by decide +kernel
theorem dL_law_349 : decode cL_law 349 = .ok (.iload 4, 2) := by decide +kernel
theorem dL_law_351 : decode cL_law 351 = .ok (.iconst 4, 1) := by decide +kernel
theorem dL_law_352 : decode cL_law 352 = .ok (.iadd, 1) := by decide +kernel
theorem dL_law_353 : decode cL_law 353 = .ok (.iaload, 1) := by decide +kernel
theorem dL_law_354 : decode cL_law 354 = .ok (.aload_n 0, 1) := by decide +kernel
theorem dL_law_355 : decode cL_law 355 = .ok (.iload 4, 2) := by decide +kernel
theorem dL_law_357 : decode cL_law 357 = .ok (.iconst 5, 1) := by decide +kernel
theorem dL_law_358 : decode cL_law 358 = .ok (.iadd, 1) := by decide +kernel
theorem dL_law_359 : decode cL_law 359 = .ok (.iaload, 1) := by decide +kernel
theorem dL_law_360 : decode cL_law 360 = .ok (.invokevirtual 38, 3) := by decide +kernel
theorem dL_law_363 : decode cL_law 363 = .ok (.if_icmp .eq 407, 3) := by decide +kernel
theorem dL_law_366 : decode cL_law 366 = .ok (.iconst 0, 1) := by decide +kernel
theorem dL_law_367 : decode cL_law 367 = .ok (.ireturn, 1) := by decide +kernel
theorem dL_law_368 : decode cL_law 368 = .ok (.aload_n 1, 1) := by decide +kernel
theorem dL_law_369 : decode cL_law 369 = .ok (.aload_n 0, 1) := by decide +kernel
theorem dL_law_370 : decode cL_law 370 = .ok (.iload 4, 2) := by decide +kernel
theorem dL_law_372 : decode cL_law 372 = .ok (.iconst 1, 1) := by decide +kernel
theorem dL_law_373 : decode cL_law 373 = .ok (.iadd, 1) := by decide +kernel
theorem dL_law_374 : decode cL_law 374 = .ok (.iaload, 1) := by decide +kernel
theorem dL_law_375 : decode cL_law 375 = .ok (.aload_n 0, 1) := by decide +kernel
theorem dL_law_376 : decode cL_law 376 = .ok (.iload 4, 2) := by decide +kernel
theorem dL_law_378 : decode cL_law 378 = .ok (.iconst 2, 1) := by decide +kernel
theorem dL_law_379 : decode cL_law 379 = .ok (.iadd, 1) := by decide +kernel
theorem dL_law_380 : decode cL_law 380 = .ok (.iaload, 1) := by decide +kernel
theorem dL_law_381 : decode cL_law 381 = .ok (.aload_n 0, 1) := by decide +kernel
theorem dL_law_382 : decode cL_law 382 = .ok (.iload 4, 2) := by decide +kernel
theorem dL_law_384 : decode cL_law 384 = .ok (.iconst 3, 1) := by decide +kernel
theorem dL_law_385 : decode cL_law 385 = .ok (.iadd, 1) := by decide +kernel
theorem dL_law_386 : decode cL_law 386 = .ok (.iaload, 1) := by decide +kernel
theorem dL_law_387 : decode cL_law 387 = .ok (.aload_n 0, 1) := by decide +kernel
theorem dL_law_388 : decode cL_law 388 = .ok (.iload 4, 2) := by decide +kernel
theorem dL_law_390 : decode cL_law 390 = .ok (.iconst 4, 1) := by decide +kernel
theorem dL_law_391 : decode cL_law 391 = .ok (.iadd, 1) := by decide +kernel
theorem dL_law_392 : decode cL_law 392 = .ok (.iaload, 1) := by decide +kernel
theorem dL_law_393 : decode cL_law 393 = .ok (.aload_n 0, 1) := by decide +kernel
theorem dL_law_394 : decode cL_law 394 = .ok (.iload 4, 2) := by decide +kernel
theorem dL_law_396 : decode cL_law 396 = .ok (.iconst 5, 1) := by decide +kernel
theorem dL_law_397 : decode cL_law 397 = .ok (.iadd, 1) := by decide +kernel
theorem dL_law_398 : decode cL_law 398 = .ok (.iaload, 1) := by decide +kernel
theorem dL_law_399 : decode cL_law 399 = .ok (.invokevirtual 39, 3) := by decide +kernel
theorem dL_law_402 : decode cL_law 402 = .ok (.aload_n 2, 1) := by decide +kernel
theorem dL_law_403 : decode cL_law 403 = .ok (.aload_n 0, 1) := by decide +kernel
theorem dL_law_404 : decode cL_law 404 = .ok (.iload 4, 2) := by decide +kernel
theorem dL_law_406 : decode cL_law 406 = .ok (.iconst 1, 1) := by decide +kernel
theorem dL_law_407 : decode cL_law 407 = .ok (.iadd, 1) := by decide +kernel
theorem dL_law_408 : decode cL_law 408 = .ok (.iaload, 1) := by decide +kernel
theorem dL_law_409 : decode cL_law 409 = .ok (.aload_n 0, 1) := by decide +kernel
theorem dL_law_410 : decode cL_law 410 = .ok (.iload 4, 2) := by decide +kernel
theorem dL_law_412 : decode cL_law 412 = .ok (.iconst 2, 1) := by decide +kernel
theorem dL_law_413 : decode cL_law 413 = .ok (.iadd, 1) := by decide +kernel
theorem dL_law_414 : decode cL_law 414 = .ok (.iaload, 1) := by decide +kernel
theorem dL_law_415 : decode cL_law 415 = .ok (.aload_n 0, 1) := by decide +kernel
theorem dL_law_416 : decode cL_law 416 = .ok (.iload 4, 2) := by decide +kernel
theorem dL_law_418 : decode cL_law 418 = .ok (.iconst 3, 1) := by decide +kernel
theorem dL_law_419 : decode cL_law 419 = .ok (.iadd, 1) := by decide +kernel
theorem dL_law_420 : decode cL_law 420 = .ok (.iaload, 1) := by decide +kernel
theorem dL_law_421 : decode cL_law 421 = .ok (.aload_n 0, 1) := by decide +kernel
theorem dL_law_422 : decode cL_law 422 = .ok (.iload 4, 2) := by decide +kernel
theorem dL_law_424 : decode cL_law 424 = .ok (.iconst 4, 1) := by decide +kernel
theorem dL_law_425 : decode cL_law 425 = .ok (.iadd, 1) := by decide +kernel
theorem dL_law_426 : decode cL_law 426 = .ok (.iaload, 1) := by decide +kernel
theorem dL_law_427 : decode cL_law 427 = .ok (.aload_n 0, 1) := by decide +kernel
theorem dL_law_428 : decode cL_law 428 = .ok (.iload 4, 2) := by decide +kernel
theorem dL_law_430 : decode cL_law 430 = .ok (.iconst 5, 1) := by decide +kernel
theorem dL_law_431 : decode cL_law 431 = .ok (.iadd, 1) := by decide +kernel
theorem dL_law_432 : decode cL_law 432 = .ok (.iaload, 1) := by decide +kernel
theorem dL_law_433 : decode cL_law 433 = .ok (.invokevirtual 42, 3) := by decide +kernel
theorem dL_law_436 : decode cL_law 436 = .ok (.if_icmp .eq 334, 3) := by decide +kernel
theorem dL_law_439 : decode cL_law 439 = .ok (.iconst 0, 1) := by decide +kernel
theorem dL_law_440 : decode cL_law 440 = .ok (.ireturn, 1) := by decide +kernel
theorem dL_law_441 : decode cL_law 441 = .ok (.aload_n 1, 1) := by decide +kernel
theorem dL_law_442 : decode cL_law 442 = .ok (.invokevirtual 43, 3) := by decide +kernel
theorem dL_law_445 : decode cL_law 445 = .ok (.aload_n 2, 1) := by decide +kernel
theorem dL_law_446 : decode cL_law 446 = .ok (.invokevirtual 47, 3) := by decide +kernel
theorem dL_law_449 : decode cL_law 449 = .ok (.if_icmp .eq 321, 3) := by decide +kernel
theorem dL_law_452 : decode cL_law 452 = .ok (.iconst 0, 1) := by decide +kernel
theorem dL_law_453 : decode cL_law 453 = .ok (.ireturn, 1) := by decide +kernel
theorem dL_law_454 : decode cL_law 454 = .ok (.aload_n 1, 1) := by decide +kernel
theorem dL_law_455 : decode cL_law 455 = .ok (.aload_n 0, 1) := by decide +kernel
theorem dL_law_456 : decode cL_law 456 = .ok (.iload 4, 2) := by decide +kernel
theorem dL_law_458 : decode cL_law 458 = .ok (.iconst 1, 1) := by decide +kernel
theorem dL_law_459 : decode cL_law 459 = .ok (.iadd, 1) := by decide +kernel
theorem dL_law_460 : decode cL_law 460 = .ok (.iaload, 1) := by decide +kernel
theorem dL_law_461 : decode cL_law 461 = .ok (.aload_n 0, 1) := by decide +kernel
theorem dL_law_462 : decode cL_law 462 = .ok (.iload 4, 2) := by decide +kernel
theorem dL_law_464 : decode cL_law 464 = .ok (.iconst 2, 1) := by decide +kernel
theorem dL_law_465 : decode cL_law 465 = .ok (.iadd, 1) := by decide +kernel
theorem dL_law_466 : decode cL_law 466 = .ok (.iaload, 1) := by decide +kernel
theorem dL_law_467 : decode cL_law 467 = .ok (.aload_n 0, 1) := by decide +kernel
theorem dL_law_468 : decode cL_law 468 = .ok (.iload 4, 2) := by decide +kernel
theorem dL_law_470 : decode cL_law 470 = .ok (.iconst 3, 1) := by decide +kernel
theorem dL_law_471 : decode cL_law 471 = .ok (.iadd, 1) := by decide +kernel
theorem dL_law_472 : decode cL_law 472 = .ok (.iaload, 1) := by decide +kernel
theorem dL_law_473 : decode cL_law 473 = .ok (.invokevirtual 48, 3) := by decide +kernel
theorem dL_law_476 : decode cL_law 476 = .ok (.aload_n 2, 1) := by decide +kernel
theorem dL_law_477 : decode cL_law 477 = .ok (.aload_n 0, 1) := by decide +kernel
theorem dL_law_478 : decode cL_law 478 = .ok (.iload 4, 2) := by decide +kernel
theorem dL_law_480 : decode cL_law 480 = .ok (.iconst 1, 1) := by decide +kernel
theorem dL_law_481 : decode cL_law 481 = .ok (.iadd, 1) := by decide +kernel
theorem dL_law_482 : decode cL_law 482 = .ok (.iaload, 1) := by decide +kernel
theorem dL_law_483 : decode cL_law 483 = .ok (.aload_n 0, 1) := by decide +kernel
theorem dL_law_484 : decode cL_law 484 = .ok (.iload 4, 2) := by decide +kernel
theorem dL_law_486 : decode cL_law 486 = .ok (.iconst 2, 1) := by decide +kernel
theorem dL_law_487 : decode cL_law 487 = .ok (.iadd, 1) := by decide +kernel
theorem dL_law_488 : decode cL_law 488 = .ok (.iaload, 1) := by decide +kernel
theorem dL_law_489 : decode cL_law 489 = .ok (.aload_n 0, 1) := by decide +kernel
theorem dL_law_490 : decode cL_law 490 = .ok (.iload 4, 2) := by decide +kernel
theorem dL_law_492 : decode cL_law 492 = .ok (.iconst 3, 1) := by decide +kernel
theorem dL_law_493 : decode cL_law 493 = .ok (.iadd, 1) := by decide +kernel
theorem dL_law_494 : decode cL_law 494 = .ok (.iaload, 1) := by decide +kernel
theorem dL_law_495 : decode cL_law 495 = .ok (.invokevirtual 52, 3) := by decide +kernel
theorem dL_law_498 : decode cL_law 498 = .ok (.if_icmp .eq 272, 3) := by decide +kernel
theorem dL_law_501 : decode cL_law 501 = .ok (.iconst 0, 1) := by decide +kernel
theorem dL_law_502 : decode cL_law 502 = .ok (.ireturn, 1) := by decide +kernel
theorem dL_law_503 : decode cL_law 503 = .ok (.aload_n 1, 1) := by decide +kernel
theorem dL_law_504 : decode cL_law 504 = .ok (.aload_n 0, 1) := by decide +kernel
theorem dL_law_505 : decode cL_law 505 = .ok (.iload 4, 2) := by decide +kernel
theorem dL_law_507 : decode cL_law 507 = .ok (.iconst 1, 1) := by decide +kernel
theorem dL_law_508 : decode cL_law 508 = .ok (.iadd, 1) := by decide +kernel
theorem dL_law_509 : decode cL_law 509 = .ok (.iaload, 1) := by decide +kernel
theorem dL_law_510 : decode cL_law 510 = .ok (.aload_n 0, 1) := by decide +kernel
theorem dL_law_511 : decode cL_law 511 = .ok (.iload 4, 2) := by decide +kernel
theorem dL_law_513 : decode cL_law 513 = .ok (.iconst 2, 1) := by decide +kernel
theorem dL_law_514 : decode cL_law 514 = .ok (.iadd, 1) := by decide +kernel
theorem dL_law_515 : decode cL_law 515 = .ok (.iaload, 1) := by decide +kernel
theorem dL_law_516 : decode cL_law 516 = .ok (.aload_n 0, 1) := by decide +kernel
theorem dL_law_517 : decode cL_law 517 = .ok (.iload 4, 2) := by decide +kernel
theorem dL_law_519 : decode cL_law 519 = .ok (.iconst 3, 1) := by decide +kernel
theorem dL_law_520 : decode cL_law 520 = .ok (.iadd, 1) := by decide +kernel
theorem dL_law_521 : decode cL_law 521 = .ok (.iaload, 1) := by decide +kernel
theorem dL_law_522 : decode cL_law 522 = .ok (.invokevirtual 53, 3) := by decide +kernel
theorem dL_law_525 : decode cL_law 525 = .ok (.aload_n 2, 1) := by decide +kernel
theorem dL_law_526 : decode cL_law 526 = .ok (.aload_n 0, 1) := by decide +kernel
theorem dL_law_527 : decode cL_law 527 = .ok (.iload 4, 2) := by decide +kernel
theorem dL_law_529 : decode cL_law 529 = .ok (.iconst 1, 1) := by decide +kernel
theorem dL_law_530 : decode cL_law 530 = .ok (.iadd, 1) := by decide +kernel
theorem dL_law_531 : decode cL_law 531 = .ok (.iaload, 1) := by decide +kernel
theorem dL_law_532 : decode cL_law 532 = .ok (.aload_n 0, 1) := by decide +kernel
theorem dL_law_533 : decode cL_law 533 = .ok (.iload 4, 2) := by decide +kernel
theorem dL_law_535 : decode cL_law 535 = .ok (.iconst 2, 1) := by decide +kernel
theorem dL_law_536 : decode cL_law 536 = .ok (.iadd, 1) := by decide +kernel
theorem dL_law_537 : decode cL_law 537 = .ok (.iaload, 1) := by decide +kernel
theorem dL_law_538 : decode cL_law 538 = .ok (.aload_n 0, 1) := by decide +kernel
theorem dL_law_539 : decode cL_law 539 = .ok (.iload 4, 2) := by decide +kernel
theorem dL_law_541 : decode cL_law 541 = .ok (.iconst 3, 1) := by decide +kernel
theorem dL_law_542 : decode cL_law 542 = .ok (.iadd, 1) := by decide +kernel
theorem dL_law_543 : decode cL_law 543 = .ok (.iaload, 1) := by decide +kernel
theorem dL_law_544 : decode cL_law 544 = .ok (.invokevirtual 56, 3) := by decide +kernel
theorem dL_law_547 : decode cL_law 547 = .ok (.if_icmp .eq 223, 3) := by decide +kernel
theorem dL_law_550 : decode cL_law 550 = .ok (.iconst 0, 1) := by decide +kernel
theorem dL_law_551 : decode cL_law 551 = .ok (.ireturn, 1) := by decide +kernel
theorem dL_law_552 : decode cL_law 552 = .ok (.aload_n 1, 1) := by decide +kernel
theorem dL_law_553 : decode cL_law 553 = .ok (.aload_n 0, 1) := by decide +kernel
theorem dL_law_554 : decode cL_law 554 = .ok (.iload 4, 2) := by decide +kernel
theorem dL_law_556 : decode cL_law 556 = .ok (.iconst 1, 1) := by decide +kernel
theorem dL_law_557 : decode cL_law 557 = .ok (.iadd, 1) := by decide +kernel
theorem dL_law_558 : decode cL_law 558 = .ok (.iaload, 1) := by decide +kernel
theorem dL_law_559 : decode cL_law 559 = .ok (.aload_n 0, 1) := by decide +kernel
theorem dL_law_560 : decode cL_law 560 = .ok (.iload 4, 2) := by decide +kernel
theorem dL_law_562 : decode cL_law 562 = .ok (.iconst 2, 1) := by decide +kernel
theorem dL_law_563 : decode cL_law 563 = .ok (.iadd, 1) := by decide +kernel
theorem dL_law_564 : decode cL_law 564 = .ok (.iaload, 1) := by decide +kernel
theorem dL_law_565 : decode cL_law 565 = .ok (.invokevirtual 57, 3) := by decide +kernel
theorem dL_law_568 : decode cL_law 568 = .ok (.aload_n 2, 1) := by decide +kernel
theorem dL_law_569 : decode cL_law 569 = .ok (.aload_n 0, 1) := by decide +kernel
theorem dL_law_570 : decode cL_law 570 = .ok (.iload 4, 2) := by decide +kernel
theorem dL_law_572 : decode cL_law 572 = .ok (.iconst 1, 1) := by decide +kernel
theorem dL_law_573 : decode cL_law 573 = .ok (.iadd, 1) := by decide +kernel
theorem dL_law_574 : decode cL_law 574 = .ok (.iaload, 1) := by decide +kernel
theorem dL_law_575 : decode cL_law 575 = .ok (.aload_n 0, 1) := by decide +kernel
theorem dL_law_576 : decode cL_law 576 = .ok (.iload 4, 2) := by decide +kernel
theorem dL_law_578 : decode cL_law 578 = .ok (.iconst 2, 1) := by decide +kernel
theorem dL_law_579 : decode cL_law 579 = .ok (.iadd, 1) := by decide +kernel
theorem dL_law_580 : decode cL_law 580 = .ok (.iaload, 1) := by decide +kernel
theorem dL_law_581 : decode cL_law 581 = .ok (.invokevirtual 60, 3) := by decide +kernel
theorem dL_law_584 : decode cL_law 584 = .ok (.if_icmp .eq 186, 3) := by decide +kernel
theorem dL_law_587 : decode cL_law 587 = .ok (.iconst 0, 1) := by decide +kernel
theorem dL_law_588 : decode cL_law 588 = .ok (.ireturn, 1) := by decide +kernel
theorem dL_law_589 : decode cL_law 589 = .ok (.aload_n 1, 1) := by decide +kernel
theorem dL_law_590 : decode cL_law 590 = .ok (.aload_n 0, 1) := by decide +kernel
theorem dL_law_591 : decode cL_law 591 = .ok (.iload 4, 2) := by decide +kernel
theorem dL_law_593 : decode cL_law 593 = .ok (.iconst 1, 1) := by decide +kernel
theorem dL_law_594 : decode cL_law 594 = .ok (.iadd, 1) := by decide +kernel
theorem dL_law_595 : decode cL_law 595 = .ok (.iaload, 1) := by decide +kernel
theorem dL_law_596 : decode cL_law 596 = .ok (.aload_n 3, 1) := by decide +kernel
theorem dL_law_597 : decode cL_law 597 = .ok (.invokestatic 61, 3) := by decide +kernel
theorem dL_law_600 : decode cL_law 600 = .ok (.istore 5, 2) := by decide +kernel
theorem dL_law_602 : decode cL_law 602 = .ok (.aload_n 2, 1) := by decide +kernel
theorem dL_law_603 : decode cL_law 603 = .ok (.aload_n 0, 1) := by decide +kernel
theorem dL_law_604 : decode cL_law 604 = .ok (.iload 4, 2) := by decide +kernel
theorem dL_law_606 : decode cL_law 606 = .ok (.iconst 1, 1) := by decide +kernel
theorem dL_law_607 : decode cL_law 607 = .ok (.iadd, 1) := by decide +kernel
theorem dL_law_608 : decode cL_law 608 = .ok (.iaload, 1) := by decide +kernel
theorem dL_law_609 : decode cL_law 609 = .ok (.invokevirtual 66, 3) := by decide +kernel
theorem dL_law_612 : decode cL_law 612 = .ok (.istore 6, 2) := by decide +kernel
theorem dL_law_614 : decode cL_law 614 = .ok (.aload_n 2, 1) := by decide +kernel
theorem dL_law_615 : decode cL_law 615 = .ok (.invokevirtual 67, 3) := by decide +kernel
theorem dL_law_618 : decode cL_law 618 = .ok (.iload 5, 2) := by decide +kernel
theorem dL_law_620 : decode cL_law 620 = .ok (.if_icmp .eq 5, 3) := by decide +kernel
theorem dL_law_623 : decode cL_law 623 = .ok (.iconst 0, 1) := by decide +kernel
theorem dL_law_624 : decode cL_law 624 = .ok (.ireturn, 1) := by decide +kernel
theorem dL_law_625 : decode cL_law 625 = .ok (.iload 5, 2) := by decide +kernel
theorem dL_law_627 : decode cL_law 627 = .ok (.ifCond .ne 15, 3) := by decide +kernel
theorem dL_law_630 : decode cL_law 630 = .ok (.aload_n 3, 1) := by decide +kernel
theorem dL_law_631 : decode cL_law 631 = .ok (.iconst 0, 1) := by decide +kernel
theorem dL_law_632 : decode cL_law 632 = .ok (.laload, 1) := by decide +kernel
theorem dL_law_633 : decode cL_law 633 = .ok (.iload 6, 2) := by decide +kernel
theorem dL_law_635 : decode cL_law 635 = .ok (.i2l, 1) := by decide +kernel
theorem dL_law_636 : decode cL_law 636 = .ok (.lcmp, 1) := by decide +kernel
theorem dL_law_637 : decode cL_law 637 = .ok (.ifCond .eq 5, 3) := by decide +kernel
theorem dL_law_640 : decode cL_law 640 = .ok (.iconst 0, 1) := by decide +kernel
theorem dL_law_641 : decode cL_law 641 = .ok (.ireturn, 1) := by decide +kernel
theorem dL_law_642 : decode cL_law 642 = .ok (.goto 128, 3) := by decide +kernel
theorem dL_law_645 : decode cL_law 645 = .ok (.aload_n 1, 1) := by decide +kernel
theorem dL_law_646 : decode cL_law 646 = .ok (.aload_n 0, 1) := by decide +kernel
theorem dL_law_647 : decode cL_law 647 = .ok (.iload 4, 2) := by decide +kernel
theorem dL_law_649 : decode cL_law 649 = .ok (.iconst 1, 1) := by decide +kernel
theorem dL_law_650 : decode cL_law 650 = .ok (.iadd, 1) := by decide +kernel
theorem dL_law_651 : decode cL_law 651 = .ok (.iaload, 1) := by decide +kernel
theorem dL_law_652 : decode cL_law 652 = .ok (.aload_n 0, 1) := by decide +kernel
theorem dL_law_653 : decode cL_law 653 = .ok (.iload 4, 2) := by decide +kernel
theorem dL_law_655 : decode cL_law 655 = .ok (.iconst 2, 1) := by decide +kernel
theorem dL_law_656 : decode cL_law 656 = .ok (.iadd, 1) := by decide +kernel
theorem dL_law_657 : decode cL_law 657 = .ok (.iaload, 1) := by decide +kernel
theorem dL_law_658 : decode cL_law 658 = .ok (.invokevirtual 70, 3) := by decide +kernel
theorem dL_law_661 : decode cL_law 661 = .ok (.aload_n 2, 1) := by decide +kernel
theorem dL_law_662 : decode cL_law 662 = .ok (.aload_n 0, 1) := by decide +kernel
theorem dL_law_663 : decode cL_law 663 = .ok (.iload 4, 2) := by decide +kernel
theorem dL_law_665 : decode cL_law 665 = .ok (.iconst 1, 1) := by decide +kernel
theorem dL_law_666 : decode cL_law 666 = .ok (.iadd, 1) := by decide +kernel
theorem dL_law_667 : decode cL_law 667 = .ok (.iaload, 1) := by decide +kernel
theorem dL_law_668 : decode cL_law 668 = .ok (.aload_n 0, 1) := by decide +kernel
theorem dL_law_669 : decode cL_law 669 = .ok (.iload 4, 2) := by decide +kernel
theorem dL_law_671 : decode cL_law 671 = .ok (.iconst 2, 1) := by decide +kernel
theorem dL_law_672 : decode cL_law 672 = .ok (.iadd, 1) := by decide +kernel
theorem dL_law_673 : decode cL_law 673 = .ok (.iaload, 1) := by decide +kernel
theorem dL_law_674 : decode cL_law 674 = .ok (.invokevirtual 73, 3) := by decide +kernel
theorem dL_law_677 : decode cL_law 677 = .ok (.if_icmp .eq 93, 3) := by decide +kernel
theorem dL_law_680 : decode cL_law 680 = .ok (.iconst 0, 1) := by decide +kernel
theorem dL_law_681 : decode cL_law 681 = .ok (.ireturn, 1) := by decide +kernel
theorem dL_law_682 : decode cL_law 682 = .ok (.aload_n 1, 1) := by decide +kernel
theorem dL_law_683 : decode cL_law 683 = .ok (.aload_n 0, 1) := by decide +kernel
theorem dL_law_684 : decode cL_law 684 = .ok (.iload 4, 2) := by decide +kernel
theorem dL_law_686 : decode cL_law 686 = .ok (.iconst 1, 1) := by decide +kernel
theorem dL_law_687 : decode cL_law 687 = .ok (.iadd, 1) := by decide +kernel
theorem dL_law_688 : decode cL_law 688 = .ok (.iaload, 1) := by decide +kernel
theorem dL_law_689 : decode cL_law 689 = .ok (.invokevirtual 74, 3) := by decide +kernel
theorem dL_law_692 : decode cL_law 692 = .ok (.aload_n 2, 1) := by decide +kernel
theorem dL_law_693 : decode cL_law 693 = .ok (.aload_n 0, 1) := by decide +kernel
theorem dL_law_694 : decode cL_law 694 = .ok (.iload 4, 2) := by decide +kernel
theorem dL_law_696 : decode cL_law 696 = .ok (.iconst 1, 1) := by decide +kernel
theorem dL_law_697 : decode cL_law 697 = .ok (.iadd, 1) := by decide +kernel
theorem dL_law_698 : decode cL_law 698 = .ok (.iaload, 1) := by decide +kernel
theorem dL_law_699 : decode cL_law 699 = .ok (.invokevirtual 77, 3) := by decide +kernel
theorem dL_law_702 : decode cL_law 702 = .ok (.if_icmp .eq 68, 3) := by decide +kernel
theorem dL_law_705 : decode cL_law 705 = .ok (.iconst 0, 1) := by decide +kernel
theorem dL_law_706 : decode cL_law 706 = .ok (.ireturn, 1) := by decide +kernel
theorem dL_law_707 : decode cL_law 707 = .ok (.aload_n 1, 1) := by decide +kernel
theorem dL_law_708 : decode cL_law 708 = .ok (.aload_n 0, 1) := by decide +kernel
theorem dL_law_709 : decode cL_law 709 = .ok (.iload 4, 2) := by decide +kernel
theorem dL_law_711 : decode cL_law 711 = .ok (.iconst 1, 1) := by decide +kernel
theorem dL_law_712 : decode cL_law 712 = .ok (.iadd, 1) := by decide +kernel
theorem dL_law_713 : decode cL_law 713 = .ok (.iaload, 1) := by decide +kernel
theorem dL_law_714 : decode cL_law 714 = .ok (.invokevirtual 78, 3) := by decide +kernel
theorem dL_law_717 : decode cL_law 717 = .ok (.aload_n 2, 1) := by decide +kernel
theorem dL_law_718 : decode cL_law 718 = .ok (.aload_n 0, 1) := by decide +kernel
theorem dL_law_719 : decode cL_law 719 = .ok (.iload 4, 2) := by decide +kernel
theorem dL_law_721 : decode cL_law 721 = .ok (.iconst 1, 1) := by decide +kernel
theorem dL_law_722 : decode cL_law 722 = .ok (.iadd, 1) := by decide +kernel
theorem dL_law_723 : decode cL_law 723 = .ok (.iaload, 1) := by decide +kernel
theorem dL_law_724 : decode cL_law 724 = .ok (.invokevirtual 81, 3) := by decide +kernel
theorem dL_law_727 : decode cL_law 727 = .ok (.if_icmp .eq 43, 3) := by decide +kernel
theorem dL_law_730 : decode cL_law 730 = .ok (.iconst 0, 1) := by decide +kernel
theorem dL_law_731 : decode cL_law 731 = .ok (.ireturn, 1) := by decide +kernel
theorem dL_law_732 : decode cL_law 732 = .ok (.aload_n 1, 1) := by decide +kernel
theorem dL_law_733 : decode cL_law 733 = .ok (.aload_n 0, 1) := by decide +kernel
theorem dL_law_734 : decode cL_law 734 = .ok (.iload 4, 2) := by decide +kernel
theorem dL_law_736 : decode cL_law 736 = .ok (.iconst 1, 1) := by decide +kernel
theorem dL_law_737 : decode cL_law 737 = .ok (.iadd, 1) := by decide +kernel
theorem dL_law_738 : decode cL_law 738 = .ok (.iaload, 1) := by decide +kernel
theorem dL_law_739 : decode cL_law 739 = .ok (.invokevirtual 82, 3) := by decide +kernel
theorem dL_law_742 : decode cL_law 742 = .ok (.aload_n 2, 1) := by decide +kernel
theorem dL_law_743 : decode cL_law 743 = .ok (.aload_n 0, 1) := by decide +kernel
theorem dL_law_744 : decode cL_law 744 = .ok (.iload 4, 2) := by decide +kernel
theorem dL_law_746 : decode cL_law 746 = .ok (.iconst 1, 1) := by decide +kernel
theorem dL_law_747 : decode cL_law 747 = .ok (.iadd, 1) := by decide +kernel
theorem dL_law_748 : decode cL_law 748 = .ok (.iaload, 1) := by decide +kernel
theorem dL_law_749 : decode cL_law 749 = .ok (.invokevirtual 85, 3) := by decide +kernel
theorem dL_law_752 : decode cL_law 752 = .ok (.if_icmp .eq 18, 3) := by decide +kernel
theorem dL_law_755 : decode cL_law 755 = .ok (.iconst 0, 1) := by decide +kernel
theorem dL_law_756 : decode cL_law 756 = .ok (.ireturn, 1) := by decide +kernel
theorem dL_law_757 : decode cL_law 757 = .ok (.aload_n 1, 1) := by decide +kernel
theorem dL_law_758 : decode cL_law 758 = .ok (.invokevirtual 86, 3) := by decide +kernel
theorem dL_law_761 : decode cL_law 761 = .ok (.aload_n 2, 1) := by decide +kernel
theorem dL_law_762 : decode cL_law 762 = .ok (.invokevirtual 89, 3) := by decide +kernel
theorem dL_law_765 : decode cL_law 765 = .ok (.if_icmp .eq 5, 3) := by decide +kernel
theorem dL_law_768 : decode cL_law 768 = .ok (.iconst 0, 1) := by decide +kernel
theorem dL_law_769 : decode cL_law 769 = .ok (.ireturn, 1) := by decide +kernel
theorem dL_law_770 : decode cL_law 770 = .ok (.iinc 4 6, 3) := by decide +kernel
theorem dL_law_773 : decode cL_law 773 = .ok (.goto (-750), 3) := by decide +kernel
theorem dL_law_776 : decode cL_law 776 = .ok (.iconst 1, 1) := by decide +kernel
theorem dL_law_777 : decode cL_law 777 = .ok (.ireturn, 1) := by decide +kernel
end
section
/-! The memory: cell, slot -> int. References stand still: they are the layout's. -/
abbrev Mem : Type := Nat → Nat → Int32
abbrev Lay : Type := (Nat → Nat) → Mem → Nat → va_E
def mset (M : Mem) (k j : Nat) (v : Int32) : Mem := fun a => if a = k then upd (M k) j v else M a
theorem mset_same (M : Mem) (k j : Nat) (v : Int32) : mset M k j v k = upd (M k) j v := by simp [mset]
theorem mset_ne (M : Mem) {a k : Nat} (j : Nat) (v : Int32) (h : a ≠ k) : mset M k j v a = M a := by simp [mset, h]
def inb (i : Int32) (n : Nat) : Bool := !(decide (i < 0) || decide (n ≤ i.toNatClampNeg))
theorem inb_in {i : Int32} {n : Nat} (h : inb i n = true) : vp_in i n := by
  simp [inb] at h
  intro q
  rcases q with q | q
  · exact absurd q (by simpa using h.1)
  · omega
theorem inb_lt {i : Int32} {n : Nat} (h : inb i n = true) : i.toNatClampNeg < n := by
  simp [inb] at h
  exact h.2
def isb (x : Int32) : Bool := decide (x = 0) || decide (x = 1)
theorem isb_nar {x : Int32} (h : isb x = true) : narrow .boolean (.int x) = .int x := by
  simp [isb] at h
  rcases h with rfl | rfl <;> rfl
theorem isb_fit {x : Int32} (h : isb x = true) : fits .boolean (.int x) = true := by
  simp [isb] at h
  rcases h with rfl | rfl <;> rfl
theorem isb_vp {x : Int32} (h : isb x = true) : vp_nar .boolean x = x := by
  simp [isb] at h
  rcases h with rfl | rfl <;> rfl
def ldI (M : Mem) (k n : Nat) (i : Int32) : Option Int32 := if inb i n = true then some (M k i.toNatClampNeg) else none
def stI (M : Mem) (k n : Nat) (i x : Int32) : Option Mem := if inb i n = true then some (mset M k i.toNatClampNeg x) else none
def stZ (M : Mem) (k n : Nat) (i x : Int32) : Option Mem := if (inb i n && isb x) = true then some (mset M k i.toNatClampNeg x) else none
def stF (M : Mem) (k j : Nat) (x : Int32) : Option Mem := some (mset M k j x)
def stFZ (M : Mem) (k j : Nat) (x : Int32) : Option Mem := if isb x = true then some (mset M k j x) else none
def rtZ (x : Int32) (M : Mem) : Option (Int32 × Mem) := if isb x = true then some (x, M) else none
def ixQ (n : Nat) (i : Int32) : Option Nat := if inb i n = true then some i.toNatClampNeg else none
def ckP (b : Bool) : Option Unit := if b = true then some () else none
theorem bindS {α β : Type} {a : Option α} {f : α → Option β} {r : β} (h : a.bind f = some r) : ∃ x, a = some x ∧ f x = some r := by
  cases a with
  | none => cases h
  | some x => exact ⟨x, rfl, h⟩
theorem ifS {c : Prop} [Decidable c] {α : Type} {a b : Option α} {r : α} (h : (if c then a else b) = some r) : (c ∧ a = some r) ∨ (¬ c ∧ b = some r) := by
  by_cases hc : c
  · rw [if_pos hc] at h
    exact Or.inl ⟨hc, h⟩
  · rw [if_neg hc] at h
    exact Or.inr ⟨hc, h⟩
theorem ixQ_lt {n : Nat} {i : Int32} {t : Nat} (h : ixQ n i = some t) : t < n := by
  unfold ixQ at h
  split at h
  · next hi =>
    cases h
    exact inb_lt hi
  · cases h
/-! The world of N cells at the addresses ad -/
def gw (N : Nat) (z : Lay) (ad : Nat → Nat) (M : Mem) : va_W := (List.range N).map (fun k => (ad k, z ad M k))
def gA (N : Nat) (ad : Nat → Nat) : Nat → Prop := fun q => ∃ k, k < N ∧ q = ad k
def gInj (N : Nat) (ad : Nat → Nat) : Prop := ∀ i j, i < N → j < N → ad i = ad j → i = j
def gLoc (z : Lay) : Prop := ∀ (ad : Nat → Nat) (M M' : Mem) (k : Nat), M k = M' k → z ad M k = z ad M' k
def gWd (D : va_G) (N : Nat) (z : Lay) (ad : Nat → Nat) (M : Mem) (s : State) (H : Heap) (locs : List Loc) : Prop := va_P D vwCl (gw N z ad M) H ∧ va_S (gA N ad) s.heap H locs
def nW : Cond := Cond.methodLinkNest RX5 25 yX6_within RX6
def gC (p : Program) (s : State) (m : MethodId) (args : Array Value) (c : Code) (own : String) (cc : ByteArray) (nL : Nat) (D : va_G) (tys : List (ClassId × FieldType)) (N : Nat) (z : Lay) (ad : Nat → Nat) : Prop :=
  CallFix p m c cc nL s args gW own ∧ va_K D vwCl tys s ∧ va_Nw nW s ∧ gInj N ad ∧ gLoc z
def gPre (D : va_G) (tys : List (ClassId × FieldType)) (N : Nat) (z : Lay) (ad : Nat → Nat) (M : Mem) (U : State) : Prop := va_P D vwCl (gw N z ad M) U.heap ∧ va_K D vwCl tys U ∧ va_Nw nW U
def gAr (N : Nat) (z : Lay) (ad : Nat → Nat) (cA : ClassId) (k n : Nat) : Prop := k < N ∧ ∀ M : Mem, z ad M k = .inl (cA, n, .inl (M k))
def gOb (N : Nat) (z : Lay) (ad : Nat → Nat) (ci : Nat) (k : Nat) (fs : Mem → List Value) : Prop := k < N ∧ ∀ M : Mem, z ad M k = .inr (ci, fs M)
def gRf (N : Nat) (z : Lay) (ad : Nat → Nat) (cA : ClassId) (k n : Nat) (f : Nat → Nat) : Prop := k < N ∧ ∀ M : Mem, z ad M k = .inl (cA, n, .inr (.inr (.inr (.inr (fun j => some (ad (f j)))))))
def rmH (h : Nat) : Room := { frames := h, cells := 0, slots := 0, locals := 40 * h }
theorem gw_at {N : Nat} {z : Lay} {ad : Nat → Nat} {M : Mem} {k : Nat} (hk : k < N) : (gw N z ad M)[k]? = some (ad k, z ad M k) := by
  simp [gw, hk]
theorem gw_set {N : Nat} {z : Lay} {ad : Nat → Nat} {M M' : Mem} {k : Nat} {E : va_E} (hk : k < N) (hE : z ad M' k = E) (hloc : ∀ a, a ≠ k → z ad M' a = z ad M a) : (gw N z ad M).set k (ad k, E) = gw N z ad M' := by
  subst hE
  apply List.ext_getElem?
  intro i
  by_cases hi : i = k
  · subst hi
    rw [List.getElem?_set_self (by simpa [gw] using hk), gw_at hk]
  · rw [List.getElem?_set_ne (Ne.symm hi)]
    by_cases hN : i < N
    · rw [gw_at hN, gw_at hN, hloc i hi]
    · rw [List.getElem?_eq_none (by simpa [gw] using hN), List.getElem?_eq_none (by simpa [gw] using hN)]
theorem gw_D {N : Nat} {z : Lay} {ad : Nat → Nat} {M : Mem} (hi : gInj N ad) : va_D (gA N ad) (gw N z ad M) := by
  have key : ∀ (k : Nat) (q : Nat × va_E), (gw N z ad M)[k]? = some q → k < N ∧ q.1 = ad k := by
    intro k q hk
    have hl : k < N := by simpa [gw] using (List.getElem?_eq_some_iff.mp hk).1
    rw [gw_at hl] at hk
    cases hk
    exact ⟨hl, rfl⟩
  refine ⟨fun i j x y h1 h2 hxy => ?_, fun k q hk => ?_⟩
  · obtain ⟨a1, a2⟩ := key i x h1
    obtain ⟨b1, b2⟩ := key j y h2
    exact hi i j a1 b1 (by rw [← a2, ← b2, hxy])
  · obtain ⟨a1, a2⟩ := key k q hk
    exact ⟨k, a1, a2⟩
theorem gPre_blind {D : va_G} {tys : List (ClassId × FieldType)} {N : Nat} {z : Lay} {ad : Nat → Nat} {M : Mem} {As : List Value} : FrameBlind (va_Pc As (gPre D tys N z ad M)) := by
  intro a U g mk q
  obtain ⟨q0, qP, qK, qN⟩ := q
  exact ⟨q0, qP, va_K.moved (u := U) (U := U.calling g mk a) (Vm.Alike.refl U.vm) qK, va_Nw.same (u := U) (U := U.calling g mk a) rfl rfl qN⟩
section GR
variable {p : Program} {l : Launch} {e : Env} {h : Nat} {R : Room} {s : State} {m : MethodId} {args : Array Value} {below : List Frame} {meth : Method} {c : Code} {H : Heap} {locs : List Loc} {cells slots : Nat} {Q : State → Prop} {cc : ByteArray} {nL pc : Nat} {own : String} {ls : Array Slot} {rest : List Value} {D : va_G} {tl : List (ClassId × FieldType)} {N : Nat} {z : Lay} {ad : Nat → Nat} {M M1 : Mem} {cI : ClassId}
theorem g_iald (C : gC p s m args c own cc nL D ((cI, .int) :: tl) N z ad) (w : gWd D N z ad M s H locs) {k n : Nat} {i x : Int32} (hA : gAr N z ad cI k n) (e1 : ldI M k n i = some x) (hdg : decode cc pc = .ok (.iaload, 1))
    (kk : W p l e R s m args below meth c H locs cells slots Q (F0 m (pc + 1) ls (.int x :: rest))) : W p l e R s m args below meth c H locs cells slots Q (F0 m pc ls (.int i :: .ref (ad k) :: rest)) := by
  obtain ⟨⟨hx, hb, hml, hown, hts⟩, hK, hN, hi, hloc⟩ := C
  unfold ldI at e1
  split at e1
  · next hin =>
    cases e1
    exact va_iald (tys := (cI, .int) :: tl) hx hb hK w.1 k 0 (by rw [gw_at hA.1, hA.2]) rfl (inb_in hin) hdg kk
  · cases e1
theorem g_zald {cZ : ClassId} (C : gC p s m args c own cc nL D ((cI, .int) :: (cZ, .boolean) :: tl) N z ad) (w : gWd D N z ad M s H locs) {k n : Nat} {i x : Int32} (hA : gAr N z ad cZ k n) (e1 : ldI M k n i = some x) (hdg : decode cc pc = .ok (.baload, 1))
    (kk : W p l e R s m args below meth c H locs cells slots Q (F0 m (pc + 1) ls (.int x :: rest))) : W p l e R s m args below meth c H locs cells slots Q (F0 m pc ls (.int i :: .ref (ad k) :: rest)) := by
  obtain ⟨⟨hx, hb, hml, hown, hts⟩, hK, hN, hi, hloc⟩ := C
  unfold ldI at e1
  split at e1
  · next hin =>
    cases e1
    exact va_zald (tys := (cI, .int) :: (cZ, .boolean) :: tl) hx hb hK w.1 k 1 (by rw [gw_at hA.1, hA.2]) rfl (inb_in hin) hdg kk
  · cases e1
theorem g_iast (C : gC p s m args c own cc nL D ((cI, .int) :: tl) N z ad) (w : gWd D N z ad M s H locs) {k n : Nat} {i x : Int32} (hA : gAr N z ad cI k n) (e1 : stI M k n i x = some M1) (hdg : decode cc pc = .ok (.iastore, 1))
    (kk : ∀ (H1 : Heap) (locs1 : List Loc), gWd D N z ad M1 s H1 locs1 → W p l e R s m args below meth c H1 locs1 cells slots Q (F0 m (pc + 1) ls rest)) : W p l e R s m args below meth c H locs cells slots Q (F0 m pc ls (.int x :: .int i :: .ref (ad k) :: rest)) := by
  obtain ⟨⟨hx, hb, hml, hown, hts⟩, hK, hN, hi, hloc⟩ := C
  unfold stI at e1
  split at e1
  · next hin =>
    cases e1
    refine va_iast (tys := (cI, .int) :: tl) hx hb hK w.1 (gw_D hi) w.2 k 0 (by rw [gw_at hA.1, hA.2]) rfl (inb_in hin) hdg (fun H1 locs1 hP hD hS => kk H1 locs1 ⟨?_, hS⟩)
    rw [gw_set (M' := mset M k i.toNatClampNeg x) hA.1 (by rw [hA.2, mset_same]) (fun a ha => hloc ad _ _ a (mset_ne M _ _ ha))] at hP
    exact hP
  · cases e1
theorem g_zast {cZ : ClassId} (C : gC p s m args c own cc nL D ((cI, .int) :: (cZ, .boolean) :: tl) N z ad) (w : gWd D N z ad M s H locs) {k n : Nat} {i x : Int32} (hA : gAr N z ad cZ k n) (e1 : stZ M k n i x = some M1) (hdg : decode cc pc = .ok (.bastore, 1))
    (kk : ∀ (H1 : Heap) (locs1 : List Loc), gWd D N z ad M1 s H1 locs1 → W p l e R s m args below meth c H1 locs1 cells slots Q (F0 m (pc + 1) ls rest)) : W p l e R s m args below meth c H locs cells slots Q (F0 m pc ls (.int x :: .int i :: .ref (ad k) :: rest)) := by
  obtain ⟨⟨hx, hb, hml, hown, hts⟩, hK, hN, hi, hloc⟩ := C
  unfold stZ at e1
  split at e1
  · next hin =>
    cases e1
    simp only [Bool.and_eq_true] at hin
    refine va_zast (tys := (cI, .int) :: (cZ, .boolean) :: tl) hx hb hK w.1 (gw_D hi) w.2 k 1 (by rw [gw_at hA.1, hA.2]) rfl (inb_in hin.1) hdg (fun H1 locs1 hP hD hS => kk H1 locs1 ⟨?_, hS⟩)
    rw [isb_vp hin.2, gw_set (M' := mset M k i.toNatClampNeg x) hA.1 (by rw [hA.2, mset_same]) (fun a ha => hloc ad _ _ a (mset_ne M _ _ ha))] at hP
    exact hP
  · cases e1
theorem g_alen (C : gC p s m args c own cc nL D ((cI, .int) :: tl) N z ad) (w : gWd D N z ad M s H locs) {k n : Nat} {v : Int32} (hA : gAr N z ad cI k n) (hv : Int32.ofNat n = v) (hdg : decode cc pc = .ok (.arraylength, 1))
    (kk : W p l e R s m args below meth c H locs cells slots Q (F0 m (pc + 1) ls (.int v :: rest))) : W p l e R s m args below meth c H locs cells slots Q (F0 m pc ls (.ref (ad k) :: rest)) := by
  obtain ⟨⟨hx, hb, hml, hown, hts⟩, hK, hN, hi, hloc⟩ := C
  exact va_alen (tys := (cI, .int) :: tl) (x := (n, .inl (M k))) hx hb hK w.1 k 0 (by rw [gw_at hA.1, hA.2]) (ty := .int) rfl hv hdg kk
theorem g_aald {tys : List (ClassId × FieldType)} (C : gC p s m args c own cc nL D tys N z ad) (w : gWd D N z ad M s H locs) {cA : ClassId} {k n t0 : Nat} {i : Int32} {t : Nat} {f : Nat → Nat} {CN : String} (hA : gRf N z ad cA k n f) (ht : tys[t0]? = some (cA, .object CN)) (e1 : ixQ n i = some t) (hdg : decode cc pc = .ok (.aaload, 1))
    (kk : W p l e R s m args below meth c H locs cells slots Q (F0 m (pc + 1) ls (.ref (ad (f t)) :: rest))) : W p l e R s m args below meth c H locs cells slots Q (F0 m pc ls (.int i :: .ref (ad k) :: rest)) := by
  obtain ⟨⟨hx, hb, hml, hown, hts⟩, hK, hN, hi, hloc⟩ := C
  unfold ixQ at e1
  split at e1
  · next hin =>
    cases e1
    exact va_aldq (C := CN) (f := fun j => some (ad (f j))) hx hb hK w.1 k t0 (by rw [gw_at hA.1, hA.2]) ht (inb_in hin) hdg kk
  · cases e1
theorem g_get {tys : List (ClassId × FieldType)} (C : gC p s m args c own cc nL D tys N z ad) (w : gWd D N z ad M s H locs) {k ci NF index : Nat} {fs : Mem → List Value} {CN : String} {T : u_T} (hO : gOb N z ad ci k fs) (hc : vwCl[ci]? = some (CN, T, NF)) (hin : ∀ w ∈ u_ws CN T NF, w ∈ gW) (j : Nat) (hj : j < NF) (hl : Cond.fieldLink own index (T j).1 (T j).2.1 (T j).2.2.1 ∈ gW) {v : Value} (hv : (fs M)[j]? = some v) (hdg : decode cc pc = .ok (.getfield index, 3))
    (kk : W p l e R s m args below meth c H locs cells slots Q (F0 m (pc + 3) ls (v :: rest))) : W p l e R s m args below meth c H locs cells slots Q (F0 m pc ls (.ref (ad k) :: rest)) := by
  obtain ⟨⟨hx, hb, hml, hown, hts⟩, hK, hN, hi, hloc⟩ := C
  exact va_get hx hb hts hin hown hK w.1 k (by rw [gw_at hO.1, hO.2]) hc j hj (hts _ hl) (fun _ q => q) hv hdg kk
theorem g_put {tys : List (ClassId × FieldType)} (C : gC p s m args c own cc nL D tys N z ad) (w : gWd D N z ad M s H locs) {k ci NF index : Nat} {fs : Mem → List Value} {CN : String} {T : u_T} {x : Int32} (hO : gOb N z ad ci k fs) (hc : vwCl[ci]? = some (CN, T, NF)) (hin : ∀ w ∈ u_ws CN T NF, w ∈ gW) (ty0 : Nat → FieldType) (hty : ∀ k, k < NF → parseFieldDescriptor (T k).2.2.1 = some (ty0 k)) (hnm : ∀ a, a < NF → ∀ b, b < NF → a ≠ b → (T a).2.1 ≠ (T b).2.1) (j : Nat) (hj : j < NF) (hl : Cond.fieldLink own index (T j).1 (T j).2.1 (T j).2.2.1 ∈ gW) (hfin : (T j).2.2.2 = false)
    (hn : narrow (ty0 j) (.int x) = .int x) (hf : fits (ty0 j) (.int x) = true) (hlen : j < (fs M).length) (hset : (fs M).set j (.int x) = fs (mset M k j x)) (hdg : decode cc pc = .ok (.putfield index, 3))
    (kk : ∀ (H1 : Heap) (locs1 : List Loc), gWd D N z ad (mset M k j x) s H1 locs1 → W p l e R s m args below meth c H1 locs1 cells slots Q (F0 m (pc + 3) ls rest)) : W p l e R s m args below meth c H locs cells slots Q (F0 m pc ls (.int x :: .ref (ad k) :: rest)) := by
  obtain ⟨⟨hx, hb, hml, hown, hts⟩, hK, hN, hi, hloc⟩ := C
  refine va_put hx hb hts hin ty0 hty hnm hown hK w.1 (gw_D hi) w.2 k (by rw [gw_at hO.1, hO.2]) hc j hj (hts _ hl) (fun _ q => q) hfin (hty j hj) hn hf hlen hdg (fun H1 locs1 hP hD hS => kk H1 locs1 ⟨?_, hS⟩)
  rw [gw_set (M' := mset M k j x) hO.1 (by rw [hO.2, hset]) (fun a ha => hloc ad _ _ a (mset_ne M _ _ ha))] at hP
  exact hP
end GR
end
section
/-! Ends, beginnings and calls of methods over a world of N cells -/
def qI (D : va_G) (N : Nat) (z : Lay) (ad : Nat → Nat) (R : Int32 × Mem) : Array Value → State → Outcome → State → Prop := va_Qi (fun r u => (r, u) = R) (fun u t => va_P D vwCl (gw N z ad u) t.heap) (gA N ad)
def qV (D : va_G) (N : Nat) (z : Lay) (ad : Nat → Nat) (R : Int32 × Mem) : Array Value → State → Outcome → State → Prop := va_Qv (fun u : Mem => u = R.2) (fun u t => va_P D vwCl (gw N z ad u) t.heap) (gA N ad)
def qR (D : va_G) (N : Nat) (z : Lay) (ad : Nat → Nat) (R : Nat × Mem) : Array Value → State → Outcome → State → Prop := va_Qr (fun u : Nat × Mem => u = R) (fun u a t => a = ad u.1 ∧ va_P D vwCl (gw N z ad u.2) t.heap) (gA N ad)
abbrev gMet (l : Launch) (y : MethodName) (cc : ByteArray) (nL : Nat) (ret : Option FieldType) (h : Nat) (D : va_G) (tys : List (ClassId × FieldType)) (N : Nat) (z : Lay) (ad : Nat → Nat) (As : List Value) (M : Mem) (Qc : Array Value → State → Outcome → State → Prop) : Prop :=
  Met l y (Cond.code y cc nL ret :: gW) (rmH h) (va_Pc As (gPre D tys N z ad M)) Qc 0 0 (gA N ad)
def gWv (own : String) (index : Nat) (y : MethodName) (bytes : ByteArray) (maxL : Nat) (ret : Option FieldType) : Prop :=
  Cond.methodLink own index y ∈ gW ∧ Cond.instanceMethod y ∈ gW ∧ Cond.selects y.cls y y ∈ gW ∧ Cond.initialized y.cls ∈ gW ∧ Cond.code y bytes maxL ret ∈ gW
def gWs (own : String) (index : Nat) (y : MethodName) (bytes : ByteArray) (maxL : Nat) (ret : Option FieldType) : Prop :=
  Cond.methodLink own index y ∈ gW ∧ Cond.static y ∈ gW ∧ Cond.initialized y.cls ∈ gW ∧ Cond.code y bytes maxL ret ∈ gW
def gMd (y : MethodName) (n : Nat) : Prop := y.cls ≠ "java/lang/invoke/MethodHandle" ∧ y.cls ≠ "java/lang/invoke/VarHandle" ∧ (parseMethodDescriptor y.desc).map (fun d => d.parameters.length) = some n
theorem g_ret0 {D : va_G} {N : Nat} {z : Lay} {ad : Nat → Nat} {M : Mem} {s : State} {H : Heap} {locs : List Loc} (w : gWd D N z ad M s H locs) : ∀ q ∈ locs, gA N ad q.base := w.2.2.2
section GS
variable {p : Program} {l : Launch} {e : Env} {h : Nat} {Rm : Room} {s : State} {m : MethodId} {args : Array Value} {below : List Frame} {meth : Method} {c : Code} {H : Heap} {locs : List Loc} {Q : State → Prop} {cc : ByteArray} {nL pc : Nat} {own : String} {ls : Array Slot} {rest : List Value} {D : va_G} {tys : List (ClassId × FieldType)} {N : Nat} {z : Lay} {ad : Nat → Nat} {M : Mem}
theorem g_iret (C : gC p s m args c own cc nL D tys N z ad) (w : gWd D N z ad M s H locs) {R : Int32 × Mem} (hr : meth.sig.returnType = some .int) (hlocks : meth.locks = false) {v : Int32} (hf : some (v, M) = some R) (hdg : decode cc pc = .ok (.ireturn, 1)) :
    W p l e Rm s m args below meth c H locs 0 0 (MQ below (qI D N z ad R) args s 0 0 (gA N ad)) (F0 m pc ls [.int v]) := by
  obtain ⟨⟨hx, hb, -⟩, -⟩ := C
  exact W.iret hx hb hr (fun t ht hW => ⟨⟨v, M, rfl, Option.some.inj hf, by show va_P D vwCl _ t.heap; rw [ht]; exact w.1⟩, w.2.F ht⟩) w.2.2.2 hdg
theorem g_zret (C : gC p s m args c own cc nL D tys N z ad) (w : gWd D N z ad M s H locs) {R : Int32 × Mem} (hr : meth.sig.returnType = some .boolean) (hlocks : meth.locks = false) {v : Int32} (hf : rtZ v M = some R) (hdg : decode cc pc = .ok (.ireturn, 1)) :
    W p l e Rm s m args below meth c H locs 0 0 (MQ below (qI D N z ad R) args s 0 0 (gA N ad)) (F0 m pc ls [.int v]) := by
  obtain ⟨⟨hx, hb, -⟩, -⟩ := C
  unfold rtZ at hf
  split at hf
  · next hv => exact W.zret hx hb hr (isb_nar hv) (fun t ht hW => ⟨⟨v, M, rfl, Option.some.inj hf, by show va_P D vwCl _ t.heap; rw [ht]; exact w.1⟩, w.2.F ht⟩) w.2.2.2 hdg
  · cases hf
theorem g_vret (C : gC p s m args c own cc nL D tys N z ad) (w : gWd D N z ad M s H locs) {R : Int32 × Mem} (hr : meth.sig.returnType = none) (hlocks : meth.locks = false) (hf : some ((0 : Int32), M) = some R) (hdg : decode cc pc = .ok (.return_, 1)) :
    W p l e Rm s m args below meth c H locs 0 0 (MQ below (qV D N z ad R) args s 0 0 (gA N ad)) (F0 m pc ls []) := by
  obtain ⟨⟨hx, hb, -⟩, -⟩ := C
  cases hf
  exact W.vret hx hb hr (fun t ht hW => ⟨⟨M, rfl, rfl, by show va_P D vwCl _ t.heap; rw [ht]; exact w.1⟩, w.2.F ht⟩) w.2.2.2 hdg
theorem g_aret (C : gC p s m args c own cc nL D tys N z ad) (w : gWd D N z ad M s H locs) {R : Nat × Mem} {CN : String} (hr : meth.sig.returnType = some (.object CN)) (hlocks : meth.locks = false) {k : Nat} (hf : some (k, M) = some R) (hdg : decode cc pc = .ok (.areturn, 1)) :
    W p l e Rm s m args below meth c H locs 0 0 (MQ below (qR D N z ad R) args s 0 0 (gA N ad)) (F0 m pc ls [.ref (ad k)]) := by
  obtain ⟨⟨hx, hb, -⟩, -⟩ := C
  cases hf
  exact W.aret hx hb hr (Or.inl ⟨_, rfl⟩) (Or.inr ⟨_, rfl⟩) (fun t ht hW => ⟨⟨(k, M), ad k, rfl, rfl, rfl, by show va_P D vwCl _ t.heap; rw [ht]; exact w.1⟩, w.2.F ht⟩) w.2.2.2 hdg
theorem gMet_of {y : MethodName} {ret : Option FieldType} {As : List Value} {Qc : Array Value → State → Outcome → State → Prop} (hy : plainName y.cls = true) (hi : gInj N ad) (hz : gLoc z) (hn : (lg_sl As).length ≤ nL)
    (body : ∀ (p : Program) (e : Env) (s : State) (m : MethodId) (args : Array Value) (below : List Frame) (meth : Method) (c : Code) (ls : Array Slot), gC p s m args c y.cls cc nL D tys N z ad → meth.sig.returnType = ret → meth.locks = false → gWd D N z ad M s s.heap [] → lv_has ls nL (lv_args 0 As) →
      W p l e (rmH h) s m args below meth c s.heap [] 0 0 (MQ below Qc args s 0 0 (gA N ad)) (F0 m 0 ls [])) : gMet l y cc nL ret h D tys N z ad As M Qc := by
  refine Met.ofW (cc := cc) (maxL := nL) (ret := ret) hy rfl ?_
  intro p e s m args below meth c s₁ B hml hv
  obtain ⟨rfl, hP, hK, hN⟩ := hv
  have hts := atoms_spec (ws := Cond.code y cc nL ret :: gW) B.pre
  have hown : s.vm.findClass y.cls = some m.cls := findClass_of_methodNamed B.named
  rw [lg_entry_eq]
  exact body p e s m As.toArray below meth c _ ⟨⟨B.exec, B.bytes, hml, hown, fun w hw => hts w (List.mem_cons_of_mem _ hw)⟩, hK, hN, hi, hz⟩ B.returns B.notSynchronized ⟨hP, va_S.rf⟩ (lv_entry As hn)
theorem g_runV (C : gC p s m args c own cc nL D tys N z ad) (w : gWd D N z ad M s H locs) {y : MethodName} {bytes : ByteArray} {maxL h' n index : Nat} {ret : Option FieldType} {As st0 : List Value} {k ci NF : Nat} {fs : Mem → List Value} {T : u_T} {Qc : Array Value → State → Outcome → State → Prop}
    (hM : gMet l y bytes maxL ret h' D tys N z ad (.ref (ad k) :: As) M Qc) (hO : gOb N z ad ci k fs) (hc : vwCl[ci]? = some (y.cls, T, NF)) (hw : gWv own index y bytes maxL ret) (hd : gMd y n) (hn : As.length = n) (hh : h' + 1 ≤ h) (hL : maxL ≤ 20) (hsz : ls.size = nL) (hst : st0 = As.reverse ++ .ref (ad k) :: rest) (hr8 : (rest.map fun v => v.category).sum ≤ 8) (hdg : decode cc pc = .ok (.invokevirtual index, 3)) :
    va_Run p l e (rmH h) s m args below meth c H locs 0 0 0 0 (F0 m pc ls st0) rest (Qc (Value.ref (ad k) :: As).toArray) (gA N ad) := by
  obtain ⟨⟨hx, hb, hml, hown, hts⟩, hK, hN, hi, hloc⟩ := C
  obtain ⟨w1, w2, w3, w4, w5⟩ := hw
  have hG : GoodIn gW (wsV own index y.cls y (Cond.code y bytes maxL ret :: gW)) := by
    intro q hq
    have hm : q ∈ gW := by
      simp only [wsV, List.mem_append, List.mem_cons, List.not_mem_nil, or_false] at hq
      rcases hq with (rfl | rfl | rfl | rfl) | rfl | hq
      · exact w1
      · exact w2
      · exact w3
      · exact w4
      · exact w5
      · exact hq
    exact ⟨hm, gw_good q hm⟩
  refine va_runV (C := y.cls) (Ts := gW) ⟨hx, hb, hml, hown, hts⟩ hM (cwV n hts hG rfl rfl rfl ⟨rfl, hd⟩ ⟨hh, by show 8 + (maxL + 11) + 40 * h' ≤ 40 * h; omega⟩) ⟨gPre_blind, va_recv hK w.1 hc (by rw [gw_at hO.1, hO.2]), fun U hU hW => ⟨rfl, by rw [hU]; exact w.1, va_K.moved hW.alike hK, va_Nw.warmM hW hN⟩⟩ rfl hn hsz hst (lv_room hr8) hdg ⟨Nat.le_refl _, Nat.le_refl _⟩
theorem g_runS (C : gC p s m args c own cc nL D tys N z ad) (w : gWd D N z ad M s H locs) {y : MethodName} {bytes : ByteArray} {maxL h' n index : Nat} {ret : Option FieldType} {As st0 : List Value} {Qc : Array Value → State → Outcome → State → Prop}
    (hM : gMet l y bytes maxL ret h' D tys N z ad As M Qc) (hw : gWs own index y bytes maxL ret) (hd : gMd y n) (hn : As.length = n) (hh : h' + 1 ≤ h) (hL : maxL ≤ 20) (hsz : ls.size = nL) (hst : st0 = As.reverse ++ rest) (hr8 : (rest.map fun v => v.category).sum ≤ 8) (hdg : decode cc pc = .ok (.invokestatic index, 3)) :
    va_Run p l e (rmH h) s m args below meth c H locs 0 0 0 0 (F0 m pc ls st0) rest (Qc As.toArray) (gA N ad) := by
  obtain ⟨⟨hx, hb, hml, hown, hts⟩, hK, hN, hi, hloc⟩ := C
  obtain ⟨w1, w2, w4, w5⟩ := hw
  have hG : GoodIn gW (va_wsS own index y (Cond.code y bytes maxL ret :: gW)) := by
    intro q hq
    have hm : q ∈ gW := by
      simp only [va_wsS, List.mem_append, List.mem_cons, List.not_mem_nil, or_false] at hq
      rcases hq with (rfl | rfl | rfl) | rfl | hq
      · exact w1
      · exact w2
      · exact w4
      · exact w5
      · exact hq
    exact ⟨hm, gw_good q hm⟩
  refine va_runS (Ts := gW) ⟨hx, hb, hml, hown, hts⟩ hM (va_cwS n hts hG rfl rfl rfl hd ⟨hh, by show 8 + (maxL + 11) + 40 * h' ≤ 40 * h; omega⟩) ⟨gPre_blind, fun U hU hW => ⟨rfl, by rw [hU]; exact w.1, va_K.moved hW.alike hK, va_Nw.warmM hW hN⟩⟩ rfl hn hsz hst (lv_room hr8) hdg ⟨Nat.le_refl _, Nat.le_refl _⟩
/-- the one call of a nest mate's private static method: Uses.close asks within -/
theorem g_runN (C : gC p s m args c RX5 cc nL D tys N z ad) (w : gWd D N z ad M s H locs) {bytes : ByteArray} {maxL h' n : Nat} {ret : Option FieldType} {As st0 : List Value} {Qc : Array Value → State → Outcome → State → Prop}
    (hM : gMet l yX6_within bytes maxL ret h' D tys N z ad As M Qc) (hw : Cond.static yX6_within ∈ gW ∧ Cond.initialized RX6 ∈ gW ∧ Cond.code yX6_within bytes maxL ret ∈ gW) (hd : gMd yX6_within n) (hn : As.length = n) (hh : h' + 1 ≤ h) (hL : maxL ≤ 20) (hsz : ls.size = nL) (hst : st0 = As.reverse ++ rest) (hr8 : (rest.map fun v => v.category).sum ≤ 8) (hdg : decode cc pc = .ok (.invokestatic 25, 3)) :
    va_Run p l e (rmH h) s m args below meth c H locs 0 0 0 0 (F0 m pc ls st0) rest (Qc As.toArray) (gA N ad) := by
  obtain ⟨⟨hx, hb, hml, hown, hts⟩, hK, hN, hi, hloc⟩ := C
  obtain ⟨w2, w4, w5⟩ := hw
  have hG : GoodIn gW (Cond.code yX6_within bytes maxL ret :: gW) := by
    intro q hq
    have hm : q ∈ gW := by
      rcases List.mem_cons.mp hq with rfl | hq
      · exact w5
      · exact hq
    exact ⟨hm, gw_good q hm⟩
  exact va_runSN (Ts := gW) ⟨hx, hb, hml, hown, hts⟩ hM ⟨va_cnB n hts hG rfl rfl rfl hN (hts _ w4) hd ⟨hh, by show 8 + (maxL + 11) + 40 * h' ≤ 40 * h; omega⟩, hts _ w2, trivial⟩ ⟨gPre_blind, fun U hU hW => ⟨rfl, by rw [hU]; exact w.1, va_K.moved hW.alike hK, va_Nw.warmM hW hN⟩⟩ rfl hn hsz hst (lv_room hr8) hdg ⟨Nat.le_refl _, Nat.le_refl _⟩
theorem g_backI (w : gWd D N z ad M s H locs) {a : Array Value} {R' : Int32 × Mem} {st0 : List Value} (hr : va_Run p l e Rm s m args below meth c H locs 0 0 0 0 (F0 m pc ls st0) rest (qI D N z ad R' a) (gA N ad))
    (kk : ∀ (H1 : Heap) (locs1 : List Loc), gWd D N z ad R'.2 s H1 locs1 → W p l e Rm s m args below meth c H1 locs1 0 0 Q (F0 m (pc + 3) ls (.int R'.1 :: rest))) : W p l e Rm s m args below meth c H locs 0 0 Q (F0 m pc ls st0) := by
  refine va_calli hr w.2 (fun q _ hq => hq) (fun q hq => hq) (fun r u t H1 locs1 ht hvm hp hB hz1 hk1 hS => ?_)
  subst hp
  exact kk H1 locs1 ⟨by rw [← ht]; exact hB, hS⟩
theorem g_backV (w : gWd D N z ad M s H locs) {a : Array Value} {R' : Int32 × Mem} {st0 : List Value} (hr : va_Run p l e Rm s m args below meth c H locs 0 0 0 0 (F0 m pc ls st0) rest (qV D N z ad R' a) (gA N ad))
    (kk : ∀ (H1 : Heap) (locs1 : List Loc), gWd D N z ad R'.2 s H1 locs1 → W p l e Rm s m args below meth c H1 locs1 0 0 Q (F0 m (pc + 3) ls rest)) : W p l e Rm s m args below meth c H locs 0 0 Q (F0 m pc ls st0) := by
  refine va_callv hr w.2 (fun q _ hq => hq) (fun q hq => hq) (fun u t H1 locs1 ht hvm hp hB hz1 hk1 hS => ?_)
  subst hp
  exact kk H1 locs1 ⟨by rw [← ht]; exact hB, hS⟩
theorem g_backR (w : gWd D N z ad M s H locs) {a : Array Value} {R' : Nat × Mem} {st0 : List Value} (hr : va_Run p l e Rm s m args below meth c H locs 0 0 0 0 (F0 m pc ls st0) rest (qR D N z ad R' a) (gA N ad))
    (kk : ∀ (H1 : Heap) (locs1 : List Loc), gWd D N z ad R'.2 s H1 locs1 → W p l e Rm s m args below meth c H1 locs1 0 0 Q (F0 m (pc + 3) ls (.ref (ad R'.1) :: rest))) : W p l e Rm s m args below meth c H locs 0 0 Q (F0 m pc ls st0) := by
  refine va_callr hr w.2 (fun q _ hq => hq) (fun q hq => hq) (fun u ra t H1 locs1 ht hvm hp hB hz1 hk1 hS => ?_)
  subst hp
  obtain ⟨rfl, hB⟩ := hB
  exact kk H1 locs1 ⟨by rw [← ht]; exact hB, hS⟩
end GS
/-- a switch's place, by its number -/
theorem sw_in {x : Int32} {k lo hi : Int} (hx : x.toInt = k) (h1 : lo ≤ k) (h2 : k ≤ hi) : ¬ x.toInt < lo ∧ ¬ hi < x.toInt := by omega
end
section
/-! The layouts: the class (241 cells), the reference (30 cells) -/
set_option maxRecDepth 100000 in
theorem ginX0 : ∀ w ∈ u_ws RX0 TX0 4, w ∈ gW := gw_ins [118, 120, 122, 124] (by decide +kernel) (by decide +kernel)
set_option maxRecDepth 100000 in
theorem ginX1 : ∀ w ∈ u_ws RX1 TX1 2, w ∈ gW := gw_ins [75, 77] (by decide +kernel) (by decide +kernel)
set_option maxRecDepth 100000 in
theorem ginX2 : ∀ w ∈ u_ws RX2 TX2 3, w ∈ gW := gw_ins [143, 145, 147] (by decide +kernel) (by decide +kernel)
set_option maxRecDepth 100000 in
theorem ginX3 : ∀ w ∈ u_ws RX3 TX3 4, w ∈ gW := gw_ins [218, 220, 222, 224] (by decide +kernel) (by decide +kernel)
set_option maxRecDepth 100000 in
theorem ginX4 : ∀ w ∈ u_ws RX4 TX4 13, w ∈ gW := gw_ins [176, 178, 180, 182, 184, 186, 188, 190, 192, 194, 196, 198, 200] (by decide +kernel) (by decide +kernel)
set_option maxRecDepth 100000 in
theorem ginX5 : ∀ w ∈ u_ws RX5 TX5 4, w ∈ gW := gw_ins [95, 97, 99, 101] (by decide +kernel) (by decide +kernel)
set_option maxRecDepth 100000 in
theorem ginX6 : ∀ w ∈ u_ws RX6 TX6 11, w ∈ gW := gw_ins [238, 240, 242, 244, 246, 248, 250, 252, 254, 256, 258] (by decide +kernel) (by decide +kernel)
set_option maxRecDepth 100000 in
theorem ginX7 : ∀ w ∈ u_ws RX7 TX7 41, w ∈ gW := gw_ins [617, 619, 621, 623, 625, 627, 629, 631, 633, 635, 637, 639, 641, 643, 645, 647, 649, 651, 653, 655, 657, 659, 661, 663, 665, 667, 669, 671, 673, 675, 677, 679, 681, 683, 685, 687, 689, 691, 693, 695, 697] (by decide +kernel) (by decide +kernel)
def xK (k : Nat) : Nat := if k = 0 then 0 else if k = 1 then 1 else if k = 2 then 2 else if k = 3 then 3 else if k = 6 then 5 else if k = 10 then 6 else if k < 13 then 4 else if k < 33 then (match (k - 13) % 5 with | 0 => 7 | 1 => 3 | _ => 4) else (match (k - 33) % 13 with | 0 => 8 | 1 => 9 | 3 => 9 | 5 => 9 | _ => 4)
def xL (k : Nat) : Nat := if k = 4 then 16 else if k = 5 then 80 else if k = 11 then 600 else if k = 12 then 100 else if k < 13 then 512 else if k < 33 then (match (k - 13) % 5 with | 3 => 80 | _ => 16) else (match (k - 33) % 13 with | 2 => 16 | 4 => 16 | 6 => 16 | 7 => 5 | 8 => 5 | _ => 8)
def fX0 (ad : Nat → Nat) (k : Nat) (M : Mem) : List Value := [.ref (ad 11), .ref (ad 12), .int (M k 2), .int (M k 3)]
def fX1 (ad : Nat → Nat) (k : Nat) (_ : Mem) : List Value := [.ref (ad (k + 1)), .ref (ad (k + 2))]
def fX2 (ad : Nat → Nat) (k : Nat) (M : Mem) : List Value := [.ref (ad (k + 1)), .int (M k 1), .int (M k 2)]
def fX3 (ad : Nat → Nat) (k : Nat) (M : Mem) : List Value := [.ref (ad (k + 1)), .ref (ad (k + 4)), .int (M k 2), .int (M k 3)]
def fX4 (ad : Nat → Nat) (k : Nat) (M : Mem) : List Value := [.int (M k 0), .int (M k 1), .int (M k 2), .ref (ad (k + 1)), .ref (ad (k + 3)), .ref (ad (k + 5)), .ref (ad (k + 7)), .ref (ad (k + 8)), .ref (ad (k + 9)), .ref (ad (k + 10)), .ref (ad (k + 11)), .ref (ad (k + 12)), .int (M k 12)]
def fX5 (ad : Nat → Nat) (k : Nat) (M : Mem) : List Value := [.ref (ad 7), .ref (ad 8), .ref (ad 9), .int (M k 3)]
def fX6 (ad : Nat → Nat) (k : Nat) (M : Mem) : List Value := [.ref (ad 1), .ref (ad 2), .ref (ad 3), .ref (ad 6), .ref (ad 10), .int (M k 5), .int (M k 6), .int (M k 7), .int (M k 8), .int (M k 9), .int (M k 10)]
def xE (cI cT cS : ClassId) (ad : Nat → Nat) (M : Mem) (k : Nat) : va_E := match xK k with
  | 0 => .inr (8, fX6 ad k M)
  | 1 => .inl (cT, 16, .inr (.inr (.inr (.inr (fun j => some (ad (33 + 13 * j)))))))
  | 2 => .inl (cS, 4, .inr (.inr (.inr (.inr (fun j => some (ad (13 + 5 * j)))))))
  | 3 => .inr (3, fX1 ad k M)
  | 5 => .inr (7, fX5 ad k M)
  | 6 => .inr (2, fX0 ad k M)
  | 7 => .inr (5, fX3 ad k M)
  | 8 => .inr (6, fX4 ad k M)
  | 9 => .inr (4, fX2 ad k M)
  | _ => .inl (cI, xL k, .inl (M k))
abbrev xty (cI cT cS : ClassId) : List (ClassId × FieldType) := [(cI, .int), (cT, .object RX4), (cS, .object RX3)]
theorem xE_loc (cI cT cS : ClassId) : gLoc (xE cI cT cS) := by
  intro ad M M' k h
  unfold xE fX0 fX1 fX2 fX3 fX4 fX5 fX6
  rw [h]
def xT (k : Nat) : Prop := ∃ t, t < 16 ∧ k = 33 + 13 * t
def xS (k : Nat) : Prop := ∃ t, t < 4 ∧ k = 13 + 5 * t
def xP (k : Nat) : Prop := k = 3 ∨ k = 14 ∨ k = 19 ∨ k = 24 ∨ k = 29
def xPb (k : Nat) : Bool := decide (k = 3) || decide (k = 14) || decide (k = 19) || decide (k = 24) || decide (k = 29)
theorem xPb_ok {k : Nat} {u : Unit} (h : ckP (xPb k) = some u) : xP k := by
  unfold ckP xPb at h
  split at h
  · next hk => simpa [xP, or_assoc] using hk
  · cases h
def xR (k : Nat) : Prop := ∃ t, t < 16 ∧ (k = 34 + 13 * t ∨ k = 36 + 13 * t ∨ k = 38 + 13 * t)
section XL
variable {cI cT cS : ClassId} {ad : Nat → Nat}
theorem x_ar {k n : Nat} (h : k < 241 ∧ xK k = 4 ∧ xL k = n) : gAr 241 (xE cI cT cS) ad cI k n := ⟨h.1, fun M => by simp [xE, h.2.1, h.2.2]⟩
theorem ob_X6 : gOb 241 (xE cI cT cS) ad 8 0 (fX6 ad 0) := ⟨by decide, fun M => rfl⟩
theorem ob_X5 : gOb 241 (xE cI cT cS) ad 7 6 (fX5 ad 6) := ⟨by decide, fun M => rfl⟩
theorem ob_X0 : gOb 241 (xE cI cT cS) ad 2 10 (fX0 ad 10) := ⟨by decide, fun M => rfl⟩
theorem rf_T : gRf 241 (xE cI cT cS) ad cT 1 16 (fun j => 33 + 13 * j) := ⟨by decide, fun M => rfl⟩
theorem rf_S : gRf 241 (xE cI cT cS) ad cS 2 4 (fun j => 13 + 5 * j) := ⟨by decide, fun M => rfl⟩
theorem ob_X4 {k : Nat} (h : xT k) : gOb 241 (xE cI cT cS) ad 6 k (fX4 ad k) := by
  obtain ⟨t, ht, rfl⟩ := h
  have h1 : ∀ t, t < 16 → (33 + 13 * t < 241 ∧ xK (33 + 13 * t) = 8) := by decide
  exact ⟨(h1 t ht).1, fun M => by simp [xE, (h1 t ht).2]⟩
theorem ob_X3 {k : Nat} (h : xS k) : gOb 241 (xE cI cT cS) ad 5 k (fX3 ad k) := by
  obtain ⟨t, ht, rfl⟩ := h
  have h1 : ∀ t, t < 4 → (13 + 5 * t < 241 ∧ xK (13 + 5 * t) = 7) := by decide
  exact ⟨(h1 t ht).1, fun M => by simp [xE, (h1 t ht).2]⟩
theorem ob_X1 {k : Nat} (h : xP k) : gOb 241 (xE cI cT cS) ad 3 k (fX1 ad k) := by
  rcases h with rfl | rfl | rfl | rfl | rfl <;> exact ⟨by decide, fun M => rfl⟩
theorem ob_X2 {k : Nat} (h : xR k) : gOb 241 (xE cI cT cS) ad 4 k (fX2 ad k) := by
  obtain ⟨t, ht, h⟩ := h
  have h1 : ∀ t, t < 16 → (34 + 13 * t < 241 ∧ xK (34 + 13 * t) = 9) ∧ (36 + 13 * t < 241 ∧ xK (36 + 13 * t) = 9) ∧ (38 + 13 * t < 241 ∧ xK (38 + 13 * t) = 9) := by decide
  rcases h with rfl | rfl | rfl
  · exact ⟨(h1 t ht).1.1, fun M => by simp [xE, (h1 t ht).1.2]⟩
  · exact ⟨(h1 t ht).2.1.1, fun M => by simp [xE, (h1 t ht).2.1.2]⟩
  · exact ⟨(h1 t ht).2.2.1, fun M => by simp [xE, (h1 t ht).2.2.2]⟩
theorem xP_3 : xP 3 := Or.inl rfl
theorem xR_a {k : Nat} (h : xR k) : gAr 241 (xE cI cT cS) ad cI (k + 1) 16 := by
  obtain ⟨t, ht, h⟩ := h
  have h1 : ∀ t, t < 16 → (34 + 13 * t + 1 < 241 ∧ xK (34 + 13 * t + 1) = 4 ∧ xL (34 + 13 * t + 1) = 16) ∧ (36 + 13 * t + 1 < 241 ∧ xK (36 + 13 * t + 1) = 4 ∧ xL (36 + 13 * t + 1) = 16) ∧ (38 + 13 * t + 1 < 241 ∧ xK (38 + 13 * t + 1) = 4 ∧ xL (38 + 13 * t + 1) = 16) := by decide
  rcases h with rfl | rfl | rfl
  · exact x_ar (h1 t ht).1
  · exact x_ar (h1 t ht).2.1
  · exact x_ar (h1 t ht).2.2
theorem xP_s {k : Nat} (h : xP k) : gAr 241 (xE cI cT cS) ad cI (k + 1) 16 := by
  rcases h with rfl | rfl | rfl | rfl | rfl <;> exact x_ar (by decide)
theorem xP_n {k : Nat} (h : xP k) : gAr 241 (xE cI cT cS) ad cI (k + 2) 80 := by
  rcases h with rfl | rfl | rfl | rfl | rfl <;> exact x_ar (by decide)
theorem xS_p {k : Nat} (h : xS k) : xP (k + 1) := by
  obtain ⟨t, ht, rfl⟩ := h
  have h1 : ∀ t, t < 4 → (13 + 5 * t + 1 = 3 ∨ 13 + 5 * t + 1 = 14 ∨ 13 + 5 * t + 1 = 19 ∨ 13 + 5 * t + 1 = 24 ∨ 13 + 5 * t + 1 = 29) := by decide
  exact h1 t ht
theorem xS_g {k : Nat} (h : xS k) : gAr 241 (xE cI cT cS) ad cI (k + 4) 16 := by
  obtain ⟨t, ht, rfl⟩ := h
  have h1 : ∀ t, t < 4 → (13 + 5 * t + 4 < 241 ∧ xK (13 + 5 * t + 4) = 4 ∧ xL (13 + 5 * t + 4) = 16) := by decide
  exact x_ar (h1 t ht)
theorem xT_r1 {k : Nat} (h : xT k) : xR (k + 1) := by obtain ⟨t, ht, rfl⟩ := h; exact ⟨t, ht, Or.inl (by omega)⟩
theorem xT_r3 {k : Nat} (h : xT k) : xR (k + 3) := by obtain ⟨t, ht, rfl⟩ := h; exact ⟨t, ht, Or.inr (Or.inl (by omega))⟩
theorem xT_r5 {k : Nat} (h : xT k) : xR (k + 5) := by obtain ⟨t, ht, rfl⟩ := h; exact ⟨t, ht, Or.inr (Or.inr (by omega))⟩
theorem xT_a7 {k : Nat} (h : xT k) : gAr 241 (xE cI cT cS) ad cI (k + 7) 5 := by
  obtain ⟨t, ht, rfl⟩ := h
  have h1 : ∀ t, t < 16 → (33 + 13 * t + 7 < 241 ∧ xK (33 + 13 * t + 7) = 4 ∧ xL (33 + 13 * t + 7) = 5) := by decide
  exact x_ar (h1 t ht)
theorem xT_a8 {k : Nat} (h : xT k) : gAr 241 (xE cI cT cS) ad cI (k + 8) 5 := by
  obtain ⟨t, ht, rfl⟩ := h
  have h1 : ∀ t, t < 16 → (33 + 13 * t + 8 < 241 ∧ xK (33 + 13 * t + 8) = 4 ∧ xL (33 + 13 * t + 8) = 5) := by decide
  exact x_ar (h1 t ht)
theorem xT_a9 {k : Nat} (h : xT k) : gAr 241 (xE cI cT cS) ad cI (k + 9) 8 := by
  obtain ⟨t, ht, rfl⟩ := h
  have h1 : ∀ t, t < 16 → (33 + 13 * t + 9 < 241 ∧ xK (33 + 13 * t + 9) = 4 ∧ xL (33 + 13 * t + 9) = 8) := by decide
  exact x_ar (h1 t ht)
theorem xT_a10 {k : Nat} (h : xT k) : gAr 241 (xE cI cT cS) ad cI (k + 10) 8 := by
  obtain ⟨t, ht, rfl⟩ := h
  have h1 : ∀ t, t < 16 → (33 + 13 * t + 10 < 241 ∧ xK (33 + 13 * t + 10) = 4 ∧ xL (33 + 13 * t + 10) = 8) := by decide
  exact x_ar (h1 t ht)
theorem xT_a11 {k : Nat} (h : xT k) : gAr 241 (xE cI cT cS) ad cI (k + 11) 8 := by
  obtain ⟨t, ht, rfl⟩ := h
  have h1 : ∀ t, t < 16 → (33 + 13 * t + 11 < 241 ∧ xK (33 + 13 * t + 11) = 4 ∧ xL (33 + 13 * t + 11) = 8) := by decide
  exact x_ar (h1 t ht)
theorem xT_a12 {k : Nat} (h : xT k) : gAr 241 (xE cI cT cS) ad cI (k + 12) 8 := by
  obtain ⟨t, ht, rfl⟩ := h
  have h1 : ∀ t, t < 16 → (33 + 13 * t + 12 < 241 ∧ xK (33 + 13 * t + 12) = 4 ∧ xL (33 + 13 * t + 12) = 8) := by decide
  exact x_ar (h1 t ht)
theorem x_a7 : gAr 241 (xE cI cT cS) ad cI 7 512 := x_ar (by decide)
theorem x_a8 : gAr 241 (xE cI cT cS) ad cI 8 512 := x_ar (by decide)
theorem x_a9 : gAr 241 (xE cI cT cS) ad cI 9 512 := x_ar (by decide)
theorem x_a11 : gAr 241 (xE cI cT cS) ad cI 11 600 := x_ar (by decide)
theorem x_a12 : gAr 241 (xE cI cT cS) ad cI 12 100 := x_ar (by decide)
end XL
def yL (k : Nat) : Nat := match k with
  | 1 => 16
  | 2 => 16
  | 3 => 16
  | 4 => 16
  | 5 => 48
  | 6 => 80
  | 7 => 80
  | 8 => 16
  | 9 => 512
  | 10 => 80
  | 11 => 400
  | 12 => 64
  | 13 => 4
  | 14 => 600
  | 15 => 100
  | 16 => 4
  | 17 => 2400
  | 18 => 2400
  | 19 => 16
  | 20 => 16
  | 21 => 16
  | 22 => 16
  | 23 => 16
  | 24 => 256
  | 25 => 16
  | 26 => 16
  | 27 => 17
  | 28 => 17
  | 29 => 80
  | _ => 0
def fX7 (ad : Nat → Nat) (k : Nat) (M : Mem) : List Value := [.int (M k 0), .int (M k 1), .ref (ad 1), .ref (ad 2), .ref (ad 3), .ref (ad 4), .ref (ad 5), .ref (ad 6), .ref (ad 7), .ref (ad 8), .ref (ad 9), .ref (ad 10), .ref (ad 11), .ref (ad 12), .ref (ad 13), .int (M k 15), .int (M k 16), .int (M k 17), .ref (ad 14), .int (M k 19), .ref (ad 15), .int (M k 21), .ref (ad 16), .ref (ad 17), .ref (ad 18), .int (M k 25), .int (M k 26), .ref (ad 19), .ref (ad 20), .ref (ad 21), .ref (ad 22), .ref (ad 23), .ref (ad 24), .ref (ad 25), .int (M k 34), .int (M k 35), .ref (ad 26), .ref (ad 27), .ref (ad 28), .int (M k 39), .ref (ad 29)]
def yE (cI cZ : ClassId) (ad : Nat → Nat) (M : Mem) (k : Nat) : va_E := match k with
  | 0 => .inr (9, fX7 ad 0 M)
  | 3 => .inl (cZ, yL 3, .inl (M 3))
  | 26 => .inl (cZ, yL 26, .inl (M 26))
  | k => .inl (cI, yL k, .inl (M k))
abbrev yty (cI cZ : ClassId) : List (ClassId × FieldType) := [(cI, .int), (cZ, .boolean)]
theorem yE_loc (cI cZ : ClassId) : gLoc (yE cI cZ) := by
  intro ad M M' k h
  unfold yE fX7
  split <;> (first | rw [h] | simp_all)
section YL
variable {cI cZ : ClassId} {ad : Nat → Nat}
theorem ob_X7 : gOb 30 (yE cI cZ) ad 9 0 (fX7 ad 0) := ⟨by decide, fun M => rfl⟩
theorem y_a1 : gAr 30 (yE cI cZ) ad cI 1 16 := ⟨by decide, fun M => rfl⟩
theorem y_a2 : gAr 30 (yE cI cZ) ad cI 2 16 := ⟨by decide, fun M => rfl⟩
theorem y_a3 : gAr 30 (yE cI cZ) ad cZ 3 16 := ⟨by decide, fun M => rfl⟩
theorem y_a4 : gAr 30 (yE cI cZ) ad cI 4 16 := ⟨by decide, fun M => rfl⟩
theorem y_a5 : gAr 30 (yE cI cZ) ad cI 5 48 := ⟨by decide, fun M => rfl⟩
theorem y_a6 : gAr 30 (yE cI cZ) ad cI 6 80 := ⟨by decide, fun M => rfl⟩
theorem y_a7 : gAr 30 (yE cI cZ) ad cI 7 80 := ⟨by decide, fun M => rfl⟩
theorem y_a8 : gAr 30 (yE cI cZ) ad cI 8 16 := ⟨by decide, fun M => rfl⟩
theorem y_a9 : gAr 30 (yE cI cZ) ad cI 9 512 := ⟨by decide, fun M => rfl⟩
theorem y_a10 : gAr 30 (yE cI cZ) ad cI 10 80 := ⟨by decide, fun M => rfl⟩
theorem y_a11 : gAr 30 (yE cI cZ) ad cI 11 400 := ⟨by decide, fun M => rfl⟩
theorem y_a12 : gAr 30 (yE cI cZ) ad cI 12 64 := ⟨by decide, fun M => rfl⟩
theorem y_a13 : gAr 30 (yE cI cZ) ad cI 13 4 := ⟨by decide, fun M => rfl⟩
theorem y_a14 : gAr 30 (yE cI cZ) ad cI 14 600 := ⟨by decide, fun M => rfl⟩
theorem y_a15 : gAr 30 (yE cI cZ) ad cI 15 100 := ⟨by decide, fun M => rfl⟩
theorem y_a16 : gAr 30 (yE cI cZ) ad cI 16 4 := ⟨by decide, fun M => rfl⟩
theorem y_a17 : gAr 30 (yE cI cZ) ad cI 17 2400 := ⟨by decide, fun M => rfl⟩
theorem y_a18 : gAr 30 (yE cI cZ) ad cI 18 2400 := ⟨by decide, fun M => rfl⟩
theorem y_a19 : gAr 30 (yE cI cZ) ad cI 19 16 := ⟨by decide, fun M => rfl⟩
theorem y_a20 : gAr 30 (yE cI cZ) ad cI 20 16 := ⟨by decide, fun M => rfl⟩
theorem y_a21 : gAr 30 (yE cI cZ) ad cI 21 16 := ⟨by decide, fun M => rfl⟩
theorem y_a22 : gAr 30 (yE cI cZ) ad cI 22 16 := ⟨by decide, fun M => rfl⟩
theorem y_a23 : gAr 30 (yE cI cZ) ad cI 23 16 := ⟨by decide, fun M => rfl⟩
theorem y_a24 : gAr 30 (yE cI cZ) ad cI 24 256 := ⟨by decide, fun M => rfl⟩
theorem y_a25 : gAr 30 (yE cI cZ) ad cI 25 16 := ⟨by decide, fun M => rfl⟩
theorem y_a26 : gAr 30 (yE cI cZ) ad cZ 26 16 := ⟨by decide, fun M => rfl⟩
theorem y_a27 : gAr 30 (yE cI cZ) ad cI 27 17 := ⟨by decide, fun M => rfl⟩
theorem y_a28 : gAr 30 (yE cI cZ) ad cI 28 17 := ⟨by decide, fun M => rfl⟩
theorem y_a29 : gAr 30 (yE cI cZ) ad cI 29 80 := ⟨by decide, fun M => rfl⟩
end YL
end
section
section GENX
variable {p : Program} {l : Launch} {e : Env} {h : Nat} {R : Room} {s : State} {m : MethodId} {args : Array Value} {below : List Frame} {meth : Method} {c : Code} {H : Heap} {locs : List Loc} {cells slots : Nat} {Q : State → Prop} {cc : ByteArray} {nL pc : Nat} {ls : Array Slot} {rest : List Value} {D : va_G} {ad : Nat → Nat} {M M1 : Mem} {cI cT cS cZ : ClassId}
def FU : Nat := 100000
theorem kc_X6_within : Cond.code yX6_within cX6_within 3 (some .boolean) ∈ gW := gw_in 267 (by decide +kernel) rfl
theorem ki_X6 : Cond.initialized RX6 ∈ gW := gw_in 39 (by decide +kernel) rfl
theorem md_X6_within : gMd yX6_within 3 := ⟨by decide +kernel, by decide +kernel, by decide +kernel⟩
theorem kt_X6_within : Cond.static yX6_within ∈ gW := gw_in 266 (by decide +kernel) rfl
theorem kl_X6_44 : Cond.methodLink RX6 44 yX6_within ∈ gW := gw_in 265 (by decide +kernel) rfl
theorem gs_X6_44 : gWs RX6 44 yX6_within cX6_within 3 (some .boolean) := ⟨kl_X6_44, kt_X6_within, ki_X6, kc_X6_within⟩
theorem kf_X6_56 : Cond.fieldLink RX6 56 (TX6 5).1 (TX6 5).2.1 (TX6 5).2.2.1 ∈ gW := gw_in 232 (by decide +kernel) rfl
theorem gt_X6_56 (C : gC p s m args c RX6 cc nL D (xty cI cT cS) 241 (xE cI cT cS) ad) (w : gWd D 241 (xE cI cT cS) ad M s H locs) (hdg : decode cc pc = .ok (.getfield 56, 3)) (kk : W p l e R s m args below meth c H locs cells slots Q (F0 m (pc + 3) ls (.int (M 0 5) :: rest))) : W p l e R s m args below meth c H locs cells slots Q (F0 m pc ls (.ref (ad 0) :: rest)) := g_get C w ob_X6 rfl ginX6 5 (by decide) kf_X6_56 rfl hdg kk
theorem kc_X6_isType : Cond.code yX6_isType cX6_isType 2 (some .boolean) ∈ gW := gw_in 275 (by decide +kernel) rfl
theorem md_X6_isType : gMd yX6_isType 1 := ⟨by decide +kernel, by decide +kernel, by decide +kernel⟩
theorem kl_X6_68 : Cond.methodLink RX6 68 yX6_isType ∈ gW := gw_in 272 (by decide +kernel) rfl
theorem kn_X6_isType : Cond.instanceMethod yX6_isType ∈ gW := gw_in 274 (by decide +kernel) rfl
theorem ks_X6_isType : Cond.selects RX6 yX6_isType yX6_isType ∈ gW := gw_in 1 (by decide +kernel) rfl
theorem gv_X6_68 : gWv RX6 68 yX6_isType cX6_isType 2 (some .boolean) := ⟨kl_X6_68, kn_X6_isType, ks_X6_isType, ki_X6, kc_X6_isType⟩
theorem kf_X6_11 : Cond.fieldLink RX6 11 (TX6 0).1 (TX6 0).2.1 (TX6 0).2.2.1 ∈ gW := gw_in 227 (by decide +kernel) rfl
theorem gt_X6_11 (C : gC p s m args c RX6 cc nL D (xty cI cT cS) 241 (xE cI cT cS) ad) (w : gWd D 241 (xE cI cT cS) ad M s H locs) (hdg : decode cc pc = .ok (.getfield 11, 3)) (kk : W p l e R s m args below meth c H locs cells slots Q (F0 m (pc + 3) ls (.ref (ad 1) :: rest))) : W p l e R s m args below meth c H locs cells slots Q (F0 m pc ls (.ref (ad 0) :: rest)) := g_get C w ob_X6 rfl ginX6 0 (by decide) kf_X6_11 rfl hdg kk
theorem kf_X6_71 : Cond.fieldLink RX6 71 (TX4 0).1 (TX4 0).2.1 (TX4 0).2.2.1 ∈ gW := gw_in 151 (by decide +kernel) rfl
theorem gt_X6_71 {k : Nat} (hk : xT k) (C : gC p s m args c RX6 cc nL D (xty cI cT cS) 241 (xE cI cT cS) ad) (w : gWd D 241 (xE cI cT cS) ad M s H locs) (hdg : decode cc pc = .ok (.getfield 71, 3)) (kk : W p l e R s m args below meth c H locs cells slots Q (F0 m (pc + 3) ls (.int (M k 0) :: rest))) : W p l e R s m args below meth c H locs cells slots Q (F0 m pc ls (.ref (ad k) :: rest)) := g_get C w (ob_X4 hk) rfl ginX4 0 (by decide) kf_X6_71 rfl hdg kk
theorem kc_X6_isField : Cond.code yX6_isField cX6_isField 1 (some .boolean) ∈ gW := gw_in 316 (by decide +kernel) rfl
theorem md_X6_isField : gMd yX6_isField 1 := ⟨by decide +kernel, by decide +kernel, by decide +kernel⟩
theorem kt_X6_isField : Cond.static yX6_isField ∈ gW := gw_in 315 (by decide +kernel) rfl
theorem kl_X6_89 : Cond.methodLink RX6 89 yX6_isField ∈ gW := gw_in 314 (by decide +kernel) rfl
theorem gs_X6_89 : gWs RX6 89 yX6_isField cX6_isField 1 (some .boolean) := ⟨kl_X6_89, kt_X6_isField, ki_X6, kc_X6_isField⟩
theorem kc_X6_isNumber : Cond.code yX6_isNumber cX6_isNumber 1 (some .boolean) ∈ gW := gw_in 319 (by decide +kernel) rfl
theorem md_X6_isNumber : gMd yX6_isNumber 1 := ⟨by decide +kernel, by decide +kernel, by decide +kernel⟩
theorem kt_X6_isNumber : Cond.static yX6_isNumber ∈ gW := gw_in 318 (by decide +kernel) rfl
theorem kl_X6_92 : Cond.methodLink RX6 92 yX6_isNumber ∈ gW := gw_in 317 (by decide +kernel) rfl
theorem gs_X6_92 : gWs RX6 92 yX6_isNumber cX6_isNumber 1 (some .boolean) := ⟨kl_X6_92, kt_X6_isNumber, ki_X6, kc_X6_isNumber⟩
theorem kc_X6_mayNameType : Cond.code yX6_mayNameType cX6_mayNameType 1 (some .boolean) ∈ gW := gw_in 329 (by decide +kernel) rfl
theorem md_X6_mayNameType : gMd yX6_mayNameType 1 := ⟨by decide +kernel, by decide +kernel, by decide +kernel⟩
theorem kt_X6_mayNameType : Cond.static yX6_mayNameType ∈ gW := gw_in 328 (by decide +kernel) rfl
theorem kl_X6_203 : Cond.methodLink RX6 203 yX6_mayNameType ∈ gW := gw_in 327 (by decide +kernel) rfl
theorem gs_X6_203 : gWs RX6 203 yX6_mayNameType cX6_mayNameType 1 (some .boolean) := ⟨kl_X6_203, kt_X6_mayNameType, ki_X6, kc_X6_mayNameType⟩
def f_X6_within_0 (x0 : Int32) (x1 : Int32) (x2 : Int32) (M : Mem) : Option (Int32 × Mem) :=
  if x0 < x1 then (rtZ (0 : Int32) M) else (if x2 < x0 then (rtZ (0 : Int32) M) else (rtZ (1 : Int32) M))
set_option maxRecDepth 100000 in
set_option maxHeartbeats 4000000 in
theorem w_X6_within_0 (C : gC p s m args c RX6 cX6_within 3 D (xty cI cT cS) 241 (xE cI cT cS) ad) (hr : meth.sig.returnType = (some .boolean)) (hq : meth.locks = false) {Rs : Int32 × Mem} {x0 : Int32} {x1 : Int32} {x2 : Int32} (w : gWd D 241 (xE cI cT cS) ad M s H locs) (hl : lv_has ls 3 [(0, .int x0), (1, .int x1), (2, .int x2)]) (hf : f_X6_within_0  x0 x1 x2 M = some Rs) : W p l e (rmH 0) s m args below meth c H locs 0 0 (MQ below (qI D 241 (xE cI cT cS) ad Rs) args s 0 0 (gA 241 ad)) (F0 m 0 ls []) := by
  unfold f_X6_within_0 at hf
  have hx := C.1.1
  have hb := C.1.2.1
  have hi := C.2.2.2.1
  refine lv_iload_n hx hb dX6_within_0 rfl (lv_at hl 0 rfl) ?_
  refine lv_iload_n hx hb dX6_within_1 rfl (lv_at hl 1 rfl) ?_
  refine lv_icmp_lt (tgt := 14) hx hb dX6_within_2 (by decide) (fun c1 => ?_) (fun c1 => ?_)
  · replace hf := (if_pos c1).symm.trans hf
    refine lv_iconst (v := 0) hx hb dX6_within_14 (by decide) ?_
    exact g_zret C w hr hq hf dX6_within_15
  · replace hf := (if_neg c1).symm.trans hf
    refine lv_iload_n hx hb dX6_within_5 rfl (lv_at hl 0 rfl) ?_
    refine lv_iload_n hx hb dX6_within_6 rfl (lv_at hl 2 rfl) ?_
    refine lv_icmp_gt (tgt := 14) hx hb dX6_within_7 (by decide) (fun c2 => ?_) (fun c2 => ?_)
    · replace hf := (if_pos c2).symm.trans hf
      refine lv_iconst (v := 0) hx hb dX6_within_14 (by decide) ?_
      exact g_zret C w hr hq hf dX6_within_15
    · replace hf := (if_neg c2).symm.trans hf
      refine lv_iconst (v := 1) hx hb dX6_within_10 (by decide) ?_
      refine lv_goto (tgt := 15) hx hb dX6_within_11 (by decide) ?_
      exact g_zret C w hr hq hf dX6_within_15
abbrev f_X6_within (x0 : Int32) (x1 : Int32) (x2 : Int32) (M : Mem) : Option (Int32 × Mem) := f_X6_within_0 x0 x1 x2 M
theorem c_X6_within (hi : gInj 241 ad) {x0 : Int32} {x1 : Int32} {x2 : Int32} {Rs : Int32 × Mem} (hf : f_X6_within x0 x1 x2 M = some Rs) : gMet l yX6_within cX6_within 3 (some .boolean) 0 D (xty cI cT cS) 241 (xE cI cT cS) ad [.int x0, .int x1, .int x2] M (qI D 241 (xE cI cT cS) ad Rs) := gMet_of (by decide) hi (xE_loc cI cT cS) (Nat.le_of_ble_eq_true rfl) (fun p e s m args below meth c ls C hr hq w hl => w_X6_within_0 C hr hq  w hl hf)
def f_X6_isNumber_0 (x0 : Int32) (M : Mem) : Option (Int32 × Mem) :=
  (f_X6_within x0 (-999 : Int32) (999 : Int32) M).bind fun (v3, M1) =>
  rtZ v3 M1
set_option maxRecDepth 100000 in
set_option maxHeartbeats 4000000 in
theorem w_X6_isNumber_0 (C : gC p s m args c RX6 cX6_isNumber 1 D (xty cI cT cS) 241 (xE cI cT cS) ad) (hr : meth.sig.returnType = (some .boolean)) (hq : meth.locks = false) {Rs : Int32 × Mem} {x0 : Int32} (w : gWd D 241 (xE cI cT cS) ad M s H locs) (hl : lv_has ls 1 [(0, .int x0)]) (hf : f_X6_isNumber_0  x0 M = some Rs) : W p l e (rmH 1) s m args below meth c H locs 0 0 (MQ below (qI D 241 (xE cI cT cS) ad Rs) args s 0 0 (gA 241 ad)) (F0 m 0 ls []) := by
  unfold f_X6_isNumber_0 at hf
  have hx := C.1.1
  have hb := C.1.2.1
  have hi := C.2.2.2.1
  refine lv_iload_n hx hb dX6_isNumber_0 rfl (lv_at hl 0 rfl) ?_
  refine lv_sipush (v := -999) hx hb dX6_isNumber_1 (by decide) ?_
  refine lv_sipush (v := 999) hx hb dX6_isNumber_4 (by decide) ?_
  obtain ⟨⟨v3, M1⟩, e2, hf⟩ := bindS hf
  refine g_backI w (g_runS (rest := []) C w (c_X6_within hi  e2) gs_X6_44 md_X6_within rfl (by omega) (by decide) hl.1 rfl (Nat.le_of_ble_eq_true rfl) dX6_isNumber_7) (fun H locs w => ?_)
  exact g_zret C w hr hq hf dX6_isNumber_10
abbrev f_X6_isNumber (x0 : Int32) (M : Mem) : Option (Int32 × Mem) := f_X6_isNumber_0 x0 M
theorem c_X6_isNumber (hi : gInj 241 ad) {x0 : Int32} {Rs : Int32 × Mem} (hf : f_X6_isNumber x0 M = some Rs) : gMet l yX6_isNumber cX6_isNumber 1 (some .boolean) 1 D (xty cI cT cS) 241 (xE cI cT cS) ad [.int x0] M (qI D 241 (xE cI cT cS) ad Rs) := gMet_of (by decide) hi (xE_loc cI cT cS) (Nat.le_of_ble_eq_true rfl) (fun p e s m args below meth c ls C hr hq w hl => w_X6_isNumber_0 C hr hq  w hl hf)
def f_X6_isField_0 (x0 : Int32) (M : Mem) : Option (Int32 × Mem) :=
  (f_X6_within x0 (0 : Int32) (4 : Int32) M).bind fun (v3, M1) =>
  rtZ v3 M1
set_option maxRecDepth 100000 in
set_option maxHeartbeats 4000000 in
theorem w_X6_isField_0 (C : gC p s m args c RX6 cX6_isField 1 D (xty cI cT cS) 241 (xE cI cT cS) ad) (hr : meth.sig.returnType = (some .boolean)) (hq : meth.locks = false) {Rs : Int32 × Mem} {x0 : Int32} (w : gWd D 241 (xE cI cT cS) ad M s H locs) (hl : lv_has ls 1 [(0, .int x0)]) (hf : f_X6_isField_0  x0 M = some Rs) : W p l e (rmH 1) s m args below meth c H locs 0 0 (MQ below (qI D 241 (xE cI cT cS) ad Rs) args s 0 0 (gA 241 ad)) (F0 m 0 ls []) := by
  unfold f_X6_isField_0 at hf
  have hx := C.1.1
  have hb := C.1.2.1
  have hi := C.2.2.2.1
  refine lv_iload_n hx hb dX6_isField_0 rfl (lv_at hl 0 rfl) ?_
  refine lv_iconst (v := 0) hx hb dX6_isField_1 (by decide) ?_
  refine lv_iconst (v := 4) hx hb dX6_isField_2 (by decide) ?_
  obtain ⟨⟨v3, M1⟩, e2, hf⟩ := bindS hf
  refine g_backI w (g_runS (rest := []) C w (c_X6_within hi  e2) gs_X6_44 md_X6_within rfl (by omega) (by decide) hl.1 rfl (Nat.le_of_ble_eq_true rfl) dX6_isField_3) (fun H locs w => ?_)
  exact g_zret C w hr hq hf dX6_isField_6
abbrev f_X6_isField (x0 : Int32) (M : Mem) : Option (Int32 × Mem) := f_X6_isField_0 x0 M
theorem c_X6_isField (hi : gInj 241 ad) {x0 : Int32} {Rs : Int32 × Mem} (hf : f_X6_isField x0 M = some Rs) : gMet l yX6_isField cX6_isField 1 (some .boolean) 1 D (xty cI cT cS) 241 (xE cI cT cS) ad [.int x0] M (qI D 241 (xE cI cT cS) ad Rs) := gMet_of (by decide) hi (xE_loc cI cT cS) (Nat.le_of_ble_eq_true rfl) (fun p e s m args below meth c ls C hr hq w hl => w_X6_isField_0 C hr hq  w hl hf)
def f_X6_isSession_0 (x0 : Int32) (M : Mem) : Option (Int32 × Mem) :=
  (f_X6_within x0 (0 : Int32) (3 : Int32) M).bind fun (v3, M1) =>
  rtZ v3 M1
set_option maxRecDepth 100000 in
set_option maxHeartbeats 4000000 in
theorem w_X6_isSession_0 (C : gC p s m args c RX6 cX6_isSession 1 D (xty cI cT cS) 241 (xE cI cT cS) ad) (hr : meth.sig.returnType = (some .boolean)) (hq : meth.locks = false) {Rs : Int32 × Mem} {x0 : Int32} (w : gWd D 241 (xE cI cT cS) ad M s H locs) (hl : lv_has ls 1 [(0, .int x0)]) (hf : f_X6_isSession_0  x0 M = some Rs) : W p l e (rmH 1) s m args below meth c H locs 0 0 (MQ below (qI D 241 (xE cI cT cS) ad Rs) args s 0 0 (gA 241 ad)) (F0 m 0 ls []) := by
  unfold f_X6_isSession_0 at hf
  have hx := C.1.1
  have hb := C.1.2.1
  have hi := C.2.2.2.1
  refine lv_iload_n hx hb dX6_isSession_0 rfl (lv_at hl 0 rfl) ?_
  refine lv_iconst (v := 0) hx hb dX6_isSession_1 (by decide) ?_
  refine lv_iconst (v := 3) hx hb dX6_isSession_2 (by decide) ?_
  obtain ⟨⟨v3, M1⟩, e2, hf⟩ := bindS hf
  refine g_backI w (g_runS (rest := []) C w (c_X6_within hi  e2) gs_X6_44 md_X6_within rfl (by omega) (by decide) hl.1 rfl (Nat.le_of_ble_eq_true rfl) dX6_isSession_3) (fun H locs w => ?_)
  exact g_zret C w hr hq hf dX6_isSession_6
abbrev f_X6_isSession (x0 : Int32) (M : Mem) : Option (Int32 × Mem) := f_X6_isSession_0 x0 M
theorem c_X6_isSession (hi : gInj 241 ad) {x0 : Int32} {Rs : Int32 × Mem} (hf : f_X6_isSession x0 M = some Rs) : gMet l yX6_isSession cX6_isSession 1 (some .boolean) 1 D (xty cI cT cS) 241 (xE cI cT cS) ad [.int x0] M (qI D 241 (xE cI cT cS) ad Rs) := gMet_of (by decide) hi (xE_loc cI cT cS) (Nat.le_of_ble_eq_true rfl) (fun p e s m args below meth c ls C hr hq w hl => w_X6_isSession_0 C hr hq  w hl hf)
def f_X6_isType_0 (x1 : Int32) (M : Mem) : Option (Int32 × Mem) :=
  (f_X6_within x1 (0 : Int32) ((M 0 5) - (1 : Int32)) M).bind fun (v3, M1) =>
  rtZ v3 M1
set_option maxRecDepth 100000 in
set_option maxHeartbeats 4000000 in
theorem w_X6_isType_0 (C : gC p s m args c RX6 cX6_isType 2 D (xty cI cT cS) 241 (xE cI cT cS) ad) (hr : meth.sig.returnType = (some .boolean)) (hq : meth.locks = false) {Rs : Int32 × Mem} {x1 : Int32} (w : gWd D 241 (xE cI cT cS) ad M s H locs) (hl : lv_has ls 2 [(0, .ref (ad 0)), (1, .int x1)]) (hf : f_X6_isType_0  x1 M = some Rs) : W p l e (rmH 1) s m args below meth c H locs 0 0 (MQ below (qI D 241 (xE cI cT cS) ad Rs) args s 0 0 (gA 241 ad)) (F0 m 0 ls []) := by
  unfold f_X6_isType_0 at hf
  have hx := C.1.1
  have hb := C.1.2.1
  have hi := C.2.2.2.1
  refine lv_iload_n hx hb dX6_isType_0 rfl (lv_at hl 1 rfl) ?_
  refine lv_iconst (v := 0) hx hb dX6_isType_1 (by decide) ?_
  refine lv_aload_n hx hb dX6_isType_2 rfl (lv_at hl 0 rfl) ?_
  refine gt_X6_56 C w dX6_isType_3 ?_
  refine lv_iconst (v := 1) hx hb dX6_isType_6 (by decide) ?_
  refine lv_isub hx hb dX6_isType_7 ?_
  obtain ⟨⟨v3, M1⟩, e2, hf⟩ := bindS hf
  refine g_backI w (g_runS (rest := []) C w (c_X6_within hi  e2) gs_X6_44 md_X6_within rfl (by omega) (by decide) hl.1 rfl (Nat.le_of_ble_eq_true rfl) dX6_isType_8) (fun H locs w => ?_)
  exact g_zret C w hr hq hf dX6_isType_11
abbrev f_X6_isType (x1 : Int32) (M : Mem) : Option (Int32 × Mem) := f_X6_isType_0 x1 M
theorem c_X6_isType (hi : gInj 241 ad) {x1 : Int32} {Rs : Int32 × Mem} (hf : f_X6_isType x1 M = some Rs) : gMet l yX6_isType cX6_isType 2 (some .boolean) 1 D (xty cI cT cS) 241 (xE cI cT cS) ad [.ref (ad 0), .int x1] M (qI D 241 (xE cI cT cS) ad Rs) := gMet_of (by decide) hi (xE_loc cI cT cS) (Nat.le_of_ble_eq_true rfl) (fun p e s m args below meth c ls C hr hq w hl => w_X6_isType_0 C hr hq  w hl hf)
def f_X6_isClass_0 (x1 : Int32) (M : Mem) : Option (Int32 × Mem) :=
  (f_X6_isType x1 M).bind fun (v3, M1) =>
  if v3 = 0 then (rtZ (0 : Int32) M1) else ((ixQ 16 x1).bind fun t5 =>
  if (M1 (33 + 13 * t5) 0) = 0 then (rtZ (1 : Int32) M1) else (rtZ (0 : Int32) M1))
set_option maxRecDepth 100000 in
set_option maxHeartbeats 4000000 in
theorem w_X6_isClass_0 (C : gC p s m args c RX6 cX6_isClass 2 D (xty cI cT cS) 241 (xE cI cT cS) ad) (hr : meth.sig.returnType = (some .boolean)) (hq : meth.locks = false) {Rs : Int32 × Mem} {x1 : Int32} (w : gWd D 241 (xE cI cT cS) ad M s H locs) (hl : lv_has ls 2 [(0, .ref (ad 0)), (1, .int x1)]) (hf : f_X6_isClass_0  x1 M = some Rs) : W p l e (rmH 2) s m args below meth c H locs 0 0 (MQ below (qI D 241 (xE cI cT cS) ad Rs) args s 0 0 (gA 241 ad)) (F0 m 0 ls []) := by
  unfold f_X6_isClass_0 at hf
  have hx := C.1.1
  have hb := C.1.2.1
  have hi := C.2.2.2.1
  refine lv_aload_n hx hb dX6_isClass_0 rfl (lv_at hl 0 rfl) ?_
  refine lv_iload_n hx hb dX6_isClass_1 rfl (lv_at hl 1 rfl) ?_
  obtain ⟨⟨v3, M1⟩, e2, hf⟩ := bindS hf
  refine g_backI w (g_runV (rest := []) C w (c_X6_isType hi  e2) ob_X6 rfl gv_X6_68 md_X6_isType rfl (by omega) (by decide) hl.1 rfl (Nat.le_of_ble_eq_true rfl) dX6_isClass_2) (fun H locs w => ?_)
  refine lv_if_eq (tgt := 24) hx hb dX6_isClass_5 (by decide) (fun c4 => ?_) (fun c4 => ?_)
  · replace hf := (if_pos c4).symm.trans hf
    refine lv_iconst (v := 0) hx hb dX6_isClass_24 (by decide) ?_
    exact g_zret C w hr hq hf dX6_isClass_25
  · replace hf := (if_neg c4).symm.trans hf
    refine lv_aload_n hx hb dX6_isClass_8 rfl (lv_at hl 0 rfl) ?_
    refine gt_X6_11 C w dX6_isClass_9 ?_
    refine lv_iload_n hx hb dX6_isClass_12 rfl (lv_at hl 1 rfl) ?_
    obtain ⟨t5, e6, hf⟩ := bindS hf
    refine g_aald (t0 := 1) C w rf_T rfl e6 dX6_isClass_13 ?_
    refine gt_X6_71 ⟨t5, ixQ_lt e6, rfl⟩ C w dX6_isClass_14 ?_
    refine lv_if_ne (tgt := 24) hx hb dX6_isClass_17 (by decide) (fun c7 => ?_) (fun c7 => ?_)
    · replace hf := (if_neg c7).symm.trans hf
      refine lv_iconst (v := 0) hx hb dX6_isClass_24 (by decide) ?_
      exact g_zret C w hr hq hf dX6_isClass_25
    · replace hf := (if_pos c7).symm.trans hf
      refine lv_iconst (v := 1) hx hb dX6_isClass_20 (by decide) ?_
      refine lv_goto (tgt := 25) hx hb dX6_isClass_21 (by decide) ?_
      exact g_zret C w hr hq hf dX6_isClass_25
abbrev f_X6_isClass (x1 : Int32) (M : Mem) : Option (Int32 × Mem) := f_X6_isClass_0 x1 M
theorem c_X6_isClass (hi : gInj 241 ad) {x1 : Int32} {Rs : Int32 × Mem} (hf : f_X6_isClass x1 M = some Rs) : gMet l yX6_isClass cX6_isClass 2 (some .boolean) 2 D (xty cI cT cS) 241 (xE cI cT cS) ad [.ref (ad 0), .int x1] M (qI D 241 (xE cI cT cS) ad Rs) := gMet_of (by decide) hi (xE_loc cI cT cS) (Nat.le_of_ble_eq_true rfl) (fun p e s m args below meth c ls C hr hq w hl => w_X6_isClass_0 C hr hq  w hl hf)
def f_X6_mayNameType_0 (x0 : Int32) (M : Mem) : Option (Int32 × Mem) :=
  (f_X6_within x0 (0 : Int32) (15 : Int32) M).bind fun (v3, M1) =>
  rtZ v3 M1
set_option maxRecDepth 100000 in
set_option maxHeartbeats 4000000 in
theorem w_X6_mayNameType_0 (C : gC p s m args c RX6 cX6_mayNameType 1 D (xty cI cT cS) 241 (xE cI cT cS) ad) (hr : meth.sig.returnType = (some .boolean)) (hq : meth.locks = false) {Rs : Int32 × Mem} {x0 : Int32} (w : gWd D 241 (xE cI cT cS) ad M s H locs) (hl : lv_has ls 1 [(0, .int x0)]) (hf : f_X6_mayNameType_0  x0 M = some Rs) : W p l e (rmH 1) s m args below meth c H locs 0 0 (MQ below (qI D 241 (xE cI cT cS) ad Rs) args s 0 0 (gA 241 ad)) (F0 m 0 ls []) := by
  unfold f_X6_mayNameType_0 at hf
  have hx := C.1.1
  have hb := C.1.2.1
  have hi := C.2.2.2.1
  refine lv_iload_n hx hb dX6_mayNameType_0 rfl (lv_at hl 0 rfl) ?_
  refine lv_iconst (v := 0) hx hb dX6_mayNameType_1 (by decide) ?_
  refine lv_bipush (v := 15) hx hb dX6_mayNameType_2 (by decide) ?_
  obtain ⟨⟨v3, M1⟩, e2, hf⟩ := bindS hf
  refine g_backI w (g_runS (rest := []) C w (c_X6_within hi  e2) gs_X6_44 md_X6_within rfl (by omega) (by decide) hl.1 rfl (Nat.le_of_ble_eq_true rfl) dX6_mayNameType_4) (fun H locs w => ?_)
  exact g_zret C w hr hq hf dX6_mayNameType_7
abbrev f_X6_mayNameType (x0 : Int32) (M : Mem) : Option (Int32 × Mem) := f_X6_mayNameType_0 x0 M
theorem c_X6_mayNameType (hi : gInj 241 ad) {x0 : Int32} {Rs : Int32 × Mem} (hf : f_X6_mayNameType x0 M = some Rs) : gMet l yX6_mayNameType cX6_mayNameType 1 (some .boolean) 1 D (xty cI cT cS) 241 (xE cI cT cS) ad [.int x0] M (qI D 241 (xE cI cT cS) ad Rs) := gMet_of (by decide) hi (xE_loc cI cT cS) (Nat.le_of_ble_eq_true rfl) (fun p e s m args below meth c ls C hr hq w hl => w_X6_mayNameType_0 C hr hq  w hl hf)
def f_X6_isLine_0 (x0 : Int32) (x1 : Int32) (x2 : Int32) (x3 : Int32) (M : Mem) : Option (Int32 × Mem) :=
  if x0 = 0 then ((f_X6_isField x1 M).bind fun (v4, M2) =>
  if v4 = 0 then (rtZ (0 : Int32) M2) else ((f_X6_isNumber x2 M2).bind fun (v8, M6) =>
  if v8 = 0 then (rtZ (0 : Int32) M6) else (rtZ (1 : Int32) M6))) else if x0 = 1 then ((f_X6_isField x1 M).bind fun (v13, M11) =>
  if v13 = 0 then (rtZ (0 : Int32) M11) else ((f_X6_mayNameType x2 M11).bind fun (v17, M15) =>
  if v17 = 0 then (rtZ (0 : Int32) M15) else ((f_X6_isField x3 M15).bind fun (v21, M19) =>
  if v21 = 0 then (rtZ (0 : Int32) M19) else (rtZ (1 : Int32) M19)))) else if x0 = 2 then ((f_X6_mayNameType x1 M).bind fun (v26, M24) =>
  rtZ v26 M24) else if x0 = 3 then ((f_X6_within x1 (0 : Int32) (6 : Int32) M).bind fun (v30, M28) =>
  rtZ v30 M28) else if x0 = 4 then ((f_X6_within x1 (0 : Int32) (1000 : Int32) M).bind fun (v34, M32) =>
  rtZ v34 M32) else if x0 = 5 then ((f_X6_isNumber x1 M).bind fun (v38, M36) =>
  rtZ v38 M36) else if x0 = 6 then ((f_X6_isField x1 M).bind fun (v42, M40) =>
  if v42 = 0 then (rtZ (0 : Int32) M40) else ((f_X6_mayNameType x2 M40).bind fun (v46, M44) =>
  if v46 = 0 then (rtZ (0 : Int32) M44) else (rtZ (1 : Int32) M44))) else (rtZ (0 : Int32) M)
set_option maxRecDepth 100000 in
set_option maxHeartbeats 4000000 in
theorem w_X6_isLine_0 (C : gC p s m args c RX6 cX6_isLine 4 D (xty cI cT cS) 241 (xE cI cT cS) ad) (hr : meth.sig.returnType = (some .boolean)) (hq : meth.locks = false) {Rs : Int32 × Mem} {x0 : Int32} {x1 : Int32} {x2 : Int32} {x3 : Int32} (w : gWd D 241 (xE cI cT cS) ad M s H locs) (hl : lv_has ls 4 [(0, .int x0), (1, .int x1), (2, .int x2), (3, .int x3)]) (hf : f_X6_isLine_0  x0 x1 x2 x3 M = some Rs) : W p l e (rmH 2) s m args below meth c H locs 0 0 (MQ below (qI D 241 (xE cI cT cS) ad Rs) args s 0 0 (gA 241 ad)) (F0 m 0 ls []) := by
  unfold f_X6_isLine_0 at hf
  have hx := C.1.1
  have hb := C.1.2.1
  have hi := C.2.2.2.1
  refine lv_iload_n hx hb dX6_isLine_0 rfl (lv_at hl 0 rfl) ?_
  by_cases c1 : x0 = 0
  · replace hf := (if_pos c1).symm.trans hf
    refine lv_tableIn (tgt := 44) hx hb dX6_isLine_1 (by rw [c1]; decide) (by rw [c1]; decide) (by rw [c1]; rfl) (by decide) ?_
    refine lv_iload_n hx hb dX6_isLine_44 rfl (lv_at hl 1 rfl) ?_
    obtain ⟨⟨v4, M2⟩, e3, hf⟩ := bindS hf
    refine g_backI w (g_runS (rest := []) C w (c_X6_isField hi  e3) gs_X6_89 md_X6_isField rfl (by omega) (by decide) hl.1 rfl (Nat.le_of_ble_eq_true rfl) dX6_isLine_45) (fun H locs w => ?_)
    refine lv_if_eq (tgt := 62) hx hb dX6_isLine_48 (by decide) (fun c5 => ?_) (fun c5 => ?_)
    · replace hf := (if_pos c5).symm.trans hf
      refine lv_iconst (v := 0) hx hb dX6_isLine_62 (by decide) ?_
      exact g_zret C w hr hq hf dX6_isLine_63
    · replace hf := (if_neg c5).symm.trans hf
      refine lv_iload_n hx hb dX6_isLine_51 rfl (lv_at hl 2 rfl) ?_
      obtain ⟨⟨v8, M6⟩, e7, hf⟩ := bindS hf
      refine g_backI w (g_runS (rest := []) C w (c_X6_isNumber hi  e7) gs_X6_92 md_X6_isNumber rfl (by omega) (by decide) hl.1 rfl (Nat.le_of_ble_eq_true rfl) dX6_isLine_52) (fun H locs w => ?_)
      refine lv_if_eq (tgt := 62) hx hb dX6_isLine_55 (by decide) (fun c9 => ?_) (fun c9 => ?_)
      · replace hf := (if_pos c9).symm.trans hf
        refine lv_iconst (v := 0) hx hb dX6_isLine_62 (by decide) ?_
        exact g_zret C w hr hq hf dX6_isLine_63
      · replace hf := (if_neg c9).symm.trans hf
        refine lv_iconst (v := 1) hx hb dX6_isLine_58 (by decide) ?_
        refine lv_goto (tgt := 63) hx hb dX6_isLine_59 (by decide) ?_
        exact g_zret C w hr hq hf dX6_isLine_63
  · replace hf := (if_neg c1).symm.trans hf
    by_cases c10 : x0 = 1
    · replace hf := (if_pos c10).symm.trans hf
      refine lv_tableIn (tgt := 64) hx hb dX6_isLine_1 (by rw [c10]; decide) (by rw [c10]; decide) (by rw [c10]; rfl) (by decide) ?_
      refine lv_iload_n hx hb dX6_isLine_64 rfl (lv_at hl 1 rfl) ?_
      obtain ⟨⟨v13, M11⟩, e12, hf⟩ := bindS hf
      refine g_backI w (g_runS (rest := []) C w (c_X6_isField hi  e12) gs_X6_89 md_X6_isField rfl (by omega) (by decide) hl.1 rfl (Nat.le_of_ble_eq_true rfl) dX6_isLine_65) (fun H locs w => ?_)
      refine lv_if_eq (tgt := 89) hx hb dX6_isLine_68 (by decide) (fun c14 => ?_) (fun c14 => ?_)
      · replace hf := (if_pos c14).symm.trans hf
        refine lv_iconst (v := 0) hx hb dX6_isLine_89 (by decide) ?_
        exact g_zret C w hr hq hf dX6_isLine_90
      · replace hf := (if_neg c14).symm.trans hf
        refine lv_iload_n hx hb dX6_isLine_71 rfl (lv_at hl 2 rfl) ?_
        obtain ⟨⟨v17, M15⟩, e16, hf⟩ := bindS hf
        refine g_backI w (g_runS (rest := []) C w (c_X6_mayNameType hi  e16) gs_X6_203 md_X6_mayNameType rfl (by omega) (by decide) hl.1 rfl (Nat.le_of_ble_eq_true rfl) dX6_isLine_72) (fun H locs w => ?_)
        refine lv_if_eq (tgt := 89) hx hb dX6_isLine_75 (by decide) (fun c18 => ?_) (fun c18 => ?_)
        · replace hf := (if_pos c18).symm.trans hf
          refine lv_iconst (v := 0) hx hb dX6_isLine_89 (by decide) ?_
          exact g_zret C w hr hq hf dX6_isLine_90
        · replace hf := (if_neg c18).symm.trans hf
          refine lv_iload_n hx hb dX6_isLine_78 rfl (lv_at hl 3 rfl) ?_
          obtain ⟨⟨v21, M19⟩, e20, hf⟩ := bindS hf
          refine g_backI w (g_runS (rest := []) C w (c_X6_isField hi  e20) gs_X6_89 md_X6_isField rfl (by omega) (by decide) hl.1 rfl (Nat.le_of_ble_eq_true rfl) dX6_isLine_79) (fun H locs w => ?_)
          refine lv_if_eq (tgt := 89) hx hb dX6_isLine_82 (by decide) (fun c22 => ?_) (fun c22 => ?_)
          · replace hf := (if_pos c22).symm.trans hf
            refine lv_iconst (v := 0) hx hb dX6_isLine_89 (by decide) ?_
            exact g_zret C w hr hq hf dX6_isLine_90
          · replace hf := (if_neg c22).symm.trans hf
            refine lv_iconst (v := 1) hx hb dX6_isLine_85 (by decide) ?_
            refine lv_goto (tgt := 90) hx hb dX6_isLine_86 (by decide) ?_
            exact g_zret C w hr hq hf dX6_isLine_90
    · replace hf := (if_neg c10).symm.trans hf
      by_cases c23 : x0 = 2
      · replace hf := (if_pos c23).symm.trans hf
        refine lv_tableIn (tgt := 91) hx hb dX6_isLine_1 (by rw [c23]; decide) (by rw [c23]; decide) (by rw [c23]; rfl) (by decide) ?_
        refine lv_iload_n hx hb dX6_isLine_91 rfl (lv_at hl 1 rfl) ?_
        obtain ⟨⟨v26, M24⟩, e25, hf⟩ := bindS hf
        refine g_backI w (g_runS (rest := []) C w (c_X6_mayNameType hi  e25) gs_X6_203 md_X6_mayNameType rfl (by omega) (by decide) hl.1 rfl (Nat.le_of_ble_eq_true rfl) dX6_isLine_92) (fun H locs w => ?_)
        exact g_zret C w hr hq hf dX6_isLine_95
      · replace hf := (if_neg c23).symm.trans hf
        by_cases c27 : x0 = 3
        · replace hf := (if_pos c27).symm.trans hf
          refine lv_tableIn (tgt := 96) hx hb dX6_isLine_1 (by rw [c27]; decide) (by rw [c27]; decide) (by rw [c27]; rfl) (by decide) ?_
          refine lv_iload_n hx hb dX6_isLine_96 rfl (lv_at hl 1 rfl) ?_
          refine lv_iconst (v := 0) hx hb dX6_isLine_97 (by decide) ?_
          refine lv_bipush (v := 6) hx hb dX6_isLine_98 (by decide) ?_
          obtain ⟨⟨v30, M28⟩, e29, hf⟩ := bindS hf
          refine g_backI w (g_runS (rest := []) C w (c_X6_within hi  e29) gs_X6_44 md_X6_within rfl (by omega) (by decide) hl.1 rfl (Nat.le_of_ble_eq_true rfl) dX6_isLine_100) (fun H locs w => ?_)
          exact g_zret C w hr hq hf dX6_isLine_103
        · replace hf := (if_neg c27).symm.trans hf
          by_cases c31 : x0 = 4
          · replace hf := (if_pos c31).symm.trans hf
            refine lv_tableIn (tgt := 104) hx hb dX6_isLine_1 (by rw [c31]; decide) (by rw [c31]; decide) (by rw [c31]; rfl) (by decide) ?_
            refine lv_iload_n hx hb dX6_isLine_104 rfl (lv_at hl 1 rfl) ?_
            refine lv_iconst (v := 0) hx hb dX6_isLine_105 (by decide) ?_
            refine lv_sipush (v := 1000) hx hb dX6_isLine_106 (by decide) ?_
            obtain ⟨⟨v34, M32⟩, e33, hf⟩ := bindS hf
            refine g_backI w (g_runS (rest := []) C w (c_X6_within hi  e33) gs_X6_44 md_X6_within rfl (by omega) (by decide) hl.1 rfl (Nat.le_of_ble_eq_true rfl) dX6_isLine_109) (fun H locs w => ?_)
            exact g_zret C w hr hq hf dX6_isLine_112
          · replace hf := (if_neg c31).symm.trans hf
            by_cases c35 : x0 = 5
            · replace hf := (if_pos c35).symm.trans hf
              refine lv_tableIn (tgt := 113) hx hb dX6_isLine_1 (by rw [c35]; decide) (by rw [c35]; decide) (by rw [c35]; rfl) (by decide) ?_
              refine lv_iload_n hx hb dX6_isLine_113 rfl (lv_at hl 1 rfl) ?_
              obtain ⟨⟨v38, M36⟩, e37, hf⟩ := bindS hf
              refine g_backI w (g_runS (rest := []) C w (c_X6_isNumber hi  e37) gs_X6_92 md_X6_isNumber rfl (by omega) (by decide) hl.1 rfl (Nat.le_of_ble_eq_true rfl) dX6_isLine_114) (fun H locs w => ?_)
              exact g_zret C w hr hq hf dX6_isLine_117
            · replace hf := (if_neg c35).symm.trans hf
              by_cases c39 : x0 = 6
              · replace hf := (if_pos c39).symm.trans hf
                refine lv_tableIn (tgt := 118) hx hb dX6_isLine_1 (by rw [c39]; decide) (by rw [c39]; decide) (by rw [c39]; rfl) (by decide) ?_
                refine lv_iload_n hx hb dX6_isLine_118 rfl (lv_at hl 1 rfl) ?_
                obtain ⟨⟨v42, M40⟩, e41, hf⟩ := bindS hf
                refine g_backI w (g_runS (rest := []) C w (c_X6_isField hi  e41) gs_X6_89 md_X6_isField rfl (by omega) (by decide) hl.1 rfl (Nat.le_of_ble_eq_true rfl) dX6_isLine_119) (fun H locs w => ?_)
                refine lv_if_eq (tgt := 136) hx hb dX6_isLine_122 (by decide) (fun c43 => ?_) (fun c43 => ?_)
                · replace hf := (if_pos c43).symm.trans hf
                  refine lv_iconst (v := 0) hx hb dX6_isLine_136 (by decide) ?_
                  exact g_zret C w hr hq hf dX6_isLine_137
                · replace hf := (if_neg c43).symm.trans hf
                  refine lv_iload_n hx hb dX6_isLine_125 rfl (lv_at hl 2 rfl) ?_
                  obtain ⟨⟨v46, M44⟩, e45, hf⟩ := bindS hf
                  refine g_backI w (g_runS (rest := []) C w (c_X6_mayNameType hi  e45) gs_X6_203 md_X6_mayNameType rfl (by omega) (by decide) hl.1 rfl (Nat.le_of_ble_eq_true rfl) dX6_isLine_126) (fun H locs w => ?_)
                  refine lv_if_eq (tgt := 136) hx hb dX6_isLine_129 (by decide) (fun c47 => ?_) (fun c47 => ?_)
                  · replace hf := (if_pos c47).symm.trans hf
                    refine lv_iconst (v := 0) hx hb dX6_isLine_136 (by decide) ?_
                    exact g_zret C w hr hq hf dX6_isLine_137
                  · replace hf := (if_neg c47).symm.trans hf
                    refine lv_iconst (v := 1) hx hb dX6_isLine_132 (by decide) ?_
                    refine lv_goto (tgt := 137) hx hb dX6_isLine_133 (by decide) ?_
                    exact g_zret C w hr hq hf dX6_isLine_137
              · replace hf := (if_neg c39).symm.trans hf
                refine lv_tableOut (tgt := 138) hx hb dX6_isLine_1 (by have := lv_neT c1 (show (0 : Int32).toInt = 0 from rfl); have := lv_neT c10 (show (1 : Int32).toInt = 1 from rfl); have := lv_neT c23 (show (2 : Int32).toInt = 2 from rfl); have := lv_neT c27 (show (3 : Int32).toInt = 3 from rfl); have := lv_neT c31 (show (4 : Int32).toInt = 4 from rfl); have := lv_neT c35 (show (5 : Int32).toInt = 5 from rfl); have := lv_neT c39 (show (6 : Int32).toInt = 6 from rfl); omega) (by decide) ?_
                refine lv_iconst (v := 0) hx hb dX6_isLine_138 (by decide) ?_
                exact g_zret C w hr hq hf dX6_isLine_139
abbrev f_X6_isLine (x0 : Int32) (x1 : Int32) (x2 : Int32) (x3 : Int32) (M : Mem) : Option (Int32 × Mem) := f_X6_isLine_0 x0 x1 x2 x3 M
theorem c_X6_isLine (hi : gInj 241 ad) {x0 : Int32} {x1 : Int32} {x2 : Int32} {x3 : Int32} {Rs : Int32 × Mem} (hf : f_X6_isLine x0 x1 x2 x3 M = some Rs) : gMet l yX6_isLine cX6_isLine 4 (some .boolean) 2 D (xty cI cT cS) 241 (xE cI cT cS) ad [.int x0, .int x1, .int x2, .int x3] M (qI D 241 (xE cI cT cS) ad Rs) := gMet_of (by decide) hi (xE_loc cI cT cS) (Nat.le_of_ble_eq_true rfl) (fun p e s m args below meth c ls C hr hq w hl => w_X6_isLine_0 C hr hq  w hl hf)
end GENX
end
section
section GENX
variable {p : Program} {l : Launch} {e : Env} {h : Nat} {R : Room} {s : State} {m : MethodId} {args : Array Value} {below : List Frame} {meth : Method} {c : Code} {H : Heap} {locs : List Loc} {cells slots : Nat} {Q : State → Prop} {cc : ByteArray} {nL pc : Nat} {ls : Array Slot} {rest : List Value} {D : va_G} {ad : Nat → Nat} {M M1 : Mem} {cI cT cS cZ : ClassId}
theorem kf_X2_15 : Cond.fieldLink RX2 15 (TX2 1).1 (TX2 1).2.1 (TX2 1).2.2.1 ∈ gW := gw_in 140 (by decide +kernel) rfl
theorem pt_X2_15 {k : Nat} (hk : xR k) {x : Int32} (C : gC p s m args c RX2 cc nL D (xty cI cT cS) 241 (xE cI cT cS) ad) (w : gWd D 241 (xE cI cT cS) ad M s H locs) (e1 : stF M k 1 x = some M1) (hdg : decode cc pc = .ok (.putfield 15, 3)) (kk : ∀ (H1 : Heap) (locs1 : List Loc), gWd D 241 (xE cI cT cS) ad M1 s H1 locs1 → W p l e R s m args below meth c H1 locs1 cells slots Q (F0 m (pc + 3) ls rest)) : W p l e R s m args below meth c H locs cells slots Q (F0 m pc ls (.int x :: .ref (ad k) :: rest)) := by
  cases e1
  exact g_put C w (ob_X2 hk) rfl ginX2 tyX2 tyX2_ok nmX2 1 (by decide) kf_X2_15 rfl rfl rfl (Nat.le_of_ble_eq_true rfl) (by simp [fX2, mset, upd]) hdg kk
theorem kf_X2_19 : Cond.fieldLink RX2 19 (TX2 2).1 (TX2 2).2.1 (TX2 2).2.2.1 ∈ gW := gw_in 142 (by decide +kernel) rfl
theorem pt_X2_19 {k : Nat} (hk : xR k) {x : Int32} (C : gC p s m args c RX2 cc nL D (xty cI cT cS) 241 (xE cI cT cS) ad) (w : gWd D 241 (xE cI cT cS) ad M s H locs) (e1 : stF M k 2 x = some M1) (hdg : decode cc pc = .ok (.putfield 19, 3)) (kk : ∀ (H1 : Heap) (locs1 : List Loc), gWd D 241 (xE cI cT cS) ad M1 s H1 locs1 → W p l e R s m args below meth c H1 locs1 cells slots Q (F0 m (pc + 3) ls rest)) : W p l e R s m args below meth c H locs cells slots Q (F0 m pc ls (.int x :: .ref (ad k) :: rest)) := by
  cases e1
  exact g_put C w (ob_X2 hk) rfl ginX2 tyX2 tyX2_ok nmX2 2 (by decide) kf_X2_19 rfl rfl rfl (Nat.le_of_ble_eq_true rfl) (by simp [fX2, mset, upd]) hdg kk
theorem gt_X2_19 {k : Nat} (hk : xR k) (C : gC p s m args c RX2 cc nL D (xty cI cT cS) 241 (xE cI cT cS) ad) (w : gWd D 241 (xE cI cT cS) ad M s H locs) (hdg : decode cc pc = .ok (.getfield 19, 3)) (kk : W p l e R s m args below meth c H locs cells slots Q (F0 m (pc + 3) ls (.int (M k 2) :: rest))) : W p l e R s m args below meth c H locs cells slots Q (F0 m pc ls (.ref (ad k) :: rest)) := g_get C w (ob_X2 hk) rfl ginX2 2 (by decide) kf_X2_19 rfl hdg kk
theorem kc_X2_has : Cond.code yX2_has cX2_has 2 (some .boolean) ∈ gW := gw_in 299 (by decide +kernel) rfl
theorem ki_X2 : Cond.initialized RX2 ∈ gW := gw_in 44 (by decide +kernel) rfl
theorem md_X2_has : gMd yX2_has 1 := ⟨by decide +kernel, by decide +kernel, by decide +kernel⟩
theorem kl_X2_22 : Cond.methodLink RX2 22 yX2_has ∈ gW := gw_in 296 (by decide +kernel) rfl
theorem kn_X2_has : Cond.instanceMethod yX2_has ∈ gW := gw_in 297 (by decide +kernel) rfl
theorem ks_X2_has : Cond.selects RX2 yX2_has yX2_has ∈ gW := gw_in 298 (by decide +kernel) rfl
theorem gv_X2_22 : gWv RX2 22 yX2_has cX2_has 2 (some .boolean) := ⟨kl_X2_22, kn_X2_has, ks_X2_has, ki_X2, kc_X2_has⟩
theorem gt_X2_15 {k : Nat} (hk : xR k) (C : gC p s m args c RX2 cc nL D (xty cI cT cS) 241 (xE cI cT cS) ad) (w : gWd D 241 (xE cI cT cS) ad M s H locs) (hdg : decode cc pc = .ok (.getfield 15, 3)) (kk : W p l e R s m args below meth c H locs cells slots Q (F0 m (pc + 3) ls (.int (M k 1) :: rest))) : W p l e R s m args below meth c H locs cells slots Q (F0 m pc ls (.ref (ad k) :: rest)) := g_get C w (ob_X2 hk) rfl ginX2 1 (by decide) kf_X2_15 rfl hdg kk
theorem kf_X2_9 : Cond.fieldLink RX2 9 (TX2 0).1 (TX2 0).2.1 (TX2 0).2.2.1 ∈ gW := gw_in 138 (by decide +kernel) rfl
theorem gt_X2_9 {k : Nat} (hk : xR k) (C : gC p s m args c RX2 cc nL D (xty cI cT cS) 241 (xE cI cT cS) ad) (w : gWd D 241 (xE cI cT cS) ad M s H locs) (hdg : decode cc pc = .ok (.getfield 9, 3)) (kk : W p l e R s m args below meth c H locs cells slots Q (F0 m (pc + 3) ls (.ref (ad (k + 1)) :: rest))) : W p l e R s m args below meth c H locs cells slots Q (F0 m pc ls (.ref (ad k) :: rest)) := g_get C w (ob_X2 hk) rfl ginX2 0 (by decide) kf_X2_9 rfl hdg kk
theorem kc_X2_addOnce : Cond.code yX2_addOnce cX2_addOnce 2 none ∈ gW := gw_in 295 (by decide +kernel) rfl
theorem md_X2_addOnce : gMd yX2_addOnce 1 := ⟨by decide +kernel, by decide +kernel, by decide +kernel⟩
theorem kl_X2_26 : Cond.methodLink RX2 26 yX2_addOnce ∈ gW := gw_in 304 (by decide +kernel) rfl
theorem kn_X2_addOnce : Cond.instanceMethod yX2_addOnce ∈ gW := gw_in 293 (by decide +kernel) rfl
theorem ks_X2_addOnce : Cond.selects RX2 yX2_addOnce yX2_addOnce ∈ gW := gw_in 294 (by decide +kernel) rfl
theorem gv_X2_26 : gWv RX2 26 yX2_addOnce cX2_addOnce 2 none := ⟨kl_X2_26, kn_X2_addOnce, ks_X2_addOnce, ki_X2, kc_X2_addOnce⟩
theorem kf_X1_15 : Cond.fieldLink RX1 15 (TX1 1).1 (TX1 1).2.1 (TX1 1).2.2.1 ∈ gW := gw_in 74 (by decide +kernel) rfl
theorem gt_X1_15 {k : Nat} (hk : xP k) (C : gC p s m args c RX1 cc nL D (xty cI cT cS) 241 (xE cI cT cS) ad) (w : gWd D 241 (xE cI cT cS) ad M s H locs) (hdg : decode cc pc = .ok (.getfield 15, 3)) (kk : W p l e R s m args below meth c H locs cells slots Q (F0 m (pc + 3) ls (.ref (ad (k + 2)) :: rest))) : W p l e R s m args below meth c H locs cells slots Q (F0 m pc ls (.ref (ad k) :: rest)) := g_get C w (ob_X1 hk) rfl ginX1 1 (by decide) kf_X1_15 rfl hdg kk
theorem kf_X1_9 : Cond.fieldLink RX1 9 (TX1 0).1 (TX1 0).2.1 (TX1 0).2.2.1 ∈ gW := gw_in 72 (by decide +kernel) rfl
theorem gt_X1_9 {k : Nat} (hk : xP k) (C : gC p s m args c RX1 cc nL D (xty cI cT cS) 241 (xE cI cT cS) ad) (w : gWd D 241 (xE cI cT cS) ad M s H locs) (hdg : decode cc pc = .ok (.getfield 9, 3)) (kk : W p l e R s m args below meth c H locs cells slots Q (F0 m (pc + 3) ls (.ref (ad (k + 1)) :: rest))) : W p l e R s m args below meth c H locs cells slots Q (F0 m pc ls (.ref (ad k) :: rest)) := g_get C w (ob_X1 hk) rfl ginX1 0 (by decide) kf_X1_9 rfl hdg kk
theorem kc_J7_fill_53178 : Cond.code yJ7_fill_53178 cJ7_fill_53178 4 none ∈ gW := gw_in 286 (by decide +kernel) rfl
theorem ki_J7 : Cond.initialized RJ7 ∈ gW := gw_in 47 (by decide +kernel) rfl
theorem md_J7_fill_53178 : gMd yJ7_fill_53178 2 := ⟨by decide +kernel, by decide +kernel, by decide +kernel⟩
theorem kt_J7_fill_53178 : Cond.static yJ7_fill_53178 ∈ gW := gw_in 285 (by decide +kernel) rfl
theorem kl_X1_18 : Cond.methodLink RX1 18 yJ7_fill_53178 ∈ gW := gw_in 472 (by decide +kernel) rfl
theorem gs_X1_18 : gWs RX1 18 yJ7_fill_53178 cJ7_fill_53178 4 none := ⟨kl_X1_18, kt_J7_fill_53178, ki_J7, kc_J7_fill_53178⟩
theorem kf_X3_18 : Cond.fieldLink RX3 18 (TX3 1).1 (TX3 1).2.1 (TX3 1).2.2.1 ∈ gW := gw_in 212 (by decide +kernel) rfl
theorem gt_X3_18 {k : Nat} (hk : xS k) (C : gC p s m args c RX3 cc nL D (xty cI cT cS) 241 (xE cI cT cS) ad) (w : gWd D 241 (xE cI cT cS) ad M s H locs) (hdg : decode cc pc = .ok (.getfield 18, 3)) (kk : W p l e R s m args below meth c H locs cells slots Q (F0 m (pc + 3) ls (.ref (ad (k + 4)) :: rest))) : W p l e R s m args below meth c H locs cells slots Q (F0 m pc ls (.ref (ad k) :: rest)) := g_get C w (ob_X3 hk) rfl ginX3 1 (by decide) kf_X3_18 rfl hdg kk
theorem kl_X3_29 : Cond.methodLink RX3 29 yJ7_fill_53178 ∈ gW := gw_in 467 (by decide +kernel) rfl
theorem gs_X3_29 : gWs RX3 29 yJ7_fill_53178 cJ7_fill_53178 4 none := ⟨kl_X3_29, kt_J7_fill_53178, ki_J7, kc_J7_fill_53178⟩
theorem kf_X3_26 : Cond.fieldLink RX3 26 (TX3 3).1 (TX3 3).2.1 (TX3 3).2.2.1 ∈ gW := gw_in 216 (by decide +kernel) rfl
theorem pt_X3_26 {k : Nat} (hk : xS k) {x : Int32} (C : gC p s m args c RX3 cc nL D (xty cI cT cS) 241 (xE cI cT cS) ad) (w : gWd D 241 (xE cI cT cS) ad M s H locs) (e1 : stF M k 3 x = some M1) (hdg : decode cc pc = .ok (.putfield 26, 3)) (kk : ∀ (H1 : Heap) (locs1 : List Loc), gWd D 241 (xE cI cT cS) ad M1 s H1 locs1 → W p l e R s m args below meth c H1 locs1 cells slots Q (F0 m (pc + 3) ls rest)) : W p l e R s m args below meth c H locs cells slots Q (F0 m pc ls (.int x :: .ref (ad k) :: rest)) := by
  cases e1
  exact g_put C w (ob_X3 hk) rfl ginX3 tyX3 tyX3_ok nmX3 3 (by decide) kf_X3_26 rfl rfl rfl (Nat.le_of_ble_eq_true rfl) (by simp [fX3, mset, upd]) hdg kk
theorem kf_X3_12 : Cond.fieldLink RX3 12 (TX3 0).1 (TX3 0).2.1 (TX3 0).2.2.1 ∈ gW := gw_in 210 (by decide +kernel) rfl
theorem gt_X3_12 {k : Nat} (hk : xS k) (C : gC p s m args c RX3 cc nL D (xty cI cT cS) 241 (xE cI cT cS) ad) (w : gWd D 241 (xE cI cT cS) ad M s H locs) (hdg : decode cc pc = .ok (.getfield 12, 3)) (kk : W p l e R s m args below meth c H locs cells slots Q (F0 m (pc + 3) ls (.ref (ad (k + 1)) :: rest))) : W p l e R s m args below meth c H locs cells slots Q (F0 m pc ls (.ref (ad k) :: rest)) := g_get C w (ob_X3 hk) rfl ginX3 0 (by decide) kf_X3_12 rfl hdg kk
theorem kc_X1_forget : Cond.code yX1_forget cX1_forget 3 (some .int) ∈ gW := gw_in 471 (by decide +kernel) rfl
theorem ki_X1 : Cond.initialized RX1 ∈ gW := gw_in 40 (by decide +kernel) rfl
theorem md_X1_forget : gMd yX1_forget 0 := ⟨by decide +kernel, by decide +kernel, by decide +kernel⟩
theorem kl_X3_35 : Cond.methodLink RX3 35 yX1_forget ∈ gW := gw_in 468 (by decide +kernel) rfl
theorem kn_X1_forget : Cond.instanceMethod yX1_forget ∈ gW := gw_in 469 (by decide +kernel) rfl
theorem ks_X1_forget : Cond.selects RX1 yX1_forget yX1_forget ∈ gW := gw_in 470 (by decide +kernel) rfl
theorem gv_X3_35 : gWv RX3 35 yX1_forget cX1_forget 3 (some .int) := ⟨kl_X3_35, kn_X1_forget, ks_X1_forget, ki_X1, kc_X1_forget⟩
theorem kf_X4_47 : Cond.fieldLink RX4 47 (TX4 0).1 (TX4 0).2.1 (TX4 0).2.2.1 ∈ gW := gw_in 150 (by decide +kernel) rfl
theorem pt_X4_47 {k : Nat} (hk : xT k) {x : Int32} (C : gC p s m args c RX4 cc nL D (xty cI cT cS) 241 (xE cI cT cS) ad) (w : gWd D 241 (xE cI cT cS) ad M s H locs) (e1 : stF M k 0 x = some M1) (hdg : decode cc pc = .ok (.putfield 47, 3)) (kk : ∀ (H1 : Heap) (locs1 : List Loc), gWd D 241 (xE cI cT cS) ad M1 s H1 locs1 → W p l e R s m args below meth c H1 locs1 cells slots Q (F0 m (pc + 3) ls rest)) : W p l e R s m args below meth c H locs cells slots Q (F0 m pc ls (.int x :: .ref (ad k) :: rest)) := by
  cases e1
  exact g_put C w (ob_X4 hk) rfl ginX4 tyX4 tyX4_ok nmX4 0 (by decide) kf_X4_47 rfl rfl rfl (Nat.le_of_ble_eq_true rfl) (by simp [fX4, mset, upd]) hdg kk
theorem kf_X4_9 : Cond.fieldLink RX4 9 (TX4 1).1 (TX4 1).2.1 (TX4 1).2.2.1 ∈ gW := gw_in 152 (by decide +kernel) rfl
theorem pt_X4_9 {k : Nat} (hk : xT k) {x : Int32} (C : gC p s m args c RX4 cc nL D (xty cI cT cS) 241 (xE cI cT cS) ad) (w : gWd D 241 (xE cI cT cS) ad M s H locs) (e1 : stF M k 1 x = some M1) (hdg : decode cc pc = .ok (.putfield 9, 3)) (kk : ∀ (H1 : Heap) (locs1 : List Loc), gWd D 241 (xE cI cT cS) ad M1 s H1 locs1 → W p l e R s m args below meth c H1 locs1 cells slots Q (F0 m (pc + 3) ls rest)) : W p l e R s m args below meth c H locs cells slots Q (F0 m pc ls (.int x :: .ref (ad k) :: rest)) := by
  cases e1
  exact g_put C w (ob_X4 hk) rfl ginX4 tyX4 tyX4_ok nmX4 1 (by decide) kf_X4_9 rfl rfl rfl (Nat.le_of_ble_eq_true rfl) (by simp [fX4, mset, upd]) hdg kk
theorem kf_X4_50 : Cond.fieldLink RX4 50 (TX4 2).1 (TX4 2).2.1 (TX4 2).2.2.1 ∈ gW := gw_in 154 (by decide +kernel) rfl
theorem pt_X4_50 {k : Nat} (hk : xT k) {x : Int32} (C : gC p s m args c RX4 cc nL D (xty cI cT cS) 241 (xE cI cT cS) ad) (w : gWd D 241 (xE cI cT cS) ad M s H locs) (e1 : stFZ M k 2 x = some M1) (hdg : decode cc pc = .ok (.putfield 50, 3)) (kk : ∀ (H1 : Heap) (locs1 : List Loc), gWd D 241 (xE cI cT cS) ad M1 s H1 locs1 → W p l e R s m args below meth c H1 locs1 cells slots Q (F0 m (pc + 3) ls rest)) : W p l e R s m args below meth c H locs cells slots Q (F0 m pc ls (.int x :: .ref (ad k) :: rest)) := by
  unfold stFZ at e1
  split at e1
  · next hb =>
    cases e1
    exact g_put C w (ob_X4 hk) rfl ginX4 tyX4 tyX4_ok nmX4 2 (by decide) kf_X4_50 rfl (isb_nar hb) (isb_fit hb) (Nat.le_of_ble_eq_true rfl) (by simp [fX4, mset, upd]) hdg kk
  · cases e1
theorem kf_X4_18 : Cond.fieldLink RX4 18 (TX4 3).1 (TX4 3).2.1 (TX4 3).2.2.1 ∈ gW := gw_in 156 (by decide +kernel) rfl
theorem gt_X4_18 {k : Nat} (hk : xT k) (C : gC p s m args c RX4 cc nL D (xty cI cT cS) 241 (xE cI cT cS) ad) (w : gWd D 241 (xE cI cT cS) ad M s H locs) (hdg : decode cc pc = .ok (.getfield 18, 3)) (kk : W p l e R s m args below meth c H locs cells slots Q (F0 m (pc + 3) ls (.ref (ad (k + 1)) :: rest))) : W p l e R s m args below meth c H locs cells slots Q (F0 m pc ls (.ref (ad k) :: rest)) := g_get C w (ob_X4 hk) rfl ginX4 3 (by decide) kf_X4_18 rfl hdg kk
theorem kc_X2_empty : Cond.code yX2_empty cX2_empty 1 none ∈ gW := gw_in 283 (by decide +kernel) rfl
theorem md_X2_empty : gMd yX2_empty 0 := ⟨by decide +kernel, by decide +kernel, by decide +kernel⟩
theorem kl_X4_54 : Cond.methodLink RX4 54 yX2_empty ∈ gW := gw_in 280 (by decide +kernel) rfl
theorem kn_X2_empty : Cond.instanceMethod yX2_empty ∈ gW := gw_in 281 (by decide +kernel) rfl
theorem ks_X2_empty : Cond.selects RX2 yX2_empty yX2_empty ∈ gW := gw_in 282 (by decide +kernel) rfl
theorem gv_X4_54 : gWv RX4 54 yX2_empty cX2_empty 1 none := ⟨kl_X4_54, kn_X2_empty, ks_X2_empty, ki_X2, kc_X2_empty⟩
theorem kf_X4_28 : Cond.fieldLink RX4 28 (TX4 6).1 (TX4 6).2.1 (TX4 6).2.2.1 ∈ gW := gw_in 162 (by decide +kernel) rfl
theorem gt_X4_28 {k : Nat} (hk : xT k) (C : gC p s m args c RX4 cc nL D (xty cI cT cS) 241 (xE cI cT cS) ad) (w : gWd D 241 (xE cI cT cS) ad M s H locs) (hdg : decode cc pc = .ok (.getfield 28, 3)) (kk : W p l e R s m args below meth c H locs cells slots Q (F0 m (pc + 3) ls (.ref (ad (k + 7)) :: rest))) : W p l e R s m args below meth c H locs cells slots Q (F0 m pc ls (.ref (ad k) :: rest)) := g_get C w (ob_X4 hk) rfl ginX4 6 (by decide) kf_X4_28 rfl hdg kk
theorem kl_X4_57 : Cond.methodLink RX4 57 yJ7_fill_53178 ∈ gW := gw_in 284 (by decide +kernel) rfl
theorem gs_X4_57 : gWs RX4 57 yJ7_fill_53178 cJ7_fill_53178 4 none := ⟨kl_X4_57, kt_J7_fill_53178, ki_J7, kc_J7_fill_53178⟩
theorem kf_X4_63 : Cond.fieldLink RX4 63 (TX4 12).1 (TX4 12).2.1 (TX4 12).2.2.1 ∈ gW := gw_in 174 (by decide +kernel) rfl
theorem pt_X4_63 {k : Nat} (hk : xT k) {x : Int32} (C : gC p s m args c RX4 cc nL D (xty cI cT cS) 241 (xE cI cT cS) ad) (w : gWd D 241 (xE cI cT cS) ad M s H locs) (e1 : stF M k 12 x = some M1) (hdg : decode cc pc = .ok (.putfield 63, 3)) (kk : ∀ (H1 : Heap) (locs1 : List Loc), gWd D 241 (xE cI cT cS) ad M1 s H1 locs1 → W p l e R s m args below meth c H1 locs1 cells slots Q (F0 m (pc + 3) ls rest)) : W p l e R s m args below meth c H locs cells slots Q (F0 m pc ls (.int x :: .ref (ad k) :: rest)) := by
  cases e1
  exact g_put C w (ob_X4 hk) rfl ginX4 tyX4 tyX4_ok nmX4 12 (by decide) kf_X4_63 rfl rfl rfl (Nat.le_of_ble_eq_true rfl) (by simp [fX4, mset, upd]) hdg kk
theorem gt_X4_63 {k : Nat} (hk : xT k) (C : gC p s m args c RX4 cc nL D (xty cI cT cS) 241 (xE cI cT cS) ad) (w : gWd D 241 (xE cI cT cS) ad M s H locs) (hdg : decode cc pc = .ok (.getfield 63, 3)) (kk : W p l e R s m args below meth c H locs cells slots Q (F0 m (pc + 3) ls (.int (M k 12) :: rest))) : W p l e R s m args below meth c H locs cells slots Q (F0 m pc ls (.ref (ad k) :: rest)) := g_get C w (ob_X4 hk) rfl ginX4 12 (by decide) kf_X4_63 rfl hdg kk
theorem kf_X4_35 : Cond.fieldLink RX4 35 (TX4 8).1 (TX4 8).2.1 (TX4 8).2.2.1 ∈ gW := gw_in 166 (by decide +kernel) rfl
theorem gt_X4_35 {k : Nat} (hk : xT k) (C : gC p s m args c RX4 cc nL D (xty cI cT cS) 241 (xE cI cT cS) ad) (w : gWd D 241 (xE cI cT cS) ad M s H locs) (hdg : decode cc pc = .ok (.getfield 35, 3)) (kk : W p l e R s m args below meth c H locs cells slots Q (F0 m (pc + 3) ls (.ref (ad (k + 9)) :: rest))) : W p l e R s m args below meth c H locs cells slots Q (F0 m pc ls (.ref (ad k) :: rest)) := g_get C w (ob_X4 hk) rfl ginX4 8 (by decide) kf_X4_35 rfl hdg kk
theorem kf_X4_38 : Cond.fieldLink RX4 38 (TX4 9).1 (TX4 9).2.1 (TX4 9).2.2.1 ∈ gW := gw_in 168 (by decide +kernel) rfl
theorem gt_X4_38 {k : Nat} (hk : xT k) (C : gC p s m args c RX4 cc nL D (xty cI cT cS) 241 (xE cI cT cS) ad) (w : gWd D 241 (xE cI cT cS) ad M s H locs) (hdg : decode cc pc = .ok (.getfield 38, 3)) (kk : W p l e R s m args below meth c H locs cells slots Q (F0 m (pc + 3) ls (.ref (ad (k + 10)) :: rest))) : W p l e R s m args below meth c H locs cells slots Q (F0 m pc ls (.ref (ad k) :: rest)) := g_get C w (ob_X4 hk) rfl ginX4 9 (by decide) kf_X4_38 rfl hdg kk
theorem kf_X4_41 : Cond.fieldLink RX4 41 (TX4 10).1 (TX4 10).2.1 (TX4 10).2.2.1 ∈ gW := gw_in 170 (by decide +kernel) rfl
theorem gt_X4_41 {k : Nat} (hk : xT k) (C : gC p s m args c RX4 cc nL D (xty cI cT cS) 241 (xE cI cT cS) ad) (w : gWd D 241 (xE cI cT cS) ad M s H locs) (hdg : decode cc pc = .ok (.getfield 41, 3)) (kk : W p l e R s m args below meth c H locs cells slots Q (F0 m (pc + 3) ls (.ref (ad (k + 11)) :: rest))) : W p l e R s m args below meth c H locs cells slots Q (F0 m pc ls (.ref (ad k) :: rest)) := g_get C w (ob_X4 hk) rfl ginX4 10 (by decide) kf_X4_41 rfl hdg kk
theorem kf_X4_44 : Cond.fieldLink RX4 44 (TX4 11).1 (TX4 11).2.1 (TX4 11).2.2.1 ∈ gW := gw_in 172 (by decide +kernel) rfl
theorem gt_X4_44 {k : Nat} (hk : xT k) (C : gC p s m args c RX4 cc nL D (xty cI cT cS) 241 (xE cI cT cS) ad) (w : gWd D 241 (xE cI cT cS) ad M s H locs) (hdg : decode cc pc = .ok (.getfield 44, 3)) (kk : W p l e R s m args below meth c H locs cells slots Q (F0 m (pc + 3) ls (.ref (ad (k + 12)) :: rest))) : W p l e R s m args below meth c H locs cells slots Q (F0 m pc ls (.ref (ad k) :: rest)) := g_get C w (ob_X4 hk) rfl ginX4 11 (by decide) kf_X4_44 rfl hdg kk
theorem kf_X5_21 : Cond.fieldLink RX5 21 (TX5 3).1 (TX5 3).2.1 (TX5 3).2.2.1 ∈ gW := gw_in 93 (by decide +kernel) rfl
theorem gt_X5_21 (C : gC p s m args c RX5 cc nL D (xty cI cT cS) 241 (xE cI cT cS) ad) (w : gWd D 241 (xE cI cT cS) ad M s H locs) (hdg : decode cc pc = .ok (.getfield 21, 3)) (kk : W p l e R s m args below meth c H locs cells slots Q (F0 m (pc + 3) ls (.int (M 6 3) :: rest))) : W p l e R s m args below meth c H locs cells slots Q (F0 m pc ls (.ref (ad 6) :: rest)) := g_get C w ob_X5 rfl ginX5 3 (by decide) kf_X5_21 rfl hdg kk
theorem kf_X5_9 : Cond.fieldLink RX5 9 (TX5 0).1 (TX5 0).2.1 (TX5 0).2.2.1 ∈ gW := gw_in 87 (by decide +kernel) rfl
theorem gt_X5_9 (C : gC p s m args c RX5 cc nL D (xty cI cT cS) 241 (xE cI cT cS) ad) (w : gWd D 241 (xE cI cT cS) ad M s H locs) (hdg : decode cc pc = .ok (.getfield 9, 3)) (kk : W p l e R s m args below meth c H locs cells slots Q (F0 m (pc + 3) ls (.ref (ad 7) :: rest))) : W p l e R s m args below meth c H locs cells slots Q (F0 m pc ls (.ref (ad 6) :: rest)) := g_get C w ob_X5 rfl ginX5 0 (by decide) kf_X5_9 rfl hdg kk
theorem pt_X5_21 {x : Int32} (C : gC p s m args c RX5 cc nL D (xty cI cT cS) 241 (xE cI cT cS) ad) (w : gWd D 241 (xE cI cT cS) ad M s H locs) (e1 : stF M 6 3 x = some M1) (hdg : decode cc pc = .ok (.putfield 21, 3)) (kk : ∀ (H1 : Heap) (locs1 : List Loc), gWd D 241 (xE cI cT cS) ad M1 s H1 locs1 → W p l e R s m args below meth c H1 locs1 cells slots Q (F0 m (pc + 3) ls rest)) : W p l e R s m args below meth c H locs cells slots Q (F0 m pc ls (.int x :: .ref (ad 6) :: rest)) := by
  cases e1
  exact g_put C w ob_X5 rfl ginX5 tyX5 tyX5_ok nmX5 3 (by decide) kf_X5_21 rfl rfl rfl (Nat.le_of_ble_eq_true rfl) (by simp [fX5, mset, upd]) hdg kk
theorem gs_X5_25 : Cond.static yX6_within ∈ gW ∧ Cond.initialized RX6 ∈ gW ∧ Cond.code yX6_within cX6_within 3 (some .boolean) ∈ gW := ⟨kt_X6_within, ki_X6, kc_X6_within⟩
theorem kf_X5_15 : Cond.fieldLink RX5 15 (TX5 1).1 (TX5 1).2.1 (TX5 1).2.2.1 ∈ gW := gw_in 89 (by decide +kernel) rfl
theorem gt_X5_15 (C : gC p s m args c RX5 cc nL D (xty cI cT cS) 241 (xE cI cT cS) ad) (w : gWd D 241 (xE cI cT cS) ad M s H locs) (hdg : decode cc pc = .ok (.getfield 15, 3)) (kk : W p l e R s m args below meth c H locs cells slots Q (F0 m (pc + 3) ls (.ref (ad 8) :: rest))) : W p l e R s m args below meth c H locs cells slots Q (F0 m pc ls (.ref (ad 6) :: rest)) := g_get C w ob_X5 rfl ginX5 1 (by decide) kf_X5_15 rfl hdg kk
theorem kf_X5_18 : Cond.fieldLink RX5 18 (TX5 2).1 (TX5 2).2.1 (TX5 2).2.2.1 ∈ gW := gw_in 91 (by decide +kernel) rfl
theorem gt_X5_18 (C : gC p s m args c RX5 cc nL D (xty cI cT cS) 241 (xE cI cT cS) ad) (w : gWd D 241 (xE cI cT cS) ad M s H locs) (hdg : decode cc pc = .ok (.getfield 18, 3)) (kk : W p l e R s m args below meth c H locs cells slots Q (F0 m (pc + 3) ls (.ref (ad 9) :: rest))) : W p l e R s m args below meth c H locs cells slots Q (F0 m pc ls (.ref (ad 6) :: rest)) := g_get C w ob_X5 rfl ginX5 2 (by decide) kf_X5_18 rfl hdg kk
theorem kf_X0_18 : Cond.fieldLink RX0 18 (TX0 2).1 (TX0 2).2.1 (TX0 2).2.2.1 ∈ gW := gw_in 114 (by decide +kernel) rfl
theorem gt_X0_18 (C : gC p s m args c RX0 cc nL D (xty cI cT cS) 241 (xE cI cT cS) ad) (w : gWd D 241 (xE cI cT cS) ad M s H locs) (hdg : decode cc pc = .ok (.getfield 18, 3)) (kk : W p l e R s m args below meth c H locs cells slots Q (F0 m (pc + 3) ls (.int (M 10 2) :: rest))) : W p l e R s m args below meth c H locs cells slots Q (F0 m pc ls (.ref (ad 10) :: rest)) := g_get C w ob_X0 rfl ginX0 2 (by decide) kf_X0_18 rfl hdg kk
theorem kf_X0_11 : Cond.fieldLink RX0 11 (TX0 0).1 (TX0 0).2.1 (TX0 0).2.2.1 ∈ gW := gw_in 110 (by decide +kernel) rfl
theorem gt_X0_11 (C : gC p s m args c RX0 cc nL D (xty cI cT cS) 241 (xE cI cT cS) ad) (w : gWd D 241 (xE cI cT cS) ad M s H locs) (hdg : decode cc pc = .ok (.getfield 11, 3)) (kk : W p l e R s m args below meth c H locs cells slots Q (F0 m (pc + 3) ls (.ref (ad 11) :: rest))) : W p l e R s m args below meth c H locs cells slots Q (F0 m pc ls (.ref (ad 10) :: rest)) := g_get C w ob_X0 rfl ginX0 0 (by decide) kf_X0_11 rfl hdg kk
theorem pt_X0_18 {x : Int32} (C : gC p s m args c RX0 cc nL D (xty cI cT cS) 241 (xE cI cT cS) ad) (w : gWd D 241 (xE cI cT cS) ad M s H locs) (e1 : stF M 10 2 x = some M1) (hdg : decode cc pc = .ok (.putfield 18, 3)) (kk : ∀ (H1 : Heap) (locs1 : List Loc), gWd D 241 (xE cI cT cS) ad M1 s H1 locs1 → W p l e R s m args below meth c H1 locs1 cells slots Q (F0 m (pc + 3) ls rest)) : W p l e R s m args below meth c H locs cells slots Q (F0 m pc ls (.int x :: .ref (ad 10) :: rest)) := by
  cases e1
  exact g_put C w ob_X0 rfl ginX0 tyX0 tyX0_ok nmX0 2 (by decide) kf_X0_18 rfl rfl rfl (Nat.le_of_ble_eq_true rfl) (by simp [fX0, mset, upd]) hdg kk
theorem kf_X0_22 : Cond.fieldLink RX0 22 (TX0 3).1 (TX0 3).2.1 (TX0 3).2.2.1 ∈ gW := gw_in 116 (by decide +kernel) rfl
theorem gt_X0_22 (C : gC p s m args c RX0 cc nL D (xty cI cT cS) 241 (xE cI cT cS) ad) (w : gWd D 241 (xE cI cT cS) ad M s H locs) (hdg : decode cc pc = .ok (.getfield 22, 3)) (kk : W p l e R s m args below meth c H locs cells slots Q (F0 m (pc + 3) ls (.int (M 10 3) :: rest))) : W p l e R s m args below meth c H locs cells slots Q (F0 m pc ls (.ref (ad 10) :: rest)) := g_get C w ob_X0 rfl ginX0 3 (by decide) kf_X0_22 rfl hdg kk
theorem kf_X0_15 : Cond.fieldLink RX0 15 (TX0 1).1 (TX0 1).2.1 (TX0 1).2.2.1 ∈ gW := gw_in 112 (by decide +kernel) rfl
theorem gt_X0_15 (C : gC p s m args c RX0 cc nL D (xty cI cT cS) 241 (xE cI cT cS) ad) (w : gWd D 241 (xE cI cT cS) ad M s H locs) (hdg : decode cc pc = .ok (.getfield 15, 3)) (kk : W p l e R s m args below meth c H locs cells slots Q (F0 m (pc + 3) ls (.ref (ad 12) :: rest))) : W p l e R s m args below meth c H locs cells slots Q (F0 m pc ls (.ref (ad 10) :: rest)) := g_get C w ob_X0 rfl ginX0 1 (by decide) kf_X0_15 rfl hdg kk
theorem pt_X0_22 {x : Int32} (C : gC p s m args c RX0 cc nL D (xty cI cT cS) 241 (xE cI cT cS) ad) (w : gWd D 241 (xE cI cT cS) ad M s H locs) (e1 : stF M 10 3 x = some M1) (hdg : decode cc pc = .ok (.putfield 22, 3)) (kk : ∀ (H1 : Heap) (locs1 : List Loc), gWd D 241 (xE cI cT cS) ad M1 s H1 locs1 → W p l e R s m args below meth c H1 locs1 cells slots Q (F0 m (pc + 3) ls rest)) : W p l e R s m args below meth c H locs cells slots Q (F0 m pc ls (.int x :: .ref (ad 10) :: rest)) := by
  cases e1
  exact g_put C w ob_X0 rfl ginX0 tyX0 tyX0_ok nmX0 3 (by decide) kf_X0_22 rfl rfl rfl (Nat.le_of_ble_eq_true rfl) (by simp [fX0, mset, upd]) hdg kk
def f_J7_fill_53178_5b (n0 : Nat) (k5_ : (Nat → Int32 → Int32 → Int32 → Mem → Option (Int32 × Mem))) (k0 : Nat) (x1 : Int32) (x2 : Int32) (x3 : Int32) (M : Mem) : Option (Int32 × Mem) :=
  if x3 ≤ x2 then (some ((0 : Int32), M)) else ((stI M k0 n0 x2 x1).bind fun M2 =>
  k5_ k0 x1 (x2 + 1) x3 M2)
def f_J7_fill_53178_5 (n0 : Nat) : Nat → Nat → Int32 → Int32 → Int32 → Mem → Option (Int32 × Mem)
  | 0, _, _, _, _, _ => none
  | n + 1, k0, x1, x2, x3, M => f_J7_fill_53178_5b n0 (f_J7_fill_53178_5 n0 n) k0 x1 x2 x3 M
def f_J7_fill_53178_0 (n0 : Nat) (k0 : Nat) (x1 : Int32) (M : Mem) : Option (Int32 × Mem) :=
  f_J7_fill_53178_5 n0 FU k0 x1 (0 : Int32) (Int32.ofNat n0) M
set_option maxRecDepth 100000 in
set_option maxHeartbeats 4000000 in
theorem w_J7_fill_53178_5b {n0 : Nat} (C : gC p s m args c RJ7 cJ7_fill_53178 4 D (xty cI cT cS) 241 (xE cI cT cS) ad) (hr : meth.sig.returnType = none) (hq : meth.locks = false) {k5_ : (Nat → Int32 → Int32 → Int32 → Mem → Option (Int32 × Mem))} {Rs : Int32 × Mem} (hk5_ : ∀ {k0 : Nat} {x1 : Int32} {x2 : Int32} {x3 : Int32} {M : Mem} {H : Heap} {locs : List Loc} {ls : Array Slot} (h0 : gAr 241 (xE cI cT cS) ad cI k0 n0), gWd D 241 (xE cI cT cS) ad M s H locs → lv_has ls 4 [(0, .ref (ad k0)), (1, .int x1), (2, .int x2), (3, .int x3)] → k5_ k0 x1 x2 x3 M = some Rs → W p l e (rmH 0) s m args below meth c H locs 0 0 (MQ below (qV D 241 (xE cI cT cS) ad Rs) args s 0 0 (gA 241 ad)) (F0 m 5 ls [])) {k0 : Nat} {x1 : Int32} {x2 : Int32} {x3 : Int32} (h0 : gAr 241 (xE cI cT cS) ad cI k0 n0) (w : gWd D 241 (xE cI cT cS) ad M s H locs) (hl : lv_has ls 4 [(0, .ref (ad k0)), (1, .int x1), (2, .int x2), (3, .int x3)]) (hf : f_J7_fill_53178_5b n0 k5_ k0 x1 x2 x3 M = some Rs) : W p l e (rmH 0) s m args below meth c H locs 0 0 (MQ below (qV D 241 (xE cI cT cS) ad Rs) args s 0 0 (gA 241 ad)) (F0 m 5 ls []) := by
  unfold f_J7_fill_53178_5b at hf
  have hx := C.1.1
  have hb := C.1.2.1
  have hi := C.2.2.2.1
  refine lv_iload_n hx hb dJ7_fill_53178_5 rfl (lv_at hl 2 rfl) ?_
  refine lv_iload_n hx hb dJ7_fill_53178_6 rfl (lv_at hl 3 rfl) ?_
  refine lv_icmp_ge (tgt := 20) hx hb dJ7_fill_53178_7 (by decide) (fun c1 => ?_) (fun c1 => ?_)
  · replace hf := (if_pos c1).symm.trans hf
    exact g_vret C w hr hq hf dJ7_fill_53178_20
  · replace hf := (if_neg c1).symm.trans hf
    refine lv_aload_n hx hb dJ7_fill_53178_10 rfl (lv_at hl 0 rfl) ?_
    refine lv_iload_n hx hb dJ7_fill_53178_11 rfl (lv_at hl 2 rfl) ?_
    refine lv_iload_n hx hb dJ7_fill_53178_12 rfl (lv_at hl 1 rfl) ?_
    obtain ⟨M2, e3, hf⟩ := bindS hf
    refine g_iast C w h0 e3 dJ7_fill_53178_13 (fun H locs w => ?_)
    refine lv_iinc (v := (x2 + 1)) (lv' := [(2, .int (x2 + 1)), (0, .ref (ad k0)), (1, .int x1), (3, .int x3)]) hx hb dJ7_fill_53178_14 hl (k := 2) rfl rfl (by decide) rfl (fun ls hl => ?_)
    refine lv_goto (tgt := 5) hx hb dJ7_fill_53178_17 (by decide) ?_
    exact hk5_ h0 w (lv_sub hl [1, 2, 0, 3] rfl) hf
theorem w_J7_fill_53178_5 {n0 : Nat} (C : gC p s m args c RJ7 cJ7_fill_53178 4 D (xty cI cT cS) 241 (xE cI cT cS) ad) (hr : meth.sig.returnType = none) (hq : meth.locks = false) {Rs : Int32 × Mem} : ∀ (n : Nat) {k0 : Nat} {x1 : Int32} {x2 : Int32} {x3 : Int32} {M : Mem} {H : Heap} {locs : List Loc} {ls : Array Slot} (h0 : gAr 241 (xE cI cT cS) ad cI k0 n0), gWd D 241 (xE cI cT cS) ad M s H locs → lv_has ls 4 [(0, .ref (ad k0)), (1, .int x1), (2, .int x2), (3, .int x3)] → f_J7_fill_53178_5 n0 n k0 x1 x2 x3 M = some Rs → W p l e (rmH 0) s m args below meth c H locs 0 0 (MQ below (qV D 241 (xE cI cT cS) ad Rs) args s 0 0 (gA 241 ad)) (F0 m 5 ls []) := by
  intro n
  induction n with
  | zero =>
    intro k0 x1 x2 x3 M H locs ls h0 w hl hf
    cases hf
  | succ n ih =>
    intro k0 x1 x2 x3 M H locs ls h0 w hl hf
    exact w_J7_fill_53178_5b C hr hq ih h0 w hl hf
set_option maxRecDepth 100000 in
set_option maxHeartbeats 4000000 in
theorem w_J7_fill_53178_0 {n0 : Nat} (C : gC p s m args c RJ7 cJ7_fill_53178 4 D (xty cI cT cS) 241 (xE cI cT cS) ad) (hr : meth.sig.returnType = none) (hq : meth.locks = false) {Rs : Int32 × Mem} {k0 : Nat} {x1 : Int32} (h0 : gAr 241 (xE cI cT cS) ad cI k0 n0) (w : gWd D 241 (xE cI cT cS) ad M s H locs) (hl : lv_has ls 4 [(0, .ref (ad k0)), (1, .int x1)]) (hf : f_J7_fill_53178_0 n0 k0 x1 M = some Rs) : W p l e (rmH 0) s m args below meth c H locs 0 0 (MQ below (qV D 241 (xE cI cT cS) ad Rs) args s 0 0 (gA 241 ad)) (F0 m 0 ls []) := by
  unfold f_J7_fill_53178_0 at hf
  have hx := C.1.1
  have hb := C.1.2.1
  have hi := C.2.2.2.1
  refine lv_iconst (v := 0) hx hb dJ7_fill_53178_0 (by decide) ?_
  refine lv_istore_n (lv' := [(2, .int (0 : Int32)), (0, .ref (ad k0)), (1, .int x1)]) hx hb dJ7_fill_53178_1 rfl hl (by decide) rfl (fun ls hl => ?_)
  refine lv_aload_n hx hb dJ7_fill_53178_2 rfl (lv_at hl 1 rfl) ?_
  refine g_alen (v := Int32.ofNat n0) C w h0 rfl dJ7_fill_53178_3 ?_
  refine lv_istore_n (lv' := [(3, .int (Int32.ofNat n0)), (2, .int (0 : Int32)), (0, .ref (ad k0)), (1, .int x1)]) hx hb dJ7_fill_53178_4 rfl hl (by decide) rfl (fun ls hl => ?_)
  exact w_J7_fill_53178_5 C hr hq FU h0 w (lv_sub hl [2, 3, 1, 0] rfl) hf
abbrev f_J7_fill_53178 (n0 : Nat) (k0 : Nat) (x1 : Int32) (M : Mem) : Option (Int32 × Mem) := f_J7_fill_53178_0 n0 k0 x1 M
theorem c_J7_fill_53178 {n0 : Nat} (hi : gInj 241 ad) {k0 : Nat} {x1 : Int32} (h0 : gAr 241 (xE cI cT cS) ad cI k0 n0) {Rs : Int32 × Mem} (hf : f_J7_fill_53178 n0 k0 x1 M = some Rs) : gMet l yJ7_fill_53178 cJ7_fill_53178 4 none 0 D (xty cI cT cS) 241 (xE cI cT cS) ad [.ref (ad k0), .int x1] M (qV D 241 (xE cI cT cS) ad Rs) := gMet_of (by decide) hi (xE_loc cI cT cS) (Nat.le_of_ble_eq_true rfl) (fun p e s m args below meth c ls C hr hq w hl => w_J7_fill_53178_0 C hr hq h0 w hl hf)
def f_X2_empty_0 (k0 : Nat) (M : Mem) : Option (Int32 × Mem) :=
  (stF M k0 1 (0 : Int32)).bind fun M1 =>
  (stF M1 k0 2 (0 : Int32)).bind fun M3 =>
  some ((0 : Int32), M3)
set_option maxRecDepth 100000 in
set_option maxHeartbeats 4000000 in
theorem w_X2_empty_0 (C : gC p s m args c RX2 cX2_empty 1 D (xty cI cT cS) 241 (xE cI cT cS) ad) (hr : meth.sig.returnType = none) (hq : meth.locks = false) {Rs : Int32 × Mem} {k0 : Nat} (h0 : xR k0) (w : gWd D 241 (xE cI cT cS) ad M s H locs) (hl : lv_has ls 1 [(0, .ref (ad k0))]) (hf : f_X2_empty_0  k0 M = some Rs) : W p l e (rmH 0) s m args below meth c H locs 0 0 (MQ below (qV D 241 (xE cI cT cS) ad Rs) args s 0 0 (gA 241 ad)) (F0 m 0 ls []) := by
  unfold f_X2_empty_0 at hf
  have hx := C.1.1
  have hb := C.1.2.1
  have hi := C.2.2.2.1
  refine lv_aload_n hx hb dX2_empty_0 rfl (lv_at hl 0 rfl) ?_
  refine lv_iconst (v := 0) hx hb dX2_empty_1 (by decide) ?_
  obtain ⟨M1, e2, hf⟩ := bindS hf
  refine pt_X2_15 h0 C w e2 dX2_empty_2 (fun H locs w => ?_)
  refine lv_aload_n hx hb dX2_empty_5 rfl (lv_at hl 0 rfl) ?_
  refine lv_iconst (v := 0) hx hb dX2_empty_6 (by decide) ?_
  obtain ⟨M3, e4, hf⟩ := bindS hf
  refine pt_X2_19 h0 C w e4 dX2_empty_7 (fun H locs w => ?_)
  exact g_vret C w hr hq hf dX2_empty_10
abbrev f_X2_empty (k0 : Nat) (M : Mem) : Option (Int32 × Mem) := f_X2_empty_0 k0 M
theorem c_X2_empty (hi : gInj 241 ad) {k0 : Nat} (h0 : xR k0) {Rs : Int32 × Mem} (hf : f_X2_empty k0 M = some Rs) : gMet l yX2_empty cX2_empty 1 none 0 D (xty cI cT cS) 241 (xE cI cT cS) ad [.ref (ad k0)] M (qV D 241 (xE cI cT cS) ad Rs) := gMet_of (by decide) hi (xE_loc cI cT cS) (Nat.le_of_ble_eq_true rfl) (fun p e s m args below meth c ls C hr hq w hl => w_X2_empty_0 C hr hq h0 w hl hf)
def f_X2_has_0 (k0 : Nat) (x1 : Int32) (M : Mem) : Option (Int32 × Mem) :=
  if (((M k0 2) >>> (x1 &&& 31)) &&& (1 : Int32)) = 0 then (rtZ (0 : Int32) M) else (rtZ (1 : Int32) M)
set_option maxRecDepth 100000 in
set_option maxHeartbeats 4000000 in
theorem w_X2_has_0 (C : gC p s m args c RX2 cX2_has 2 D (xty cI cT cS) 241 (xE cI cT cS) ad) (hr : meth.sig.returnType = (some .boolean)) (hq : meth.locks = false) {Rs : Int32 × Mem} {k0 : Nat} {x1 : Int32} (h0 : xR k0) (w : gWd D 241 (xE cI cT cS) ad M s H locs) (hl : lv_has ls 2 [(0, .ref (ad k0)), (1, .int x1)]) (hf : f_X2_has_0  k0 x1 M = some Rs) : W p l e (rmH 0) s m args below meth c H locs 0 0 (MQ below (qI D 241 (xE cI cT cS) ad Rs) args s 0 0 (gA 241 ad)) (F0 m 0 ls []) := by
  unfold f_X2_has_0 at hf
  have hx := C.1.1
  have hb := C.1.2.1
  have hi := C.2.2.2.1
  refine lv_aload_n hx hb dX2_has_0 rfl (lv_at hl 0 rfl) ?_
  refine gt_X2_19 h0 C w dX2_has_1 ?_
  refine lv_iload_n hx hb dX2_has_4 rfl (lv_at hl 1 rfl) ?_
  refine lv_ishr hx hb dX2_has_5 ?_
  refine lv_iconst (v := 1) hx hb dX2_has_6 (by decide) ?_
  refine lv_iand hx hb dX2_has_7 ?_
  refine lv_if_eq (tgt := 15) hx hb dX2_has_8 (by decide) (fun c1 => ?_) (fun c1 => ?_)
  · replace hf := (if_pos c1).symm.trans hf
    refine lv_iconst (v := 0) hx hb dX2_has_15 (by decide) ?_
    exact g_zret C w hr hq hf dX2_has_16
  · replace hf := (if_neg c1).symm.trans hf
    refine lv_iconst (v := 1) hx hb dX2_has_11 (by decide) ?_
    refine lv_goto (tgt := 16) hx hb dX2_has_12 (by decide) ?_
    exact g_zret C w hr hq hf dX2_has_16
abbrev f_X2_has (k0 : Nat) (x1 : Int32) (M : Mem) : Option (Int32 × Mem) := f_X2_has_0 k0 x1 M
theorem c_X2_has (hi : gInj 241 ad) {k0 : Nat} {x1 : Int32} (h0 : xR k0) {Rs : Int32 × Mem} (hf : f_X2_has k0 x1 M = some Rs) : gMet l yX2_has cX2_has 2 (some .boolean) 0 D (xty cI cT cS) 241 (xE cI cT cS) ad [.ref (ad k0), .int x1] M (qI D 241 (xE cI cT cS) ad Rs) := gMet_of (by decide) hi (xE_loc cI cT cS) (Nat.le_of_ble_eq_true rfl) (fun p e s m args below meth c ls C hr hq w hl => w_X2_has_0 C hr hq h0 w hl hf)
def f_X2_addOnce_0 (k0 : Nat) (x1 : Int32) (M : Mem) : Option (Int32 × Mem) :=
  (f_X2_has k0 x1 M).bind fun (v3, M1) =>
  if v3 = 0 then (if (16 : Int32) ≤ (M1 k0 1) then (some ((0 : Int32), M1)) else ((stI M1 (k0 + 1) 16 (M1 k0 1) x1).bind fun M6 =>
  (stF M6 k0 1 ((M6 k0 1) + (1 : Int32))).bind fun M8 =>
  (stF M8 k0 2 ((M8 k0 2) ||| ((1 : Int32) <<< (x1 &&& 31)))).bind fun M10 =>
  some ((0 : Int32), M10))) else (some ((0 : Int32), M1))
set_option maxRecDepth 100000 in
set_option maxHeartbeats 4000000 in
theorem w_X2_addOnce_0 (C : gC p s m args c RX2 cX2_addOnce 2 D (xty cI cT cS) 241 (xE cI cT cS) ad) (hr : meth.sig.returnType = none) (hq : meth.locks = false) {Rs : Int32 × Mem} {k0 : Nat} {x1 : Int32} (h0 : xR k0) (w : gWd D 241 (xE cI cT cS) ad M s H locs) (hl : lv_has ls 2 [(0, .ref (ad k0)), (1, .int x1)]) (hf : f_X2_addOnce_0  k0 x1 M = some Rs) : W p l e (rmH 1) s m args below meth c H locs 0 0 (MQ below (qV D 241 (xE cI cT cS) ad Rs) args s 0 0 (gA 241 ad)) (F0 m 0 ls []) := by
  unfold f_X2_addOnce_0 at hf
  have hx := C.1.1
  have hb := C.1.2.1
  have hi := C.2.2.2.1
  refine lv_aload_n hx hb dX2_addOnce_0 rfl (lv_at hl 0 rfl) ?_
  refine lv_iload_n hx hb dX2_addOnce_1 rfl (lv_at hl 1 rfl) ?_
  obtain ⟨⟨v3, M1⟩, e2, hf⟩ := bindS hf
  refine g_backI w (g_runV (rest := []) C w (c_X2_has hi h0 e2) (ob_X2 h0) rfl gv_X2_22 md_X2_has rfl (by omega) (by decide) hl.1 rfl (Nat.le_of_ble_eq_true rfl) dX2_addOnce_2) (fun H locs w => ?_)
  refine lv_if_ne (tgt := 49) hx hb dX2_addOnce_5 (by decide) (fun c4 => ?_) (fun c4 => ?_)
  · replace hf := (if_neg c4).symm.trans hf
    exact g_vret C w hr hq hf dX2_addOnce_49
  · replace hf := (if_pos c4).symm.trans hf
    refine lv_aload_n hx hb dX2_addOnce_8 rfl (lv_at hl 0 rfl) ?_
    refine gt_X2_15 h0 C w dX2_addOnce_9 ?_
    refine lv_bipush (v := 16) hx hb dX2_addOnce_12 (by decide) ?_
    refine lv_icmp_ge (tgt := 49) hx hb dX2_addOnce_14 (by decide) (fun c5 => ?_) (fun c5 => ?_)
    · replace hf := (if_pos c5).symm.trans hf
      exact g_vret C w hr hq hf dX2_addOnce_49
    · replace hf := (if_neg c5).symm.trans hf
      refine lv_aload_n hx hb dX2_addOnce_17 rfl (lv_at hl 0 rfl) ?_
      refine gt_X2_9 h0 C w dX2_addOnce_18 ?_
      refine lv_aload_n hx hb dX2_addOnce_21 rfl (lv_at hl 0 rfl) ?_
      refine gt_X2_15 h0 C w dX2_addOnce_22 ?_
      refine lv_iload_n hx hb dX2_addOnce_25 rfl (lv_at hl 1 rfl) ?_
      obtain ⟨M6, e7, hf⟩ := bindS hf
      refine g_iast C w (xR_a h0) e7 dX2_addOnce_26 (fun H locs w => ?_)
      refine lv_aload_n hx hb dX2_addOnce_27 rfl (lv_at hl 0 rfl) ?_
      refine lv_dup hx hb dX2_addOnce_28 rfl ?_
      refine gt_X2_15 h0 C w dX2_addOnce_29 ?_
      refine lv_iconst (v := 1) hx hb dX2_addOnce_32 (by decide) ?_
      refine lv_iadd hx hb dX2_addOnce_33 ?_
      obtain ⟨M8, e9, hf⟩ := bindS hf
      refine pt_X2_15 h0 C w e9 dX2_addOnce_34 (fun H locs w => ?_)
      refine lv_aload_n hx hb dX2_addOnce_37 rfl (lv_at hl 0 rfl) ?_
      refine lv_dup hx hb dX2_addOnce_38 rfl ?_
      refine gt_X2_19 h0 C w dX2_addOnce_39 ?_
      refine lv_iconst (v := 1) hx hb dX2_addOnce_42 (by decide) ?_
      refine lv_iload_n hx hb dX2_addOnce_43 rfl (lv_at hl 1 rfl) ?_
      refine lv_ishl hx hb dX2_addOnce_44 ?_
      refine lv_ior hx hb dX2_addOnce_45 ?_
      obtain ⟨M10, e11, hf⟩ := bindS hf
      refine pt_X2_19 h0 C w e11 dX2_addOnce_46 (fun H locs w => ?_)
      exact g_vret C w hr hq hf dX2_addOnce_49
abbrev f_X2_addOnce (k0 : Nat) (x1 : Int32) (M : Mem) : Option (Int32 × Mem) := f_X2_addOnce_0 k0 x1 M
theorem c_X2_addOnce (hi : gInj 241 ad) {k0 : Nat} {x1 : Int32} (h0 : xR k0) {Rs : Int32 × Mem} (hf : f_X2_addOnce k0 x1 M = some Rs) : gMet l yX2_addOnce cX2_addOnce 2 none 1 D (xty cI cT cS) 241 (xE cI cT cS) ad [.ref (ad k0), .int x1] M (qV D 241 (xE cI cT cS) ad Rs) := gMet_of (by decide) hi (xE_loc cI cT cS) (Nat.le_of_ble_eq_true rfl) (fun p e s m args below meth c ls C hr hq w hl => w_X2_addOnce_0 C hr hq h0 w hl hf)
def f_X2_addAllOnce_2b (k2_ : (Nat → Nat → Int32 → Mem → Option (Int32 × Mem))) (k0 : Nat) (k1 : Nat) (x2 : Int32) (M : Mem) : Option (Int32 × Mem) :=
  if (M k1 1) ≤ x2 then (some ((0 : Int32), M)) else ((ldI M (k1 + 1) 16 x2).bind fun v2 =>
  (f_X2_addOnce k0 v2 M).bind fun (v6, M4) =>
  k2_ k0 k1 (x2 + 1) M4)
def f_X2_addAllOnce_2 : Nat → Nat → Nat → Int32 → Mem → Option (Int32 × Mem)
  | 0, _, _, _, _ => none
  | n + 1, k0, k1, x2, M => f_X2_addAllOnce_2b (f_X2_addAllOnce_2  n) k0 k1 x2 M
def f_X2_addAllOnce_0 (k0 : Nat) (k1 : Nat) (M : Mem) : Option (Int32 × Mem) :=
  f_X2_addAllOnce_2 FU k0 k1 (0 : Int32) M
set_option maxRecDepth 100000 in
set_option maxHeartbeats 4000000 in
theorem w_X2_addAllOnce_2b (C : gC p s m args c RX2 cX2_addAllOnce 3 D (xty cI cT cS) 241 (xE cI cT cS) ad) (hr : meth.sig.returnType = none) (hq : meth.locks = false) {k2_ : (Nat → Nat → Int32 → Mem → Option (Int32 × Mem))} {Rs : Int32 × Mem} (hk2_ : ∀ {k0 : Nat} {k1 : Nat} {x2 : Int32} {M : Mem} {H : Heap} {locs : List Loc} {ls : Array Slot} (h0 : xR k0) (h1 : xR k1), gWd D 241 (xE cI cT cS) ad M s H locs → lv_has ls 3 [(0, .ref (ad k0)), (1, .ref (ad k1)), (2, .int x2)] → k2_ k0 k1 x2 M = some Rs → W p l e (rmH 2) s m args below meth c H locs 0 0 (MQ below (qV D 241 (xE cI cT cS) ad Rs) args s 0 0 (gA 241 ad)) (F0 m 2 ls [])) {k0 : Nat} {k1 : Nat} {x2 : Int32} (h0 : xR k0) (h1 : xR k1) (w : gWd D 241 (xE cI cT cS) ad M s H locs) (hl : lv_has ls 3 [(0, .ref (ad k0)), (1, .ref (ad k1)), (2, .int x2)]) (hf : f_X2_addAllOnce_2b k2_ k0 k1 x2 M = some Rs) : W p l e (rmH 2) s m args below meth c H locs 0 0 (MQ below (qV D 241 (xE cI cT cS) ad Rs) args s 0 0 (gA 241 ad)) (F0 m 2 ls []) := by
  unfold f_X2_addAllOnce_2b at hf
  have hx := C.1.1
  have hb := C.1.2.1
  have hi := C.2.2.2.1
  refine lv_iload_n hx hb dX2_addAllOnce_2 rfl (lv_at hl 2 rfl) ?_
  refine lv_aload_n hx hb dX2_addAllOnce_3 rfl (lv_at hl 1 rfl) ?_
  refine gt_X2_15 h1 C w dX2_addAllOnce_4 ?_
  refine lv_icmp_ge (tgt := 26) hx hb dX2_addAllOnce_7 (by decide) (fun c1 => ?_) (fun c1 => ?_)
  · replace hf := (if_pos c1).symm.trans hf
    exact g_vret C w hr hq hf dX2_addAllOnce_26
  · replace hf := (if_neg c1).symm.trans hf
    refine lv_aload_n hx hb dX2_addAllOnce_10 rfl (lv_at hl 0 rfl) ?_
    refine lv_aload_n hx hb dX2_addAllOnce_11 rfl (lv_at hl 1 rfl) ?_
    refine gt_X2_9 h1 C w dX2_addAllOnce_12 ?_
    refine lv_iload_n hx hb dX2_addAllOnce_15 rfl (lv_at hl 2 rfl) ?_
    obtain ⟨v2, e3, hf⟩ := bindS hf
    refine g_iald C w (xR_a h1) e3 dX2_addAllOnce_16 ?_
    obtain ⟨⟨v6, M4⟩, e5, hf⟩ := bindS hf
    refine g_backV w (g_runV (rest := []) C w (c_X2_addOnce hi h0 e5) (ob_X2 h0) rfl gv_X2_26 md_X2_addOnce rfl (by omega) (by decide) hl.1 rfl (Nat.le_of_ble_eq_true rfl) dX2_addAllOnce_17) (fun H locs w => ?_)
    refine lv_iinc (v := (x2 + 1)) (lv' := [(2, .int (x2 + 1)), (0, .ref (ad k0)), (1, .ref (ad k1))]) hx hb dX2_addAllOnce_20 hl (k := 2) rfl rfl (by decide) rfl (fun ls hl => ?_)
    refine lv_goto (tgt := 2) hx hb dX2_addAllOnce_23 (by decide) ?_
    exact hk2_ h0 h1 w (lv_sub hl [1, 2, 0] rfl) hf
theorem w_X2_addAllOnce_2 (C : gC p s m args c RX2 cX2_addAllOnce 3 D (xty cI cT cS) 241 (xE cI cT cS) ad) (hr : meth.sig.returnType = none) (hq : meth.locks = false) {Rs : Int32 × Mem} : ∀ (n : Nat) {k0 : Nat} {k1 : Nat} {x2 : Int32} {M : Mem} {H : Heap} {locs : List Loc} {ls : Array Slot} (h0 : xR k0) (h1 : xR k1), gWd D 241 (xE cI cT cS) ad M s H locs → lv_has ls 3 [(0, .ref (ad k0)), (1, .ref (ad k1)), (2, .int x2)] → f_X2_addAllOnce_2  n k0 k1 x2 M = some Rs → W p l e (rmH 2) s m args below meth c H locs 0 0 (MQ below (qV D 241 (xE cI cT cS) ad Rs) args s 0 0 (gA 241 ad)) (F0 m 2 ls []) := by
  intro n
  induction n with
  | zero =>
    intro k0 k1 x2 M H locs ls h0 h1 w hl hf
    cases hf
  | succ n ih =>
    intro k0 k1 x2 M H locs ls h0 h1 w hl hf
    exact w_X2_addAllOnce_2b C hr hq ih h0 h1 w hl hf
set_option maxRecDepth 100000 in
set_option maxHeartbeats 4000000 in
theorem w_X2_addAllOnce_0 (C : gC p s m args c RX2 cX2_addAllOnce 3 D (xty cI cT cS) 241 (xE cI cT cS) ad) (hr : meth.sig.returnType = none) (hq : meth.locks = false) {Rs : Int32 × Mem} {k0 : Nat} {k1 : Nat} (h0 : xR k0) (h1 : xR k1) (w : gWd D 241 (xE cI cT cS) ad M s H locs) (hl : lv_has ls 3 [(0, .ref (ad k0)), (1, .ref (ad k1))]) (hf : f_X2_addAllOnce_0  k0 k1 M = some Rs) : W p l e (rmH 2) s m args below meth c H locs 0 0 (MQ below (qV D 241 (xE cI cT cS) ad Rs) args s 0 0 (gA 241 ad)) (F0 m 0 ls []) := by
  unfold f_X2_addAllOnce_0 at hf
  have hx := C.1.1
  have hb := C.1.2.1
  have hi := C.2.2.2.1
  refine lv_iconst (v := 0) hx hb dX2_addAllOnce_0 (by decide) ?_
  refine lv_istore_n (lv' := [(2, .int (0 : Int32)), (0, .ref (ad k0)), (1, .ref (ad k1))]) hx hb dX2_addAllOnce_1 rfl hl (by decide) rfl (fun ls hl => ?_)
  exact w_X2_addAllOnce_2 C hr hq FU h0 h1 w (lv_sub hl [1, 2, 0] rfl) hf
abbrev f_X2_addAllOnce (k0 : Nat) (k1 : Nat) (M : Mem) : Option (Int32 × Mem) := f_X2_addAllOnce_0 k0 k1 M
theorem c_X2_addAllOnce (hi : gInj 241 ad) {k0 : Nat} {k1 : Nat} (h0 : xR k0) (h1 : xR k1) {Rs : Int32 × Mem} (hf : f_X2_addAllOnce k0 k1 M = some Rs) : gMet l yX2_addAllOnce cX2_addAllOnce 3 none 2 D (xty cI cT cS) 241 (xE cI cT cS) ad [.ref (ad k0), .ref (ad k1)] M (qV D 241 (xE cI cT cS) ad Rs) := gMet_of (by decide) hi (xE_loc cI cT cS) (Nat.le_of_ble_eq_true rfl) (fun p e s m args below meth c ls C hr hq w hl => w_X2_addAllOnce_0 C hr hq h0 h1 w hl hf)
def f_X1_numberOf_0 (k0 : Nat) (x1 : Int32) (x2 : Int32) (M : Mem) : Option (Int32 × Mem) :=
  (ldI M (k0 + 2) 80 ((x1 * (5 : Int32)) + x2)).bind fun v1 =>
  some (v1, M)
set_option maxRecDepth 100000 in
set_option maxHeartbeats 4000000 in
theorem w_X1_numberOf_0 (C : gC p s m args c RX1 cX1_numberOf 3 D (xty cI cT cS) 241 (xE cI cT cS) ad) (hr : meth.sig.returnType = (some .int)) (hq : meth.locks = false) {Rs : Int32 × Mem} {k0 : Nat} {x1 : Int32} {x2 : Int32} (h0 : xP k0) (w : gWd D 241 (xE cI cT cS) ad M s H locs) (hl : lv_has ls 3 [(0, .ref (ad k0)), (1, .int x1), (2, .int x2)]) (hf : f_X1_numberOf_0  k0 x1 x2 M = some Rs) : W p l e (rmH 0) s m args below meth c H locs 0 0 (MQ below (qI D 241 (xE cI cT cS) ad Rs) args s 0 0 (gA 241 ad)) (F0 m 0 ls []) := by
  unfold f_X1_numberOf_0 at hf
  have hx := C.1.1
  have hb := C.1.2.1
  have hi := C.2.2.2.1
  refine lv_aload_n hx hb dX1_numberOf_0 rfl (lv_at hl 0 rfl) ?_
  refine gt_X1_15 h0 C w dX1_numberOf_1 ?_
  refine lv_iload_n hx hb dX1_numberOf_4 rfl (lv_at hl 1 rfl) ?_
  refine lv_iconst (v := 5) hx hb dX1_numberOf_5 (by decide) ?_
  refine lv_imul hx hb dX1_numberOf_6 ?_
  refine lv_iload_n hx hb dX1_numberOf_7 rfl (lv_at hl 2 rfl) ?_
  refine lv_iadd hx hb dX1_numberOf_8 ?_
  obtain ⟨v1, e2, hf⟩ := bindS hf
  refine g_iald C w (xP_n h0) e2 dX1_numberOf_9 ?_
  exact g_iret C w hr hq hf dX1_numberOf_10
abbrev f_X1_numberOf (k0 : Nat) (x1 : Int32) (x2 : Int32) (M : Mem) : Option (Int32 × Mem) := f_X1_numberOf_0 k0 x1 x2 M
theorem c_X1_numberOf (hi : gInj 241 ad) {k0 : Nat} {x1 : Int32} {x2 : Int32} (h0 : xP k0) {Rs : Int32 × Mem} (hf : f_X1_numberOf k0 x1 x2 M = some Rs) : gMet l yX1_numberOf cX1_numberOf 3 (some .int) 0 D (xty cI cT cS) 241 (xE cI cT cS) ad [.ref (ad k0), .int x1, .int x2] M (qI D 241 (xE cI cT cS) ad Rs) := gMet_of (by decide) hi (xE_loc cI cT cS) (Nat.le_of_ble_eq_true rfl) (fun p e s m args below meth c ls C hr hq w hl => w_X1_numberOf_0 C hr hq h0 w hl hf)
def f_X1_setNumber_0 (k0 : Nat) (x1 : Int32) (x2 : Int32) (x3 : Int32) (M : Mem) : Option (Int32 × Mem) :=
  (stI M (k0 + 2) 80 ((x1 * (5 : Int32)) + x2) x3).bind fun M1 =>
  some ((0 : Int32), M1)
set_option maxRecDepth 100000 in
set_option maxHeartbeats 4000000 in
theorem w_X1_setNumber_0 (C : gC p s m args c RX1 cX1_setNumber 4 D (xty cI cT cS) 241 (xE cI cT cS) ad) (hr : meth.sig.returnType = none) (hq : meth.locks = false) {Rs : Int32 × Mem} {k0 : Nat} {x1 : Int32} {x2 : Int32} {x3 : Int32} (h0 : xP k0) (w : gWd D 241 (xE cI cT cS) ad M s H locs) (hl : lv_has ls 4 [(0, .ref (ad k0)), (1, .int x1), (2, .int x2), (3, .int x3)]) (hf : f_X1_setNumber_0  k0 x1 x2 x3 M = some Rs) : W p l e (rmH 0) s m args below meth c H locs 0 0 (MQ below (qV D 241 (xE cI cT cS) ad Rs) args s 0 0 (gA 241 ad)) (F0 m 0 ls []) := by
  unfold f_X1_setNumber_0 at hf
  have hx := C.1.1
  have hb := C.1.2.1
  have hi := C.2.2.2.1
  refine lv_aload_n hx hb dX1_setNumber_0 rfl (lv_at hl 0 rfl) ?_
  refine gt_X1_15 h0 C w dX1_setNumber_1 ?_
  refine lv_iload_n hx hb dX1_setNumber_4 rfl (lv_at hl 1 rfl) ?_
  refine lv_iconst (v := 5) hx hb dX1_setNumber_5 (by decide) ?_
  refine lv_imul hx hb dX1_setNumber_6 ?_
  refine lv_iload_n hx hb dX1_setNumber_7 rfl (lv_at hl 2 rfl) ?_
  refine lv_iadd hx hb dX1_setNumber_8 ?_
  refine lv_iload_n hx hb dX1_setNumber_9 rfl (lv_at hl 3 rfl) ?_
  obtain ⟨M1, e2, hf⟩ := bindS hf
  refine g_iast C w (xP_n h0) e2 dX1_setNumber_10 (fun H locs w => ?_)
  exact g_vret C w hr hq hf dX1_setNumber_11
abbrev f_X1_setNumber (k0 : Nat) (x1 : Int32) (x2 : Int32) (x3 : Int32) (M : Mem) : Option (Int32 × Mem) := f_X1_setNumber_0 k0 x1 x2 x3 M
theorem c_X1_setNumber (hi : gInj 241 ad) {k0 : Nat} {x1 : Int32} {x2 : Int32} {x3 : Int32} (h0 : xP k0) {Rs : Int32 × Mem} (hf : f_X1_setNumber k0 x1 x2 x3 M = some Rs) : gMet l yX1_setNumber cX1_setNumber 4 none 0 D (xty cI cT cS) 241 (xE cI cT cS) ad [.ref (ad k0), .int x1, .int x2, .int x3] M (qV D 241 (xE cI cT cS) ad Rs) := gMet_of (by decide) hi (xE_loc cI cT cS) (Nat.le_of_ble_eq_true rfl) (fun p e s m args below meth c ls C hr hq w hl => w_X1_setNumber_0 C hr hq h0 w hl hf)
def f_X1_forget_22 (k4_ : (Nat → Int32 → Int32 → Mem → Option (Int32 × Mem))) (k0 : Nat) (x1 : Int32) (x2 : Int32) (M : Mem) : Option (Int32 × Mem) :=
  k4_ k0 x1 (x2 + 1) M
def f_X1_forget_4b (k4_ : (Nat → Int32 → Int32 → Mem → Option (Int32 × Mem))) (k0 : Nat) (x1 : Int32) (x2 : Int32) (M : Mem) : Option (Int32 × Mem) :=
  if (16 : Int32) ≤ x2 then ((f_J7_fill_53178 16 (k0 + 1) (0 : Int32) M).bind fun (v4, M2) =>
  (f_J7_fill_53178 80 (k0 + 2) (0 : Int32) M2).bind fun (v7, M5) =>
  some (x1, M5)) else ((ldI M (k0 + 1) 16 x2).bind fun v8 =>
  if v8 = 0 then (f_X1_forget_22 k4_ k0 x1 x2 M) else (f_X1_forget_22 k4_ k0 (x1 + 1) x2 M))
def f_X1_forget_4 : Nat → Nat → Int32 → Int32 → Mem → Option (Int32 × Mem)
  | 0, _, _, _, _ => none
  | n + 1, k0, x1, x2, M => f_X1_forget_4b (f_X1_forget_4  n) k0 x1 x2 M
def f_X1_forget_0 (k0 : Nat) (M : Mem) : Option (Int32 × Mem) :=
  f_X1_forget_4 FU k0 (0 : Int32) (0 : Int32) M
set_option maxRecDepth 100000 in
set_option maxHeartbeats 4000000 in
theorem w_X1_forget_22 (C : gC p s m args c RX1 cX1_forget 3 D (xty cI cT cS) 241 (xE cI cT cS) ad) (hr : meth.sig.returnType = (some .int)) (hq : meth.locks = false) {k4_ : (Nat → Int32 → Int32 → Mem → Option (Int32 × Mem))} {Rs : Int32 × Mem} (hk4_ : ∀ {k0 : Nat} {x1 : Int32} {x2 : Int32} {M : Mem} {H : Heap} {locs : List Loc} {ls : Array Slot} (h0 : xP k0), gWd D 241 (xE cI cT cS) ad M s H locs → lv_has ls 3 [(0, .ref (ad k0)), (1, .int x1), (2, .int x2)] → k4_ k0 x1 x2 M = some Rs → W p l e (rmH 1) s m args below meth c H locs 0 0 (MQ below (qI D 241 (xE cI cT cS) ad Rs) args s 0 0 (gA 241 ad)) (F0 m 4 ls [])) {k0 : Nat} {x1 : Int32} {x2 : Int32} (h0 : xP k0) (w : gWd D 241 (xE cI cT cS) ad M s H locs) (hl : lv_has ls 3 [(0, .ref (ad k0)), (1, .int x1), (2, .int x2)]) (hf : f_X1_forget_22 k4_ k0 x1 x2 M = some Rs) : W p l e (rmH 1) s m args below meth c H locs 0 0 (MQ below (qI D 241 (xE cI cT cS) ad Rs) args s 0 0 (gA 241 ad)) (F0 m 22 ls []) := by
  unfold f_X1_forget_22 at hf
  have hx := C.1.1
  have hb := C.1.2.1
  have hi := C.2.2.2.1
  refine lv_iinc (v := (x2 + 1)) (lv' := [(2, .int (x2 + 1)), (0, .ref (ad k0)), (1, .int x1)]) hx hb dX1_forget_22 hl (k := 2) rfl rfl (by decide) rfl (fun ls hl => ?_)
  refine lv_goto (tgt := 4) hx hb dX1_forget_25 (by decide) ?_
  exact hk4_ h0 w (lv_sub hl [1, 2, 0] rfl) hf
set_option maxRecDepth 100000 in
set_option maxHeartbeats 4000000 in
theorem w_X1_forget_4b (C : gC p s m args c RX1 cX1_forget 3 D (xty cI cT cS) 241 (xE cI cT cS) ad) (hr : meth.sig.returnType = (some .int)) (hq : meth.locks = false) {k4_ : (Nat → Int32 → Int32 → Mem → Option (Int32 × Mem))} {Rs : Int32 × Mem} (hk4_ : ∀ {k0 : Nat} {x1 : Int32} {x2 : Int32} {M : Mem} {H : Heap} {locs : List Loc} {ls : Array Slot} (h0 : xP k0), gWd D 241 (xE cI cT cS) ad M s H locs → lv_has ls 3 [(0, .ref (ad k0)), (1, .int x1), (2, .int x2)] → k4_ k0 x1 x2 M = some Rs → W p l e (rmH 1) s m args below meth c H locs 0 0 (MQ below (qI D 241 (xE cI cT cS) ad Rs) args s 0 0 (gA 241 ad)) (F0 m 4 ls [])) {k0 : Nat} {x1 : Int32} {x2 : Int32} (h0 : xP k0) (w : gWd D 241 (xE cI cT cS) ad M s H locs) (hl : lv_has ls 3 [(0, .ref (ad k0)), (1, .int x1), (2, .int x2)]) (hf : f_X1_forget_4b k4_ k0 x1 x2 M = some Rs) : W p l e (rmH 1) s m args below meth c H locs 0 0 (MQ below (qI D 241 (xE cI cT cS) ad Rs) args s 0 0 (gA 241 ad)) (F0 m 4 ls []) := by
  unfold f_X1_forget_4b at hf
  have hx := C.1.1
  have hb := C.1.2.1
  have hi := C.2.2.2.1
  refine lv_iload_n hx hb dX1_forget_4 rfl (lv_at hl 2 rfl) ?_
  refine lv_bipush (v := 16) hx hb dX1_forget_5 (by decide) ?_
  refine lv_icmp_ge (tgt := 28) hx hb dX1_forget_7 (by decide) (fun c1 => ?_) (fun c1 => ?_)
  · replace hf := (if_pos c1).symm.trans hf
    refine lv_aload_n hx hb dX1_forget_28 rfl (lv_at hl 0 rfl) ?_
    refine gt_X1_9 h0 C w dX1_forget_29 ?_
    refine lv_iconst (v := 0) hx hb dX1_forget_32 (by decide) ?_
    obtain ⟨⟨v4, M2⟩, e3, hf⟩ := bindS hf
    refine g_backV w (g_runS (rest := []) C w (c_J7_fill_53178 hi (xP_s h0) e3) gs_X1_18 md_J7_fill_53178 rfl (by omega) (by decide) hl.1 rfl (Nat.le_of_ble_eq_true rfl) dX1_forget_33) (fun H locs w => ?_)
    refine lv_aload_n hx hb dX1_forget_36 rfl (lv_at hl 0 rfl) ?_
    refine gt_X1_15 h0 C w dX1_forget_37 ?_
    refine lv_iconst (v := 0) hx hb dX1_forget_40 (by decide) ?_
    obtain ⟨⟨v7, M5⟩, e6, hf⟩ := bindS hf
    refine g_backV w (g_runS (rest := []) C w (c_J7_fill_53178 hi (xP_n h0) e6) gs_X1_18 md_J7_fill_53178 rfl (by omega) (by decide) hl.1 rfl (Nat.le_of_ble_eq_true rfl) dX1_forget_41) (fun H locs w => ?_)
    refine lv_iload_n hx hb dX1_forget_44 rfl (lv_at hl 1 rfl) ?_
    exact g_iret C w hr hq hf dX1_forget_45
  · replace hf := (if_neg c1).symm.trans hf
    refine lv_aload_n hx hb dX1_forget_10 rfl (lv_at hl 0 rfl) ?_
    refine gt_X1_9 h0 C w dX1_forget_11 ?_
    refine lv_iload_n hx hb dX1_forget_14 rfl (lv_at hl 2 rfl) ?_
    obtain ⟨v8, e9, hf⟩ := bindS hf
    refine g_iald C w (xP_s h0) e9 dX1_forget_15 ?_
    refine lv_if_eq (tgt := 22) hx hb dX1_forget_16 (by decide) (fun c10 => ?_) (fun c10 => ?_)
    · replace hf := (if_pos c10).symm.trans hf
      exact w_X1_forget_22 C hr hq hk4_ h0 w (lv_sub hl [0, 1, 2] rfl) hf
    · replace hf := (if_neg c10).symm.trans hf
      refine lv_iinc (v := (x1 + 1)) (lv' := [(1, .int (x1 + 1)), (0, .ref (ad k0)), (2, .int x2)]) hx hb dX1_forget_19 hl (k := 1) rfl rfl (by decide) rfl (fun ls hl => ?_)
      exact w_X1_forget_22 C hr hq hk4_ h0 w (lv_sub hl [1, 0, 2] rfl) hf
theorem w_X1_forget_4 (C : gC p s m args c RX1 cX1_forget 3 D (xty cI cT cS) 241 (xE cI cT cS) ad) (hr : meth.sig.returnType = (some .int)) (hq : meth.locks = false) {Rs : Int32 × Mem} : ∀ (n : Nat) {k0 : Nat} {x1 : Int32} {x2 : Int32} {M : Mem} {H : Heap} {locs : List Loc} {ls : Array Slot} (h0 : xP k0), gWd D 241 (xE cI cT cS) ad M s H locs → lv_has ls 3 [(0, .ref (ad k0)), (1, .int x1), (2, .int x2)] → f_X1_forget_4  n k0 x1 x2 M = some Rs → W p l e (rmH 1) s m args below meth c H locs 0 0 (MQ below (qI D 241 (xE cI cT cS) ad Rs) args s 0 0 (gA 241 ad)) (F0 m 4 ls []) := by
  intro n
  induction n with
  | zero =>
    intro k0 x1 x2 M H locs ls h0 w hl hf
    cases hf
  | succ n ih =>
    intro k0 x1 x2 M H locs ls h0 w hl hf
    exact w_X1_forget_4b C hr hq ih h0 w hl hf
set_option maxRecDepth 100000 in
set_option maxHeartbeats 4000000 in
theorem w_X1_forget_0 (C : gC p s m args c RX1 cX1_forget 3 D (xty cI cT cS) 241 (xE cI cT cS) ad) (hr : meth.sig.returnType = (some .int)) (hq : meth.locks = false) {Rs : Int32 × Mem} {k0 : Nat} (h0 : xP k0) (w : gWd D 241 (xE cI cT cS) ad M s H locs) (hl : lv_has ls 3 [(0, .ref (ad k0))]) (hf : f_X1_forget_0  k0 M = some Rs) : W p l e (rmH 1) s m args below meth c H locs 0 0 (MQ below (qI D 241 (xE cI cT cS) ad Rs) args s 0 0 (gA 241 ad)) (F0 m 0 ls []) := by
  unfold f_X1_forget_0 at hf
  have hx := C.1.1
  have hb := C.1.2.1
  have hi := C.2.2.2.1
  refine lv_iconst (v := 0) hx hb dX1_forget_0 (by decide) ?_
  refine lv_istore_n (lv' := [(1, .int (0 : Int32)), (0, .ref (ad k0))]) hx hb dX1_forget_1 rfl hl (by decide) rfl (fun ls hl => ?_)
  refine lv_iconst (v := 0) hx hb dX1_forget_2 (by decide) ?_
  refine lv_istore_n (lv' := [(2, .int (0 : Int32)), (1, .int (0 : Int32)), (0, .ref (ad k0))]) hx hb dX1_forget_3 rfl hl (by decide) rfl (fun ls hl => ?_)
  exact w_X1_forget_4 C hr hq FU h0 w (lv_sub hl [2, 1, 0] rfl) hf
abbrev f_X1_forget (k0 : Nat) (M : Mem) : Option (Int32 × Mem) := f_X1_forget_0 k0 M
theorem c_X1_forget (hi : gInj 241 ad) {k0 : Nat} (h0 : xP k0) {Rs : Int32 × Mem} (hf : f_X1_forget k0 M = some Rs) : gMet l yX1_forget cX1_forget 3 (some .int) 1 D (xty cI cT cS) 241 (xE cI cT cS) ad [.ref (ad k0)] M (qI D 241 (xE cI cT cS) ad Rs) := gMet_of (by decide) hi (xE_loc cI cT cS) (Nat.le_of_ble_eq_true rfl) (fun p e s m args below meth c ls C hr hq w hl => w_X1_forget_0 C hr hq h0 w hl hf)
def f_X3_forget_0 (k0 : Nat) (M : Mem) : Option (Int32 × Mem) :=
  (f_J7_fill_53178 16 (k0 + 4) (0 : Int32) M).bind fun (v3, M1) =>
  (stF M1 k0 3 (-1 : Int32)).bind fun M4 =>
  (f_X1_forget (k0 + 1) M4).bind fun (v8, M6) =>
  some (v8, M6)
set_option maxRecDepth 100000 in
set_option maxHeartbeats 4000000 in
theorem w_X3_forget_0 (C : gC p s m args c RX3 cX3_forget 1 D (xty cI cT cS) 241 (xE cI cT cS) ad) (hr : meth.sig.returnType = (some .int)) (hq : meth.locks = false) {Rs : Int32 × Mem} {k0 : Nat} (h0 : xS k0) (w : gWd D 241 (xE cI cT cS) ad M s H locs) (hl : lv_has ls 1 [(0, .ref (ad k0))]) (hf : f_X3_forget_0  k0 M = some Rs) : W p l e (rmH 2) s m args below meth c H locs 0 0 (MQ below (qI D 241 (xE cI cT cS) ad Rs) args s 0 0 (gA 241 ad)) (F0 m 0 ls []) := by
  unfold f_X3_forget_0 at hf
  have hx := C.1.1
  have hb := C.1.2.1
  have hi := C.2.2.2.1
  refine lv_aload_n hx hb dX3_forget_0 rfl (lv_at hl 0 rfl) ?_
  refine gt_X3_18 h0 C w dX3_forget_1 ?_
  refine lv_iconst (v := 0) hx hb dX3_forget_4 (by decide) ?_
  obtain ⟨⟨v3, M1⟩, e2, hf⟩ := bindS hf
  refine g_backV w (g_runS (rest := []) C w (c_J7_fill_53178 hi (xS_g h0) e2) gs_X3_29 md_J7_fill_53178 rfl (by omega) (by decide) hl.1 rfl (Nat.le_of_ble_eq_true rfl) dX3_forget_5) (fun H locs w => ?_)
  refine lv_aload_n hx hb dX3_forget_8 rfl (lv_at hl 0 rfl) ?_
  refine lv_iconst (v := -1) hx hb dX3_forget_9 (by decide) ?_
  obtain ⟨M4, e5, hf⟩ := bindS hf
  refine pt_X3_26 h0 C w e5 dX3_forget_10 (fun H locs w => ?_)
  refine lv_aload_n hx hb dX3_forget_13 rfl (lv_at hl 0 rfl) ?_
  refine gt_X3_12 h0 C w dX3_forget_14 ?_
  obtain ⟨⟨v8, M6⟩, e7, hf⟩ := bindS hf
  refine g_backI w (g_runV (rest := []) C w (c_X1_forget hi (xS_p h0) e7) (ob_X1 (xS_p h0)) rfl gv_X3_35 md_X1_forget rfl (by omega) (by decide) hl.1 rfl (Nat.le_of_ble_eq_true rfl) dX3_forget_17) (fun H locs w => ?_)
  exact g_iret C w hr hq hf dX3_forget_20
abbrev f_X3_forget (k0 : Nat) (M : Mem) : Option (Int32 × Mem) := f_X3_forget_0 k0 M
theorem c_X3_forget (hi : gInj 241 ad) {k0 : Nat} (h0 : xS k0) {Rs : Int32 × Mem} (hf : f_X3_forget k0 M = some Rs) : gMet l yX3_forget cX3_forget 1 (some .int) 2 D (xty cI cT cS) 241 (xE cI cT cS) ad [.ref (ad k0)] M (qI D 241 (xE cI cT cS) ad Rs) := gMet_of (by decide) hi (xE_loc cI cT cS) (Nat.le_of_ble_eq_true rfl) (fun p e s m args below meth c ls C hr hq w hl => w_X3_forget_0 C hr hq h0 w hl hf)
def f_X4_begin_0 (k0 : Nat) (x1 : Int32) (x2 : Int32) (x3 : Int32) (M : Mem) : Option (Int32 × Mem) :=
  (stF M k0 0 x1).bind fun M1 =>
  (stF M1 k0 1 x2).bind fun M3 =>
  (stFZ M3 k0 2 x3).bind fun M5 =>
  (f_X2_empty (k0 + 1) M5).bind fun (v9, M7) =>
  (f_J7_fill_53178 5 (k0 + 7) (0 : Int32) M7).bind fun (v12, M10) =>
  (stF M10 k0 12 (0 : Int32)).bind fun M13 =>
  some ((0 : Int32), M13)
set_option maxRecDepth 100000 in
set_option maxHeartbeats 4000000 in
theorem w_X4_begin_0 (C : gC p s m args c RX4 cX4_begin 4 D (xty cI cT cS) 241 (xE cI cT cS) ad) (hr : meth.sig.returnType = none) (hq : meth.locks = false) {Rs : Int32 × Mem} {k0 : Nat} {x1 : Int32} {x2 : Int32} {x3 : Int32} (h0 : xT k0) (w : gWd D 241 (xE cI cT cS) ad M s H locs) (hl : lv_has ls 4 [(0, .ref (ad k0)), (1, .int x1), (2, .int x2), (3, .int x3)]) (hf : f_X4_begin_0  k0 x1 x2 x3 M = some Rs) : W p l e (rmH 1) s m args below meth c H locs 0 0 (MQ below (qV D 241 (xE cI cT cS) ad Rs) args s 0 0 (gA 241 ad)) (F0 m 0 ls []) := by
  unfold f_X4_begin_0 at hf
  have hx := C.1.1
  have hb := C.1.2.1
  have hi := C.2.2.2.1
  refine lv_aload_n hx hb dX4_begin_0 rfl (lv_at hl 0 rfl) ?_
  refine lv_iload_n hx hb dX4_begin_1 rfl (lv_at hl 1 rfl) ?_
  obtain ⟨M1, e2, hf⟩ := bindS hf
  refine pt_X4_47 h0 C w e2 dX4_begin_2 (fun H locs w => ?_)
  refine lv_aload_n hx hb dX4_begin_5 rfl (lv_at hl 0 rfl) ?_
  refine lv_iload_n hx hb dX4_begin_6 rfl (lv_at hl 2 rfl) ?_
  obtain ⟨M3, e4, hf⟩ := bindS hf
  refine pt_X4_9 h0 C w e4 dX4_begin_7 (fun H locs w => ?_)
  refine lv_aload_n hx hb dX4_begin_10 rfl (lv_at hl 0 rfl) ?_
  refine lv_iload_n hx hb dX4_begin_11 rfl (lv_at hl 3 rfl) ?_
  obtain ⟨M5, e6, hf⟩ := bindS hf
  refine pt_X4_50 h0 C w e6 dX4_begin_12 (fun H locs w => ?_)
  refine lv_aload_n hx hb dX4_begin_15 rfl (lv_at hl 0 rfl) ?_
  refine gt_X4_18 h0 C w dX4_begin_16 ?_
  obtain ⟨⟨v9, M7⟩, e8, hf⟩ := bindS hf
  refine g_backV w (g_runV (rest := []) C w (c_X2_empty hi (xT_r1 h0) e8) (ob_X2 (xT_r1 h0)) rfl gv_X4_54 md_X2_empty rfl (by omega) (by decide) hl.1 rfl (Nat.le_of_ble_eq_true rfl) dX4_begin_19) (fun H locs w => ?_)
  refine lv_aload_n hx hb dX4_begin_22 rfl (lv_at hl 0 rfl) ?_
  refine gt_X4_28 h0 C w dX4_begin_23 ?_
  refine lv_iconst (v := 0) hx hb dX4_begin_26 (by decide) ?_
  obtain ⟨⟨v12, M10⟩, e11, hf⟩ := bindS hf
  refine g_backV w (g_runS (rest := []) C w (c_J7_fill_53178 hi (xT_a7 h0) e11) gs_X4_57 md_J7_fill_53178 rfl (by omega) (by decide) hl.1 rfl (Nat.le_of_ble_eq_true rfl) dX4_begin_27) (fun H locs w => ?_)
  refine lv_aload_n hx hb dX4_begin_30 rfl (lv_at hl 0 rfl) ?_
  refine lv_iconst (v := 0) hx hb dX4_begin_31 (by decide) ?_
  obtain ⟨M13, e14, hf⟩ := bindS hf
  refine pt_X4_63 h0 C w e14 dX4_begin_32 (fun H locs w => ?_)
  exact g_vret C w hr hq hf dX4_begin_35
abbrev f_X4_begin (k0 : Nat) (x1 : Int32) (x2 : Int32) (x3 : Int32) (M : Mem) : Option (Int32 × Mem) := f_X4_begin_0 k0 x1 x2 x3 M
theorem c_X4_begin (hi : gInj 241 ad) {k0 : Nat} {x1 : Int32} {x2 : Int32} {x3 : Int32} (h0 : xT k0) {Rs : Int32 × Mem} (hf : f_X4_begin k0 x1 x2 x3 M = some Rs) : gMet l yX4_begin cX4_begin 4 none 1 D (xty cI cT cS) 241 (xE cI cT cS) ad [.ref (ad k0), .int x1, .int x2, .int x3] M (qV D 241 (xE cI cT cS) ad Rs) := gMet_of (by decide) hi (xE_loc cI cT cS) (Nat.le_of_ble_eq_true rfl) (fun p e s m args below meth c ls C hr hq w hl => w_X4_begin_0 C hr hq h0 w hl hf)
def f_X4_addLine_0 (k0 : Nat) (x1 : Int32) (x2 : Int32) (x3 : Int32) (x4 : Int32) (M : Mem) : Option (Int32 × Mem) :=
  if (8 : Int32) ≤ (M k0 12) then (some ((M k0 12), M)) else ((stI M (k0 + 9) 8 (M k0 12) x1).bind fun M2 =>
  (stI M2 (k0 + 10) 8 (M2 k0 12) x2).bind fun M4 =>
  (stI M4 (k0 + 11) 8 (M4 k0 12) x3).bind fun M6 =>
  (stI M6 (k0 + 12) 8 (M6 k0 12) x4).bind fun M8 =>
  (stF M8 k0 12 ((M8 k0 12) + (1 : Int32))).bind fun M10 =>
  some ((M10 k0 12), M10))
set_option maxRecDepth 100000 in
set_option maxHeartbeats 4000000 in
theorem w_X4_addLine_0 (C : gC p s m args c RX4 cX4_addLine 5 D (xty cI cT cS) 241 (xE cI cT cS) ad) (hr : meth.sig.returnType = (some .int)) (hq : meth.locks = false) {Rs : Int32 × Mem} {k0 : Nat} {x1 : Int32} {x2 : Int32} {x3 : Int32} {x4 : Int32} (h0 : xT k0) (w : gWd D 241 (xE cI cT cS) ad M s H locs) (hl : lv_has ls 5 [(0, .ref (ad k0)), (1, .int x1), (2, .int x2), (3, .int x3), (4, .int x4)]) (hf : f_X4_addLine_0  k0 x1 x2 x3 x4 M = some Rs) : W p l e (rmH 0) s m args below meth c H locs 0 0 (MQ below (qI D 241 (xE cI cT cS) ad Rs) args s 0 0 (gA 241 ad)) (F0 m 0 ls []) := by
  unfold f_X4_addLine_0 at hf
  have hx := C.1.1
  have hb := C.1.2.1
  have hi := C.2.2.2.1
  refine lv_aload_n hx hb dX4_addLine_0 rfl (lv_at hl 0 rfl) ?_
  refine gt_X4_63 h0 C w dX4_addLine_1 ?_
  refine lv_bipush (v := 8) hx hb dX4_addLine_4 (by decide) ?_
  refine lv_icmp_ge (tgt := 60) hx hb dX4_addLine_6 (by decide) (fun c1 => ?_) (fun c1 => ?_)
  · replace hf := (if_pos c1).symm.trans hf
    refine lv_aload_n hx hb dX4_addLine_60 rfl (lv_at hl 0 rfl) ?_
    refine gt_X4_63 h0 C w dX4_addLine_61 ?_
    exact g_iret C w hr hq hf dX4_addLine_64
  · replace hf := (if_neg c1).symm.trans hf
    refine lv_aload_n hx hb dX4_addLine_9 rfl (lv_at hl 0 rfl) ?_
    refine gt_X4_35 h0 C w dX4_addLine_10 ?_
    refine lv_aload_n hx hb dX4_addLine_13 rfl (lv_at hl 0 rfl) ?_
    refine gt_X4_63 h0 C w dX4_addLine_14 ?_
    refine lv_iload_n hx hb dX4_addLine_17 rfl (lv_at hl 1 rfl) ?_
    obtain ⟨M2, e3, hf⟩ := bindS hf
    refine g_iast C w (xT_a9 h0) e3 dX4_addLine_18 (fun H locs w => ?_)
    refine lv_aload_n hx hb dX4_addLine_19 rfl (lv_at hl 0 rfl) ?_
    refine gt_X4_38 h0 C w dX4_addLine_20 ?_
    refine lv_aload_n hx hb dX4_addLine_23 rfl (lv_at hl 0 rfl) ?_
    refine gt_X4_63 h0 C w dX4_addLine_24 ?_
    refine lv_iload_n hx hb dX4_addLine_27 rfl (lv_at hl 2 rfl) ?_
    obtain ⟨M4, e5, hf⟩ := bindS hf
    refine g_iast C w (xT_a10 h0) e5 dX4_addLine_28 (fun H locs w => ?_)
    refine lv_aload_n hx hb dX4_addLine_29 rfl (lv_at hl 0 rfl) ?_
    refine gt_X4_41 h0 C w dX4_addLine_30 ?_
    refine lv_aload_n hx hb dX4_addLine_33 rfl (lv_at hl 0 rfl) ?_
    refine gt_X4_63 h0 C w dX4_addLine_34 ?_
    refine lv_iload_n hx hb dX4_addLine_37 rfl (lv_at hl 3 rfl) ?_
    obtain ⟨M6, e7, hf⟩ := bindS hf
    refine g_iast C w (xT_a11 h0) e7 dX4_addLine_38 (fun H locs w => ?_)
    refine lv_aload_n hx hb dX4_addLine_39 rfl (lv_at hl 0 rfl) ?_
    refine gt_X4_44 h0 C w dX4_addLine_40 ?_
    refine lv_aload_n hx hb dX4_addLine_43 rfl (lv_at hl 0 rfl) ?_
    refine gt_X4_63 h0 C w dX4_addLine_44 ?_
    refine lv_iload hx hb dX4_addLine_47 (lv_at hl 4 rfl) ?_
    obtain ⟨M8, e9, hf⟩ := bindS hf
    refine g_iast C w (xT_a12 h0) e9 dX4_addLine_49 (fun H locs w => ?_)
    refine lv_aload_n hx hb dX4_addLine_50 rfl (lv_at hl 0 rfl) ?_
    refine lv_dup hx hb dX4_addLine_51 rfl ?_
    refine gt_X4_63 h0 C w dX4_addLine_52 ?_
    refine lv_iconst (v := 1) hx hb dX4_addLine_55 (by decide) ?_
    refine lv_iadd hx hb dX4_addLine_56 ?_
    obtain ⟨M10, e11, hf⟩ := bindS hf
    refine pt_X4_63 h0 C w e11 dX4_addLine_57 (fun H locs w => ?_)
    refine lv_aload_n hx hb dX4_addLine_60 rfl (lv_at hl 0 rfl) ?_
    refine gt_X4_63 h0 C w dX4_addLine_61 ?_
    exact g_iret C w hr hq hf dX4_addLine_64
abbrev f_X4_addLine (k0 : Nat) (x1 : Int32) (x2 : Int32) (x3 : Int32) (x4 : Int32) (M : Mem) : Option (Int32 × Mem) := f_X4_addLine_0 k0 x1 x2 x3 x4 M
theorem c_X4_addLine (hi : gInj 241 ad) {k0 : Nat} {x1 : Int32} {x2 : Int32} {x3 : Int32} {x4 : Int32} (h0 : xT k0) {Rs : Int32 × Mem} (hf : f_X4_addLine k0 x1 x2 x3 x4 M = some Rs) : gMet l yX4_addLine cX4_addLine 5 (some .int) 0 D (xty cI cT cS) 241 (xE cI cT cS) ad [.ref (ad k0), .int x1, .int x2, .int x3, .int x4] M (qI D 241 (xE cI cT cS) ad Rs) := gMet_of (by decide) hi (xE_loc cI cT cS) (Nat.le_of_ble_eq_true rfl) (fun p e s m args below meth c ls C hr hq w hl => w_X4_addLine_0 C hr hq h0 w hl hf)
def f_X5_open_0 (x1 : Int32) (M : Mem) : Option (Int32 × Mem) :=
  if (M 6 3) < (512 : Int32) then ((stI M 7 512 (M 6 3) x1).bind fun M2 =>
  (stF M2 6 3 ((M2 6 3) + (1 : Int32))).bind fun M4 =>
  some ((M 6 3), M4)) else (some ((-1 : Int32), M))
set_option maxRecDepth 100000 in
set_option maxHeartbeats 4000000 in
theorem w_X5_open_0 (C : gC p s m args c RX5 cX5_open 3 D (xty cI cT cS) 241 (xE cI cT cS) ad) (hr : meth.sig.returnType = (some .int)) (hq : meth.locks = false) {Rs : Int32 × Mem} {x1 : Int32} (w : gWd D 241 (xE cI cT cS) ad M s H locs) (hl : lv_has ls 3 [(0, .ref (ad 6)), (1, .int x1)]) (hf : f_X5_open_0  x1 M = some Rs) : W p l e (rmH 0) s m args below meth c H locs 0 0 (MQ below (qI D 241 (xE cI cT cS) ad Rs) args s 0 0 (gA 241 ad)) (F0 m 0 ls []) := by
  unfold f_X5_open_0 at hf
  have hx := C.1.1
  have hb := C.1.2.1
  have hi := C.2.2.2.1
  refine lv_aload_n hx hb dX5_open_0 rfl (lv_at hl 0 rfl) ?_
  refine gt_X5_21 C w dX5_open_1 ?_
  refine lv_istore_n (lv' := [(2, .int (M 6 3)), (0, .ref (ad 6)), (1, .int x1)]) hx hb dX5_open_4 rfl hl (by decide) rfl (fun ls hl => ?_)
  refine lv_iload_n hx hb dX5_open_5 rfl (lv_at hl 0 rfl) ?_
  refine lv_sipush (v := 512) hx hb dX5_open_6 (by decide) ?_
  refine lv_icmp_lt (tgt := 14) hx hb dX5_open_9 (by decide) (fun c1 => ?_) (fun c1 => ?_)
  · replace hf := (if_pos c1).symm.trans hf
    refine lv_aload_n hx hb dX5_open_14 rfl (lv_at hl 1 rfl) ?_
    refine gt_X5_9 C w dX5_open_15 ?_
    refine lv_iload_n hx hb dX5_open_18 rfl (lv_at hl 0 rfl) ?_
    refine lv_iload_n hx hb dX5_open_19 rfl (lv_at hl 2 rfl) ?_
    obtain ⟨M2, e3, hf⟩ := bindS hf
    refine g_iast C w x_a7 e3 dX5_open_20 (fun H locs w => ?_)
    refine lv_aload_n hx hb dX5_open_21 rfl (lv_at hl 1 rfl) ?_
    refine lv_dup hx hb dX5_open_22 rfl ?_
    refine gt_X5_21 C w dX5_open_23 ?_
    refine lv_iconst (v := 1) hx hb dX5_open_26 (by decide) ?_
    refine lv_iadd hx hb dX5_open_27 ?_
    obtain ⟨M4, e5, hf⟩ := bindS hf
    refine pt_X5_21 C w e5 dX5_open_28 (fun H locs w => ?_)
    refine lv_iload_n hx hb dX5_open_31 rfl (lv_at hl 0 rfl) ?_
    exact g_iret C w hr hq hf dX5_open_32
  · replace hf := (if_neg c1).symm.trans hf
    refine lv_iconst (v := -1) hx hb dX5_open_12 (by decide) ?_
    exact g_iret C w hr hq hf dX5_open_13
abbrev f_X5_open (x1 : Int32) (M : Mem) : Option (Int32 × Mem) := f_X5_open_0 x1 M
theorem c_X5_open (hi : gInj 241 ad) {x1 : Int32} {Rs : Int32 × Mem} (hf : f_X5_open x1 M = some Rs) : gMet l yX5_open cX5_open 3 (some .int) 0 D (xty cI cT cS) 241 (xE cI cT cS) ad [.ref (ad 6), .int x1] M (qI D 241 (xE cI cT cS) ad Rs) := gMet_of (by decide) hi (xE_loc cI cT cS) (Nat.le_of_ble_eq_true rfl) (fun p e s m args below meth c ls C hr hq w hl => w_X5_open_0 C hr hq  w hl hf)
def f_X5_close_0 (x1 : Int32) (x2 : Int32) (x3 : Int32) (M : Mem) : Option (Int32 × Mem) :=
  (f_X6_within x1 (0 : Int32) ((M 6 3) - (1 : Int32)) M).bind fun (v3, M1) =>
  if v3 = 0 then (some ((0 : Int32), M1)) else ((stI M1 8 512 x1 x2).bind fun M5 =>
  (stI M5 9 512 x1 x3).bind fun M7 =>
  some ((0 : Int32), M7))
set_option maxRecDepth 100000 in
set_option maxHeartbeats 4000000 in
theorem w_X5_close_0 (C : gC p s m args c RX5 cX5_close 4 D (xty cI cT cS) 241 (xE cI cT cS) ad) (hr : meth.sig.returnType = none) (hq : meth.locks = false) {Rs : Int32 × Mem} {x1 : Int32} {x2 : Int32} {x3 : Int32} (w : gWd D 241 (xE cI cT cS) ad M s H locs) (hl : lv_has ls 4 [(0, .ref (ad 6)), (1, .int x1), (2, .int x2), (3, .int x3)]) (hf : f_X5_close_0  x1 x2 x3 M = some Rs) : W p l e (rmH 1) s m args below meth c H locs 0 0 (MQ below (qV D 241 (xE cI cT cS) ad Rs) args s 0 0 (gA 241 ad)) (F0 m 0 ls []) := by
  unfold f_X5_close_0 at hf
  have hx := C.1.1
  have hb := C.1.2.1
  have hi := C.2.2.2.1
  refine lv_iload_n hx hb dX5_close_0 rfl (lv_at hl 1 rfl) ?_
  refine lv_iconst (v := 0) hx hb dX5_close_1 (by decide) ?_
  refine lv_aload_n hx hb dX5_close_2 rfl (lv_at hl 0 rfl) ?_
  refine gt_X5_21 C w dX5_close_3 ?_
  refine lv_iconst (v := 1) hx hb dX5_close_6 (by decide) ?_
  refine lv_isub hx hb dX5_close_7 ?_
  obtain ⟨⟨v3, M1⟩, e2, hf⟩ := bindS hf
  refine g_backI w (g_runN (rest := []) C w (c_X6_within hi  e2) gs_X5_25 md_X6_within rfl (by omega) (by decide) hl.1 rfl (Nat.le_of_ble_eq_true rfl) dX5_close_8) (fun H locs w => ?_)
  refine lv_if_eq (tgt := 28) hx hb dX5_close_11 (by decide) (fun c4 => ?_) (fun c4 => ?_)
  · replace hf := (if_pos c4).symm.trans hf
    exact g_vret C w hr hq hf dX5_close_28
  · replace hf := (if_neg c4).symm.trans hf
    refine lv_aload_n hx hb dX5_close_14 rfl (lv_at hl 0 rfl) ?_
    refine gt_X5_15 C w dX5_close_15 ?_
    refine lv_iload_n hx hb dX5_close_18 rfl (lv_at hl 1 rfl) ?_
    refine lv_iload_n hx hb dX5_close_19 rfl (lv_at hl 2 rfl) ?_
    obtain ⟨M5, e6, hf⟩ := bindS hf
    refine g_iast C w x_a8 e6 dX5_close_20 (fun H locs w => ?_)
    refine lv_aload_n hx hb dX5_close_21 rfl (lv_at hl 0 rfl) ?_
    refine gt_X5_18 C w dX5_close_22 ?_
    refine lv_iload_n hx hb dX5_close_25 rfl (lv_at hl 1 rfl) ?_
    refine lv_iload_n hx hb dX5_close_26 rfl (lv_at hl 3 rfl) ?_
    obtain ⟨M7, e8, hf⟩ := bindS hf
    refine g_iast C w x_a9 e8 dX5_close_27 (fun H locs w => ?_)
    exact g_vret C w hr hq hf dX5_close_28
abbrev f_X5_close (x1 : Int32) (x2 : Int32) (x3 : Int32) (M : Mem) : Option (Int32 × Mem) := f_X5_close_0 x1 x2 x3 M
theorem c_X5_close (hi : gInj 241 ad) {x1 : Int32} {x2 : Int32} {x3 : Int32} {Rs : Int32 × Mem} (hf : f_X5_close x1 x2 x3 M = some Rs) : gMet l yX5_close cX5_close 4 none 1 D (xty cI cT cS) 241 (xE cI cT cS) ad [.ref (ad 6), .int x1, .int x2, .int x3] M (qV D 241 (xE cI cT cS) ad Rs) := gMet_of (by decide) hi (xE_loc cI cT cS) (Nat.le_of_ble_eq_true rfl) (fun p e s m args below meth c ls C hr hq w hl => w_X5_close_0 C hr hq  w hl hf)
def f_X0_addStart_0 (x1 : Int32) (x2 : Int32) (x3 : Int32) (x4 : Int32) (M : Mem) : Option (Int32 × Mem) :=
  if (M 10 2) < (150 : Int32) then ((stI M 11 600 ((M 10 2) * (4 : Int32)) x1).bind fun M2 =>
  (stI M2 11 600 (((M 10 2) * (4 : Int32)) + (1 : Int32)) x2).bind fun M4 =>
  (stI M4 11 600 (((M 10 2) * (4 : Int32)) + (2 : Int32)) x3).bind fun M6 =>
  (stI M6 11 600 (((M 10 2) * (4 : Int32)) + (3 : Int32)) x4).bind fun M8 =>
  (stF M8 10 2 ((M8 10 2) + (1 : Int32))).bind fun M10 =>
  some ((0 : Int32), M10)) else (some ((0 : Int32), M))
set_option maxRecDepth 100000 in
set_option maxHeartbeats 4000000 in
theorem w_X0_addStart_0 (C : gC p s m args c RX0 cX0_addStart 6 D (xty cI cT cS) 241 (xE cI cT cS) ad) (hr : meth.sig.returnType = none) (hq : meth.locks = false) {Rs : Int32 × Mem} {x1 : Int32} {x2 : Int32} {x3 : Int32} {x4 : Int32} (w : gWd D 241 (xE cI cT cS) ad M s H locs) (hl : lv_has ls 6 [(0, .ref (ad 10)), (1, .int x1), (2, .int x2), (3, .int x3), (4, .int x4)]) (hf : f_X0_addStart_0  x1 x2 x3 x4 M = some Rs) : W p l e (rmH 0) s m args below meth c H locs 0 0 (MQ below (qV D 241 (xE cI cT cS) ad Rs) args s 0 0 (gA 241 ad)) (F0 m 0 ls []) := by
  unfold f_X0_addStart_0 at hf
  have hx := C.1.1
  have hb := C.1.2.1
  have hi := C.2.2.2.1
  refine lv_aload_n hx hb dX0_addStart_0 rfl (lv_at hl 0 rfl) ?_
  refine gt_X0_18 C w dX0_addStart_1 ?_
  refine lv_sipush (v := 150) hx hb dX0_addStart_4 (by decide) ?_
  refine lv_icmp_lt (tgt := 11) hx hb dX0_addStart_7 (by decide) (fun c1 => ?_) (fun c1 => ?_)
  · replace hf := (if_pos c1).symm.trans hf
    refine lv_aload_n hx hb dX0_addStart_11 rfl (lv_at hl 0 rfl) ?_
    refine gt_X0_18 C w dX0_addStart_12 ?_
    refine lv_iconst (v := 4) hx hb dX0_addStart_15 (by decide) ?_
    refine lv_imul hx hb dX0_addStart_16 ?_
    refine lv_istore (lv' := [(5, .int ((M 10 2) * (4 : Int32))), (0, .ref (ad 10)), (1, .int x1), (2, .int x2), (3, .int x3), (4, .int x4)]) hx hb dX0_addStart_17 hl (by decide) rfl (fun ls hl => ?_)
    refine lv_aload_n hx hb dX0_addStart_19 rfl (lv_at hl 1 rfl) ?_
    refine gt_X0_11 C w dX0_addStart_20 ?_
    refine lv_iload hx hb dX0_addStart_23 (lv_at hl 0 rfl) ?_
    refine lv_iload_n hx hb dX0_addStart_25 rfl (lv_at hl 2 rfl) ?_
    obtain ⟨M2, e3, hf⟩ := bindS hf
    refine g_iast C w x_a11 e3 dX0_addStart_26 (fun H locs w => ?_)
    refine lv_aload_n hx hb dX0_addStart_27 rfl (lv_at hl 1 rfl) ?_
    refine gt_X0_11 C w dX0_addStart_28 ?_
    refine lv_iload hx hb dX0_addStart_31 (lv_at hl 0 rfl) ?_
    refine lv_iconst (v := 1) hx hb dX0_addStart_33 (by decide) ?_
    refine lv_iadd hx hb dX0_addStart_34 ?_
    refine lv_iload_n hx hb dX0_addStart_35 rfl (lv_at hl 3 rfl) ?_
    obtain ⟨M4, e5, hf⟩ := bindS hf
    refine g_iast C w x_a11 e5 dX0_addStart_36 (fun H locs w => ?_)
    refine lv_aload_n hx hb dX0_addStart_37 rfl (lv_at hl 1 rfl) ?_
    refine gt_X0_11 C w dX0_addStart_38 ?_
    refine lv_iload hx hb dX0_addStart_41 (lv_at hl 0 rfl) ?_
    refine lv_iconst (v := 2) hx hb dX0_addStart_43 (by decide) ?_
    refine lv_iadd hx hb dX0_addStart_44 ?_
    refine lv_iload_n hx hb dX0_addStart_45 rfl (lv_at hl 4 rfl) ?_
    obtain ⟨M6, e7, hf⟩ := bindS hf
    refine g_iast C w x_a11 e7 dX0_addStart_46 (fun H locs w => ?_)
    refine lv_aload_n hx hb dX0_addStart_47 rfl (lv_at hl 1 rfl) ?_
    refine gt_X0_11 C w dX0_addStart_48 ?_
    refine lv_iload hx hb dX0_addStart_51 (lv_at hl 0 rfl) ?_
    refine lv_iconst (v := 3) hx hb dX0_addStart_53 (by decide) ?_
    refine lv_iadd hx hb dX0_addStart_54 ?_
    refine lv_iload hx hb dX0_addStart_55 (lv_at hl 5 rfl) ?_
    obtain ⟨M8, e9, hf⟩ := bindS hf
    refine g_iast C w x_a11 e9 dX0_addStart_57 (fun H locs w => ?_)
    refine lv_aload_n hx hb dX0_addStart_58 rfl (lv_at hl 1 rfl) ?_
    refine lv_dup hx hb dX0_addStart_59 rfl ?_
    refine gt_X0_18 C w dX0_addStart_60 ?_
    refine lv_iconst (v := 1) hx hb dX0_addStart_63 (by decide) ?_
    refine lv_iadd hx hb dX0_addStart_64 ?_
    obtain ⟨M10, e11, hf⟩ := bindS hf
    refine pt_X0_18 C w e11 dX0_addStart_65 (fun H locs w => ?_)
    exact g_vret C w hr hq hf dX0_addStart_68
  · replace hf := (if_neg c1).symm.trans hf
    exact g_vret C w hr hq hf dX0_addStart_10
abbrev f_X0_addStart (x1 : Int32) (x2 : Int32) (x3 : Int32) (x4 : Int32) (M : Mem) : Option (Int32 × Mem) := f_X0_addStart_0 x1 x2 x3 x4 M
theorem c_X0_addStart (hi : gInj 241 ad) {x1 : Int32} {x2 : Int32} {x3 : Int32} {x4 : Int32} {Rs : Int32 × Mem} (hf : f_X0_addStart x1 x2 x3 x4 M = some Rs) : gMet l yX0_addStart cX0_addStart 6 none 0 D (xty cI cT cS) 241 (xE cI cT cS) ad [.ref (ad 10), .int x1, .int x2, .int x3, .int x4] M (qV D 241 (xE cI cT cS) ad Rs) := gMet_of (by decide) hi (xE_loc cI cT cS) (Nat.le_of_ble_eq_true rfl) (fun p e s m args below meth c ls C hr hq w hl => w_X0_addStart_0 C hr hq  w hl hf)
def f_X0_addMessage_0 (x1 : Int32) (M : Mem) : Option (Int32 × Mem) :=
  if (100 : Int32) ≤ (M 10 3) then (some ((0 : Int32), M)) else ((stI M 12 100 (M 10 3) x1).bind fun M2 =>
  (stF M2 10 3 ((M2 10 3) + (1 : Int32))).bind fun M4 =>
  some ((0 : Int32), M4))
set_option maxRecDepth 100000 in
set_option maxHeartbeats 4000000 in
theorem w_X0_addMessage_0 (C : gC p s m args c RX0 cX0_addMessage 2 D (xty cI cT cS) 241 (xE cI cT cS) ad) (hr : meth.sig.returnType = none) (hq : meth.locks = false) {Rs : Int32 × Mem} {x1 : Int32} (w : gWd D 241 (xE cI cT cS) ad M s H locs) (hl : lv_has ls 2 [(0, .ref (ad 10)), (1, .int x1)]) (hf : f_X0_addMessage_0  x1 M = some Rs) : W p l e (rmH 0) s m args below meth c H locs 0 0 (MQ below (qV D 241 (xE cI cT cS) ad Rs) args s 0 0 (gA 241 ad)) (F0 m 0 ls []) := by
  unfold f_X0_addMessage_0 at hf
  have hx := C.1.1
  have hb := C.1.2.1
  have hi := C.2.2.2.1
  refine lv_aload_n hx hb dX0_addMessage_0 rfl (lv_at hl 0 rfl) ?_
  refine gt_X0_22 C w dX0_addMessage_1 ?_
  refine lv_bipush (v := 100) hx hb dX0_addMessage_4 (by decide) ?_
  refine lv_icmp_ge (tgt := 29) hx hb dX0_addMessage_6 (by decide) (fun c1 => ?_) (fun c1 => ?_)
  · replace hf := (if_pos c1).symm.trans hf
    exact g_vret C w hr hq hf dX0_addMessage_29
  · replace hf := (if_neg c1).symm.trans hf
    refine lv_aload_n hx hb dX0_addMessage_9 rfl (lv_at hl 0 rfl) ?_
    refine gt_X0_15 C w dX0_addMessage_10 ?_
    refine lv_aload_n hx hb dX0_addMessage_13 rfl (lv_at hl 0 rfl) ?_
    refine gt_X0_22 C w dX0_addMessage_14 ?_
    refine lv_iload_n hx hb dX0_addMessage_17 rfl (lv_at hl 1 rfl) ?_
    obtain ⟨M2, e3, hf⟩ := bindS hf
    refine g_iast C w x_a12 e3 dX0_addMessage_18 (fun H locs w => ?_)
    refine lv_aload_n hx hb dX0_addMessage_19 rfl (lv_at hl 0 rfl) ?_
    refine lv_dup hx hb dX0_addMessage_20 rfl ?_
    refine gt_X0_22 C w dX0_addMessage_21 ?_
    refine lv_iconst (v := 1) hx hb dX0_addMessage_24 (by decide) ?_
    refine lv_iadd hx hb dX0_addMessage_25 ?_
    obtain ⟨M4, e5, hf⟩ := bindS hf
    refine pt_X0_22 C w e5 dX0_addMessage_26 (fun H locs w => ?_)
    exact g_vret C w hr hq hf dX0_addMessage_29
abbrev f_X0_addMessage (x1 : Int32) (M : Mem) : Option (Int32 × Mem) := f_X0_addMessage_0 x1 M
theorem c_X0_addMessage (hi : gInj 241 ad) {x1 : Int32} {Rs : Int32 × Mem} (hf : f_X0_addMessage x1 M = some Rs) : gMet l yX0_addMessage cX0_addMessage 2 none 0 D (xty cI cT cS) 241 (xE cI cT cS) ad [.ref (ad 10), .int x1] M (qV D 241 (xE cI cT cS) ad Rs) := gMet_of (by decide) hi (xE_loc cI cT cS) (Nat.le_of_ble_eq_true rfl) (fun p e s m args below meth c ls C hr hq w hl => w_X0_addMessage_0 C hr hq  w hl hf)
end GENX
end
section
section GENX
variable {p : Program} {l : Launch} {e : Env} {h : Nat} {R : Room} {s : State} {m : MethodId} {args : Array Value} {below : List Frame} {meth : Method} {c : Code} {H : Heap} {locs : List Loc} {cells slots : Nat} {Q : State → Prop} {cc : ByteArray} {nL pc : Nat} {ls : Array Slot} {rest : List Value} {D : va_G} {ad : Nat → Nat} {M M1 : Mem} {cI cT cS cZ : ClassId}
theorem kf_X6_83 : Cond.fieldLink RX6 83 (TX2 1).1 (TX2 1).2.1 (TX2 1).2.2.1 ∈ gW := gw_in 141 (by decide +kernel) rfl
theorem gt_X6_83 {k : Nat} (hk : xR k) (C : gC p s m args c RX6 cc nL D (xty cI cT cS) 241 (xE cI cT cS) ad) (w : gWd D 241 (xE cI cT cS) ad M s H locs) (hdg : decode cc pc = .ok (.getfield 83, 3)) (kk : W p l e R s m args below meth c H locs cells slots Q (F0 m (pc + 3) ls (.int (M k 1) :: rest))) : W p l e R s m args below meth c H locs cells slots Q (F0 m pc ls (.ref (ad k) :: rest)) := g_get C w (ob_X2 hk) rfl ginX2 1 (by decide) kf_X6_83 rfl hdg kk
theorem kf_X6_225 : Cond.fieldLink RX6 225 (TX2 0).1 (TX2 0).2.1 (TX2 0).2.2.1 ∈ gW := gw_in 139 (by decide +kernel) rfl
theorem gt_X6_225 {k : Nat} (hk : xR k) (C : gC p s m args c RX6 cc nL D (xty cI cT cS) 241 (xE cI cT cS) ad) (w : gWd D 241 (xE cI cT cS) ad M s H locs) (hdg : decode cc pc = .ok (.getfield 225, 3)) (kk : W p l e R s m args below meth c H locs cells slots Q (F0 m (pc + 3) ls (.ref (ad (k + 1)) :: rest))) : W p l e R s m args below meth c H locs cells slots Q (F0 m pc ls (.ref (ad k) :: rest)) := g_get C w (ob_X2 hk) rfl ginX2 0 (by decide) kf_X6_225 rfl hdg kk
theorem kf_X6_95 : Cond.fieldLink RX6 95 (TX4 6).1 (TX4 6).2.1 (TX4 6).2.2.1 ∈ gW := gw_in 163 (by decide +kernel) rfl
theorem gt_X6_95 {k : Nat} (hk : xT k) (C : gC p s m args c RX6 cc nL D (xty cI cT cS) 241 (xE cI cT cS) ad) (w : gWd D 241 (xE cI cT cS) ad M s H locs) (hdg : decode cc pc = .ok (.getfield 95, 3)) (kk : W p l e R s m args below meth c H locs cells slots Q (F0 m (pc + 3) ls (.ref (ad (k + 7)) :: rest))) : W p l e R s m args below meth c H locs cells slots Q (F0 m pc ls (.ref (ad k) :: rest)) := g_get C w (ob_X4 hk) rfl ginX4 6 (by decide) kf_X6_95 rfl hdg kk
theorem kf_X6_216 : Cond.fieldLink RX6 216 (TX4 4).1 (TX4 4).2.1 (TX4 4).2.2.1 ∈ gW := gw_in 159 (by decide +kernel) rfl
theorem gt_X6_216 {k : Nat} (hk : xT k) (C : gC p s m args c RX6 cc nL D (xty cI cT cS) 241 (xE cI cT cS) ad) (w : gWd D 241 (xE cI cT cS) ad M s H locs) (hdg : decode cc pc = .ok (.getfield 216, 3)) (kk : W p l e R s m args below meth c H locs cells slots Q (F0 m (pc + 3) ls (.ref (ad (k + 3)) :: rest))) : W p l e R s m args below meth c H locs cells slots Q (F0 m pc ls (.ref (ad k) :: rest)) := g_get C w (ob_X4 hk) rfl ginX4 4 (by decide) kf_X6_216 rfl hdg kk
theorem kf_X6_52 : Cond.fieldLink RX6 52 (TX4 2).1 (TX4 2).2.1 (TX4 2).2.2.1 ∈ gW := gw_in 155 (by decide +kernel) rfl
theorem gt_X6_52 {k : Nat} (hk : xT k) (C : gC p s m args c RX6 cc nL D (xty cI cT cS) 241 (xE cI cT cS) ad) (w : gWd D 241 (xE cI cT cS) ad M s H locs) (hdg : decode cc pc = .ok (.getfield 52, 3)) (kk : W p l e R s m args below meth c H locs cells slots Q (F0 m (pc + 3) ls (.int (M k 2) :: rest))) : W p l e R s m args below meth c H locs cells slots Q (F0 m pc ls (.ref (ad k) :: rest)) := g_get C w (ob_X4 hk) rfl ginX4 2 (by decide) kf_X6_52 rfl hdg kk
theorem kf_X6_17 : Cond.fieldLink RX6 17 (TX6 1).1 (TX6 1).2.1 (TX6 1).2.2.1 ∈ gW := gw_in 228 (by decide +kernel) rfl
theorem gt_X6_17 (C : gC p s m args c RX6 cc nL D (xty cI cT cS) 241 (xE cI cT cS) ad) (w : gWd D 241 (xE cI cT cS) ad M s H locs) (hdg : decode cc pc = .ok (.getfield 17, 3)) (kk : W p l e R s m args below meth c H locs cells slots Q (F0 m (pc + 3) ls (.ref (ad 2) :: rest))) : W p l e R s m args below meth c H locs cells slots Q (F0 m pc ls (.ref (ad 0) :: rest)) := g_get C w ob_X6 rfl ginX6 1 (by decide) kf_X6_17 rfl hdg kk
theorem kf_X6_213 : Cond.fieldLink RX6 213 (TX3 0).1 (TX3 0).2.1 (TX3 0).2.2.1 ∈ gW := gw_in 211 (by decide +kernel) rfl
theorem gt_X6_213 {k : Nat} (hk : xS k) (C : gC p s m args c RX6 cc nL D (xty cI cT cS) 241 (xE cI cT cS) ad) (w : gWd D 241 (xE cI cT cS) ad M s H locs) (hdg : decode cc pc = .ok (.getfield 213, 3)) (kk : W p l e R s m args below meth c H locs cells slots Q (F0 m (pc + 3) ls (.ref (ad (k + 1)) :: rest))) : W p l e R s m args below meth c H locs cells slots Q (F0 m pc ls (.ref (ad k) :: rest)) := g_get C w (ob_X3 hk) rfl ginX3 0 (by decide) kf_X6_213 rfl hdg kk
theorem kf_X6_24 : Cond.fieldLink RX6 24 (TX6 2).1 (TX6 2).2.1 (TX6 2).2.2.1 ∈ gW := gw_in 229 (by decide +kernel) rfl
theorem gt_X6_24 (C : gC p s m args c RX6 cc nL D (xty cI cT cS) 241 (xE cI cT cS) ad) (w : gWd D 241 (xE cI cT cS) ad M s H locs) (hdg : decode cc pc = .ok (.getfield 24, 3)) (kk : W p l e R s m args below meth c H locs cells slots Q (F0 m (pc + 3) ls (.ref (ad 3) :: rest))) : W p l e R s m args below meth c H locs cells slots Q (F0 m pc ls (.ref (ad 0) :: rest)) := g_get C w ob_X6 rfl ginX6 2 (by decide) kf_X6_24 rfl hdg kk
theorem kc_X6_homeOf : Cond.code yX6_homeOf cX6_homeOf 5 (some .int) ∈ gW := gw_in 352 (by decide +kernel) rfl
theorem md_X6_homeOf : gMd yX6_homeOf 2 := ⟨by decide +kernel, by decide +kernel, by decide +kernel⟩
theorem kl_X6_210 : Cond.methodLink RX6 210 yX6_homeOf ∈ gW := gw_in 349 (by decide +kernel) rfl
theorem kn_X6_homeOf : Cond.instanceMethod yX6_homeOf ∈ gW := gw_in 351 (by decide +kernel) rfl
theorem ks_X6_homeOf : Cond.selects RX6 yX6_homeOf yX6_homeOf ∈ gW := gw_in 5 (by decide +kernel) rfl
theorem gv_X6_210 : gWv RX6 210 yX6_homeOf cX6_homeOf 5 (some .int) := ⟨kl_X6_210, kn_X6_homeOf, ks_X6_homeOf, ki_X6, kc_X6_homeOf⟩
theorem kc_X1_numberOf : Cond.code yX1_numberOf cX1_numberOf 3 (some .int) ∈ gW := gw_in 412 (by decide +kernel) rfl
theorem md_X1_numberOf : gMd yX1_numberOf 2 := ⟨by decide +kernel, by decide +kernel, by decide +kernel⟩
theorem kl_X6_160 : Cond.methodLink RX6 160 yX1_numberOf ∈ gW := gw_in 409 (by decide +kernel) rfl
theorem kn_X1_numberOf : Cond.instanceMethod yX1_numberOf ∈ gW := gw_in 410 (by decide +kernel) rfl
theorem ks_X1_numberOf : Cond.selects RX1 yX1_numberOf yX1_numberOf ∈ gW := gw_in 411 (by decide +kernel) rfl
theorem gv_X6_160 : gWv RX6 160 yX1_numberOf cX1_numberOf 3 (some .int) := ⟨kl_X6_160, kn_X1_numberOf, ks_X1_numberOf, ki_X1, kc_X1_numberOf⟩
theorem kc_X6_placeOf : Cond.code yX6_placeOf cX6_placeOf 3 (some (.object "ExtensionStarts$Place")) ∈ gW := gw_in 376 (by decide +kernel) rfl
theorem md_X6_placeOf : gMd yX6_placeOf 2 := ⟨by decide +kernel, by decide +kernel, by decide +kernel⟩
theorem kl_X6_146 : Cond.methodLink RX6 146 yX6_placeOf ∈ gW := gw_in 373 (by decide +kernel) rfl
theorem kn_X6_placeOf : Cond.instanceMethod yX6_placeOf ∈ gW := gw_in 375 (by decide +kernel) rfl
theorem ks_X6_placeOf : Cond.selects RX6 yX6_placeOf yX6_placeOf ∈ gW := gw_in 10 (by decide +kernel) rfl
theorem gv_X6_146 : gWv RX6 146 yX6_placeOf cX6_placeOf 3 (some (.object "ExtensionStarts$Place")) := ⟨kl_X6_146, kn_X6_placeOf, ks_X6_placeOf, ki_X6, kc_X6_placeOf⟩
theorem kf_X6_74 : Cond.fieldLink RX6 74 (TX4 3).1 (TX4 3).2.1 (TX4 3).2.2.1 ∈ gW := gw_in 157 (by decide +kernel) rfl
theorem gt_X6_74 {k : Nat} (hk : xT k) (C : gC p s m args c RX6 cc nL D (xty cI cT cS) 241 (xE cI cT cS) ad) (w : gWd D 241 (xE cI cT cS) ad M s H locs) (hdg : decode cc pc = .ok (.getfield 74, 3)) (kk : W p l e R s m args below meth c H locs cells slots Q (F0 m (pc + 3) ls (.ref (ad (k + 1)) :: rest))) : W p l e R s m args below meth c H locs cells slots Q (F0 m pc ls (.ref (ad k) :: rest)) := g_get C w (ob_X4 hk) rfl ginX4 3 (by decide) kf_X6_74 rfl hdg kk
theorem kf_X6_232 : Cond.fieldLink RX6 232 (TX4 1).1 (TX4 1).2.1 (TX4 1).2.2.1 ∈ gW := gw_in 153 (by decide +kernel) rfl
theorem gt_X6_232 {k : Nat} (hk : xT k) (C : gC p s m args c RX6 cc nL D (xty cI cT cS) 241 (xE cI cT cS) ad) (w : gWd D 241 (xE cI cT cS) ad M s H locs) (hdg : decode cc pc = .ok (.getfield 232, 3)) (kk : W p l e R s m args below meth c H locs cells slots Q (F0 m (pc + 3) ls (.int (M k 1) :: rest))) : W p l e R s m args below meth c H locs cells slots Q (F0 m pc ls (.ref (ad k) :: rest)) := g_get C w (ob_X4 hk) rfl ginX4 1 (by decide) kf_X6_232 rfl hdg kk
theorem kc_X2_addAllOnce : Cond.code yX2_addAllOnce cX2_addAllOnce 3 none ∈ gW := gw_in 303 (by decide +kernel) rfl
theorem md_X2_addAllOnce : gMd yX2_addAllOnce 1 := ⟨by decide +kernel, by decide +kernel, by decide +kernel⟩
theorem kl_X6_228 : Cond.methodLink RX6 228 yX2_addAllOnce ∈ gW := gw_in 300 (by decide +kernel) rfl
theorem kn_X2_addAllOnce : Cond.instanceMethod yX2_addAllOnce ∈ gW := gw_in 301 (by decide +kernel) rfl
theorem ks_X2_addAllOnce : Cond.selects RX2 yX2_addAllOnce yX2_addAllOnce ∈ gW := gw_in 302 (by decide +kernel) rfl
theorem gv_X6_228 : gWv RX6 228 yX2_addAllOnce cX2_addAllOnce 3 none := ⟨kl_X6_228, kn_X2_addAllOnce, ks_X2_addAllOnce, ki_X2, kc_X2_addAllOnce⟩
theorem kf_X6_222 : Cond.fieldLink RX6 222 (TX4 5).1 (TX4 5).2.1 (TX4 5).2.2.1 ∈ gW := gw_in 161 (by decide +kernel) rfl
theorem gt_X6_222 {k : Nat} (hk : xT k) (C : gC p s m args c RX6 cc nL D (xty cI cT cS) 241 (xE cI cT cS) ad) (w : gWd D 241 (xE cI cT cS) ad M s H locs) (hdg : decode cc pc = .ok (.getfield 222, 3)) (kk : W p l e R s m args below meth c H locs cells slots Q (F0 m (pc + 3) ls (.ref (ad (k + 5)) :: rest))) : W p l e R s m args below meth c H locs cells slots Q (F0 m pc ls (.ref (ad k) :: rest)) := g_get C w (ob_X4 hk) rfl ginX4 5 (by decide) kf_X6_222 rfl hdg kk
theorem kl_X6_86 : Cond.methodLink RX6 86 yX2_addOnce ∈ gW := gw_in 292 (by decide +kernel) rfl
theorem gv_X6_86 : gWv RX6 86 yX2_addOnce cX2_addOnce 2 none := ⟨kl_X6_86, kn_X2_addOnce, ks_X2_addOnce, ki_X2, kc_X2_addOnce⟩
theorem kl_X6_219 : Cond.methodLink RX6 219 yX2_empty ∈ gW := gw_in 291 (by decide +kernel) rfl
theorem gv_X6_219 : gWv RX6 219 yX2_empty cX2_empty 1 none := ⟨kl_X6_219, kn_X2_empty, ks_X2_empty, ki_X2, kc_X2_empty⟩
theorem kf_X6_31 : Cond.fieldLink RX6 31 (TX6 3).1 (TX6 3).2.1 (TX6 3).2.2.1 ∈ gW := gw_in 230 (by decide +kernel) rfl
theorem gt_X6_31 (C : gC p s m args c RX6 cc nL D (xty cI cT cS) 241 (xE cI cT cS) ad) (w : gWd D 241 (xE cI cT cS) ad M s H locs) (hdg : decode cc pc = .ok (.getfield 31, 3)) (kk : W p l e R s m args below meth c H locs cells slots Q (F0 m (pc + 3) ls (.ref (ad 6) :: rest))) : W p l e R s m args below meth c H locs cells slots Q (F0 m pc ls (.ref (ad 0) :: rest)) := g_get C w ob_X6 rfl ginX6 3 (by decide) kf_X6_31 rfl hdg kk
theorem kf_X6_198 : Cond.fieldLink RX6 198 (TX5 3).1 (TX5 3).2.1 (TX5 3).2.2.1 ∈ gW := gw_in 94 (by decide +kernel) rfl
theorem gt_X6_198 (C : gC p s m args c RX6 cc nL D (xty cI cT cS) 241 (xE cI cT cS) ad) (w : gWd D 241 (xE cI cT cS) ad M s H locs) (hdg : decode cc pc = .ok (.getfield 198, 3)) (kk : W p l e R s m args below meth c H locs cells slots Q (F0 m (pc + 3) ls (.int (M 6 3) :: rest))) : W p l e R s m args below meth c H locs cells slots Q (F0 m pc ls (.ref (ad 6) :: rest)) := g_get C w ob_X5 rfl ginX5 3 (by decide) kf_X6_198 rfl hdg kk
theorem kc_X6_canBeSet : Cond.code yX6_canBeSet cX6_canBeSet 4 (some .boolean) ∈ gW := gw_in 348 (by decide +kernel) rfl
theorem md_X6_canBeSet : gMd yX6_canBeSet 2 := ⟨by decide +kernel, by decide +kernel, by decide +kernel⟩
theorem kl_X6_206 : Cond.methodLink RX6 206 yX6_canBeSet ∈ gW := gw_in 345 (by decide +kernel) rfl
theorem kn_X6_canBeSet : Cond.instanceMethod yX6_canBeSet ∈ gW := gw_in 347 (by decide +kernel) rfl
theorem ks_X6_canBeSet : Cond.selects RX6 yX6_canBeSet yX6_canBeSet ∈ gW := gw_in 4 (by decide +kernel) rfl
theorem gv_X6_206 : gWv RX6 206 yX6_canBeSet cX6_canBeSet 4 (some .boolean) := ⟨kl_X6_206, kn_X6_canBeSet, ks_X6_canBeSet, ki_X6, kc_X6_canBeSet⟩
theorem kc_X6_isClass : Cond.code yX6_isClass cX6_isClass 2 (some .boolean) ∈ gW := gw_in 271 (by decide +kernel) rfl
theorem md_X6_isClass : gMd yX6_isClass 1 := ⟨by decide +kernel, by decide +kernel, by decide +kernel⟩
theorem kl_X6_48 : Cond.methodLink RX6 48 yX6_isClass ∈ gW := gw_in 268 (by decide +kernel) rfl
theorem kn_X6_isClass : Cond.instanceMethod yX6_isClass ∈ gW := gw_in 270 (by decide +kernel) rfl
theorem ks_X6_isClass : Cond.selects RX6 yX6_isClass yX6_isClass ∈ gW := gw_in 0 (by decide +kernel) rfl
theorem gv_X6_48 : gWv RX6 48 yX6_isClass cX6_isClass 2 (some .boolean) := ⟨kl_X6_48, kn_X6_isClass, ks_X6_isClass, ki_X6, kc_X6_isClass⟩
theorem kc_X6_isSession : Cond.code yX6_isSession cX6_isSession 1 (some .boolean) ∈ gW := gw_in 344 (by decide +kernel) rfl
theorem md_X6_isSession : gMd yX6_isSession 1 := ⟨by decide +kernel, by decide +kernel, by decide +kernel⟩
theorem kt_X6_isSession : Cond.static yX6_isSession ∈ gW := gw_in 343 (by decide +kernel) rfl
theorem kl_X6_143 : Cond.methodLink RX6 143 yX6_isSession ∈ gW := gw_in 342 (by decide +kernel) rfl
theorem gs_X6_143 : gWs RX6 143 yX6_isSession cX6_isSession 1 (some .boolean) := ⟨kl_X6_143, kt_X6_isSession, ki_X6, kc_X6_isSession⟩
theorem kf_X6_117 : Cond.fieldLink RX6 117 (TX6 8).1 (TX6 8).2.1 (TX6 8).2.2.1 ∈ gW := gw_in 235 (by decide +kernel) rfl
theorem gt_X6_117 (C : gC p s m args c RX6 cc nL D (xty cI cT cS) 241 (xE cI cT cS) ad) (w : gWd D 241 (xE cI cT cS) ad M s H locs) (hdg : decode cc pc = .ok (.getfield 117, 3)) (kk : W p l e R s m args below meth c H locs cells slots Q (F0 m (pc + 3) ls (.int (M 0 8) :: rest))) : W p l e R s m args below meth c H locs cells slots Q (F0 m pc ls (.ref (ad 0) :: rest)) := g_get C w ob_X6 rfl ginX6 8 (by decide) kf_X6_117 rfl hdg kk
theorem kf_X6_183 : Cond.fieldLink RX6 183 (TX3 2).1 (TX3 2).2.1 (TX3 2).2.2.1 ∈ gW := gw_in 215 (by decide +kernel) rfl
theorem gt_X6_183 {k : Nat} (hk : xS k) (C : gC p s m args c RX6 cc nL D (xty cI cT cS) 241 (xE cI cT cS) ad) (w : gWd D 241 (xE cI cT cS) ad M s H locs) (hdg : decode cc pc = .ok (.getfield 183, 3)) (kk : W p l e R s m args below meth c H locs cells slots Q (F0 m (pc + 3) ls (.int (M k 2) :: rest))) : W p l e R s m args below meth c H locs cells slots Q (F0 m pc ls (.ref (ad k) :: rest)) := g_get C w (ob_X3 hk) rfl ginX3 2 (by decide) kf_X6_183 rfl hdg kk
theorem pt_X6_183 {k : Nat} (hk : xS k) {x : Int32} (C : gC p s m args c RX6 cc nL D (xty cI cT cS) 241 (xE cI cT cS) ad) (w : gWd D 241 (xE cI cT cS) ad M s H locs) (e1 : stF M k 2 x = some M1) (hdg : decode cc pc = .ok (.putfield 183, 3)) (kk : ∀ (H1 : Heap) (locs1 : List Loc), gWd D 241 (xE cI cT cS) ad M1 s H1 locs1 → W p l e R s m args below meth c H1 locs1 cells slots Q (F0 m (pc + 3) ls rest)) : W p l e R s m args below meth c H locs cells slots Q (F0 m pc ls (.int x :: .ref (ad k) :: rest)) := by
  cases e1
  exact g_put C w (ob_X3 hk) rfl ginX3 tyX3 tyX3_ok nmX3 2 (by decide) kf_X6_183 rfl rfl rfl (Nat.le_of_ble_eq_true rfl) (by simp [fX3, mset, upd]) hdg kk
theorem kf_X6_199 : Cond.fieldLink RX6 199 (TX6 6).1 (TX6 6).2.1 (TX6 6).2.2.1 ∈ gW := gw_in 233 (by decide +kernel) rfl
theorem gt_X6_199 (C : gC p s m args c RX6 cc nL D (xty cI cT cS) 241 (xE cI cT cS) ad) (w : gWd D 241 (xE cI cT cS) ad M s H locs) (hdg : decode cc pc = .ok (.getfield 199, 3)) (kk : W p l e R s m args below meth c H locs cells slots Q (F0 m (pc + 3) ls (.int (M 0 6) :: rest))) : W p l e R s m args below meth c H locs cells slots Q (F0 m pc ls (.ref (ad 0) :: rest)) := g_get C w ob_X6 rfl ginX6 6 (by decide) kf_X6_199 rfl hdg kk
theorem pt_X6_199 {x : Int32} (C : gC p s m args c RX6 cc nL D (xty cI cT cS) 241 (xE cI cT cS) ad) (w : gWd D 241 (xE cI cT cS) ad M s H locs) (e1 : stF M 0 6 x = some M1) (hdg : decode cc pc = .ok (.putfield 199, 3)) (kk : ∀ (H1 : Heap) (locs1 : List Loc), gWd D 241 (xE cI cT cS) ad M1 s H1 locs1 → W p l e R s m args below meth c H1 locs1 cells slots Q (F0 m (pc + 3) ls rest)) : W p l e R s m args below meth c H locs cells slots Q (F0 m pc ls (.int x :: .ref (ad 0) :: rest)) := by
  cases e1
  exact g_put C w ob_X6 rfl ginX6 tyX6 tyX6_ok nmX6 6 (by decide) kf_X6_199 rfl rfl rfl (Nat.le_of_ble_eq_true rfl) (by simp [fX6, mset, upd]) hdg kk
theorem kc_X1_setNumber : Cond.code yX1_setNumber cX1_setNumber 4 none ∈ gW := gw_in 400 (by decide +kernel) rfl
theorem md_X1_setNumber : gMd yX1_setNumber 3 := ⟨by decide +kernel, by decide +kernel, by decide +kernel⟩
theorem kl_X6_254 : Cond.methodLink RX6 254 yX1_setNumber ∈ gW := gw_in 397 (by decide +kernel) rfl
theorem kn_X1_setNumber : Cond.instanceMethod yX1_setNumber ∈ gW := gw_in 398 (by decide +kernel) rfl
theorem ks_X1_setNumber : Cond.selects RX1 yX1_setNumber yX1_setNumber ∈ gW := gw_in 399 (by decide +kernel) rfl
theorem gv_X6_254 : gWv RX6 254 yX1_setNumber cX1_setNumber 4 none := ⟨kl_X6_254, kn_X1_setNumber, ks_X1_setNumber, ki_X1, kc_X1_setNumber⟩
theorem kf_X6_120 : Cond.fieldLink RX6 120 (TX6 9).1 (TX6 9).2.1 (TX6 9).2.2.1 ∈ gW := gw_in 236 (by decide +kernel) rfl
theorem gt_X6_120 (C : gC p s m args c RX6 cc nL D (xty cI cT cS) 241 (xE cI cT cS) ad) (w : gWd D 241 (xE cI cT cS) ad M s H locs) (hdg : decode cc pc = .ok (.getfield 120, 3)) (kk : W p l e R s m args below meth c H locs cells slots Q (F0 m (pc + 3) ls (.int (M 0 9) :: rest))) : W p l e R s m args below meth c H locs cells slots Q (F0 m pc ls (.ref (ad 0) :: rest)) := g_get C w ob_X6 rfl ginX6 9 (by decide) kf_X6_120 rfl hdg kk
theorem pt_X6_120 {x : Int32} (C : gC p s m args c RX6 cc nL D (xty cI cT cS) 241 (xE cI cT cS) ad) (w : gWd D 241 (xE cI cT cS) ad M s H locs) (e1 : stF M 0 9 x = some M1) (hdg : decode cc pc = .ok (.putfield 120, 3)) (kk : ∀ (H1 : Heap) (locs1 : List Loc), gWd D 241 (xE cI cT cS) ad M1 s H1 locs1 → W p l e R s m args below meth c H1 locs1 cells slots Q (F0 m (pc + 3) ls rest)) : W p l e R s m args below meth c H locs cells slots Q (F0 m pc ls (.int x :: .ref (ad 0) :: rest)) := by
  cases e1
  exact g_put C w ob_X6 rfl ginX6 tyX6 tyX6_ok nmX6 9 (by decide) kf_X6_120 rfl rfl rfl (Nat.le_of_ble_eq_true rfl) (by simp [fX6, mset, upd]) hdg kk
def f_X6_homeOf_13b (k13_ : (Int32 → Nat → Int32 → Mem → Option (Int32 × Mem))) (x2 : Int32) (k3 : Nat) (x4 : Int32) (M : Mem) : Option (Int32 × Mem) :=
  if (M k3 1) ≤ x4 then (some ((-1 : Int32), M)) else ((ldI M (k3 + 1) 16 x4).bind fun v2 =>
  (ixQ 16 v2).bind fun t4 =>
  (ldI M ((33 + 13 * t4) + 7) 5 x2).bind fun v6 =>
  if v6 = 0 then (k13_ x2 k3 (x4 + 1) M) else ((ldI M (k3 + 1) 16 x4).bind fun v9 =>
  some (v9, M)))
def f_X6_homeOf_13 : Nat → Int32 → Nat → Int32 → Mem → Option (Int32 × Mem)
  | 0, _, _, _, _ => none
  | n + 1, x2, k3, x4, M => f_X6_homeOf_13b (f_X6_homeOf_13  n) x2 k3 x4 M
def f_X6_homeOf_0 (x1 : Int32) (x2 : Int32) (M : Mem) : Option (Int32 × Mem) :=
  (ixQ 16 x1).bind fun t1 =>
  f_X6_homeOf_13 FU x2 ((33 + 13 * t1) + 3) (0 : Int32) M
set_option maxRecDepth 100000 in
set_option maxHeartbeats 4000000 in
theorem w_X6_homeOf_13b (C : gC p s m args c RX6 cX6_homeOf 5 D (xty cI cT cS) 241 (xE cI cT cS) ad) (hr : meth.sig.returnType = (some .int)) (hq : meth.locks = false) {k13_ : (Int32 → Nat → Int32 → Mem → Option (Int32 × Mem))} {Rs : Int32 × Mem} (hk13_ : ∀ {x2 : Int32} {k3 : Nat} {x4 : Int32} {M : Mem} {H : Heap} {locs : List Loc} {ls : Array Slot} (h3 : xR k3), gWd D 241 (xE cI cT cS) ad M s H locs → lv_has ls 5 [(0, .ref (ad 0)), (2, .int x2), (3, .ref (ad k3)), (4, .int x4)] → k13_ x2 k3 x4 M = some Rs → W p l e (rmH 0) s m args below meth c H locs 0 0 (MQ below (qI D 241 (xE cI cT cS) ad Rs) args s 0 0 (gA 241 ad)) (F0 m 13 ls [])) {x2 : Int32} {k3 : Nat} {x4 : Int32} (h3 : xR k3) (w : gWd D 241 (xE cI cT cS) ad M s H locs) (hl : lv_has ls 5 [(0, .ref (ad 0)), (2, .int x2), (3, .ref (ad k3)), (4, .int x4)]) (hf : f_X6_homeOf_13b k13_ x2 k3 x4 M = some Rs) : W p l e (rmH 0) s m args below meth c H locs 0 0 (MQ below (qI D 241 (xE cI cT cS) ad Rs) args s 0 0 (gA 241 ad)) (F0 m 13 ls []) := by
  unfold f_X6_homeOf_13b at hf
  have hx := C.1.1
  have hb := C.1.2.1
  have hi := C.2.2.2.1
  refine lv_iload hx hb dX6_homeOf_13 (lv_at hl 3 rfl) ?_
  refine lv_aload_n hx hb dX6_homeOf_15 rfl (lv_at hl 2 rfl) ?_
  refine gt_X6_83 h3 C w dX6_homeOf_16 ?_
  refine lv_icmp_ge (tgt := 56) hx hb dX6_homeOf_19 (by decide) (fun c1 => ?_) (fun c1 => ?_)
  · replace hf := (if_pos c1).symm.trans hf
    refine lv_iconst (v := -1) hx hb dX6_homeOf_56 (by decide) ?_
    exact g_iret C w hr hq hf dX6_homeOf_57
  · replace hf := (if_neg c1).symm.trans hf
    refine lv_aload_n hx hb dX6_homeOf_22 rfl (lv_at hl 0 rfl) ?_
    refine gt_X6_11 C w dX6_homeOf_23 ?_
    refine lv_aload_n hx hb dX6_homeOf_26 rfl (lv_at hl 2 rfl) ?_
    refine gt_X6_225 h3 C w dX6_homeOf_27 ?_
    refine lv_iload hx hb dX6_homeOf_30 (lv_at hl 3 rfl) ?_
    obtain ⟨v2, e3, hf⟩ := bindS hf
    refine g_iald C w (xR_a h3) e3 dX6_homeOf_32 ?_
    obtain ⟨t4, e5, hf⟩ := bindS hf
    refine g_aald (t0 := 1) C w rf_T rfl e5 dX6_homeOf_33 ?_
    refine gt_X6_95 ⟨t4, ixQ_lt e5, rfl⟩ C w dX6_homeOf_34 ?_
    refine lv_iload_n hx hb dX6_homeOf_37 rfl (lv_at hl 1 rfl) ?_
    obtain ⟨v6, e7, hf⟩ := bindS hf
    refine g_iald C w (xT_a7 ⟨t4, ixQ_lt e5, rfl⟩) e7 dX6_homeOf_38 ?_
    refine lv_if_eq (tgt := 50) hx hb dX6_homeOf_39 (by decide) (fun c8 => ?_) (fun c8 => ?_)
    · replace hf := (if_pos c8).symm.trans hf
      refine lv_iinc (v := (x4 + 1)) (lv' := [(4, .int (x4 + 1)), (0, .ref (ad 0)), (2, .int x2), (3, .ref (ad k3))]) hx hb dX6_homeOf_50 hl (k := 3) rfl rfl (by decide) rfl (fun ls hl => ?_)
      refine lv_goto (tgt := 13) hx hb dX6_homeOf_53 (by decide) ?_
      exact hk13_ h3 w (lv_sub hl [1, 2, 3, 0] rfl) hf
    · replace hf := (if_neg c8).symm.trans hf
      refine lv_aload_n hx hb dX6_homeOf_42 rfl (lv_at hl 2 rfl) ?_
      refine gt_X6_225 h3 C w dX6_homeOf_43 ?_
      refine lv_iload hx hb dX6_homeOf_46 (lv_at hl 3 rfl) ?_
      obtain ⟨v9, e10, hf⟩ := bindS hf
      refine g_iald C w (xR_a h3) e10 dX6_homeOf_48 ?_
      exact g_iret C w hr hq hf dX6_homeOf_49
theorem w_X6_homeOf_13 (C : gC p s m args c RX6 cX6_homeOf 5 D (xty cI cT cS) 241 (xE cI cT cS) ad) (hr : meth.sig.returnType = (some .int)) (hq : meth.locks = false) {Rs : Int32 × Mem} : ∀ (n : Nat) {x2 : Int32} {k3 : Nat} {x4 : Int32} {M : Mem} {H : Heap} {locs : List Loc} {ls : Array Slot} (h3 : xR k3), gWd D 241 (xE cI cT cS) ad M s H locs → lv_has ls 5 [(0, .ref (ad 0)), (2, .int x2), (3, .ref (ad k3)), (4, .int x4)] → f_X6_homeOf_13  n x2 k3 x4 M = some Rs → W p l e (rmH 0) s m args below meth c H locs 0 0 (MQ below (qI D 241 (xE cI cT cS) ad Rs) args s 0 0 (gA 241 ad)) (F0 m 13 ls []) := by
  intro n
  induction n with
  | zero =>
    intro x2 k3 x4 M H locs ls h3 w hl hf
    cases hf
  | succ n ih =>
    intro x2 k3 x4 M H locs ls h3 w hl hf
    exact w_X6_homeOf_13b C hr hq ih h3 w hl hf
set_option maxRecDepth 100000 in
set_option maxHeartbeats 4000000 in
theorem w_X6_homeOf_0 (C : gC p s m args c RX6 cX6_homeOf 5 D (xty cI cT cS) 241 (xE cI cT cS) ad) (hr : meth.sig.returnType = (some .int)) (hq : meth.locks = false) {Rs : Int32 × Mem} {x1 : Int32} {x2 : Int32} (w : gWd D 241 (xE cI cT cS) ad M s H locs) (hl : lv_has ls 5 [(0, .ref (ad 0)), (1, .int x1), (2, .int x2)]) (hf : f_X6_homeOf_0  x1 x2 M = some Rs) : W p l e (rmH 0) s m args below meth c H locs 0 0 (MQ below (qI D 241 (xE cI cT cS) ad Rs) args s 0 0 (gA 241 ad)) (F0 m 0 ls []) := by
  unfold f_X6_homeOf_0 at hf
  have hx := C.1.1
  have hb := C.1.2.1
  have hi := C.2.2.2.1
  refine lv_aload_n hx hb dX6_homeOf_0 rfl (lv_at hl 0 rfl) ?_
  refine gt_X6_11 C w dX6_homeOf_1 ?_
  refine lv_iload_n hx hb dX6_homeOf_4 rfl (lv_at hl 1 rfl) ?_
  obtain ⟨t1, e2, hf⟩ := bindS hf
  refine g_aald (t0 := 1) C w rf_T rfl e2 dX6_homeOf_5 ?_
  refine gt_X6_216 ⟨t1, ixQ_lt e2, rfl⟩ C w dX6_homeOf_6 ?_
  refine lv_astore_n (lv' := [(3, .ref (ad ((33 + 13 * t1) + 3))), (0, .ref (ad 0)), (1, .int x1), (2, .int x2)]) hx hb dX6_homeOf_9 rfl hl (by decide) rfl (fun ls hl => ?_)
  refine lv_iconst (v := 0) hx hb dX6_homeOf_10 (by decide) ?_
  refine lv_istore (lv' := [(4, .int (0 : Int32)), (3, .ref (ad ((33 + 13 * t1) + 3))), (0, .ref (ad 0)), (1, .int x1), (2, .int x2)]) hx hb dX6_homeOf_11 hl (by decide) rfl (fun ls hl => ?_)
  exact w_X6_homeOf_13 C hr hq FU (xT_r3 ⟨t1, ixQ_lt e2, rfl⟩) w (lv_sub hl [2, 4, 1, 0] rfl) hf
abbrev f_X6_homeOf (x1 : Int32) (x2 : Int32) (M : Mem) : Option (Int32 × Mem) := f_X6_homeOf_0 x1 x2 M
theorem c_X6_homeOf (hi : gInj 241 ad) {x1 : Int32} {x2 : Int32} {Rs : Int32 × Mem} (hf : f_X6_homeOf x1 x2 M = some Rs) : gMet l yX6_homeOf cX6_homeOf 5 (some .int) 0 D (xty cI cT cS) 241 (xE cI cT cS) ad [.ref (ad 0), .int x1, .int x2] M (qI D 241 (xE cI cT cS) ad Rs) := gMet_of (by decide) hi (xE_loc cI cT cS) (Nat.le_of_ble_eq_true rfl) (fun p e s m args below meth c ls C hr hq w hl => w_X6_homeOf_0 C hr hq  w hl hf)
def f_X6_placeOf_0 (x1 : Int32) (x2 : Int32) (M : Mem) : Option (Nat × Mem) :=
  (ixQ 16 x2).bind fun t1 =>
  if (M (33 + 13 * t1) 2) = 0 then ((ixQ 4 x1).bind fun t4 =>
  some (((13 + 5 * t4) + 1), M)) else (some (3, M))
set_option maxRecDepth 100000 in
set_option maxHeartbeats 4000000 in
theorem w_X6_placeOf_0 (C : gC p s m args c RX6 cX6_placeOf 3 D (xty cI cT cS) 241 (xE cI cT cS) ad) (hr : meth.sig.returnType = (some (.object "ExtensionStarts$Place"))) (hq : meth.locks = false) {Rs : Nat × Mem} {x1 : Int32} {x2 : Int32} (w : gWd D 241 (xE cI cT cS) ad M s H locs) (hl : lv_has ls 3 [(0, .ref (ad 0)), (1, .int x1), (2, .int x2)]) (hf : f_X6_placeOf_0  x1 x2 M = some Rs) : W p l e (rmH 0) s m args below meth c H locs 0 0 (MQ below (qR D 241 (xE cI cT cS) ad Rs) args s 0 0 (gA 241 ad)) (F0 m 0 ls []) := by
  unfold f_X6_placeOf_0 at hf
  have hx := C.1.1
  have hb := C.1.2.1
  have hi := C.2.2.2.1
  refine lv_aload_n hx hb dX6_placeOf_0 rfl (lv_at hl 0 rfl) ?_
  refine gt_X6_11 C w dX6_placeOf_1 ?_
  refine lv_iload_n hx hb dX6_placeOf_4 rfl (lv_at hl 2 rfl) ?_
  obtain ⟨t1, e2, hf⟩ := bindS hf
  refine g_aald (t0 := 1) C w rf_T rfl e2 dX6_placeOf_5 ?_
  refine gt_X6_52 ⟨t1, ixQ_lt e2, rfl⟩ C w dX6_placeOf_6 ?_
  refine lv_if_eq (tgt := 19) hx hb dX6_placeOf_9 (by decide) (fun c3 => ?_) (fun c3 => ?_)
  · replace hf := (if_pos c3).symm.trans hf
    refine lv_aload_n hx hb dX6_placeOf_19 rfl (lv_at hl 0 rfl) ?_
    refine gt_X6_17 C w dX6_placeOf_20 ?_
    refine lv_iload_n hx hb dX6_placeOf_23 rfl (lv_at hl 1 rfl) ?_
    obtain ⟨t4, e5, hf⟩ := bindS hf
    refine g_aald (t0 := 2) C w rf_S rfl e5 dX6_placeOf_24 ?_
    refine gt_X6_213 ⟨t4, ixQ_lt e5, rfl⟩ C w dX6_placeOf_25 ?_
    exact g_aret C w hr hq hf dX6_placeOf_28
  · replace hf := (if_neg c3).symm.trans hf
    refine lv_aload_n hx hb dX6_placeOf_12 rfl (lv_at hl 0 rfl) ?_
    refine gt_X6_24 C w dX6_placeOf_13 ?_
    refine lv_goto (tgt := 28) hx hb dX6_placeOf_16 (by decide) ?_
    exact g_aret C w hr hq hf dX6_placeOf_28
abbrev f_X6_placeOf (x1 : Int32) (x2 : Int32) (M : Mem) : Option (Nat × Mem) := f_X6_placeOf_0 x1 x2 M
theorem c_X6_placeOf (hi : gInj 241 ad) {x1 : Int32} {x2 : Int32} {Rs : Nat × Mem} (hf : f_X6_placeOf x1 x2 M = some Rs) : gMet l yX6_placeOf cX6_placeOf 3 (some (.object "ExtensionStarts$Place")) 0 D (xty cI cT cS) 241 (xE cI cT cS) ad [.ref (ad 0), .int x1, .int x2] M (qR D 241 (xE cI cT cS) ad Rs) := gMet_of (by decide) hi (xE_loc cI cT cS) (Nat.le_of_ble_eq_true rfl) (fun p e s m args below meth c ls C hr hq w hl => w_X6_placeOf_0 C hr hq  w hl hf)
def f_X6_canBeSet_0 (x1 : Int32) (x2 : Int32) (M : Mem) : Option (Int32 × Mem) :=
  (f_X6_homeOf x1 x2 M).bind fun (v3, M1) =>
  if v3 = (-1 : Int32) then (rtZ (0 : Int32) M1) else ((ixQ 16 v3).bind fun t5 =>
  (ldI M1 ((33 + 13 * t5) + 7) 5 x2).bind fun v7 =>
  if v7 = (2 : Int32) then (rtZ (1 : Int32) M1) else (rtZ (0 : Int32) M1))
set_option maxRecDepth 100000 in
set_option maxHeartbeats 4000000 in
theorem w_X6_canBeSet_0 (C : gC p s m args c RX6 cX6_canBeSet 4 D (xty cI cT cS) 241 (xE cI cT cS) ad) (hr : meth.sig.returnType = (some .boolean)) (hq : meth.locks = false) {Rs : Int32 × Mem} {x1 : Int32} {x2 : Int32} (w : gWd D 241 (xE cI cT cS) ad M s H locs) (hl : lv_has ls 4 [(0, .ref (ad 0)), (1, .int x1), (2, .int x2)]) (hf : f_X6_canBeSet_0  x1 x2 M = some Rs) : W p l e (rmH 1) s m args below meth c H locs 0 0 (MQ below (qI D 241 (xE cI cT cS) ad Rs) args s 0 0 (gA 241 ad)) (F0 m 0 ls []) := by
  unfold f_X6_canBeSet_0 at hf
  have hx := C.1.1
  have hb := C.1.2.1
  have hi := C.2.2.2.1
  refine lv_aload_n hx hb dX6_canBeSet_0 rfl (lv_at hl 0 rfl) ?_
  refine lv_iload_n hx hb dX6_canBeSet_1 rfl (lv_at hl 1 rfl) ?_
  refine lv_iload_n hx hb dX6_canBeSet_2 rfl (lv_at hl 2 rfl) ?_
  obtain ⟨⟨v3, M1⟩, e2, hf⟩ := bindS hf
  refine g_backI w (g_runV (rest := []) C w (c_X6_homeOf hi  e2) ob_X6 rfl gv_X6_210 md_X6_homeOf rfl (by omega) (by decide) hl.1 rfl (Nat.le_of_ble_eq_true rfl) dX6_canBeSet_3) (fun H locs w => ?_)
  refine lv_istore_n (lv' := [(3, .int v3), (0, .ref (ad 0)), (1, .int x1), (2, .int x2)]) hx hb dX6_canBeSet_6 rfl hl (by decide) rfl (fun ls hl => ?_)
  refine lv_iload_n hx hb dX6_canBeSet_7 rfl (lv_at hl 0 rfl) ?_
  refine lv_iconst (v := -1) hx hb dX6_canBeSet_8 (by decide) ?_
  refine lv_icmp_eq (tgt := 31) hx hb dX6_canBeSet_9 (by decide) (fun c4 => ?_) (fun c4 => ?_)
  · replace hf := (if_pos c4).symm.trans hf
    refine lv_iconst (v := 0) hx hb dX6_canBeSet_31 (by decide) ?_
    exact g_zret C w hr hq hf dX6_canBeSet_32
  · replace hf := (if_neg c4).symm.trans hf
    refine lv_aload_n hx hb dX6_canBeSet_12 rfl (lv_at hl 1 rfl) ?_
    refine gt_X6_11 C w dX6_canBeSet_13 ?_
    refine lv_iload_n hx hb dX6_canBeSet_16 rfl (lv_at hl 0 rfl) ?_
    obtain ⟨t5, e6, hf⟩ := bindS hf
    refine g_aald (t0 := 1) C w rf_T rfl e6 dX6_canBeSet_17 ?_
    refine gt_X6_95 ⟨t5, ixQ_lt e6, rfl⟩ C w dX6_canBeSet_18 ?_
    refine lv_iload_n hx hb dX6_canBeSet_21 rfl (lv_at hl 3 rfl) ?_
    obtain ⟨v7, e8, hf⟩ := bindS hf
    refine g_iald C w (xT_a7 ⟨t5, ixQ_lt e6, rfl⟩) e8 dX6_canBeSet_22 ?_
    refine lv_iconst (v := 2) hx hb dX6_canBeSet_23 (by decide) ?_
    refine lv_icmp_ne (tgt := 31) hx hb dX6_canBeSet_24 (by decide) (fun c9 => ?_) (fun c9 => ?_)
    · replace hf := (if_neg c9).symm.trans hf
      refine lv_iconst (v := 0) hx hb dX6_canBeSet_31 (by decide) ?_
      exact g_zret C w hr hq hf dX6_canBeSet_32
    · replace hf := (if_pos c9).symm.trans hf
      refine lv_iconst (v := 1) hx hb dX6_canBeSet_27 (by decide) ?_
      refine lv_goto (tgt := 32) hx hb dX6_canBeSet_28 (by decide) ?_
      exact g_zret C w hr hq hf dX6_canBeSet_32
abbrev f_X6_canBeSet (x1 : Int32) (x2 : Int32) (M : Mem) : Option (Int32 × Mem) := f_X6_canBeSet_0 x1 x2 M
theorem c_X6_canBeSet (hi : gInj 241 ad) {x1 : Int32} {x2 : Int32} {Rs : Int32 × Mem} (hf : f_X6_canBeSet x1 x2 M = some Rs) : gMet l yX6_canBeSet cX6_canBeSet 4 (some .boolean) 1 D (xty cI cT cS) 241 (xE cI cT cS) ad [.ref (ad 0), .int x1, .int x2] M (qI D 241 (xE cI cT cS) ad Rs) := gMet_of (by decide) hi (xE_loc cI cT cS) (Nat.le_of_ble_eq_true rfl) (fun p e s m args below meth c ls C hr hq w hl => w_X6_canBeSet_0 C hr hq  w hl hf)
def f_X6_countNotZero_48 (k13_ : (Int32 → Nat → Int32 → Int32 → Mem → Option (Int32 × Mem))) (x2 : Int32) (k3 : Nat) (x4 : Int32) (x5 : Int32) (M : Mem) : Option (Int32 × Mem) :=
  k13_ x2 k3 x4 (x5 + 1) M
def f_X6_countNotZero_13b (k13_ : (Int32 → Nat → Int32 → Int32 → Mem → Option (Int32 × Mem))) (x2 : Int32) (k3 : Nat) (x4 : Int32) (x5 : Int32) (M : Mem) : Option (Int32 × Mem) :=
  if (5 : Int32) ≤ x5 then (some (x4, M)) else ((ixQ 16 x2).bind fun t2 =>
  (ldI M ((33 + 13 * t2) + 7) 5 x5).bind fun v4 =>
  if v4 = (2 : Int32) then ((f_X1_numberOf k3 x2 x5 M).bind fun (v9, M7) =>
  if v9 = 0 then (f_X6_countNotZero_48 k13_ x2 k3 x4 x5 M7) else (f_X6_countNotZero_48 k13_ x2 k3 (x4 + 1) x5 M7)) else (f_X6_countNotZero_48 k13_ x2 k3 x4 x5 M))
def f_X6_countNotZero_13 : Nat → Int32 → Nat → Int32 → Int32 → Mem → Option (Int32 × Mem)
  | 0, _, _, _, _, _ => none
  | n + 1, x2, k3, x4, x5, M => f_X6_countNotZero_13b (f_X6_countNotZero_13  n) x2 k3 x4 x5 M
def f_X6_countNotZero_0 (x1 : Int32) (x2 : Int32) (M : Mem) : Option (Int32 × Mem) :=
  (f_X6_placeOf x1 x2 M).bind fun (k3, M1) =>
  (ckP (xPb k3)).bind fun u4 =>
  f_X6_countNotZero_13 FU x2 k3 (0 : Int32) (0 : Int32) M1
set_option maxRecDepth 100000 in
set_option maxHeartbeats 4000000 in
theorem w_X6_countNotZero_48 (C : gC p s m args c RX6 cX6_countNotZero 6 D (xty cI cT cS) 241 (xE cI cT cS) ad) (hr : meth.sig.returnType = (some .int)) (hq : meth.locks = false) {k13_ : (Int32 → Nat → Int32 → Int32 → Mem → Option (Int32 × Mem))} {Rs : Int32 × Mem} (hk13_ : ∀ {x2 : Int32} {k3 : Nat} {x4 : Int32} {x5 : Int32} {M : Mem} {H : Heap} {locs : List Loc} {ls : Array Slot} (h3 : xP k3), gWd D 241 (xE cI cT cS) ad M s H locs → lv_has ls 6 [(0, .ref (ad 0)), (2, .int x2), (3, .ref (ad k3)), (4, .int x4), (5, .int x5)] → k13_ x2 k3 x4 x5 M = some Rs → W p l e (rmH 1) s m args below meth c H locs 0 0 (MQ below (qI D 241 (xE cI cT cS) ad Rs) args s 0 0 (gA 241 ad)) (F0 m 13 ls [])) {x2 : Int32} {k3 : Nat} {x4 : Int32} {x5 : Int32} (h3 : xP k3) (w : gWd D 241 (xE cI cT cS) ad M s H locs) (hl : lv_has ls 6 [(0, .ref (ad 0)), (2, .int x2), (3, .ref (ad k3)), (4, .int x4), (5, .int x5)]) (hf : f_X6_countNotZero_48 k13_ x2 k3 x4 x5 M = some Rs) : W p l e (rmH 1) s m args below meth c H locs 0 0 (MQ below (qI D 241 (xE cI cT cS) ad Rs) args s 0 0 (gA 241 ad)) (F0 m 48 ls []) := by
  unfold f_X6_countNotZero_48 at hf
  have hx := C.1.1
  have hb := C.1.2.1
  have hi := C.2.2.2.1
  refine lv_iinc (v := (x5 + 1)) (lv' := [(5, .int (x5 + 1)), (0, .ref (ad 0)), (2, .int x2), (3, .ref (ad k3)), (4, .int x4)]) hx hb dX6_countNotZero_48 hl (k := 4) rfl rfl (by decide) rfl (fun ls hl => ?_)
  refine lv_goto (tgt := 13) hx hb dX6_countNotZero_51 (by decide) ?_
  exact hk13_ h3 w (lv_sub hl [1, 2, 3, 4, 0] rfl) hf
set_option maxRecDepth 100000 in
set_option maxHeartbeats 4000000 in
theorem w_X6_countNotZero_13b (C : gC p s m args c RX6 cX6_countNotZero 6 D (xty cI cT cS) 241 (xE cI cT cS) ad) (hr : meth.sig.returnType = (some .int)) (hq : meth.locks = false) {k13_ : (Int32 → Nat → Int32 → Int32 → Mem → Option (Int32 × Mem))} {Rs : Int32 × Mem} (hk13_ : ∀ {x2 : Int32} {k3 : Nat} {x4 : Int32} {x5 : Int32} {M : Mem} {H : Heap} {locs : List Loc} {ls : Array Slot} (h3 : xP k3), gWd D 241 (xE cI cT cS) ad M s H locs → lv_has ls 6 [(0, .ref (ad 0)), (2, .int x2), (3, .ref (ad k3)), (4, .int x4), (5, .int x5)] → k13_ x2 k3 x4 x5 M = some Rs → W p l e (rmH 1) s m args below meth c H locs 0 0 (MQ below (qI D 241 (xE cI cT cS) ad Rs) args s 0 0 (gA 241 ad)) (F0 m 13 ls [])) {x2 : Int32} {k3 : Nat} {x4 : Int32} {x5 : Int32} (h3 : xP k3) (w : gWd D 241 (xE cI cT cS) ad M s H locs) (hl : lv_has ls 6 [(0, .ref (ad 0)), (2, .int x2), (3, .ref (ad k3)), (4, .int x4), (5, .int x5)]) (hf : f_X6_countNotZero_13b k13_ x2 k3 x4 x5 M = some Rs) : W p l e (rmH 1) s m args below meth c H locs 0 0 (MQ below (qI D 241 (xE cI cT cS) ad Rs) args s 0 0 (gA 241 ad)) (F0 m 13 ls []) := by
  unfold f_X6_countNotZero_13b at hf
  have hx := C.1.1
  have hb := C.1.2.1
  have hi := C.2.2.2.1
  refine lv_iload hx hb dX6_countNotZero_13 (lv_at hl 4 rfl) ?_
  refine lv_iconst (v := 5) hx hb dX6_countNotZero_15 (by decide) ?_
  refine lv_icmp_ge (tgt := 54) hx hb dX6_countNotZero_16 (by decide) (fun c1 => ?_) (fun c1 => ?_)
  · replace hf := (if_pos c1).symm.trans hf
    refine lv_iload hx hb dX6_countNotZero_54 (lv_at hl 3 rfl) ?_
    exact g_iret C w hr hq hf dX6_countNotZero_56
  · replace hf := (if_neg c1).symm.trans hf
    refine lv_aload_n hx hb dX6_countNotZero_19 rfl (lv_at hl 0 rfl) ?_
    refine gt_X6_11 C w dX6_countNotZero_20 ?_
    refine lv_iload_n hx hb dX6_countNotZero_23 rfl (lv_at hl 1 rfl) ?_
    obtain ⟨t2, e3, hf⟩ := bindS hf
    refine g_aald (t0 := 1) C w rf_T rfl e3 dX6_countNotZero_24 ?_
    refine gt_X6_95 ⟨t2, ixQ_lt e3, rfl⟩ C w dX6_countNotZero_25 ?_
    refine lv_iload hx hb dX6_countNotZero_28 (lv_at hl 4 rfl) ?_
    obtain ⟨v4, e5, hf⟩ := bindS hf
    refine g_iald C w (xT_a7 ⟨t2, ixQ_lt e3, rfl⟩) e5 dX6_countNotZero_30 ?_
    refine lv_iconst (v := 2) hx hb dX6_countNotZero_31 (by decide) ?_
    refine lv_icmp_ne (tgt := 48) hx hb dX6_countNotZero_32 (by decide) (fun c6 => ?_) (fun c6 => ?_)
    · replace hf := (if_neg c6).symm.trans hf
      exact w_X6_countNotZero_48 C hr hq hk13_ h3 w (lv_sub hl [0, 1, 2, 3, 4] rfl) hf
    · replace hf := (if_pos c6).symm.trans hf
      refine lv_aload_n hx hb dX6_countNotZero_35 rfl (lv_at hl 2 rfl) ?_
      refine lv_iload_n hx hb dX6_countNotZero_36 rfl (lv_at hl 1 rfl) ?_
      refine lv_iload hx hb dX6_countNotZero_37 (lv_at hl 4 rfl) ?_
      obtain ⟨⟨v9, M7⟩, e8, hf⟩ := bindS hf
      refine g_backI w (g_runV (rest := []) C w (c_X1_numberOf hi h3 e8) (ob_X1 h3) rfl gv_X6_160 md_X1_numberOf rfl (by omega) (by decide) hl.1 rfl (Nat.le_of_ble_eq_true rfl) dX6_countNotZero_39) (fun H locs w => ?_)
      refine lv_if_eq (tgt := 48) hx hb dX6_countNotZero_42 (by decide) (fun c10 => ?_) (fun c10 => ?_)
      · replace hf := (if_pos c10).symm.trans hf
        exact w_X6_countNotZero_48 C hr hq hk13_ h3 w (lv_sub hl [0, 1, 2, 3, 4] rfl) hf
      · replace hf := (if_neg c10).symm.trans hf
        refine lv_iinc (v := (x4 + 1)) (lv' := [(4, .int (x4 + 1)), (0, .ref (ad 0)), (2, .int x2), (3, .ref (ad k3)), (5, .int x5)]) hx hb dX6_countNotZero_45 hl (k := 3) rfl rfl (by decide) rfl (fun ls hl => ?_)
        exact w_X6_countNotZero_48 C hr hq hk13_ h3 w (lv_sub hl [1, 2, 3, 0, 4] rfl) hf
theorem w_X6_countNotZero_13 (C : gC p s m args c RX6 cX6_countNotZero 6 D (xty cI cT cS) 241 (xE cI cT cS) ad) (hr : meth.sig.returnType = (some .int)) (hq : meth.locks = false) {Rs : Int32 × Mem} : ∀ (n : Nat) {x2 : Int32} {k3 : Nat} {x4 : Int32} {x5 : Int32} {M : Mem} {H : Heap} {locs : List Loc} {ls : Array Slot} (h3 : xP k3), gWd D 241 (xE cI cT cS) ad M s H locs → lv_has ls 6 [(0, .ref (ad 0)), (2, .int x2), (3, .ref (ad k3)), (4, .int x4), (5, .int x5)] → f_X6_countNotZero_13  n x2 k3 x4 x5 M = some Rs → W p l e (rmH 1) s m args below meth c H locs 0 0 (MQ below (qI D 241 (xE cI cT cS) ad Rs) args s 0 0 (gA 241 ad)) (F0 m 13 ls []) := by
  intro n
  induction n with
  | zero =>
    intro x2 k3 x4 x5 M H locs ls h3 w hl hf
    cases hf
  | succ n ih =>
    intro x2 k3 x4 x5 M H locs ls h3 w hl hf
    exact w_X6_countNotZero_13b C hr hq ih h3 w hl hf
set_option maxRecDepth 100000 in
set_option maxHeartbeats 4000000 in
theorem w_X6_countNotZero_0 (C : gC p s m args c RX6 cX6_countNotZero 6 D (xty cI cT cS) 241 (xE cI cT cS) ad) (hr : meth.sig.returnType = (some .int)) (hq : meth.locks = false) {Rs : Int32 × Mem} {x1 : Int32} {x2 : Int32} (w : gWd D 241 (xE cI cT cS) ad M s H locs) (hl : lv_has ls 6 [(0, .ref (ad 0)), (1, .int x1), (2, .int x2)]) (hf : f_X6_countNotZero_0  x1 x2 M = some Rs) : W p l e (rmH 1) s m args below meth c H locs 0 0 (MQ below (qI D 241 (xE cI cT cS) ad Rs) args s 0 0 (gA 241 ad)) (F0 m 0 ls []) := by
  unfold f_X6_countNotZero_0 at hf
  have hx := C.1.1
  have hb := C.1.2.1
  have hi := C.2.2.2.1
  refine lv_aload_n hx hb dX6_countNotZero_0 rfl (lv_at hl 0 rfl) ?_
  refine lv_iload_n hx hb dX6_countNotZero_1 rfl (lv_at hl 1 rfl) ?_
  refine lv_iload_n hx hb dX6_countNotZero_2 rfl (lv_at hl 2 rfl) ?_
  obtain ⟨⟨k3, M1⟩, e2, hf⟩ := bindS hf
  refine g_backR w (g_runV (rest := []) C w (c_X6_placeOf hi  e2) ob_X6 rfl gv_X6_146 md_X6_placeOf rfl (by omega) (by decide) hl.1 rfl (Nat.le_of_ble_eq_true rfl) dX6_countNotZero_3) (fun H locs w => ?_)
  obtain ⟨u4, e5, hf⟩ := bindS hf
  refine lv_astore_n (lv' := [(3, .ref (ad k3)), (0, .ref (ad 0)), (1, .int x1), (2, .int x2)]) hx hb dX6_countNotZero_6 rfl hl (by decide) rfl (fun ls hl => ?_)
  refine lv_iconst (v := 0) hx hb dX6_countNotZero_7 (by decide) ?_
  refine lv_istore (lv' := [(4, .int (0 : Int32)), (3, .ref (ad k3)), (0, .ref (ad 0)), (1, .int x1), (2, .int x2)]) hx hb dX6_countNotZero_8 hl (by decide) rfl (fun ls hl => ?_)
  refine lv_iconst (v := 0) hx hb dX6_countNotZero_10 (by decide) ?_
  refine lv_istore (lv' := [(5, .int (0 : Int32)), (4, .int (0 : Int32)), (3, .ref (ad k3)), (0, .ref (ad 0)), (1, .int x1), (2, .int x2)]) hx hb dX6_countNotZero_11 hl (by decide) rfl (fun ls hl => ?_)
  exact w_X6_countNotZero_13 C hr hq FU (xPb_ok e5) w (lv_sub hl [3, 5, 2, 1, 0] rfl) hf
abbrev f_X6_countNotZero (x1 : Int32) (x2 : Int32) (M : Mem) : Option (Int32 × Mem) := f_X6_countNotZero_0 x1 x2 M
theorem c_X6_countNotZero (hi : gInj 241 ad) {x1 : Int32} {x2 : Int32} {Rs : Int32 × Mem} (hf : f_X6_countNotZero x1 x2 M = some Rs) : gMet l yX6_countNotZero cX6_countNotZero 6 (some .int) 1 D (xty cI cT cS) 241 (xE cI cT cS) ad [.ref (ad 0), .int x1, .int x2] M (qI D 241 (xE cI cT cS) ad Rs) := gMet_of (by decide) hi (xE_loc cI cT cS) (Nat.le_of_ble_eq_true rfl) (fun p e s m args below meth c ls C hr hq w hl => w_X6_countNotZero_0 C hr hq  w hl hf)
def f_X6_arrange_110 (k31_ : (Nat → Int32 → Mem → Option (Int32 × Mem))) (k2 : Nat) (x3 : Int32) (M : Mem) : Option (Int32 × Mem) :=
  k31_ k2 (x3 + 1) M
def f_X6_arrange_31b (k31_ : (Nat → Int32 → Mem → Option (Int32 × Mem))) (k2 : Nat) (x3 : Int32) (M : Mem) : Option (Int32 × Mem) :=
  if (M (k2 + 1) 1) ≤ x3 then (if (M k2 1) = (-1 : Int32) then (some ((0 : Int32), M)) else ((ixQ 16 (M k2 1)).bind fun t3 =>
  (f_X2_addAllOnce (k2 + 3) ((33 + 13 * t3) + 3) M).bind fun (v7, M5) =>
  some ((0 : Int32), M5))) else ((ldI M ((k2 + 1) + 1) 16 x3).bind fun v8 =>
  (ixQ 16 v8).bind fun t10 =>
  (f_X2_addAllOnce (k2 + 3) ((33 + 13 * t10) + 3) M).bind fun (v14, M12) =>
  (ixQ 16 v8).bind fun t15 =>
  (f_X2_addAllOnce (k2 + 5) ((33 + 13 * t15) + 5) M12).bind fun (v19, M17) =>
  (ixQ 16 v8).bind fun t20 =>
  if (M17 (33 + 13 * t20) 0) = (2 : Int32) then ((f_X2_addOnce (k2 + 5) v8 M17).bind fun (v25, M23) =>
  f_X6_arrange_110 k31_ k2 x3 M23) else (f_X6_arrange_110 k31_ k2 x3 M17))
def f_X6_arrange_31 : Nat → Nat → Int32 → Mem → Option (Int32 × Mem)
  | 0, _, _, _ => none
  | n + 1, k2, x3, M => f_X6_arrange_31b (f_X6_arrange_31  n) k2 x3 M
def f_X6_arrange_0 (x1 : Int32) (M : Mem) : Option (Int32 × Mem) :=
  (ixQ 16 x1).bind fun t1 =>
  (f_X2_empty ((33 + 13 * t1) + 3) M).bind fun (v5, M3) =>
  (f_X2_empty ((33 + 13 * t1) + 5) M3).bind fun (v8, M6) =>
  (f_X2_addOnce ((33 + 13 * t1) + 3) x1 M6).bind fun (v11, M9) =>
  f_X6_arrange_31 FU (33 + 13 * t1) (0 : Int32) M9
set_option maxRecDepth 100000 in
set_option maxHeartbeats 4000000 in
theorem w_X6_arrange_110 (C : gC p s m args c RX6 cX6_arrange 5 D (xty cI cT cS) 241 (xE cI cT cS) ad) (hr : meth.sig.returnType = none) (hq : meth.locks = false) {k31_ : (Nat → Int32 → Mem → Option (Int32 × Mem))} {Rs : Int32 × Mem} (hk31_ : ∀ {k2 : Nat} {x3 : Int32} {M : Mem} {H : Heap} {locs : List Loc} {ls : Array Slot} (h2 : xT k2), gWd D 241 (xE cI cT cS) ad M s H locs → lv_has ls 5 [(0, .ref (ad 0)), (2, .ref (ad k2)), (3, .int x3)] → k31_ k2 x3 M = some Rs → W p l e (rmH 3) s m args below meth c H locs 0 0 (MQ below (qV D 241 (xE cI cT cS) ad Rs) args s 0 0 (gA 241 ad)) (F0 m 31 ls [])) {k2 : Nat} {x3 : Int32} (h2 : xT k2) (w : gWd D 241 (xE cI cT cS) ad M s H locs) (hl : lv_has ls 5 [(0, .ref (ad 0)), (2, .ref (ad k2)), (3, .int x3)]) (hf : f_X6_arrange_110 k31_ k2 x3 M = some Rs) : W p l e (rmH 3) s m args below meth c H locs 0 0 (MQ below (qV D 241 (xE cI cT cS) ad Rs) args s 0 0 (gA 241 ad)) (F0 m 110 ls []) := by
  unfold f_X6_arrange_110 at hf
  have hx := C.1.1
  have hb := C.1.2.1
  have hi := C.2.2.2.1
  refine lv_iinc (v := (x3 + 1)) (lv' := [(3, .int (x3 + 1)), (0, .ref (ad 0)), (2, .ref (ad k2))]) hx hb dX6_arrange_110 hl (k := 2) rfl rfl (by decide) rfl (fun ls hl => ?_)
  refine lv_goto (tgt := 31) hx hb dX6_arrange_113 (by decide) ?_
  exact hk31_ h2 w (lv_sub hl [1, 2, 0] rfl) hf
set_option maxRecDepth 100000 in
set_option maxHeartbeats 4000000 in
theorem w_X6_arrange_31b (C : gC p s m args c RX6 cX6_arrange 5 D (xty cI cT cS) 241 (xE cI cT cS) ad) (hr : meth.sig.returnType = none) (hq : meth.locks = false) {k31_ : (Nat → Int32 → Mem → Option (Int32 × Mem))} {Rs : Int32 × Mem} (hk31_ : ∀ {k2 : Nat} {x3 : Int32} {M : Mem} {H : Heap} {locs : List Loc} {ls : Array Slot} (h2 : xT k2), gWd D 241 (xE cI cT cS) ad M s H locs → lv_has ls 5 [(0, .ref (ad 0)), (2, .ref (ad k2)), (3, .int x3)] → k31_ k2 x3 M = some Rs → W p l e (rmH 3) s m args below meth c H locs 0 0 (MQ below (qV D 241 (xE cI cT cS) ad Rs) args s 0 0 (gA 241 ad)) (F0 m 31 ls [])) {k2 : Nat} {x3 : Int32} (h2 : xT k2) (w : gWd D 241 (xE cI cT cS) ad M s H locs) (hl : lv_has ls 5 [(0, .ref (ad 0)), (2, .ref (ad k2)), (3, .int x3)]) (hf : f_X6_arrange_31b k31_ k2 x3 M = some Rs) : W p l e (rmH 3) s m args below meth c H locs 0 0 (MQ below (qV D 241 (xE cI cT cS) ad Rs) args s 0 0 (gA 241 ad)) (F0 m 31 ls []) := by
  unfold f_X6_arrange_31b at hf
  have hx := C.1.1
  have hb := C.1.2.1
  have hi := C.2.2.2.1
  refine lv_iload_n hx hb dX6_arrange_31 rfl (lv_at hl 2 rfl) ?_
  refine lv_aload_n hx hb dX6_arrange_32 rfl (lv_at hl 1 rfl) ?_
  refine gt_X6_74 h2 C w dX6_arrange_33 ?_
  refine gt_X6_83 (xT_r1 h2) C w dX6_arrange_36 ?_
  refine lv_icmp_ge (tgt := 116) hx hb dX6_arrange_39 (by decide) (fun c1 => ?_) (fun c1 => ?_)
  · replace hf := (if_pos c1).symm.trans hf
    refine lv_aload_n hx hb dX6_arrange_116 rfl (lv_at hl 1 rfl) ?_
    refine gt_X6_232 h2 C w dX6_arrange_117 ?_
    refine lv_iconst (v := -1) hx hb dX6_arrange_120 (by decide) ?_
    refine lv_icmp_eq (tgt := 143) hx hb dX6_arrange_121 (by decide) (fun c2 => ?_) (fun c2 => ?_)
    · replace hf := (if_pos c2).symm.trans hf
      exact g_vret C w hr hq hf dX6_arrange_143
    · replace hf := (if_neg c2).symm.trans hf
      refine lv_aload_n hx hb dX6_arrange_124 rfl (lv_at hl 1 rfl) ?_
      refine gt_X6_216 h2 C w dX6_arrange_125 ?_
      refine lv_aload_n hx hb dX6_arrange_128 rfl (lv_at hl 0 rfl) ?_
      refine gt_X6_11 C w dX6_arrange_129 ?_
      refine lv_aload_n hx hb dX6_arrange_132 rfl (lv_at hl 1 rfl) ?_
      refine gt_X6_232 h2 C w dX6_arrange_133 ?_
      obtain ⟨t3, e4, hf⟩ := bindS hf
      refine g_aald (t0 := 1) C w rf_T rfl e4 dX6_arrange_136 ?_
      refine gt_X6_216 ⟨t3, ixQ_lt e4, rfl⟩ C w dX6_arrange_137 ?_
      obtain ⟨⟨v7, M5⟩, e6, hf⟩ := bindS hf
      refine g_backV w (g_runV (rest := []) C w (c_X2_addAllOnce hi (xT_r3 h2) (xT_r3 ⟨t3, ixQ_lt e4, rfl⟩) e6) (ob_X2 (xT_r3 h2)) rfl gv_X6_228 md_X2_addAllOnce rfl (by omega) (by decide) hl.1 rfl (Nat.le_of_ble_eq_true rfl) dX6_arrange_140) (fun H locs w => ?_)
      exact g_vret C w hr hq hf dX6_arrange_143
  · replace hf := (if_neg c1).symm.trans hf
    refine lv_aload_n hx hb dX6_arrange_42 rfl (lv_at hl 1 rfl) ?_
    refine gt_X6_74 h2 C w dX6_arrange_43 ?_
    refine gt_X6_225 (xT_r1 h2) C w dX6_arrange_46 ?_
    refine lv_iload_n hx hb dX6_arrange_49 rfl (lv_at hl 2 rfl) ?_
    obtain ⟨v8, e9, hf⟩ := bindS hf
    refine g_iald C w (xR_a (xT_r1 h2)) e9 dX6_arrange_50 ?_
    refine lv_istore (lv' := [(4, .int v8), (0, .ref (ad 0)), (2, .ref (ad k2)), (3, .int x3)]) hx hb dX6_arrange_51 hl (by decide) rfl (fun ls hl => ?_)
    refine lv_aload_n hx hb dX6_arrange_53 rfl (lv_at hl 2 rfl) ?_
    refine gt_X6_216 h2 C w dX6_arrange_54 ?_
    refine lv_aload_n hx hb dX6_arrange_57 rfl (lv_at hl 1 rfl) ?_
    refine gt_X6_11 C w dX6_arrange_58 ?_
    refine lv_iload hx hb dX6_arrange_61 (lv_at hl 0 rfl) ?_
    obtain ⟨t10, e11, hf⟩ := bindS hf
    refine g_aald (t0 := 1) C w rf_T rfl e11 dX6_arrange_63 ?_
    refine gt_X6_216 ⟨t10, ixQ_lt e11, rfl⟩ C w dX6_arrange_64 ?_
    obtain ⟨⟨v14, M12⟩, e13, hf⟩ := bindS hf
    refine g_backV w (g_runV (rest := []) C w (c_X2_addAllOnce hi (xT_r3 h2) (xT_r3 ⟨t10, ixQ_lt e11, rfl⟩) e13) (ob_X2 (xT_r3 h2)) rfl gv_X6_228 md_X2_addAllOnce rfl (by omega) (by decide) hl.1 rfl (Nat.le_of_ble_eq_true rfl) dX6_arrange_67) (fun H locs w => ?_)
    refine lv_aload_n hx hb dX6_arrange_70 rfl (lv_at hl 2 rfl) ?_
    refine gt_X6_222 h2 C w dX6_arrange_71 ?_
    refine lv_aload_n hx hb dX6_arrange_74 rfl (lv_at hl 1 rfl) ?_
    refine gt_X6_11 C w dX6_arrange_75 ?_
    refine lv_iload hx hb dX6_arrange_78 (lv_at hl 0 rfl) ?_
    obtain ⟨t15, e16, hf⟩ := bindS hf
    refine g_aald (t0 := 1) C w rf_T rfl e16 dX6_arrange_80 ?_
    refine gt_X6_222 ⟨t15, ixQ_lt e16, rfl⟩ C w dX6_arrange_81 ?_
    obtain ⟨⟨v19, M17⟩, e18, hf⟩ := bindS hf
    refine g_backV w (g_runV (rest := []) C w (c_X2_addAllOnce hi (xT_r5 h2) (xT_r5 ⟨t15, ixQ_lt e16, rfl⟩) e18) (ob_X2 (xT_r5 h2)) rfl gv_X6_228 md_X2_addAllOnce rfl (by omega) (by decide) hl.1 rfl (Nat.le_of_ble_eq_true rfl) dX6_arrange_84) (fun H locs w => ?_)
    refine lv_aload_n hx hb dX6_arrange_87 rfl (lv_at hl 1 rfl) ?_
    refine gt_X6_11 C w dX6_arrange_88 ?_
    refine lv_iload hx hb dX6_arrange_91 (lv_at hl 0 rfl) ?_
    obtain ⟨t20, e21, hf⟩ := bindS hf
    refine g_aald (t0 := 1) C w rf_T rfl e21 dX6_arrange_93 ?_
    refine gt_X6_71 ⟨t20, ixQ_lt e21, rfl⟩ C w dX6_arrange_94 ?_
    refine lv_iconst (v := 2) hx hb dX6_arrange_97 (by decide) ?_
    refine lv_icmp_ne (tgt := 110) hx hb dX6_arrange_98 (by decide) (fun c22 => ?_) (fun c22 => ?_)
    · replace hf := (if_neg c22).symm.trans hf
      exact w_X6_arrange_110 C hr hq hk31_ h2 w (lv_sub hl [1, 2, 3] rfl) hf
    · replace hf := (if_pos c22).symm.trans hf
      refine lv_aload_n hx hb dX6_arrange_101 rfl (lv_at hl 2 rfl) ?_
      refine gt_X6_222 h2 C w dX6_arrange_102 ?_
      refine lv_iload hx hb dX6_arrange_105 (lv_at hl 0 rfl) ?_
      obtain ⟨⟨v25, M23⟩, e24, hf⟩ := bindS hf
      refine g_backV w (g_runV (rest := []) C w (c_X2_addOnce hi (xT_r5 h2) e24) (ob_X2 (xT_r5 h2)) rfl gv_X6_86 md_X2_addOnce rfl (by omega) (by decide) hl.1 rfl (Nat.le_of_ble_eq_true rfl) dX6_arrange_107) (fun H locs w => ?_)
      exact w_X6_arrange_110 C hr hq hk31_ h2 w (lv_sub hl [1, 2, 3] rfl) hf
theorem w_X6_arrange_31 (C : gC p s m args c RX6 cX6_arrange 5 D (xty cI cT cS) 241 (xE cI cT cS) ad) (hr : meth.sig.returnType = none) (hq : meth.locks = false) {Rs : Int32 × Mem} : ∀ (n : Nat) {k2 : Nat} {x3 : Int32} {M : Mem} {H : Heap} {locs : List Loc} {ls : Array Slot} (h2 : xT k2), gWd D 241 (xE cI cT cS) ad M s H locs → lv_has ls 5 [(0, .ref (ad 0)), (2, .ref (ad k2)), (3, .int x3)] → f_X6_arrange_31  n k2 x3 M = some Rs → W p l e (rmH 3) s m args below meth c H locs 0 0 (MQ below (qV D 241 (xE cI cT cS) ad Rs) args s 0 0 (gA 241 ad)) (F0 m 31 ls []) := by
  intro n
  induction n with
  | zero =>
    intro k2 x3 M H locs ls h2 w hl hf
    cases hf
  | succ n ih =>
    intro k2 x3 M H locs ls h2 w hl hf
    exact w_X6_arrange_31b C hr hq ih h2 w hl hf
set_option maxRecDepth 100000 in
set_option maxHeartbeats 4000000 in
theorem w_X6_arrange_0 (C : gC p s m args c RX6 cX6_arrange 5 D (xty cI cT cS) 241 (xE cI cT cS) ad) (hr : meth.sig.returnType = none) (hq : meth.locks = false) {Rs : Int32 × Mem} {x1 : Int32} (w : gWd D 241 (xE cI cT cS) ad M s H locs) (hl : lv_has ls 5 [(0, .ref (ad 0)), (1, .int x1)]) (hf : f_X6_arrange_0  x1 M = some Rs) : W p l e (rmH 3) s m args below meth c H locs 0 0 (MQ below (qV D 241 (xE cI cT cS) ad Rs) args s 0 0 (gA 241 ad)) (F0 m 0 ls []) := by
  unfold f_X6_arrange_0 at hf
  have hx := C.1.1
  have hb := C.1.2.1
  have hi := C.2.2.2.1
  refine lv_aload_n hx hb dX6_arrange_0 rfl (lv_at hl 0 rfl) ?_
  refine gt_X6_11 C w dX6_arrange_1 ?_
  refine lv_iload_n hx hb dX6_arrange_4 rfl (lv_at hl 1 rfl) ?_
  obtain ⟨t1, e2, hf⟩ := bindS hf
  refine g_aald (t0 := 1) C w rf_T rfl e2 dX6_arrange_5 ?_
  refine lv_astore_n (lv' := [(2, .ref (ad (33 + 13 * t1))), (0, .ref (ad 0)), (1, .int x1)]) hx hb dX6_arrange_6 rfl hl (by decide) rfl (fun ls hl => ?_)
  refine lv_aload_n hx hb dX6_arrange_7 rfl (lv_at hl 0 rfl) ?_
  refine gt_X6_216 ⟨t1, ixQ_lt e2, rfl⟩ C w dX6_arrange_8 ?_
  obtain ⟨⟨v5, M3⟩, e4, hf⟩ := bindS hf
  refine g_backV w (g_runV (rest := []) C w (c_X2_empty hi (xT_r3 ⟨t1, ixQ_lt e2, rfl⟩) e4) (ob_X2 (xT_r3 ⟨t1, ixQ_lt e2, rfl⟩)) rfl gv_X6_219 md_X2_empty rfl (by omega) (by decide) hl.1 rfl (Nat.le_of_ble_eq_true rfl) dX6_arrange_11) (fun H locs w => ?_)
  refine lv_aload_n hx hb dX6_arrange_14 rfl (lv_at hl 0 rfl) ?_
  refine gt_X6_222 ⟨t1, ixQ_lt e2, rfl⟩ C w dX6_arrange_15 ?_
  obtain ⟨⟨v8, M6⟩, e7, hf⟩ := bindS hf
  refine g_backV w (g_runV (rest := []) C w (c_X2_empty hi (xT_r5 ⟨t1, ixQ_lt e2, rfl⟩) e7) (ob_X2 (xT_r5 ⟨t1, ixQ_lt e2, rfl⟩)) rfl gv_X6_219 md_X2_empty rfl (by omega) (by decide) hl.1 rfl (Nat.le_of_ble_eq_true rfl) dX6_arrange_18) (fun H locs w => ?_)
  refine lv_aload_n hx hb dX6_arrange_21 rfl (lv_at hl 0 rfl) ?_
  refine gt_X6_216 ⟨t1, ixQ_lt e2, rfl⟩ C w dX6_arrange_22 ?_
  refine lv_iload_n hx hb dX6_arrange_25 rfl (lv_at hl 2 rfl) ?_
  obtain ⟨⟨v11, M9⟩, e10, hf⟩ := bindS hf
  refine g_backV w (g_runV (rest := []) C w (c_X2_addOnce hi (xT_r3 ⟨t1, ixQ_lt e2, rfl⟩) e10) (ob_X2 (xT_r3 ⟨t1, ixQ_lt e2, rfl⟩)) rfl gv_X6_86 md_X2_addOnce rfl (by omega) (by decide) hl.1 rfl (Nat.le_of_ble_eq_true rfl) dX6_arrange_26) (fun H locs w => ?_)
  refine lv_iconst (v := 0) hx hb dX6_arrange_29 (by decide) ?_
  refine lv_istore_n (lv' := [(3, .int (0 : Int32)), (2, .ref (ad (33 + 13 * t1))), (0, .ref (ad 0)), (1, .int x1)]) hx hb dX6_arrange_30 rfl hl (by decide) rfl (fun ls hl => ?_)
  exact w_X6_arrange_31 C hr hq FU ⟨t1, ixQ_lt e2, rfl⟩ w (lv_sub hl [2, 1, 0] rfl) hf
abbrev f_X6_arrange (x1 : Int32) (M : Mem) : Option (Int32 × Mem) := f_X6_arrange_0 x1 M
theorem c_X6_arrange (hi : gInj 241 ad) {x1 : Int32} {Rs : Int32 × Mem} (hf : f_X6_arrange x1 M = some Rs) : gMet l yX6_arrange cX6_arrange 5 none 3 D (xty cI cT cS) 241 (xE cI cT cS) ad [.ref (ad 0), .int x1] M (qV D 241 (xE cI cT cS) ad Rs) := gMet_of (by decide) hi (xE_loc cI cT cS) (Nat.le_of_ble_eq_true rfl) (fun p e s m args below meth c ls C hr hq w hl => w_X6_arrange_0 C hr hq  w hl hf)
def f_X6_refusalOfUse_103 (M : Mem) : Option (Int32 × Mem) :=
  if (M 6 3) < (512 : Int32) then (some ((0 : Int32), M)) else (some ((-104 : Int32), M))
def f_X6_refusalOfUse_85 (x2 : Int32) (x3 : Int32) (x4 : Int32) (M : Mem) : Option (Int32 × Mem) :=
  if x3 = (2 : Int32) then ((f_X6_canBeSet x2 x4 M).bind fun (v4, M2) =>
  if v4 = 0 then (some ((-103 : Int32), M2)) else (f_X6_refusalOfUse_103 M2)) else (f_X6_refusalOfUse_103 M)
def f_X6_refusalOfUse_73 (x2 : Int32) (x3 : Int32) (x4 : Int32) (M : Mem) : Option (Int32 × Mem) :=
  if x3 = 0 then ((f_X6_isClass x2 M).bind fun (v4, M2) =>
  if v4 = 0 then (some ((-103 : Int32), M2)) else (f_X6_refusalOfUse_85 x2 x3 x4 M2)) else (f_X6_refusalOfUse_85 x2 x3 x4 M)
def f_X6_refusalOfUse_57 (x2 : Int32) (x3 : Int32) (x4 : Int32) (x5 : Int32) (M : Mem) : Option (Int32 × Mem) :=
  if x3 = (2 : Int32) then ((f_X6_isNumber x5 M).bind fun (v4, M2) =>
  if v4 = 0 then (some ((-102 : Int32), M2)) else (f_X6_refusalOfUse_73 x2 x3 x4 M2)) else (f_X6_refusalOfUse_73 x2 x3 x4 M)
def f_X6_refusalOfUse_33 (x2 : Int32) (x3 : Int32) (x4 : Int32) (x5 : Int32) (s0 : Int32) (M : Mem) : Option (Int32 × Mem) :=
  (f_X6_within x3 (0 : Int32) (3 : Int32) M).bind fun (v3, M1) =>
  if v3 = 0 then (some ((-102 : Int32), M1)) else (if s0 = 0 then (f_X6_refusalOfUse_57 x2 x3 x4 x5 M1) else ((f_X6_isField x4 M1).bind fun (v8, M6) =>
  if v8 = 0 then (some ((-102 : Int32), M6)) else (f_X6_refusalOfUse_57 x2 x3 x4 x5 M6)))
def f_X6_refusalOfUse_28 (x2 : Int32) (x3 : Int32) (x4 : Int32) (x5 : Int32) (M : Mem) : Option (Int32 × Mem) :=
  f_X6_refusalOfUse_33 x2 x3 x4 x5 (1 : Int32) M
def f_X6_refusalOfUse_0 (x1 : Int32) (x2 : Int32) (x3 : Int32) (x4 : Int32) (x5 : Int32) (M : Mem) : Option (Int32 × Mem) :=
  (f_X6_isSession x1 M).bind fun (v3, M1) =>
  if v3 = 0 then (some ((-101 : Int32), M1)) else ((f_X6_isType x2 M1).bind fun (v7, M5) =>
  if v7 = 0 then (some ((-101 : Int32), M5)) else (if x3 = (1 : Int32) then (f_X6_refusalOfUse_28 x2 x3 x4 x5 M5) else (if x3 = (2 : Int32) then (f_X6_refusalOfUse_28 x2 x3 x4 x5 M5) else (f_X6_refusalOfUse_33 x2 x3 x4 x5 (0 : Int32) M5))))
set_option maxRecDepth 100000 in
set_option maxHeartbeats 4000000 in
theorem w_X6_refusalOfUse_103 (C : gC p s m args c RX6 cX6_refusalOfUse 7 D (xty cI cT cS) 241 (xE cI cT cS) ad) (hr : meth.sig.returnType = (some .int)) (hq : meth.locks = false) {Rs : Int32 × Mem}  (w : gWd D 241 (xE cI cT cS) ad M s H locs) (hl : lv_has ls 7 [(0, .ref (ad 0))]) (hf : f_X6_refusalOfUse_103  M = some Rs) : W p l e (rmH 3) s m args below meth c H locs 0 0 (MQ below (qI D 241 (xE cI cT cS) ad Rs) args s 0 0 (gA 241 ad)) (F0 m 103 ls []) := by
  unfold f_X6_refusalOfUse_103 at hf
  have hx := C.1.1
  have hb := C.1.2.1
  have hi := C.2.2.2.1
  refine lv_aload_n hx hb dX6_refusalOfUse_103 rfl (lv_at hl 0 rfl) ?_
  refine gt_X6_31 C w dX6_refusalOfUse_104 ?_
  refine gt_X6_198 C w dX6_refusalOfUse_107 ?_
  refine lv_sipush (v := 512) hx hb dX6_refusalOfUse_110 (by decide) ?_
  refine lv_icmp_lt (tgt := 121) hx hb dX6_refusalOfUse_113 (by decide) (fun c1 => ?_) (fun c1 => ?_)
  · replace hf := (if_pos c1).symm.trans hf
    refine lv_iconst (v := 0) hx hb dX6_refusalOfUse_121 (by decide) ?_
    exact g_iret C w hr hq hf dX6_refusalOfUse_122
  · replace hf := (if_neg c1).symm.trans hf
    refine lv_bipush (v := -104) hx hb dX6_refusalOfUse_116 (by decide) ?_
    refine lv_goto (tgt := 122) hx hb dX6_refusalOfUse_118 (by decide) ?_
    exact g_iret C w hr hq hf dX6_refusalOfUse_122
set_option maxRecDepth 100000 in
set_option maxHeartbeats 4000000 in
theorem w_X6_refusalOfUse_85 (C : gC p s m args c RX6 cX6_refusalOfUse 7 D (xty cI cT cS) 241 (xE cI cT cS) ad) (hr : meth.sig.returnType = (some .int)) (hq : meth.locks = false) {Rs : Int32 × Mem} {x2 : Int32} {x3 : Int32} {x4 : Int32} (w : gWd D 241 (xE cI cT cS) ad M s H locs) (hl : lv_has ls 7 [(0, .ref (ad 0)), (2, .int x2), (3, .int x3), (4, .int x4)]) (hf : f_X6_refusalOfUse_85  x2 x3 x4 M = some Rs) : W p l e (rmH 3) s m args below meth c H locs 0 0 (MQ below (qI D 241 (xE cI cT cS) ad Rs) args s 0 0 (gA 241 ad)) (F0 m 85 ls []) := by
  unfold f_X6_refusalOfUse_85 at hf
  have hx := C.1.1
  have hb := C.1.2.1
  have hi := C.2.2.2.1
  refine lv_iload_n hx hb dX6_refusalOfUse_85 rfl (lv_at hl 2 rfl) ?_
  refine lv_iconst (v := 2) hx hb dX6_refusalOfUse_86 (by decide) ?_
  refine lv_icmp_ne (tgt := 103) hx hb dX6_refusalOfUse_87 (by decide) (fun c1 => ?_) (fun c1 => ?_)
  · replace hf := (if_neg c1).symm.trans hf
    exact w_X6_refusalOfUse_103 C hr hq w (lv_sub hl [0] rfl) hf
  · replace hf := (if_pos c1).symm.trans hf
    refine lv_aload_n hx hb dX6_refusalOfUse_90 rfl (lv_at hl 0 rfl) ?_
    refine lv_iload_n hx hb dX6_refusalOfUse_91 rfl (lv_at hl 1 rfl) ?_
    refine lv_iload hx hb dX6_refusalOfUse_92 (lv_at hl 3 rfl) ?_
    obtain ⟨⟨v4, M2⟩, e3, hf⟩ := bindS hf
    refine g_backI w (g_runV (rest := []) C w (c_X6_canBeSet hi  e3) ob_X6 rfl gv_X6_206 md_X6_canBeSet rfl (by omega) (by decide) hl.1 rfl (Nat.le_of_ble_eq_true rfl) dX6_refusalOfUse_94) (fun H locs w => ?_)
    refine lv_if_ne (tgt := 103) hx hb dX6_refusalOfUse_97 (by decide) (fun c5 => ?_) (fun c5 => ?_)
    · replace hf := (if_neg c5).symm.trans hf
      exact w_X6_refusalOfUse_103 C hr hq w (lv_sub hl [0] rfl) hf
    · replace hf := (if_pos c5).symm.trans hf
      refine lv_bipush (v := -103) hx hb dX6_refusalOfUse_100 (by decide) ?_
      exact g_iret C w hr hq hf dX6_refusalOfUse_102
set_option maxRecDepth 100000 in
set_option maxHeartbeats 4000000 in
theorem w_X6_refusalOfUse_73 (C : gC p s m args c RX6 cX6_refusalOfUse 7 D (xty cI cT cS) 241 (xE cI cT cS) ad) (hr : meth.sig.returnType = (some .int)) (hq : meth.locks = false) {Rs : Int32 × Mem} {x2 : Int32} {x3 : Int32} {x4 : Int32} (w : gWd D 241 (xE cI cT cS) ad M s H locs) (hl : lv_has ls 7 [(0, .ref (ad 0)), (2, .int x2), (3, .int x3), (4, .int x4)]) (hf : f_X6_refusalOfUse_73  x2 x3 x4 M = some Rs) : W p l e (rmH 3) s m args below meth c H locs 0 0 (MQ below (qI D 241 (xE cI cT cS) ad Rs) args s 0 0 (gA 241 ad)) (F0 m 73 ls []) := by
  unfold f_X6_refusalOfUse_73 at hf
  have hx := C.1.1
  have hb := C.1.2.1
  have hi := C.2.2.2.1
  refine lv_iload_n hx hb dX6_refusalOfUse_73 rfl (lv_at hl 2 rfl) ?_
  refine lv_if_ne (tgt := 85) hx hb dX6_refusalOfUse_74 (by decide) (fun c1 => ?_) (fun c1 => ?_)
  · replace hf := (if_neg c1).symm.trans hf
    exact w_X6_refusalOfUse_85 C hr hq w (lv_sub hl [0, 1, 2, 3] rfl) hf
  · replace hf := (if_pos c1).symm.trans hf
    refine lv_aload_n hx hb dX6_refusalOfUse_77 rfl (lv_at hl 0 rfl) ?_
    refine lv_iload_n hx hb dX6_refusalOfUse_78 rfl (lv_at hl 1 rfl) ?_
    obtain ⟨⟨v4, M2⟩, e3, hf⟩ := bindS hf
    refine g_backI w (g_runV (rest := []) C w (c_X6_isClass hi  e3) ob_X6 rfl gv_X6_48 md_X6_isClass rfl (by omega) (by decide) hl.1 rfl (Nat.le_of_ble_eq_true rfl) dX6_refusalOfUse_79) (fun H locs w => ?_)
    refine lv_if_eq (tgt := 100) hx hb dX6_refusalOfUse_82 (by decide) (fun c5 => ?_) (fun c5 => ?_)
    · replace hf := (if_pos c5).symm.trans hf
      refine lv_bipush (v := -103) hx hb dX6_refusalOfUse_100 (by decide) ?_
      exact g_iret C w hr hq hf dX6_refusalOfUse_102
    · replace hf := (if_neg c5).symm.trans hf
      exact w_X6_refusalOfUse_85 C hr hq w (lv_sub hl [0, 1, 2, 3] rfl) hf
set_option maxRecDepth 100000 in
set_option maxHeartbeats 4000000 in
theorem w_X6_refusalOfUse_57 (C : gC p s m args c RX6 cX6_refusalOfUse 7 D (xty cI cT cS) 241 (xE cI cT cS) ad) (hr : meth.sig.returnType = (some .int)) (hq : meth.locks = false) {Rs : Int32 × Mem} {x2 : Int32} {x3 : Int32} {x4 : Int32} {x5 : Int32} (w : gWd D 241 (xE cI cT cS) ad M s H locs) (hl : lv_has ls 7 [(0, .ref (ad 0)), (2, .int x2), (3, .int x3), (4, .int x4), (5, .int x5)]) (hf : f_X6_refusalOfUse_57  x2 x3 x4 x5 M = some Rs) : W p l e (rmH 3) s m args below meth c H locs 0 0 (MQ below (qI D 241 (xE cI cT cS) ad Rs) args s 0 0 (gA 241 ad)) (F0 m 57 ls []) := by
  unfold f_X6_refusalOfUse_57 at hf
  have hx := C.1.1
  have hb := C.1.2.1
  have hi := C.2.2.2.1
  refine lv_iload_n hx hb dX6_refusalOfUse_57 rfl (lv_at hl 2 rfl) ?_
  refine lv_iconst (v := 2) hx hb dX6_refusalOfUse_58 (by decide) ?_
  refine lv_icmp_ne (tgt := 73) hx hb dX6_refusalOfUse_59 (by decide) (fun c1 => ?_) (fun c1 => ?_)
  · replace hf := (if_neg c1).symm.trans hf
    exact w_X6_refusalOfUse_73 C hr hq w (lv_sub hl [0, 1, 2, 3] rfl) hf
  · replace hf := (if_pos c1).symm.trans hf
    refine lv_iload hx hb dX6_refusalOfUse_62 (lv_at hl 4 rfl) ?_
    obtain ⟨⟨v4, M2⟩, e3, hf⟩ := bindS hf
    refine g_backI w (g_runS (rest := []) C w (c_X6_isNumber hi  e3) gs_X6_92 md_X6_isNumber rfl (by omega) (by decide) hl.1 rfl (Nat.le_of_ble_eq_true rfl) dX6_refusalOfUse_64) (fun H locs w => ?_)
    refine lv_if_ne (tgt := 73) hx hb dX6_refusalOfUse_67 (by decide) (fun c5 => ?_) (fun c5 => ?_)
    · replace hf := (if_neg c5).symm.trans hf
      exact w_X6_refusalOfUse_73 C hr hq w (lv_sub hl [0, 1, 2, 3] rfl) hf
    · replace hf := (if_pos c5).symm.trans hf
      refine lv_bipush (v := -102) hx hb dX6_refusalOfUse_70 (by decide) ?_
      exact g_iret C w hr hq hf dX6_refusalOfUse_72
set_option maxRecDepth 100000 in
set_option maxHeartbeats 4000000 in
theorem w_X6_refusalOfUse_33 (C : gC p s m args c RX6 cX6_refusalOfUse 7 D (xty cI cT cS) 241 (xE cI cT cS) ad) (hr : meth.sig.returnType = (some .int)) (hq : meth.locks = false) {Rs : Int32 × Mem} {x2 : Int32} {x3 : Int32} {x4 : Int32} {x5 : Int32} {s0 : Int32} (w : gWd D 241 (xE cI cT cS) ad M s H locs) (hl : lv_has ls 7 [(0, .ref (ad 0)), (2, .int x2), (3, .int x3), (4, .int x4), (5, .int x5)]) (hf : f_X6_refusalOfUse_33  x2 x3 x4 x5 s0 M = some Rs) : W p l e (rmH 3) s m args below meth c H locs 0 0 (MQ below (qI D 241 (xE cI cT cS) ad Rs) args s 0 0 (gA 241 ad)) (F0 m 33 ls [.int s0]) := by
  unfold f_X6_refusalOfUse_33 at hf
  have hx := C.1.1
  have hb := C.1.2.1
  have hi := C.2.2.2.1
  refine lv_istore (lv' := [(6, .int s0), (0, .ref (ad 0)), (2, .int x2), (3, .int x3), (4, .int x4), (5, .int x5)]) hx hb dX6_refusalOfUse_33 hl (by decide) rfl (fun ls hl => ?_)
  refine lv_iload_n hx hb dX6_refusalOfUse_35 rfl (lv_at hl 3 rfl) ?_
  refine lv_iconst (v := 0) hx hb dX6_refusalOfUse_36 (by decide) ?_
  refine lv_iconst (v := 3) hx hb dX6_refusalOfUse_37 (by decide) ?_
  obtain ⟨⟨v3, M1⟩, e2, hf⟩ := bindS hf
  refine g_backI w (g_runS (rest := []) C w (c_X6_within hi  e2) gs_X6_44 md_X6_within rfl (by omega) (by decide) hl.1 rfl (Nat.le_of_ble_eq_true rfl) dX6_refusalOfUse_38) (fun H locs w => ?_)
  refine lv_if_eq (tgt := 70) hx hb dX6_refusalOfUse_41 (by decide) (fun c4 => ?_) (fun c4 => ?_)
  · replace hf := (if_pos c4).symm.trans hf
    refine lv_bipush (v := -102) hx hb dX6_refusalOfUse_70 (by decide) ?_
    exact g_iret C w hr hq hf dX6_refusalOfUse_72
  · replace hf := (if_neg c4).symm.trans hf
    refine lv_iload hx hb dX6_refusalOfUse_44 (lv_at hl 0 rfl) ?_
    refine lv_if_eq (tgt := 57) hx hb dX6_refusalOfUse_46 (by decide) (fun c5 => ?_) (fun c5 => ?_)
    · replace hf := (if_pos c5).symm.trans hf
      exact w_X6_refusalOfUse_57 C hr hq w (lv_sub hl [1, 2, 3, 4, 5] rfl) hf
    · replace hf := (if_neg c5).symm.trans hf
      refine lv_iload hx hb dX6_refusalOfUse_49 (lv_at hl 4 rfl) ?_
      obtain ⟨⟨v8, M6⟩, e7, hf⟩ := bindS hf
      refine g_backI w (g_runS (rest := []) C w (c_X6_isField hi  e7) gs_X6_89 md_X6_isField rfl (by omega) (by decide) hl.1 rfl (Nat.le_of_ble_eq_true rfl) dX6_refusalOfUse_51) (fun H locs w => ?_)
      refine lv_if_eq (tgt := 70) hx hb dX6_refusalOfUse_54 (by decide) (fun c9 => ?_) (fun c9 => ?_)
      · replace hf := (if_pos c9).symm.trans hf
        refine lv_bipush (v := -102) hx hb dX6_refusalOfUse_70 (by decide) ?_
        exact g_iret C w hr hq hf dX6_refusalOfUse_72
      · replace hf := (if_neg c9).symm.trans hf
        exact w_X6_refusalOfUse_57 C hr hq w (lv_sub hl [1, 2, 3, 4, 5] rfl) hf
set_option maxRecDepth 100000 in
set_option maxHeartbeats 4000000 in
theorem w_X6_refusalOfUse_28 (C : gC p s m args c RX6 cX6_refusalOfUse 7 D (xty cI cT cS) 241 (xE cI cT cS) ad) (hr : meth.sig.returnType = (some .int)) (hq : meth.locks = false) {Rs : Int32 × Mem} {x2 : Int32} {x3 : Int32} {x4 : Int32} {x5 : Int32} (w : gWd D 241 (xE cI cT cS) ad M s H locs) (hl : lv_has ls 7 [(0, .ref (ad 0)), (2, .int x2), (3, .int x3), (4, .int x4), (5, .int x5)]) (hf : f_X6_refusalOfUse_28  x2 x3 x4 x5 M = some Rs) : W p l e (rmH 3) s m args below meth c H locs 0 0 (MQ below (qI D 241 (xE cI cT cS) ad Rs) args s 0 0 (gA 241 ad)) (F0 m 28 ls []) := by
  unfold f_X6_refusalOfUse_28 at hf
  have hx := C.1.1
  have hb := C.1.2.1
  have hi := C.2.2.2.1
  refine lv_iconst (v := 1) hx hb dX6_refusalOfUse_28 (by decide) ?_
  refine lv_goto (tgt := 33) hx hb dX6_refusalOfUse_29 (by decide) ?_
  exact w_X6_refusalOfUse_33 C hr hq w (lv_sub hl [0, 1, 2, 3, 4] rfl) hf
set_option maxRecDepth 100000 in
set_option maxHeartbeats 4000000 in
theorem w_X6_refusalOfUse_0 (C : gC p s m args c RX6 cX6_refusalOfUse 7 D (xty cI cT cS) 241 (xE cI cT cS) ad) (hr : meth.sig.returnType = (some .int)) (hq : meth.locks = false) {Rs : Int32 × Mem} {x1 : Int32} {x2 : Int32} {x3 : Int32} {x4 : Int32} {x5 : Int32} (w : gWd D 241 (xE cI cT cS) ad M s H locs) (hl : lv_has ls 7 [(0, .ref (ad 0)), (1, .int x1), (2, .int x2), (3, .int x3), (4, .int x4), (5, .int x5)]) (hf : f_X6_refusalOfUse_0  x1 x2 x3 x4 x5 M = some Rs) : W p l e (rmH 3) s m args below meth c H locs 0 0 (MQ below (qI D 241 (xE cI cT cS) ad Rs) args s 0 0 (gA 241 ad)) (F0 m 0 ls []) := by
  unfold f_X6_refusalOfUse_0 at hf
  have hx := C.1.1
  have hb := C.1.2.1
  have hi := C.2.2.2.1
  refine lv_iload_n hx hb dX6_refusalOfUse_0 rfl (lv_at hl 1 rfl) ?_
  obtain ⟨⟨v3, M1⟩, e2, hf⟩ := bindS hf
  refine g_backI w (g_runS (rest := []) C w (c_X6_isSession hi  e2) gs_X6_143 md_X6_isSession rfl (by omega) (by decide) hl.1 rfl (Nat.le_of_ble_eq_true rfl) dX6_refusalOfUse_1) (fun H locs w => ?_)
  refine lv_if_eq (tgt := 15) hx hb dX6_refusalOfUse_4 (by decide) (fun c4 => ?_) (fun c4 => ?_)
  · replace hf := (if_pos c4).symm.trans hf
    refine lv_bipush (v := -101) hx hb dX6_refusalOfUse_15 (by decide) ?_
    exact g_iret C w hr hq hf dX6_refusalOfUse_17
  · replace hf := (if_neg c4).symm.trans hf
    refine lv_aload_n hx hb dX6_refusalOfUse_7 rfl (lv_at hl 0 rfl) ?_
    refine lv_iload_n hx hb dX6_refusalOfUse_8 rfl (lv_at hl 2 rfl) ?_
    obtain ⟨⟨v7, M5⟩, e6, hf⟩ := bindS hf
    refine g_backI w (g_runV (rest := []) C w (c_X6_isType hi  e6) ob_X6 rfl gv_X6_68 md_X6_isType rfl (by omega) (by decide) hl.1 rfl (Nat.le_of_ble_eq_true rfl) dX6_refusalOfUse_9) (fun H locs w => ?_)
    refine lv_if_ne (tgt := 18) hx hb dX6_refusalOfUse_12 (by decide) (fun c8 => ?_) (fun c8 => ?_)
    · replace hf := (if_neg c8).symm.trans hf
      refine lv_iload_n hx hb dX6_refusalOfUse_18 rfl (lv_at hl 3 rfl) ?_
      refine lv_iconst (v := 1) hx hb dX6_refusalOfUse_19 (by decide) ?_
      refine lv_icmp_eq (tgt := 28) hx hb dX6_refusalOfUse_20 (by decide) (fun c9 => ?_) (fun c9 => ?_)
      · replace hf := (if_pos c9).symm.trans hf
        exact w_X6_refusalOfUse_28 C hr hq w (lv_sub hl [0, 2, 3, 4, 5] rfl) hf
      · replace hf := (if_neg c9).symm.trans hf
        refine lv_iload_n hx hb dX6_refusalOfUse_23 rfl (lv_at hl 3 rfl) ?_
        refine lv_iconst (v := 2) hx hb dX6_refusalOfUse_24 (by decide) ?_
        refine lv_icmp_ne (tgt := 32) hx hb dX6_refusalOfUse_25 (by decide) (fun c10 => ?_) (fun c10 => ?_)
        · replace hf := (if_neg c10).symm.trans hf
          refine lv_iconst (v := 0) hx hb dX6_refusalOfUse_32 (by decide) ?_
          exact w_X6_refusalOfUse_33 C hr hq w (lv_sub hl [0, 2, 3, 4, 5] rfl) hf
        · replace hf := (if_pos c10).symm.trans hf
          exact w_X6_refusalOfUse_28 C hr hq w (lv_sub hl [0, 2, 3, 4, 5] rfl) hf
    · replace hf := (if_pos c8).symm.trans hf
      refine lv_bipush (v := -101) hx hb dX6_refusalOfUse_15 (by decide) ?_
      exact g_iret C w hr hq hf dX6_refusalOfUse_17
abbrev f_X6_refusalOfUse (x1 : Int32) (x2 : Int32) (x3 : Int32) (x4 : Int32) (x5 : Int32) (M : Mem) : Option (Int32 × Mem) := f_X6_refusalOfUse_0 x1 x2 x3 x4 x5 M
theorem c_X6_refusalOfUse (hi : gInj 241 ad) {x1 : Int32} {x2 : Int32} {x3 : Int32} {x4 : Int32} {x5 : Int32} {Rs : Int32 × Mem} (hf : f_X6_refusalOfUse x1 x2 x3 x4 x5 M = some Rs) : gMet l yX6_refusalOfUse cX6_refusalOfUse 7 (some .int) 3 D (xty cI cT cS) 241 (xE cI cT cS) ad [.ref (ad 0), .int x1, .int x2, .int x3, .int x4, .int x5] M (qI D 241 (xE cI cT cS) ad Rs) := gMet_of (by decide) hi (xE_loc cI cT cS) (Nat.le_of_ble_eq_true rfl) (fun p e s m args below meth c ls C hr hq w hl => w_X6_refusalOfUse_0 C hr hq  w hl hf)
def f_X6_takeSteps_0 (x1 : Int32) (M : Mem) : Option (Int32 × Mem) :=
  (ixQ 4 (M 0 8)).bind fun t1 =>
  if x1 ≤ (M (13 + 5 * t1) 2) then ((ixQ 4 (M 0 8)).bind fun t4 =>
  (stF M (13 + 5 * t4) 2 ((M (13 + 5 * t4) 2) - x1)).bind fun M6 =>
  (stF M6 0 6 ((M6 0 6) + x1)).bind fun M8 =>
  rtZ (1 : Int32) M8) else (rtZ (0 : Int32) M)
set_option maxRecDepth 100000 in
set_option maxHeartbeats 4000000 in
theorem w_X6_takeSteps_0 (C : gC p s m args c RX6 cX6_takeSteps 2 D (xty cI cT cS) 241 (xE cI cT cS) ad) (hr : meth.sig.returnType = (some .boolean)) (hq : meth.locks = false) {Rs : Int32 × Mem} {x1 : Int32} (w : gWd D 241 (xE cI cT cS) ad M s H locs) (hl : lv_has ls 2 [(0, .ref (ad 0)), (1, .int x1)]) (hf : f_X6_takeSteps_0  x1 M = some Rs) : W p l e (rmH 0) s m args below meth c H locs 0 0 (MQ below (qI D 241 (xE cI cT cS) ad Rs) args s 0 0 (gA 241 ad)) (F0 m 0 ls []) := by
  unfold f_X6_takeSteps_0 at hf
  have hx := C.1.1
  have hb := C.1.2.1
  have hi := C.2.2.2.1
  refine lv_aload_n hx hb dX6_takeSteps_0 rfl (lv_at hl 0 rfl) ?_
  refine gt_X6_17 C w dX6_takeSteps_1 ?_
  refine lv_aload_n hx hb dX6_takeSteps_4 rfl (lv_at hl 0 rfl) ?_
  refine gt_X6_117 C w dX6_takeSteps_5 ?_
  obtain ⟨t1, e2, hf⟩ := bindS hf
  refine g_aald (t0 := 2) C w rf_S rfl e2 dX6_takeSteps_8 ?_
  refine gt_X6_183 ⟨t1, ixQ_lt e2, rfl⟩ C w dX6_takeSteps_9 ?_
  refine lv_iload_n hx hb dX6_takeSteps_12 rfl (lv_at hl 1 rfl) ?_
  refine lv_icmp_ge (tgt := 18) hx hb dX6_takeSteps_13 (by decide) (fun c3 => ?_) (fun c3 => ?_)
  · replace hf := (if_pos c3).symm.trans hf
    refine lv_aload_n hx hb dX6_takeSteps_18 rfl (lv_at hl 0 rfl) ?_
    refine gt_X6_17 C w dX6_takeSteps_19 ?_
    refine lv_aload_n hx hb dX6_takeSteps_22 rfl (lv_at hl 0 rfl) ?_
    refine gt_X6_117 C w dX6_takeSteps_23 ?_
    obtain ⟨t4, e5, hf⟩ := bindS hf
    refine g_aald (t0 := 2) C w rf_S rfl e5 dX6_takeSteps_26 ?_
    refine lv_dup hx hb dX6_takeSteps_27 rfl ?_
    refine gt_X6_183 ⟨t4, ixQ_lt e5, rfl⟩ C w dX6_takeSteps_28 ?_
    refine lv_iload_n hx hb dX6_takeSteps_31 rfl (lv_at hl 1 rfl) ?_
    refine lv_isub hx hb dX6_takeSteps_32 ?_
    obtain ⟨M6, e7, hf⟩ := bindS hf
    refine pt_X6_183 ⟨t4, ixQ_lt e5, rfl⟩ C w e7 dX6_takeSteps_33 (fun H locs w => ?_)
    refine lv_aload_n hx hb dX6_takeSteps_36 rfl (lv_at hl 0 rfl) ?_
    refine lv_dup hx hb dX6_takeSteps_37 rfl ?_
    refine gt_X6_199 C w dX6_takeSteps_38 ?_
    refine lv_iload_n hx hb dX6_takeSteps_41 rfl (lv_at hl 1 rfl) ?_
    refine lv_iadd hx hb dX6_takeSteps_42 ?_
    obtain ⟨M8, e9, hf⟩ := bindS hf
    refine pt_X6_199 C w e9 dX6_takeSteps_43 (fun H locs w => ?_)
    refine lv_iconst (v := 1) hx hb dX6_takeSteps_46 (by decide) ?_
    exact g_zret C w hr hq hf dX6_takeSteps_47
  · replace hf := (if_neg c3).symm.trans hf
    refine lv_iconst (v := 0) hx hb dX6_takeSteps_16 (by decide) ?_
    exact g_zret C w hr hq hf dX6_takeSteps_17
abbrev f_X6_takeSteps (x1 : Int32) (M : Mem) : Option (Int32 × Mem) := f_X6_takeSteps_0 x1 M
theorem c_X6_takeSteps (hi : gInj 241 ad) {x1 : Int32} {Rs : Int32 × Mem} (hf : f_X6_takeSteps x1 M = some Rs) : gMet l yX6_takeSteps cX6_takeSteps 2 (some .boolean) 0 D (xty cI cT cS) 241 (xE cI cT cS) ad [.ref (ad 0), .int x1] M (qI D 241 (xE cI cT cS) ad Rs) := gMet_of (by decide) hi (xE_loc cI cT cS) (Nat.le_of_ble_eq_true rfl) (fun p e s m args below meth c ls C hr hq w hl => w_X6_takeSteps_0 C hr hq  w hl hf)
def f_X6_write_0 (x1 : Int32) (x2 : Int32) (x3 : Int32) (M : Mem) : Option (Int32 × Mem) :=
  (ixQ 16 x1).bind fun t1 =>
  (ldI M ((33 + 13 * t1) + 7) 5 x2).bind fun v3 =>
  if v3 = (2 : Int32) then ((f_X6_placeOf (M 0 8) x1 M).bind fun (k8, M6) =>
  (ckP (xPb k8)).bind fun u9 =>
  (f_X1_setNumber k8 x1 x2 x3 M6).bind fun (v13, M11) =>
  (stF M11 0 9 ((M11 0 9) + (1 : Int32))).bind fun M14 =>
  some ((0 : Int32), M14)) else (some ((12 : Int32), M))
set_option maxRecDepth 100000 in
set_option maxHeartbeats 4000000 in
theorem w_X6_write_0 (C : gC p s m args c RX6 cX6_write 4 D (xty cI cT cS) 241 (xE cI cT cS) ad) (hr : meth.sig.returnType = (some .int)) (hq : meth.locks = false) {Rs : Int32 × Mem} {x1 : Int32} {x2 : Int32} {x3 : Int32} (w : gWd D 241 (xE cI cT cS) ad M s H locs) (hl : lv_has ls 4 [(0, .ref (ad 0)), (1, .int x1), (2, .int x2), (3, .int x3)]) (hf : f_X6_write_0  x1 x2 x3 M = some Rs) : W p l e (rmH 1) s m args below meth c H locs 0 0 (MQ below (qI D 241 (xE cI cT cS) ad Rs) args s 0 0 (gA 241 ad)) (F0 m 0 ls []) := by
  unfold f_X6_write_0 at hf
  have hx := C.1.1
  have hb := C.1.2.1
  have hi := C.2.2.2.1
  refine lv_aload_n hx hb dX6_write_0 rfl (lv_at hl 0 rfl) ?_
  refine gt_X6_11 C w dX6_write_1 ?_
  refine lv_iload_n hx hb dX6_write_4 rfl (lv_at hl 1 rfl) ?_
  obtain ⟨t1, e2, hf⟩ := bindS hf
  refine g_aald (t0 := 1) C w rf_T rfl e2 dX6_write_5 ?_
  refine gt_X6_95 ⟨t1, ixQ_lt e2, rfl⟩ C w dX6_write_6 ?_
  refine lv_iload_n hx hb dX6_write_9 rfl (lv_at hl 2 rfl) ?_
  obtain ⟨v3, e4, hf⟩ := bindS hf
  refine g_iald C w (xT_a7 ⟨t1, ixQ_lt e2, rfl⟩) e4 dX6_write_10 ?_
  refine lv_iconst (v := 2) hx hb dX6_write_11 (by decide) ?_
  refine lv_icmp_eq (tgt := 18) hx hb dX6_write_12 (by decide) (fun c5 => ?_) (fun c5 => ?_)
  · replace hf := (if_pos c5).symm.trans hf
    refine lv_aload_n hx hb dX6_write_18 rfl (lv_at hl 0 rfl) ?_
    refine lv_aload_n hx hb dX6_write_19 rfl (lv_at hl 0 rfl) ?_
    refine gt_X6_117 C w dX6_write_20 ?_
    refine lv_iload_n hx hb dX6_write_23 rfl (lv_at hl 1 rfl) ?_
    obtain ⟨⟨k8, M6⟩, e7, hf⟩ := bindS hf
    refine g_backR w (g_runV (rest := []) C w (c_X6_placeOf hi  e7) ob_X6 rfl gv_X6_146 md_X6_placeOf rfl (by omega) (by decide) hl.1 rfl (Nat.le_of_ble_eq_true rfl) dX6_write_24) (fun H locs w => ?_)
    obtain ⟨u9, e10, hf⟩ := bindS hf
    refine lv_iload_n hx hb dX6_write_27 rfl (lv_at hl 1 rfl) ?_
    refine lv_iload_n hx hb dX6_write_28 rfl (lv_at hl 2 rfl) ?_
    refine lv_iload_n hx hb dX6_write_29 rfl (lv_at hl 3 rfl) ?_
    obtain ⟨⟨v13, M11⟩, e12, hf⟩ := bindS hf
    refine g_backV w (g_runV (rest := []) C w (c_X1_setNumber hi (xPb_ok e10) e12) (ob_X1 (xPb_ok e10)) rfl gv_X6_254 md_X1_setNumber rfl (by omega) (by decide) hl.1 rfl (Nat.le_of_ble_eq_true rfl) dX6_write_30) (fun H locs w => ?_)
    refine lv_aload_n hx hb dX6_write_33 rfl (lv_at hl 0 rfl) ?_
    refine lv_dup hx hb dX6_write_34 rfl ?_
    refine gt_X6_120 C w dX6_write_35 ?_
    refine lv_iconst (v := 1) hx hb dX6_write_38 (by decide) ?_
    refine lv_iadd hx hb dX6_write_39 ?_
    obtain ⟨M14, e15, hf⟩ := bindS hf
    refine pt_X6_120 C w e15 dX6_write_40 (fun H locs w => ?_)
    refine lv_iconst (v := 0) hx hb dX6_write_43 (by decide) ?_
    exact g_iret C w hr hq hf dX6_write_44
  · replace hf := (if_neg c5).symm.trans hf
    refine lv_bipush (v := 12) hx hb dX6_write_15 (by decide) ?_
    exact g_iret C w hr hq hf dX6_write_17
abbrev f_X6_write (x1 : Int32) (x2 : Int32) (x3 : Int32) (M : Mem) : Option (Int32 × Mem) := f_X6_write_0 x1 x2 x3 M
theorem c_X6_write (hi : gInj 241 ad) {x1 : Int32} {x2 : Int32} {x3 : Int32} {Rs : Int32 × Mem} (hf : f_X6_write x1 x2 x3 M = some Rs) : gMet l yX6_write cX6_write 4 (some .int) 1 D (xty cI cT cS) 241 (xE cI cT cS) ad [.ref (ad 0), .int x1, .int x2, .int x3] M (qI D 241 (xE cI cT cS) ad Rs) := gMet_of (by decide) hi (xE_loc cI cT cS) (Nat.le_of_ble_eq_true rfl) (fun p e s m args below meth c ls C hr hq w hl => w_X6_write_0 C hr hq  w hl hf)
end GENX
end
section
section GENX
variable {p : Program} {l : Launch} {e : Env} {h : Nat} {R : Room} {s : State} {m : MethodId} {args : Array Value} {below : List Frame} {meth : Method} {c : Code} {H : Heap} {locs : List Loc} {cells slots : Nat} {Q : State → Prop} {cc : ByteArray} {nL pc : Nat} {ls : Array Slot} {rest : List Value} {D : va_G} {ad : Nat → Nat} {M M1 : Mem} {cI cT cS cZ : ClassId}
theorem kc_X6_wake : Cond.code yX6_wake cX6_wake 5 (some .int) ∈ gW := gw_in 372 (by decide +kernel) rfl
theorem md_X6_wake : gMd yX6_wake 2 := ⟨by decide +kernel, by decide +kernel, by decide +kernel⟩
theorem kl_X6_251 : Cond.methodLink RX6 251 yX6_wake ∈ gW := gw_in 369 (by decide +kernel) rfl
theorem kn_X6_wake : Cond.instanceMethod yX6_wake ∈ gW := gw_in 371 (by decide +kernel) rfl
theorem ks_X6_wake : Cond.selects RX6 yX6_wake yX6_wake ∈ gW := gw_in 9 (by decide +kernel) rfl
theorem gv_X6_251 : gWv RX6 251 yX6_wake cX6_wake 5 (some .int) := ⟨kl_X6_251, kn_X6_wake, ks_X6_wake, ki_X6, kc_X6_wake⟩
theorem kf_X6_153 : Cond.fieldLink RX6 153 (TX3 1).1 (TX3 1).2.1 (TX3 1).2.2.1 ∈ gW := gw_in 213 (by decide +kernel) rfl
theorem gt_X6_153 {k : Nat} (hk : xS k) (C : gC p s m args c RX6 cc nL D (xty cI cT cS) 241 (xE cI cT cS) ad) (w : gWd D 241 (xE cI cT cS) ad M s H locs) (hdg : decode cc pc = .ok (.getfield 153, 3)) (kk : W p l e R s m args below meth c H locs cells slots Q (F0 m (pc + 3) ls (.ref (ad (k + 4)) :: rest))) : W p l e R s m args below meth c H locs cells slots Q (F0 m pc ls (.ref (ad k) :: rest)) := g_get C w (ob_X3 hk) rfl ginX3 1 (by decide) kf_X6_153 rfl hdg kk
theorem kf_X6_123 : Cond.fieldLink RX6 123 (TX6 10).1 (TX6 10).2.1 (TX6 10).2.2.1 ∈ gW := gw_in 237 (by decide +kernel) rfl
theorem pt_X6_123 {x : Int32} (C : gC p s m args c RX6 cc nL D (xty cI cT cS) 241 (xE cI cT cS) ad) (w : gWd D 241 (xE cI cT cS) ad M s H locs) (e1 : stF M 0 10 x = some M1) (hdg : decode cc pc = .ok (.putfield 123, 3)) (kk : ∀ (H1 : Heap) (locs1 : List Loc), gWd D 241 (xE cI cT cS) ad M1 s H1 locs1 → W p l e R s m args below meth c H1 locs1 cells slots Q (F0 m (pc + 3) ls rest)) : W p l e R s m args below meth c H locs cells slots Q (F0 m pc ls (.int x :: .ref (ad 0) :: rest)) := by
  cases e1
  exact g_put C w ob_X6 rfl ginX6 tyX6 tyX6_ok nmX6 10 (by decide) kf_X6_123 rfl rfl rfl (Nat.le_of_ble_eq_true rfl) (by simp [fX6, mset, upd]) hdg kk
theorem kf_X6_99 : Cond.fieldLink RX6 99 (TX4 7).1 (TX4 7).2.1 (TX4 7).2.2.1 ∈ gW := gw_in 165 (by decide +kernel) rfl
theorem gt_X6_99 {k : Nat} (hk : xT k) (C : gC p s m args c RX6 cc nL D (xty cI cT cS) 241 (xE cI cT cS) ad) (w : gWd D 241 (xE cI cT cS) ad M s H locs) (hdg : decode cc pc = .ok (.getfield 99, 3)) (kk : W p l e R s m args below meth c H locs cells slots Q (F0 m (pc + 3) ls (.ref (ad (k + 8)) :: rest))) : W p l e R s m args below meth c H locs cells slots Q (F0 m pc ls (.ref (ad k) :: rest)) := g_get C w (ob_X4 hk) rfl ginX4 7 (by decide) kf_X6_99 rfl hdg kk
theorem kc_X6_ask : Cond.code yX6_ask cX6_ask 6 (some .int) ∈ gW := gw_in 408 (by decide +kernel) rfl
theorem md_X6_ask : gMd yX6_ask 3 := ⟨by decide +kernel, by decide +kernel, by decide +kernel⟩
theorem kl_X6_238 : Cond.methodLink RX6 238 yX6_ask ∈ gW := gw_in 405 (by decide +kernel) rfl
theorem kn_X6_ask : Cond.instanceMethod yX6_ask ∈ gW := gw_in 407 (by decide +kernel) rfl
theorem ks_X6_ask : Cond.selects RX6 yX6_ask yX6_ask ∈ gW := gw_in 17 (by decide +kernel) rfl
theorem gv_X6_238 : gWv RX6 238 yX6_ask cX6_ask 6 (some .int) := ⟨kl_X6_238, kn_X6_ask, ks_X6_ask, ki_X6, kc_X6_ask⟩
theorem gt_X6_123 (C : gC p s m args c RX6 cc nL D (xty cI cT cS) 241 (xE cI cT cS) ad) (w : gWd D 241 (xE cI cT cS) ad M s H locs) (hdg : decode cc pc = .ok (.getfield 123, 3)) (kk : W p l e R s m args below meth c H locs cells slots Q (F0 m (pc + 3) ls (.int (M 0 10) :: rest))) : W p l e R s m args below meth c H locs cells slots Q (F0 m pc ls (.ref (ad 0) :: rest)) := g_get C w ob_X6 rfl ginX6 10 (by decide) kf_X6_123 rfl hdg kk
theorem kc_X6_write : Cond.code yX6_write cX6_write 4 (some .int) ∈ gW := gw_in 396 (by decide +kernel) rfl
theorem md_X6_write : gMd yX6_write 3 := ⟨by decide +kernel, by decide +kernel, by decide +kernel⟩
theorem kl_X6_248 : Cond.methodLink RX6 248 yX6_write ∈ gW := gw_in 393 (by decide +kernel) rfl
theorem kn_X6_write : Cond.instanceMethod yX6_write ∈ gW := gw_in 395 (by decide +kernel) rfl
theorem ks_X6_write : Cond.selects RX6 yX6_write yX6_write ∈ gW := gw_in 15 (by decide +kernel) rfl
theorem gv_X6_248 : gWv RX6 248 yX6_write cX6_write 4 (some .int) := ⟨kl_X6_248, kn_X6_write, ks_X6_write, ki_X6, kc_X6_write⟩
theorem kc_X6_takeSteps : Cond.code yX6_takeSteps cX6_takeSteps 2 (some .boolean) ∈ gW := gw_in 392 (by decide +kernel) rfl
theorem md_X6_takeSteps : gMd yX6_takeSteps 1 := ⟨by decide +kernel, by decide +kernel, by decide +kernel⟩
theorem kl_X6_279 : Cond.methodLink RX6 279 yX6_takeSteps ∈ gW := gw_in 389 (by decide +kernel) rfl
theorem kn_X6_takeSteps : Cond.instanceMethod yX6_takeSteps ∈ gW := gw_in 391 (by decide +kernel) rfl
theorem ks_X6_takeSteps : Cond.selects RX6 yX6_takeSteps yX6_takeSteps ∈ gW := gw_in 14 (by decide +kernel) rfl
theorem gv_X6_279 : gWv RX6 279 yX6_takeSteps cX6_takeSteps 2 (some .boolean) := ⟨kl_X6_279, kn_X6_takeSteps, ks_X6_takeSteps, ki_X6, kc_X6_takeSteps⟩
theorem kf_X6_276 : Cond.fieldLink RX6 276 (TX4 8).1 (TX4 8).2.1 (TX4 8).2.2.1 ∈ gW := gw_in 167 (by decide +kernel) rfl
theorem gt_X6_276 {k : Nat} (hk : xT k) (C : gC p s m args c RX6 cc nL D (xty cI cT cS) 241 (xE cI cT cS) ad) (w : gWd D 241 (xE cI cT cS) ad M s H locs) (hdg : decode cc pc = .ok (.getfield 276, 3)) (kk : W p l e R s m args below meth c H locs cells slots Q (F0 m (pc + 3) ls (.ref (ad (k + 9)) :: rest))) : W p l e R s m args below meth c H locs cells slots Q (F0 m pc ls (.ref (ad k) :: rest)) := g_get C w (ob_X4 hk) rfl ginX4 8 (by decide) kf_X6_276 rfl hdg kk
theorem kf_X6_282 : Cond.fieldLink RX6 282 (TX4 11).1 (TX4 11).2.1 (TX4 11).2.2.1 ∈ gW := gw_in 173 (by decide +kernel) rfl
theorem gt_X6_282 {k : Nat} (hk : xT k) (C : gC p s m args c RX6 cc nL D (xty cI cT cS) 241 (xE cI cT cS) ad) (w : gWd D 241 (xE cI cT cS) ad M s H locs) (hdg : decode cc pc = .ok (.getfield 282, 3)) (kk : W p l e R s m args below meth c H locs cells slots Q (F0 m (pc + 3) ls (.ref (ad (k + 12)) :: rest))) : W p l e R s m args below meth c H locs cells slots Q (F0 m pc ls (.ref (ad k) :: rest)) := g_get C w (ob_X4 hk) rfl ginX4 11 (by decide) kf_X6_282 rfl hdg kk
theorem kc_X6_askAndAdd : Cond.code yX6_askAndAdd cX6_askAndAdd 7 (some .int) ∈ gW := gw_in 404 (by decide +kernel) rfl
theorem md_X6_askAndAdd : gMd yX6_askAndAdd 5 := ⟨by decide +kernel, by decide +kernel, by decide +kernel⟩
theorem kl_X6_285 : Cond.methodLink RX6 285 yX6_askAndAdd ∈ gW := gw_in 401 (by decide +kernel) rfl
theorem kn_X6_askAndAdd : Cond.instanceMethod yX6_askAndAdd ∈ gW := gw_in 403 (by decide +kernel) rfl
theorem ks_X6_askAndAdd : Cond.selects RX6 yX6_askAndAdd yX6_askAndAdd ∈ gW := gw_in 16 (by decide +kernel) rfl
theorem gv_X6_285 : gWv RX6 285 yX6_askAndAdd cX6_askAndAdd 7 (some .int) := ⟨kl_X6_285, kn_X6_askAndAdd, ks_X6_askAndAdd, ki_X6, kc_X6_askAndAdd⟩
theorem kc_X6_makeThing : Cond.code yX6_makeThing cX6_makeThing 4 (some .int) ∈ gW := gw_in 368 (by decide +kernel) rfl
theorem md_X6_makeThing : gMd yX6_makeThing 2 := ⟨by decide +kernel, by decide +kernel, by decide +kernel⟩
theorem kl_X6_245 : Cond.methodLink RX6 245 yX6_makeThing ∈ gW := gw_in 365 (by decide +kernel) rfl
theorem kn_X6_makeThing : Cond.instanceMethod yX6_makeThing ∈ gW := gw_in 367 (by decide +kernel) rfl
theorem ks_X6_makeThing : Cond.selects RX6 yX6_makeThing yX6_makeThing ∈ gW := gw_in 8 (by decide +kernel) rfl
theorem gv_X6_245 : gWv RX6 245 yX6_makeThing cX6_makeThing 4 (some .int) := ⟨kl_X6_245, kn_X6_makeThing, ks_X6_makeThing, ki_X6, kc_X6_makeThing⟩
theorem kf_X6_38 : Cond.fieldLink RX6 38 (TX6 4).1 (TX6 4).2.1 (TX6 4).2.2.1 ∈ gW := gw_in 231 (by decide +kernel) rfl
theorem gt_X6_38 (C : gC p s m args c RX6 cc nL D (xty cI cT cS) 241 (xE cI cT cS) ad) (w : gWd D 241 (xE cI cT cS) ad M s H locs) (hdg : decode cc pc = .ok (.getfield 38, 3)) (kk : W p l e R s m args below meth c H locs cells slots Q (F0 m (pc + 3) ls (.ref (ad 10) :: rest))) : W p l e R s m args below meth c H locs cells slots Q (F0 m pc ls (.ref (ad 0) :: rest)) := g_get C w ob_X6 rfl ginX6 4 (by decide) kf_X6_38 rfl hdg kk
theorem kc_X0_addMessage : Cond.code yX0_addMessage cX0_addMessage 2 none ∈ gW := gw_in 416 (by decide +kernel) rfl
theorem ki_X0 : Cond.initialized RX0 ∈ gW := gw_in 42 (by decide +kernel) rfl
theorem md_X0_addMessage : gMd yX0_addMessage 1 := ⟨by decide +kernel, by decide +kernel, by decide +kernel⟩
theorem kl_X6_288 : Cond.methodLink RX6 288 yX0_addMessage ∈ gW := gw_in 413 (by decide +kernel) rfl
theorem kn_X0_addMessage : Cond.instanceMethod yX0_addMessage ∈ gW := gw_in 414 (by decide +kernel) rfl
theorem ks_X0_addMessage : Cond.selects RX0 yX0_addMessage yX0_addMessage ∈ gW := gw_in 415 (by decide +kernel) rfl
theorem gv_X6_288 : gWv RX6 288 yX0_addMessage cX0_addMessage 2 none := ⟨kl_X6_288, kn_X0_addMessage, ks_X0_addMessage, ki_X0, kc_X0_addMessage⟩
theorem kf_X6_270 : Cond.fieldLink RX6 270 (TX4 9).1 (TX4 9).2.1 (TX4 9).2.2.1 ∈ gW := gw_in 169 (by decide +kernel) rfl
theorem gt_X6_270 {k : Nat} (hk : xT k) (C : gC p s m args c RX6 cc nL D (xty cI cT cS) 241 (xE cI cT cS) ad) (w : gWd D 241 (xE cI cT cS) ad M s H locs) (hdg : decode cc pc = .ok (.getfield 270, 3)) (kk : W p l e R s m args below meth c H locs cells slots Q (F0 m (pc + 3) ls (.ref (ad (k + 10)) :: rest))) : W p l e R s m args below meth c H locs cells slots Q (F0 m pc ls (.ref (ad k) :: rest)) := g_get C w (ob_X4 hk) rfl ginX4 9 (by decide) kf_X6_270 rfl hdg kk
theorem kf_X6_273 : Cond.fieldLink RX6 273 (TX4 10).1 (TX4 10).2.1 (TX4 10).2.2.1 ∈ gW := gw_in 171 (by decide +kernel) rfl
theorem gt_X6_273 {k : Nat} (hk : xT k) (C : gC p s m args c RX6 cc nL D (xty cI cT cS) 241 (xE cI cT cS) ad) (w : gWd D 241 (xE cI cT cS) ad M s H locs) (hdg : decode cc pc = .ok (.getfield 273, 3)) (kk : W p l e R s m args below meth c H locs cells slots Q (F0 m (pc + 3) ls (.ref (ad (k + 11)) :: rest))) : W p l e R s m args below meth c H locs cells slots Q (F0 m pc ls (.ref (ad k) :: rest)) := g_get C w (ob_X4 hk) rfl ginX4 10 (by decide) kf_X6_273 rfl hdg kk
theorem kf_X6_106 : Cond.fieldLink RX6 106 (TX4 12).1 (TX4 12).2.1 (TX4 12).2.2.1 ∈ gW := gw_in 175 (by decide +kernel) rfl
theorem gt_X6_106 {k : Nat} (hk : xT k) (C : gC p s m args c RX6 cc nL D (xty cI cT cS) 241 (xE cI cT cS) ad) (w : gWd D 241 (xE cI cT cS) ad M s H locs) (hdg : decode cc pc = .ok (.getfield 106, 3)) (kk : W p l e R s m args below meth c H locs cells slots Q (F0 m (pc + 3) ls (.int (M k 12) :: rest))) : W p l e R s m args below meth c H locs cells slots Q (F0 m pc ls (.ref (ad k) :: rest)) := g_get C w (ob_X4 hk) rfl ginX4 12 (by decide) kf_X6_106 rfl hdg kk
theorem kc_X6_doLine : Cond.code yX6_doLine cX6_doLine 7 (some .int) ∈ gW := gw_in 388 (by decide +kernel) rfl
theorem md_X6_doLine : gMd yX6_doLine 3 := ⟨by decide +kernel, by decide +kernel, by decide +kernel⟩
theorem kl_X6_267 : Cond.methodLink RX6 267 yX6_doLine ∈ gW := gw_in 385 (by decide +kernel) rfl
theorem kn_X6_doLine : Cond.instanceMethod yX6_doLine ∈ gW := gw_in 387 (by decide +kernel) rfl
theorem ks_X6_doLine : Cond.selects RX6 yX6_doLine yX6_doLine ∈ gW := gw_in 13 (by decide +kernel) rfl
theorem gv_X6_267 : gWv RX6 267 yX6_doLine cX6_doLine 7 (some .int) := ⟨kl_X6_267, kn_X6_doLine, ks_X6_doLine, ki_X6, kc_X6_doLine⟩
theorem kc_X0_addStart : Cond.code yX0_addStart cX0_addStart 6 none ∈ gW := gw_in 420 (by decide +kernel) rfl
theorem md_X0_addStart : gMd yX0_addStart 4 := ⟨by decide +kernel, by decide +kernel, by decide +kernel⟩
theorem kl_X6_263 : Cond.methodLink RX6 263 yX0_addStart ∈ gW := gw_in 417 (by decide +kernel) rfl
theorem kn_X0_addStart : Cond.instanceMethod yX0_addStart ∈ gW := gw_in 418 (by decide +kernel) rfl
theorem ks_X0_addStart : Cond.selects RX0 yX0_addStart yX0_addStart ∈ gW := gw_in 419 (by decide +kernel) rfl
theorem gv_X6_263 : gWv RX6 263 yX0_addStart cX0_addStart 6 none := ⟨kl_X6_263, kn_X0_addStart, ks_X0_addStart, ki_X0, kc_X0_addStart⟩
theorem kf_X6_150 : Cond.fieldLink RX6 150 (TX1 0).1 (TX1 0).2.1 (TX1 0).2.2.1 ∈ gW := gw_in 73 (by decide +kernel) rfl
theorem gt_X6_150 {k : Nat} (hk : xP k) (C : gC p s m args c RX6 cc nL D (xty cI cT cS) 241 (xE cI cT cS) ad) (w : gWd D 241 (xE cI cT cS) ad M s H locs) (hdg : decode cc pc = .ok (.getfield 150, 3)) (kk : W p l e R s m args below meth c H locs cells slots Q (F0 m (pc + 3) ls (.ref (ad (k + 1)) :: rest))) : W p l e R s m args below meth c H locs cells slots Q (F0 m pc ls (.ref (ad k) :: rest)) := g_get C w (ob_X1 hk) rfl ginX1 0 (by decide) kf_X6_150 rfl hdg kk
theorem kc_X6_wakeAbove : Cond.code yX6_wakeAbove cX6_wakeAbove 6 (some .int) ∈ gW := gw_in 380 (by decide +kernel) rfl
theorem md_X6_wakeAbove : gMd yX6_wakeAbove 2 := ⟨by decide +kernel, by decide +kernel, by decide +kernel⟩
theorem kl_X6_257 : Cond.methodLink RX6 257 yX6_wakeAbove ∈ gW := gw_in 377 (by decide +kernel) rfl
theorem kn_X6_wakeAbove : Cond.instanceMethod yX6_wakeAbove ∈ gW := gw_in 379 (by decide +kernel) rfl
theorem ks_X6_wakeAbove : Cond.selects RX6 yX6_wakeAbove yX6_wakeAbove ∈ gW := gw_in 11 (by decide +kernel) rfl
theorem gv_X6_257 : gWv RX6 257 yX6_wakeAbove cX6_wakeAbove 6 (some .int) := ⟨kl_X6_257, kn_X6_wakeAbove, ks_X6_wakeAbove, ki_X6, kc_X6_wakeAbove⟩
theorem kc_X6_doLines : Cond.code yX6_doLines cX6_doLines 5 (some .int) ∈ gW := gw_in 384 (by decide +kernel) rfl
theorem md_X6_doLines : gMd yX6_doLines 2 := ⟨by decide +kernel, by decide +kernel, by decide +kernel⟩
theorem kl_X6_260 : Cond.methodLink RX6 260 yX6_doLines ∈ gW := gw_in 381 (by decide +kernel) rfl
theorem kn_X6_doLines : Cond.instanceMethod yX6_doLines ∈ gW := gw_in 383 (by decide +kernel) rfl
theorem ks_X6_doLines : Cond.selects RX6 yX6_doLines yX6_doLines ∈ gW := gw_in 12 (by decide +kernel) rfl
theorem gv_X6_260 : gWv RX6 260 yX6_doLines cX6_doLines 5 (some .int) := ⟨kl_X6_260, kn_X6_doLines, ks_X6_doLines, ki_X6, kc_X6_doLines⟩
def f_X6_makeThing_0 (wk : Int32 → Int32 → Mem → Option (Int32 × Mem)) (x1 : Int32) (x2 : Int32) (M : Mem) : Option (Int32 × Mem) :=
  (f_X6_isClass x1 M).bind fun (v3, M1) =>
  if v3 = 0 then (some ((18 : Int32), M1)) else ((wk x1 x2 M1).bind fun (v7, M5) =>
  if v7 = 0 then ((ixQ 4 (M5 0 8)).bind fun t9 =>
  (ldI M5 ((13 + 5 * t9) + 4) 16 x1).bind fun v11 =>
  (stI M5 ((13 + 5 * t9) + 4) 16 x1 (v11 + (1 : Int32))).bind fun M13 =>
  some (v7, M13)) else (some (v7, M5)))
set_option maxRecDepth 100000 in
set_option maxHeartbeats 4000000 in
theorem w_X6_makeThing_0 {wk : Int32 → Int32 → Mem → Option (Int32 × Mem)} {hw : Nat} (hwk : ∀ {t d : Int32} {M : Mem} {Rs : Int32 × Mem}, wk t d M = some Rs → gMet l yX6_wake cX6_wake 5 (some .int) hw D (xty cI cT cS) 241 (xE cI cT cS) ad [.ref (ad 0), .int t, .int d] M (qI D 241 (xE cI cT cS) ad Rs)) (C : gC p s m args c RX6 cX6_makeThing 4 D (xty cI cT cS) 241 (xE cI cT cS) ad) (hr : meth.sig.returnType = (some .int)) (hq : meth.locks = false) {Rs : Int32 × Mem} {x1 : Int32} {x2 : Int32} (w : gWd D 241 (xE cI cT cS) ad M s H locs) (hl : lv_has ls 4 [(0, .ref (ad 0)), (1, .int x1), (2, .int x2)]) (hf : f_X6_makeThing_0 wk x1 x2 M = some Rs) : W p l e (rmH (hw + 3)) s m args below meth c H locs 0 0 (MQ below (qI D 241 (xE cI cT cS) ad Rs) args s 0 0 (gA 241 ad)) (F0 m 0 ls []) := by
  unfold f_X6_makeThing_0 at hf
  have hx := C.1.1
  have hb := C.1.2.1
  have hi := C.2.2.2.1
  refine lv_aload_n hx hb dX6_makeThing_0 rfl (lv_at hl 0 rfl) ?_
  refine lv_iload_n hx hb dX6_makeThing_1 rfl (lv_at hl 1 rfl) ?_
  obtain ⟨⟨v3, M1⟩, e2, hf⟩ := bindS hf
  refine g_backI w (g_runV (rest := []) C w (c_X6_isClass hi  e2) ob_X6 rfl gv_X6_48 md_X6_isClass rfl (by omega) (by decide) hl.1 rfl (Nat.le_of_ble_eq_true rfl) dX6_makeThing_2) (fun H locs w => ?_)
  refine lv_if_ne (tgt := 11) hx hb dX6_makeThing_5 (by decide) (fun c4 => ?_) (fun c4 => ?_)
  · replace hf := (if_neg c4).symm.trans hf
    refine lv_aload_n hx hb dX6_makeThing_11 rfl (lv_at hl 0 rfl) ?_
    refine lv_iload_n hx hb dX6_makeThing_12 rfl (lv_at hl 1 rfl) ?_
    refine lv_iload_n hx hb dX6_makeThing_13 rfl (lv_at hl 2 rfl) ?_
    obtain ⟨⟨v7, M5⟩, e6, hf⟩ := bindS hf
    refine g_backI w (g_runV (rest := []) C w (hwk e6) ob_X6 rfl gv_X6_251 md_X6_wake rfl (by omega) (by decide) hl.1 rfl (Nat.le_of_ble_eq_true rfl) dX6_makeThing_14) (fun H locs w => ?_)
    refine lv_istore_n (lv' := [(3, .int v7), (0, .ref (ad 0)), (1, .int x1), (2, .int x2)]) hx hb dX6_makeThing_17 rfl hl (by decide) rfl (fun ls hl => ?_)
    refine lv_iload_n hx hb dX6_makeThing_18 rfl (lv_at hl 0 rfl) ?_
    refine lv_if_ne (tgt := 40) hx hb dX6_makeThing_19 (by decide) (fun c8 => ?_) (fun c8 => ?_)
    · replace hf := (if_neg c8).symm.trans hf
      refine lv_iload_n hx hb dX6_makeThing_40 rfl (lv_at hl 0 rfl) ?_
      exact g_iret C w hr hq hf dX6_makeThing_41
    · replace hf := (if_pos c8).symm.trans hf
      refine lv_aload_n hx hb dX6_makeThing_22 rfl (lv_at hl 1 rfl) ?_
      refine gt_X6_17 C w dX6_makeThing_23 ?_
      refine lv_aload_n hx hb dX6_makeThing_26 rfl (lv_at hl 1 rfl) ?_
      refine gt_X6_117 C w dX6_makeThing_27 ?_
      obtain ⟨t9, e10, hf⟩ := bindS hf
      refine g_aald (t0 := 2) C w rf_S rfl e10 dX6_makeThing_30 ?_
      refine gt_X6_153 ⟨t9, ixQ_lt e10, rfl⟩ C w dX6_makeThing_31 ?_
      refine lv_iload_n hx hb dX6_makeThing_34 rfl (lv_at hl 2 rfl) ?_
      refine lv_dup2_11 hx hb dX6_makeThing_35 rfl rfl ?_
      obtain ⟨v11, e12, hf⟩ := bindS hf
      refine g_iald C w (xS_g ⟨t9, ixQ_lt e10, rfl⟩) e12 dX6_makeThing_36 ?_
      refine lv_iconst (v := 1) hx hb dX6_makeThing_37 (by decide) ?_
      refine lv_iadd hx hb dX6_makeThing_38 ?_
      obtain ⟨M13, e14, hf⟩ := bindS hf
      refine g_iast C w (xS_g ⟨t9, ixQ_lt e10, rfl⟩) e14 dX6_makeThing_39 (fun H locs w => ?_)
      refine lv_iload_n hx hb dX6_makeThing_40 rfl (lv_at hl 0 rfl) ?_
      exact g_iret C w hr hq hf dX6_makeThing_41
  · replace hf := (if_pos c4).symm.trans hf
    refine lv_bipush (v := 18) hx hb dX6_makeThing_8 (by decide) ?_
    exact g_iret C w hr hq hf dX6_makeThing_10
abbrev f_X6_makeThing (wk : Int32 → Int32 → Mem → Option (Int32 × Mem)) (x1 : Int32) (x2 : Int32) (M : Mem) : Option (Int32 × Mem) := f_X6_makeThing_0 wk x1 x2 M
theorem c_X6_makeThing {wk : Int32 → Int32 → Mem → Option (Int32 × Mem)} {hw : Nat} (hwk : ∀ {t d : Int32} {M : Mem} {Rs : Int32 × Mem}, wk t d M = some Rs → gMet l yX6_wake cX6_wake 5 (some .int) hw D (xty cI cT cS) 241 (xE cI cT cS) ad [.ref (ad 0), .int t, .int d] M (qI D 241 (xE cI cT cS) ad Rs)) (hi : gInj 241 ad) {x1 : Int32} {x2 : Int32} {Rs : Int32 × Mem} (hf : f_X6_makeThing wk x1 x2 M = some Rs) : gMet l yX6_makeThing cX6_makeThing 4 (some .int) (hw + 3) D (xty cI cT cS) 241 (xE cI cT cS) ad [.ref (ad 0), .int x1, .int x2] M (qI D 241 (xE cI cT cS) ad Rs) := gMet_of (by decide) hi (xE_loc cI cT cS) (Nat.le_of_ble_eq_true rfl) (fun p e s m args below meth c ls C hr hq w hl => w_X6_makeThing_0 hwk C hr hq  w hl hf)
def f_X6_ask_18 (wk : Int32 → Int32 → Mem → Option (Int32 × Mem)) (x2 : Int32) (x3 : Int32) (s0 : Int32) (M : Mem) : Option (Int32 × Mem) :=
  if s0 = (-1 : Int32) then (some ((18 : Int32), M)) else ((ixQ 16 s0).bind fun t2 =>
  (ldI M ((33 + 13 * t2) + 7) 5 x2).bind fun v4 =>
  if v4 = (1 : Int32) then ((ixQ 16 s0).bind fun t21 =>
  (ldI M ((33 + 13 * t21) + 8) 5 x2).bind fun v23 =>
  (stF M 0 10 v23).bind fun M25 =>
  some ((0 : Int32), M25)) else ((wk s0 x3 M).bind fun (v9, M7) =>
  if v9 = 0 then ((f_X6_placeOf (M7 0 8) s0 M7).bind fun (k13, M11) =>
  (ckP (xPb k13)).bind fun u14 =>
  (f_X1_numberOf k13 s0 x2 M11).bind fun (v18, M16) =>
  (stF M16 0 10 v18).bind fun M19 =>
  some (v9, M19)) else (some (v9, M7))))
def f_X6_ask_0 (wk : Int32 → Int32 → Mem → Option (Int32 × Mem)) (x1 : Int32) (x2 : Int32) (x3 : Int32) (M : Mem) : Option (Int32 × Mem) :=
  (f_X6_isType x1 M).bind fun (v3, M1) =>
  if v3 = 0 then (f_X6_ask_18 wk x2 x3 (-1 : Int32) M1) else ((f_X6_homeOf x1 x2 M1).bind fun (v7, M5) =>
  f_X6_ask_18 wk x2 x3 v7 M5)
set_option maxRecDepth 100000 in
set_option maxHeartbeats 4000000 in
theorem w_X6_ask_18 {wk : Int32 → Int32 → Mem → Option (Int32 × Mem)} {hw : Nat} (hwk : ∀ {t d : Int32} {M : Mem} {Rs : Int32 × Mem}, wk t d M = some Rs → gMet l yX6_wake cX6_wake 5 (some .int) hw D (xty cI cT cS) 241 (xE cI cT cS) ad [.ref (ad 0), .int t, .int d] M (qI D 241 (xE cI cT cS) ad Rs)) (C : gC p s m args c RX6 cX6_ask 6 D (xty cI cT cS) 241 (xE cI cT cS) ad) (hr : meth.sig.returnType = (some .int)) (hq : meth.locks = false) {Rs : Int32 × Mem} {x2 : Int32} {x3 : Int32} {s0 : Int32} (w : gWd D 241 (xE cI cT cS) ad M s H locs) (hl : lv_has ls 6 [(0, .ref (ad 0)), (2, .int x2), (3, .int x3)]) (hf : f_X6_ask_18 wk x2 x3 s0 M = some Rs) : W p l e (rmH (hw + 2)) s m args below meth c H locs 0 0 (MQ below (qI D 241 (xE cI cT cS) ad Rs) args s 0 0 (gA 241 ad)) (F0 m 18 ls [.int s0]) := by
  unfold f_X6_ask_18 at hf
  have hx := C.1.1
  have hb := C.1.2.1
  have hi := C.2.2.2.1
  refine lv_istore (lv' := [(4, .int s0), (0, .ref (ad 0)), (2, .int x2), (3, .int x3)]) hx hb dX6_ask_18 hl (by decide) rfl (fun ls hl => ?_)
  refine lv_iload hx hb dX6_ask_20 (lv_at hl 0 rfl) ?_
  refine lv_iconst (v := -1) hx hb dX6_ask_22 (by decide) ?_
  refine lv_icmp_ne (tgt := 29) hx hb dX6_ask_23 (by decide) (fun c1 => ?_) (fun c1 => ?_)
  · replace hf := (if_neg c1).symm.trans hf
    refine lv_aload_n hx hb dX6_ask_29 rfl (lv_at hl 1 rfl) ?_
    refine gt_X6_11 C w dX6_ask_30 ?_
    refine lv_iload hx hb dX6_ask_33 (lv_at hl 0 rfl) ?_
    obtain ⟨t2, e3, hf⟩ := bindS hf
    refine g_aald (t0 := 1) C w rf_T rfl e3 dX6_ask_35 ?_
    refine gt_X6_95 ⟨t2, ixQ_lt e3, rfl⟩ C w dX6_ask_36 ?_
    refine lv_iload_n hx hb dX6_ask_39 rfl (lv_at hl 2 rfl) ?_
    obtain ⟨v4, e5, hf⟩ := bindS hf
    refine g_iald C w (xT_a7 ⟨t2, ixQ_lt e3, rfl⟩) e5 dX6_ask_40 ?_
    refine lv_iconst (v := 1) hx hb dX6_ask_41 (by decide) ?_
    refine lv_icmp_ne (tgt := 63) hx hb dX6_ask_42 (by decide) (fun c6 => ?_) (fun c6 => ?_)
    · replace hf := (if_neg c6).symm.trans hf
      refine lv_aload_n hx hb dX6_ask_63 rfl (lv_at hl 1 rfl) ?_
      refine lv_iload hx hb dX6_ask_64 (lv_at hl 0 rfl) ?_
      refine lv_iload_n hx hb dX6_ask_66 rfl (lv_at hl 3 rfl) ?_
      obtain ⟨⟨v9, M7⟩, e8, hf⟩ := bindS hf
      refine g_backI w (g_runV (rest := []) C w (hwk e8) ob_X6 rfl gv_X6_251 md_X6_wake rfl (by omega) (by decide) hl.1 rfl (Nat.le_of_ble_eq_true rfl) dX6_ask_67) (fun H locs w => ?_)
      refine lv_istore (lv' := [(5, .int v9), (4, .int s0), (0, .ref (ad 0)), (2, .int x2), (3, .int x3)]) hx hb dX6_ask_70 hl (by decide) rfl (fun ls hl => ?_)
      refine lv_iload hx hb dX6_ask_72 (lv_at hl 0 rfl) ?_
      refine lv_if_ne (tgt := 97) hx hb dX6_ask_74 (by decide) (fun c10 => ?_) (fun c10 => ?_)
      · replace hf := (if_neg c10).symm.trans hf
        refine lv_iload hx hb dX6_ask_97 (lv_at hl 0 rfl) ?_
        exact g_iret C w hr hq hf dX6_ask_99
      · replace hf := (if_pos c10).symm.trans hf
        refine lv_aload_n hx hb dX6_ask_77 rfl (lv_at hl 2 rfl) ?_
        refine lv_aload_n hx hb dX6_ask_78 rfl (lv_at hl 2 rfl) ?_
        refine lv_aload_n hx hb dX6_ask_79 rfl (lv_at hl 2 rfl) ?_
        refine gt_X6_117 C w dX6_ask_80 ?_
        refine lv_iload hx hb dX6_ask_83 (lv_at hl 1 rfl) ?_
        obtain ⟨⟨k13, M11⟩, e12, hf⟩ := bindS hf
        refine g_backR w (g_runV (rest := [.ref (ad 0)]) C w (c_X6_placeOf hi  e12) ob_X6 rfl gv_X6_146 md_X6_placeOf rfl (by omega) (by decide) hl.1 rfl (Nat.le_of_ble_eq_true rfl) dX6_ask_85) (fun H locs w => ?_)
        obtain ⟨u14, e15, hf⟩ := bindS hf
        refine lv_iload hx hb dX6_ask_88 (lv_at hl 1 rfl) ?_
        refine lv_iload_n hx hb dX6_ask_90 rfl (lv_at hl 3 rfl) ?_
        obtain ⟨⟨v18, M16⟩, e17, hf⟩ := bindS hf
        refine g_backI w (g_runV (rest := [.ref (ad 0)]) C w (c_X1_numberOf hi (xPb_ok e15) e17) (ob_X1 (xPb_ok e15)) rfl gv_X6_160 md_X1_numberOf rfl (by omega) (by decide) hl.1 rfl (Nat.le_of_ble_eq_true rfl) dX6_ask_91) (fun H locs w => ?_)
        obtain ⟨M19, e20, hf⟩ := bindS hf
        refine pt_X6_123 C w e20 dX6_ask_94 (fun H locs w => ?_)
        refine lv_iload hx hb dX6_ask_97 (lv_at hl 0 rfl) ?_
        exact g_iret C w hr hq hf dX6_ask_99
    · replace hf := (if_pos c6).symm.trans hf
      refine lv_aload_n hx hb dX6_ask_45 rfl (lv_at hl 1 rfl) ?_
      refine lv_aload_n hx hb dX6_ask_46 rfl (lv_at hl 1 rfl) ?_
      refine gt_X6_11 C w dX6_ask_47 ?_
      refine lv_iload hx hb dX6_ask_50 (lv_at hl 0 rfl) ?_
      obtain ⟨t21, e22, hf⟩ := bindS hf
      refine g_aald (t0 := 1) C w rf_T rfl e22 dX6_ask_52 ?_
      refine gt_X6_99 ⟨t21, ixQ_lt e22, rfl⟩ C w dX6_ask_53 ?_
      refine lv_iload_n hx hb dX6_ask_56 rfl (lv_at hl 2 rfl) ?_
      obtain ⟨v23, e24, hf⟩ := bindS hf
      refine g_iald C w (xT_a8 ⟨t21, ixQ_lt e22, rfl⟩) e24 dX6_ask_57 ?_
      obtain ⟨M25, e26, hf⟩ := bindS hf
      refine pt_X6_123 C w e26 dX6_ask_58 (fun H locs w => ?_)
      refine lv_iconst (v := 0) hx hb dX6_ask_61 (by decide) ?_
      exact g_iret C w hr hq hf dX6_ask_62
  · replace hf := (if_pos c1).symm.trans hf
    refine lv_bipush (v := 18) hx hb dX6_ask_26 (by decide) ?_
    exact g_iret C w hr hq hf dX6_ask_28
set_option maxRecDepth 100000 in
set_option maxHeartbeats 4000000 in
theorem w_X6_ask_0 {wk : Int32 → Int32 → Mem → Option (Int32 × Mem)} {hw : Nat} (hwk : ∀ {t d : Int32} {M : Mem} {Rs : Int32 × Mem}, wk t d M = some Rs → gMet l yX6_wake cX6_wake 5 (some .int) hw D (xty cI cT cS) 241 (xE cI cT cS) ad [.ref (ad 0), .int t, .int d] M (qI D 241 (xE cI cT cS) ad Rs)) (C : gC p s m args c RX6 cX6_ask 6 D (xty cI cT cS) 241 (xE cI cT cS) ad) (hr : meth.sig.returnType = (some .int)) (hq : meth.locks = false) {Rs : Int32 × Mem} {x1 : Int32} {x2 : Int32} {x3 : Int32} (w : gWd D 241 (xE cI cT cS) ad M s H locs) (hl : lv_has ls 6 [(0, .ref (ad 0)), (1, .int x1), (2, .int x2), (3, .int x3)]) (hf : f_X6_ask_0 wk x1 x2 x3 M = some Rs) : W p l e (rmH (hw + 2)) s m args below meth c H locs 0 0 (MQ below (qI D 241 (xE cI cT cS) ad Rs) args s 0 0 (gA 241 ad)) (F0 m 0 ls []) := by
  unfold f_X6_ask_0 at hf
  have hx := C.1.1
  have hb := C.1.2.1
  have hi := C.2.2.2.1
  refine lv_aload_n hx hb dX6_ask_0 rfl (lv_at hl 0 rfl) ?_
  refine lv_iload_n hx hb dX6_ask_1 rfl (lv_at hl 1 rfl) ?_
  obtain ⟨⟨v3, M1⟩, e2, hf⟩ := bindS hf
  refine g_backI w (g_runV (rest := []) C w (c_X6_isType hi  e2) ob_X6 rfl gv_X6_68 md_X6_isType rfl (by omega) (by decide) hl.1 rfl (Nat.le_of_ble_eq_true rfl) dX6_ask_2) (fun H locs w => ?_)
  refine lv_if_eq (tgt := 17) hx hb dX6_ask_5 (by decide) (fun c4 => ?_) (fun c4 => ?_)
  · replace hf := (if_pos c4).symm.trans hf
    refine lv_iconst (v := -1) hx hb dX6_ask_17 (by decide) ?_
    exact w_X6_ask_18 hwk C hr hq w (lv_sub hl [0, 2, 3] rfl) hf
  · replace hf := (if_neg c4).symm.trans hf
    refine lv_aload_n hx hb dX6_ask_8 rfl (lv_at hl 0 rfl) ?_
    refine lv_iload_n hx hb dX6_ask_9 rfl (lv_at hl 1 rfl) ?_
    refine lv_iload_n hx hb dX6_ask_10 rfl (lv_at hl 2 rfl) ?_
    obtain ⟨⟨v7, M5⟩, e6, hf⟩ := bindS hf
    refine g_backI w (g_runV (rest := []) C w (c_X6_homeOf hi  e6) ob_X6 rfl gv_X6_210 md_X6_homeOf rfl (by omega) (by decide) hl.1 rfl (Nat.le_of_ble_eq_true rfl) dX6_ask_11) (fun H locs w => ?_)
    refine lv_goto (tgt := 18) hx hb dX6_ask_14 (by decide) ?_
    exact w_X6_ask_18 hwk C hr hq w (lv_sub hl [0, 2, 3] rfl) hf
abbrev f_X6_ask (wk : Int32 → Int32 → Mem → Option (Int32 × Mem)) (x1 : Int32) (x2 : Int32) (x3 : Int32) (M : Mem) : Option (Int32 × Mem) := f_X6_ask_0 wk x1 x2 x3 M
theorem c_X6_ask {wk : Int32 → Int32 → Mem → Option (Int32 × Mem)} {hw : Nat} (hwk : ∀ {t d : Int32} {M : Mem} {Rs : Int32 × Mem}, wk t d M = some Rs → gMet l yX6_wake cX6_wake 5 (some .int) hw D (xty cI cT cS) 241 (xE cI cT cS) ad [.ref (ad 0), .int t, .int d] M (qI D 241 (xE cI cT cS) ad Rs)) (hi : gInj 241 ad) {x1 : Int32} {x2 : Int32} {x3 : Int32} {Rs : Int32 × Mem} (hf : f_X6_ask wk x1 x2 x3 M = some Rs) : gMet l yX6_ask cX6_ask 6 (some .int) (hw + 2) D (xty cI cT cS) 241 (xE cI cT cS) ad [.ref (ad 0), .int x1, .int x2, .int x3] M (qI D 241 (xE cI cT cS) ad Rs) := gMet_of (by decide) hi (xE_loc cI cT cS) (Nat.le_of_ble_eq_true rfl) (fun p e s m args below meth c ls C hr hq w hl => w_X6_ask_0 hwk C hr hq  w hl hf)
def f_X6_askAndAdd_0 (wk : Int32 → Int32 → Mem → Option (Int32 × Mem)) (x1 : Int32) (x2 : Int32) (x3 : Int32) (x4 : Int32) (x5 : Int32) (M : Mem) : Option (Int32 × Mem) :=
  (f_X6_ask wk x3 x4 x5 M).bind fun (v3, M1) =>
  if v3 = 0 then ((f_X6_placeOf (M1 0 8) x1 M1).bind fun (k7, M5) =>
  (ckP (xPb k7)).bind fun u8 =>
  (f_X1_numberOf k7 x1 x2 M5).bind fun (v12, M10) =>
  (f_X6_write x1 x2 (v12 + (M10 0 10)) M10).bind fun (v15, M13) =>
  some (v15, M13)) else (some (v3, M1))
set_option maxRecDepth 100000 in
set_option maxHeartbeats 4000000 in
theorem w_X6_askAndAdd_0 {wk : Int32 → Int32 → Mem → Option (Int32 × Mem)} {hw : Nat} (hwk : ∀ {t d : Int32} {M : Mem} {Rs : Int32 × Mem}, wk t d M = some Rs → gMet l yX6_wake cX6_wake 5 (some .int) hw D (xty cI cT cS) 241 (xE cI cT cS) ad [.ref (ad 0), .int t, .int d] M (qI D 241 (xE cI cT cS) ad Rs)) (C : gC p s m args c RX6 cX6_askAndAdd 7 D (xty cI cT cS) 241 (xE cI cT cS) ad) (hr : meth.sig.returnType = (some .int)) (hq : meth.locks = false) {Rs : Int32 × Mem} {x1 : Int32} {x2 : Int32} {x3 : Int32} {x4 : Int32} {x5 : Int32} (w : gWd D 241 (xE cI cT cS) ad M s H locs) (hl : lv_has ls 7 [(0, .ref (ad 0)), (1, .int x1), (2, .int x2), (3, .int x3), (4, .int x4), (5, .int x5)]) (hf : f_X6_askAndAdd_0 wk x1 x2 x3 x4 x5 M = some Rs) : W p l e (rmH (hw + 3)) s m args below meth c H locs 0 0 (MQ below (qI D 241 (xE cI cT cS) ad Rs) args s 0 0 (gA 241 ad)) (F0 m 0 ls []) := by
  unfold f_X6_askAndAdd_0 at hf
  have hx := C.1.1
  have hb := C.1.2.1
  have hi := C.2.2.2.1
  refine lv_aload_n hx hb dX6_askAndAdd_0 rfl (lv_at hl 0 rfl) ?_
  refine lv_iload_n hx hb dX6_askAndAdd_1 rfl (lv_at hl 3 rfl) ?_
  refine lv_iload hx hb dX6_askAndAdd_2 (lv_at hl 4 rfl) ?_
  refine lv_iload hx hb dX6_askAndAdd_4 (lv_at hl 5 rfl) ?_
  obtain ⟨⟨v3, M1⟩, e2, hf⟩ := bindS hf
  refine g_backI w (g_runV (rest := []) C w (c_X6_ask hwk hi  e2) ob_X6 rfl gv_X6_238 md_X6_ask rfl (by omega) (by decide) hl.1 rfl (Nat.le_of_ble_eq_true rfl) dX6_askAndAdd_6) (fun H locs w => ?_)
  refine lv_istore (lv' := [(6, .int v3), (0, .ref (ad 0)), (1, .int x1), (2, .int x2), (3, .int x3), (4, .int x4), (5, .int x5)]) hx hb dX6_askAndAdd_9 hl (by decide) rfl (fun ls hl => ?_)
  refine lv_iload hx hb dX6_askAndAdd_11 (lv_at hl 0 rfl) ?_
  refine lv_if_ne (tgt := 44) hx hb dX6_askAndAdd_13 (by decide) (fun c4 => ?_) (fun c4 => ?_)
  · replace hf := (if_neg c4).symm.trans hf
    refine lv_iload hx hb dX6_askAndAdd_44 (lv_at hl 0 rfl) ?_
    exact g_iret C w hr hq hf dX6_askAndAdd_46
  · replace hf := (if_pos c4).symm.trans hf
    refine lv_aload_n hx hb dX6_askAndAdd_16 rfl (lv_at hl 1 rfl) ?_
    refine lv_iload_n hx hb dX6_askAndAdd_17 rfl (lv_at hl 2 rfl) ?_
    refine lv_iload_n hx hb dX6_askAndAdd_18 rfl (lv_at hl 3 rfl) ?_
    refine lv_aload_n hx hb dX6_askAndAdd_19 rfl (lv_at hl 1 rfl) ?_
    refine lv_aload_n hx hb dX6_askAndAdd_20 rfl (lv_at hl 1 rfl) ?_
    refine gt_X6_117 C w dX6_askAndAdd_21 ?_
    refine lv_iload_n hx hb dX6_askAndAdd_24 rfl (lv_at hl 2 rfl) ?_
    obtain ⟨⟨k7, M5⟩, e6, hf⟩ := bindS hf
    refine g_backR w (g_runV (rest := [.int x2, .int x1, .ref (ad 0)]) C w (c_X6_placeOf hi  e6) ob_X6 rfl gv_X6_146 md_X6_placeOf rfl (by omega) (by decide) hl.1 rfl (Nat.le_of_ble_eq_true rfl) dX6_askAndAdd_25) (fun H locs w => ?_)
    obtain ⟨u8, e9, hf⟩ := bindS hf
    refine lv_iload_n hx hb dX6_askAndAdd_28 rfl (lv_at hl 2 rfl) ?_
    refine lv_iload_n hx hb dX6_askAndAdd_29 rfl (lv_at hl 3 rfl) ?_
    obtain ⟨⟨v12, M10⟩, e11, hf⟩ := bindS hf
    refine g_backI w (g_runV (rest := [.int x2, .int x1, .ref (ad 0)]) C w (c_X1_numberOf hi (xPb_ok e9) e11) (ob_X1 (xPb_ok e9)) rfl gv_X6_160 md_X1_numberOf rfl (by omega) (by decide) hl.1 rfl (Nat.le_of_ble_eq_true rfl) dX6_askAndAdd_30) (fun H locs w => ?_)
    refine lv_aload_n hx hb dX6_askAndAdd_33 rfl (lv_at hl 1 rfl) ?_
    refine gt_X6_123 C w dX6_askAndAdd_34 ?_
    refine lv_iadd hx hb dX6_askAndAdd_37 ?_
    obtain ⟨⟨v15, M13⟩, e14, hf⟩ := bindS hf
    refine g_backI w (g_runV (rest := []) C w (c_X6_write hi  e14) ob_X6 rfl gv_X6_248 md_X6_write rfl (by omega) (by decide) hl.1 rfl (Nat.le_of_ble_eq_true rfl) dX6_askAndAdd_38) (fun H locs w => ?_)
    refine lv_goto (tgt := 46) hx hb dX6_askAndAdd_41 (by decide) ?_
    exact g_iret C w hr hq hf dX6_askAndAdd_46
abbrev f_X6_askAndAdd (wk : Int32 → Int32 → Mem → Option (Int32 × Mem)) (x1 : Int32) (x2 : Int32) (x3 : Int32) (x4 : Int32) (x5 : Int32) (M : Mem) : Option (Int32 × Mem) := f_X6_askAndAdd_0 wk x1 x2 x3 x4 x5 M
theorem c_X6_askAndAdd {wk : Int32 → Int32 → Mem → Option (Int32 × Mem)} {hw : Nat} (hwk : ∀ {t d : Int32} {M : Mem} {Rs : Int32 × Mem}, wk t d M = some Rs → gMet l yX6_wake cX6_wake 5 (some .int) hw D (xty cI cT cS) 241 (xE cI cT cS) ad [.ref (ad 0), .int t, .int d] M (qI D 241 (xE cI cT cS) ad Rs)) (hi : gInj 241 ad) {x1 : Int32} {x2 : Int32} {x3 : Int32} {x4 : Int32} {x5 : Int32} {Rs : Int32 × Mem} (hf : f_X6_askAndAdd wk x1 x2 x3 x4 x5 M = some Rs) : gMet l yX6_askAndAdd cX6_askAndAdd 7 (some .int) (hw + 3) D (xty cI cT cS) 241 (xE cI cT cS) ad [.ref (ad 0), .int x1, .int x2, .int x3, .int x4, .int x5] M (qI D 241 (xE cI cT cS) ad Rs) := gMet_of (by decide) hi (xE_loc cI cT cS) (Nat.le_of_ble_eq_true rfl) (fun p e s m args below meth c ls C hr hq w hl => w_X6_askAndAdd_0 hwk C hr hq  w hl hf)
def f_X6_doLine_46 (wk : Int32 → Int32 → Mem → Option (Int32 × Mem)) (x1 : Int32) (x2 : Int32) (x3 : Int32) (k4 : Nat) (x5 : Int32) (x6 : Int32) (s1 : Int32) (M : Mem) : Option (Int32 × Mem) :=
  (f_X6_takeSteps s1 M).bind fun (v3, M1) =>
  if v3 = 0 then (some ((17 : Int32), M1)) else ((ldI M1 (k4 + 9) 8 x2).bind fun v5 =>
  if v5 = 0 then ((f_X6_write x1 x5 x6 M1).bind fun (v10, M8) =>
  some (v10, M8)) else if v5 = 1 then ((ldI M1 (k4 + 12) 8 x2).bind fun v12 =>
  (f_X6_askAndAdd wk x1 x5 x6 v12 (x3 + (1 : Int32)) M1).bind fun (v16, M14) =>
  some (v16, M14)) else if v5 = 2 then ((f_X6_makeThing wk x5 (x3 + (1 : Int32)) M1).bind fun (v20, M18) =>
  some (v20, M18)) else if v5 = 3 then (some (((10 : Int32) + x5), M1)) else if v5 = 4 then (some ((0 : Int32), M1)) else if v5 = 5 then ((f_X0_addMessage x5 M1).bind fun (v26, M24) =>
  some ((0 : Int32), M24)) else if v5 = 6 then ((f_X6_makeThing wk x6 (x3 + (1 : Int32)) M1).bind fun (v30, M28) =>
  (f_X6_write x1 x5 v30 M28).bind fun (v33, M31) =>
  some (v33, M31)) else (some ((0 : Int32), M1)))
def f_X6_doLine_0 (wk : Int32 → Int32 → Mem → Option (Int32 × Mem)) (x1 : Int32) (x2 : Int32) (x3 : Int32) (M : Mem) : Option (Int32 × Mem) :=
  (ixQ 16 x1).bind fun t1 =>
  (ldI M ((33 + 13 * t1) + 10) 8 x2).bind fun v3 =>
  (ldI M ((33 + 13 * t1) + 11) 8 x2).bind fun v5 =>
  (ldI M ((33 + 13 * t1) + 9) 8 x2).bind fun v7 =>
  if v7 = (4 : Int32) then (f_X6_doLine_46 wk x1 x2 x3 (33 + 13 * t1) v3 v5 ((1 : Int32) + v3) M) else (f_X6_doLine_46 wk x1 x2 x3 (33 + 13 * t1) v3 v5 (1 : Int32) M)
set_option maxRecDepth 100000 in
set_option maxHeartbeats 4000000 in
theorem w_X6_doLine_46 {wk : Int32 → Int32 → Mem → Option (Int32 × Mem)} {hw : Nat} (hwk : ∀ {t d : Int32} {M : Mem} {Rs : Int32 × Mem}, wk t d M = some Rs → gMet l yX6_wake cX6_wake 5 (some .int) hw D (xty cI cT cS) 241 (xE cI cT cS) ad [.ref (ad 0), .int t, .int d] M (qI D 241 (xE cI cT cS) ad Rs)) (C : gC p s m args c RX6 cX6_doLine 7 D (xty cI cT cS) 241 (xE cI cT cS) ad) (hr : meth.sig.returnType = (some .int)) (hq : meth.locks = false) {Rs : Int32 × Mem} {x1 : Int32} {x2 : Int32} {x3 : Int32} {k4 : Nat} {x5 : Int32} {x6 : Int32} {s1 : Int32} (h4 : xT k4) (w : gWd D 241 (xE cI cT cS) ad M s H locs) (hl : lv_has ls 7 [(0, .ref (ad 0)), (1, .int x1), (2, .int x2), (3, .int x3), (4, .ref (ad k4)), (5, .int x5), (6, .int x6)]) (hf : f_X6_doLine_46 wk x1 x2 x3 k4 x5 x6 s1 M = some Rs) : W p l e (rmH (hw + 4)) s m args below meth c H locs 0 0 (MQ below (qI D 241 (xE cI cT cS) ad Rs) args s 0 0 (gA 241 ad)) (F0 m 46 ls [.int s1, .ref (ad 0)]) := by
  unfold f_X6_doLine_46 at hf
  have hx := C.1.1
  have hb := C.1.2.1
  have hi := C.2.2.2.1
  obtain ⟨⟨v3, M1⟩, e2, hf⟩ := bindS hf
  refine g_backI w (g_runV (rest := []) C w (c_X6_takeSteps hi  e2) ob_X6 rfl gv_X6_279 md_X6_takeSteps rfl (by omega) (by decide) hl.1 rfl (Nat.le_of_ble_eq_true rfl) dX6_doLine_46) (fun H locs w => ?_)
  refine lv_if_ne (tgt := 55) hx hb dX6_doLine_49 (by decide) (fun c4 => ?_) (fun c4 => ?_)
  · replace hf := (if_neg c4).symm.trans hf
    refine lv_aload hx hb dX6_doLine_55 (lv_at hl 4 rfl) ?_
    refine gt_X6_276 h4 C w dX6_doLine_57 ?_
    refine lv_iload_n hx hb dX6_doLine_60 rfl (lv_at hl 2 rfl) ?_
    obtain ⟨v5, e6, hf⟩ := bindS hf
    refine g_iald C w (xT_a9 h4) e6 dX6_doLine_61 ?_
    by_cases c7 : v5 = 0
    · replace hf := (if_pos c7).symm.trans hf
      refine lv_tableIn (tgt := 104) hx hb dX6_doLine_62 (by rw [c7]; decide) (by rw [c7]; decide) (by rw [c7]; rfl) (by decide) ?_
      refine lv_aload_n hx hb dX6_doLine_104 rfl (lv_at hl 0 rfl) ?_
      refine lv_iload_n hx hb dX6_doLine_105 rfl (lv_at hl 1 rfl) ?_
      refine lv_iload hx hb dX6_doLine_106 (lv_at hl 5 rfl) ?_
      refine lv_iload hx hb dX6_doLine_108 (lv_at hl 6 rfl) ?_
      obtain ⟨⟨v10, M8⟩, e9, hf⟩ := bindS hf
      refine g_backI w (g_runV (rest := []) C w (c_X6_write hi  e9) ob_X6 rfl gv_X6_248 md_X6_write rfl (by omega) (by decide) hl.1 rfl (Nat.le_of_ble_eq_true rfl) dX6_doLine_110) (fun H locs w => ?_)
      exact g_iret C w hr hq hf dX6_doLine_113
    · replace hf := (if_neg c7).symm.trans hf
      by_cases c11 : v5 = 1
      · replace hf := (if_pos c11).symm.trans hf
        refine lv_tableIn (tgt := 114) hx hb dX6_doLine_62 (by rw [c11]; decide) (by rw [c11]; decide) (by rw [c11]; rfl) (by decide) ?_
        refine lv_aload_n hx hb dX6_doLine_114 rfl (lv_at hl 0 rfl) ?_
        refine lv_iload_n hx hb dX6_doLine_115 rfl (lv_at hl 1 rfl) ?_
        refine lv_iload hx hb dX6_doLine_116 (lv_at hl 5 rfl) ?_
        refine lv_iload hx hb dX6_doLine_118 (lv_at hl 6 rfl) ?_
        refine lv_aload hx hb dX6_doLine_120 (lv_at hl 4 rfl) ?_
        refine gt_X6_282 h4 C w dX6_doLine_122 ?_
        refine lv_iload_n hx hb dX6_doLine_125 rfl (lv_at hl 2 rfl) ?_
        obtain ⟨v12, e13, hf⟩ := bindS hf
        refine g_iald C w (xT_a12 h4) e13 dX6_doLine_126 ?_
        refine lv_iload_n hx hb dX6_doLine_127 rfl (lv_at hl 3 rfl) ?_
        refine lv_iconst (v := 1) hx hb dX6_doLine_128 (by decide) ?_
        refine lv_iadd hx hb dX6_doLine_129 ?_
        obtain ⟨⟨v16, M14⟩, e15, hf⟩ := bindS hf
        refine g_backI w (g_runV (rest := []) C w (c_X6_askAndAdd hwk hi  e15) ob_X6 rfl gv_X6_285 md_X6_askAndAdd rfl (by omega) (by decide) hl.1 rfl (Nat.le_of_ble_eq_true rfl) dX6_doLine_130) (fun H locs w => ?_)
        exact g_iret C w hr hq hf dX6_doLine_133
      · replace hf := (if_neg c11).symm.trans hf
        by_cases c17 : v5 = 2
        · replace hf := (if_pos c17).symm.trans hf
          refine lv_tableIn (tgt := 134) hx hb dX6_doLine_62 (by rw [c17]; decide) (by rw [c17]; decide) (by rw [c17]; rfl) (by decide) ?_
          refine lv_aload_n hx hb dX6_doLine_134 rfl (lv_at hl 0 rfl) ?_
          refine lv_iload hx hb dX6_doLine_135 (lv_at hl 5 rfl) ?_
          refine lv_iload_n hx hb dX6_doLine_137 rfl (lv_at hl 3 rfl) ?_
          refine lv_iconst (v := 1) hx hb dX6_doLine_138 (by decide) ?_
          refine lv_iadd hx hb dX6_doLine_139 ?_
          obtain ⟨⟨v20, M18⟩, e19, hf⟩ := bindS hf
          refine g_backI w (g_runV (rest := []) C w (c_X6_makeThing hwk hi  e19) ob_X6 rfl gv_X6_245 md_X6_makeThing rfl (by omega) (by decide) hl.1 rfl (Nat.le_of_ble_eq_true rfl) dX6_doLine_140) (fun H locs w => ?_)
          exact g_iret C w hr hq hf dX6_doLine_143
        · replace hf := (if_neg c17).symm.trans hf
          by_cases c21 : v5 = 3
          · replace hf := (if_pos c21).symm.trans hf
            refine lv_tableIn (tgt := 144) hx hb dX6_doLine_62 (by rw [c21]; decide) (by rw [c21]; decide) (by rw [c21]; rfl) (by decide) ?_
            refine lv_bipush (v := 10) hx hb dX6_doLine_144 (by decide) ?_
            refine lv_iload hx hb dX6_doLine_146 (lv_at hl 5 rfl) ?_
            refine lv_iadd hx hb dX6_doLine_148 ?_
            exact g_iret C w hr hq hf dX6_doLine_149
          · replace hf := (if_neg c21).symm.trans hf
            by_cases c22 : v5 = 4
            · replace hf := (if_pos c22).symm.trans hf
              refine lv_tableIn (tgt := 178) hx hb dX6_doLine_62 (by rw [c22]; decide) (by rw [c22]; decide) (by rw [c22]; rfl) (by decide) ?_
              refine lv_iconst (v := 0) hx hb dX6_doLine_178 (by decide) ?_
              exact g_iret C w hr hq hf dX6_doLine_179
            · replace hf := (if_neg c22).symm.trans hf
              by_cases c23 : v5 = 5
              · replace hf := (if_pos c23).symm.trans hf
                refine lv_tableIn (tgt := 150) hx hb dX6_doLine_62 (by rw [c23]; decide) (by rw [c23]; decide) (by rw [c23]; rfl) (by decide) ?_
                refine lv_aload_n hx hb dX6_doLine_150 rfl (lv_at hl 0 rfl) ?_
                refine gt_X6_38 C w dX6_doLine_151 ?_
                refine lv_iload hx hb dX6_doLine_154 (lv_at hl 5 rfl) ?_
                obtain ⟨⟨v26, M24⟩, e25, hf⟩ := bindS hf
                refine g_backV w (g_runV (rest := []) C w (c_X0_addMessage hi  e25) ob_X0 rfl gv_X6_288 md_X0_addMessage rfl (by omega) (by decide) hl.1 rfl (Nat.le_of_ble_eq_true rfl) dX6_doLine_156) (fun H locs w => ?_)
                refine lv_iconst (v := 0) hx hb dX6_doLine_159 (by decide) ?_
                exact g_iret C w hr hq hf dX6_doLine_160
              · replace hf := (if_neg c23).symm.trans hf
                by_cases c27 : v5 = 6
                · replace hf := (if_pos c27).symm.trans hf
                  refine lv_tableIn (tgt := 161) hx hb dX6_doLine_62 (by rw [c27]; decide) (by rw [c27]; decide) (by rw [c27]; rfl) (by decide) ?_
                  refine lv_aload_n hx hb dX6_doLine_161 rfl (lv_at hl 0 rfl) ?_
                  refine lv_iload_n hx hb dX6_doLine_162 rfl (lv_at hl 1 rfl) ?_
                  refine lv_iload hx hb dX6_doLine_163 (lv_at hl 5 rfl) ?_
                  refine lv_aload_n hx hb dX6_doLine_165 rfl (lv_at hl 0 rfl) ?_
                  refine lv_iload hx hb dX6_doLine_166 (lv_at hl 6 rfl) ?_
                  refine lv_iload_n hx hb dX6_doLine_168 rfl (lv_at hl 3 rfl) ?_
                  refine lv_iconst (v := 1) hx hb dX6_doLine_169 (by decide) ?_
                  refine lv_iadd hx hb dX6_doLine_170 ?_
                  obtain ⟨⟨v30, M28⟩, e29, hf⟩ := bindS hf
                  refine g_backI w (g_runV (rest := [.int x5, .int x1, .ref (ad 0)]) C w (c_X6_makeThing hwk hi  e29) ob_X6 rfl gv_X6_245 md_X6_makeThing rfl (by omega) (by decide) hl.1 rfl (Nat.le_of_ble_eq_true rfl) dX6_doLine_171) (fun H locs w => ?_)
                  obtain ⟨⟨v33, M31⟩, e32, hf⟩ := bindS hf
                  refine g_backI w (g_runV (rest := []) C w (c_X6_write hi  e32) ob_X6 rfl gv_X6_248 md_X6_write rfl (by omega) (by decide) hl.1 rfl (Nat.le_of_ble_eq_true rfl) dX6_doLine_174) (fun H locs w => ?_)
                  exact g_iret C w hr hq hf dX6_doLine_177
                · replace hf := (if_neg c27).symm.trans hf
                  refine lv_tableOut (tgt := 178) hx hb dX6_doLine_62 (by have := lv_neT c7 (show (0 : Int32).toInt = 0 from rfl); have := lv_neT c11 (show (1 : Int32).toInt = 1 from rfl); have := lv_neT c17 (show (2 : Int32).toInt = 2 from rfl); have := lv_neT c21 (show (3 : Int32).toInt = 3 from rfl); have := lv_neT c22 (show (4 : Int32).toInt = 4 from rfl); have := lv_neT c23 (show (5 : Int32).toInt = 5 from rfl); have := lv_neT c27 (show (6 : Int32).toInt = 6 from rfl); omega) (by decide) ?_
                  refine lv_iconst (v := 0) hx hb dX6_doLine_178 (by decide) ?_
                  exact g_iret C w hr hq hf dX6_doLine_179
  · replace hf := (if_pos c4).symm.trans hf
    refine lv_bipush (v := 17) hx hb dX6_doLine_52 (by decide) ?_
    exact g_iret C w hr hq hf dX6_doLine_54
set_option maxRecDepth 100000 in
set_option maxHeartbeats 4000000 in
theorem w_X6_doLine_0 {wk : Int32 → Int32 → Mem → Option (Int32 × Mem)} {hw : Nat} (hwk : ∀ {t d : Int32} {M : Mem} {Rs : Int32 × Mem}, wk t d M = some Rs → gMet l yX6_wake cX6_wake 5 (some .int) hw D (xty cI cT cS) 241 (xE cI cT cS) ad [.ref (ad 0), .int t, .int d] M (qI D 241 (xE cI cT cS) ad Rs)) (C : gC p s m args c RX6 cX6_doLine 7 D (xty cI cT cS) 241 (xE cI cT cS) ad) (hr : meth.sig.returnType = (some .int)) (hq : meth.locks = false) {Rs : Int32 × Mem} {x1 : Int32} {x2 : Int32} {x3 : Int32} (w : gWd D 241 (xE cI cT cS) ad M s H locs) (hl : lv_has ls 7 [(0, .ref (ad 0)), (1, .int x1), (2, .int x2), (3, .int x3)]) (hf : f_X6_doLine_0 wk x1 x2 x3 M = some Rs) : W p l e (rmH (hw + 4)) s m args below meth c H locs 0 0 (MQ below (qI D 241 (xE cI cT cS) ad Rs) args s 0 0 (gA 241 ad)) (F0 m 0 ls []) := by
  unfold f_X6_doLine_0 at hf
  have hx := C.1.1
  have hb := C.1.2.1
  have hi := C.2.2.2.1
  refine lv_aload_n hx hb dX6_doLine_0 rfl (lv_at hl 0 rfl) ?_
  refine gt_X6_11 C w dX6_doLine_1 ?_
  refine lv_iload_n hx hb dX6_doLine_4 rfl (lv_at hl 1 rfl) ?_
  obtain ⟨t1, e2, hf⟩ := bindS hf
  refine g_aald (t0 := 1) C w rf_T rfl e2 dX6_doLine_5 ?_
  refine lv_astore (lv' := [(4, .ref (ad (33 + 13 * t1))), (0, .ref (ad 0)), (1, .int x1), (2, .int x2), (3, .int x3)]) hx hb dX6_doLine_6 hl (by decide) rfl (fun ls hl => ?_)
  refine lv_aload hx hb dX6_doLine_8 (lv_at hl 0 rfl) ?_
  refine gt_X6_270 ⟨t1, ixQ_lt e2, rfl⟩ C w dX6_doLine_10 ?_
  refine lv_iload_n hx hb dX6_doLine_13 rfl (lv_at hl 3 rfl) ?_
  obtain ⟨v3, e4, hf⟩ := bindS hf
  refine g_iald C w (xT_a10 ⟨t1, ixQ_lt e2, rfl⟩) e4 dX6_doLine_14 ?_
  refine lv_istore (lv' := [(5, .int v3), (4, .ref (ad (33 + 13 * t1))), (0, .ref (ad 0)), (1, .int x1), (2, .int x2), (3, .int x3)]) hx hb dX6_doLine_15 hl (by decide) rfl (fun ls hl => ?_)
  refine lv_aload hx hb dX6_doLine_17 (lv_at hl 1 rfl) ?_
  refine gt_X6_273 ⟨t1, ixQ_lt e2, rfl⟩ C w dX6_doLine_19 ?_
  refine lv_iload_n hx hb dX6_doLine_22 rfl (lv_at hl 4 rfl) ?_
  obtain ⟨v5, e6, hf⟩ := bindS hf
  refine g_iald C w (xT_a11 ⟨t1, ixQ_lt e2, rfl⟩) e6 dX6_doLine_23 ?_
  refine lv_istore (lv' := [(6, .int v5), (5, .int v3), (4, .ref (ad (33 + 13 * t1))), (0, .ref (ad 0)), (1, .int x1), (2, .int x2), (3, .int x3)]) hx hb dX6_doLine_24 hl (by decide) rfl (fun ls hl => ?_)
  refine lv_aload_n hx hb dX6_doLine_26 rfl (lv_at hl 3 rfl) ?_
  refine lv_aload hx hb dX6_doLine_27 (lv_at hl 2 rfl) ?_
  refine gt_X6_276 ⟨t1, ixQ_lt e2, rfl⟩ C w dX6_doLine_29 ?_
  refine lv_iload_n hx hb dX6_doLine_32 rfl (lv_at hl 5 rfl) ?_
  obtain ⟨v7, e8, hf⟩ := bindS hf
  refine g_iald C w (xT_a9 ⟨t1, ixQ_lt e2, rfl⟩) e8 dX6_doLine_33 ?_
  refine lv_iconst (v := 4) hx hb dX6_doLine_34 (by decide) ?_
  refine lv_icmp_ne (tgt := 45) hx hb dX6_doLine_35 (by decide) (fun c9 => ?_) (fun c9 => ?_)
  · replace hf := (if_neg c9).symm.trans hf
    refine lv_iconst (v := 1) hx hb dX6_doLine_45 (by decide) ?_
    exact w_X6_doLine_46 hwk C hr hq ⟨t1, ixQ_lt e2, rfl⟩ w (lv_sub hl [3, 4, 5, 6, 2, 1, 0] rfl) hf
  · replace hf := (if_pos c9).symm.trans hf
    refine lv_iconst (v := 1) hx hb dX6_doLine_38 (by decide) ?_
    refine lv_iload hx hb dX6_doLine_39 (lv_at hl 1 rfl) ?_
    refine lv_iadd hx hb dX6_doLine_41 ?_
    refine lv_goto (tgt := 46) hx hb dX6_doLine_42 (by decide) ?_
    exact w_X6_doLine_46 hwk C hr hq ⟨t1, ixQ_lt e2, rfl⟩ w (lv_sub hl [3, 4, 5, 6, 2, 1, 0] rfl) hf
abbrev f_X6_doLine (wk : Int32 → Int32 → Mem → Option (Int32 × Mem)) (x1 : Int32) (x2 : Int32) (x3 : Int32) (M : Mem) : Option (Int32 × Mem) := f_X6_doLine_0 wk x1 x2 x3 M
theorem c_X6_doLine {wk : Int32 → Int32 → Mem → Option (Int32 × Mem)} {hw : Nat} (hwk : ∀ {t d : Int32} {M : Mem} {Rs : Int32 × Mem}, wk t d M = some Rs → gMet l yX6_wake cX6_wake 5 (some .int) hw D (xty cI cT cS) 241 (xE cI cT cS) ad [.ref (ad 0), .int t, .int d] M (qI D 241 (xE cI cT cS) ad Rs)) (hi : gInj 241 ad) {x1 : Int32} {x2 : Int32} {x3 : Int32} {Rs : Int32 × Mem} (hf : f_X6_doLine wk x1 x2 x3 M = some Rs) : gMet l yX6_doLine cX6_doLine 7 (some .int) (hw + 4) D (xty cI cT cS) 241 (xE cI cT cS) ad [.ref (ad 0), .int x1, .int x2, .int x3] M (qI D 241 (xE cI cT cS) ad Rs) := gMet_of (by decide) hi (xE_loc cI cT cS) (Nat.le_of_ble_eq_true rfl) (fun p e s m args below meth c ls C hr hq w hl => w_X6_doLine_0 hwk C hr hq  w hl hf)
def f_X6_doLines_5b (wk : Int32 → Int32 → Mem → Option (Int32 × Mem)) (k5_ : (Int32 → Int32 → Int32 → Int32 → Mem → Option (Int32 × Mem))) (x1 : Int32) (x2 : Int32) (x3 : Int32) (x4 : Int32) (M : Mem) : Option (Int32 × Mem) :=
  if x3 = 0 then ((ixQ 16 x1).bind fun t2 =>
  if (M (33 + 13 * t2) 12) ≤ x4 then (some (x3, M)) else ((f_X6_doLine wk x1 x4 x2 M).bind fun (v7, M5) =>
  k5_ x1 x2 v7 (x4 + 1) M5)) else (some (x3, M))
def f_X6_doLines_5 (wk : Int32 → Int32 → Mem → Option (Int32 × Mem)) : Nat → Int32 → Int32 → Int32 → Int32 → Mem → Option (Int32 × Mem)
  | 0, _, _, _, _, _ => none
  | n + 1, x1, x2, x3, x4, M => f_X6_doLines_5b wk (f_X6_doLines_5 wk n) x1 x2 x3 x4 M
def f_X6_doLines_0 (wk : Int32 → Int32 → Mem → Option (Int32 × Mem)) (x1 : Int32) (x2 : Int32) (M : Mem) : Option (Int32 × Mem) :=
  f_X6_doLines_5 wk FU x1 x2 (0 : Int32) (0 : Int32) M
set_option maxRecDepth 100000 in
set_option maxHeartbeats 4000000 in
theorem w_X6_doLines_5b {wk : Int32 → Int32 → Mem → Option (Int32 × Mem)} {hw : Nat} (hwk : ∀ {t d : Int32} {M : Mem} {Rs : Int32 × Mem}, wk t d M = some Rs → gMet l yX6_wake cX6_wake 5 (some .int) hw D (xty cI cT cS) 241 (xE cI cT cS) ad [.ref (ad 0), .int t, .int d] M (qI D 241 (xE cI cT cS) ad Rs)) (C : gC p s m args c RX6 cX6_doLines 5 D (xty cI cT cS) 241 (xE cI cT cS) ad) (hr : meth.sig.returnType = (some .int)) (hq : meth.locks = false) {k5_ : (Int32 → Int32 → Int32 → Int32 → Mem → Option (Int32 × Mem))} {Rs : Int32 × Mem} (hk5_ : ∀ {x1 : Int32} {x2 : Int32} {x3 : Int32} {x4 : Int32} {M : Mem} {H : Heap} {locs : List Loc} {ls : Array Slot}, gWd D 241 (xE cI cT cS) ad M s H locs → lv_has ls 5 [(0, .ref (ad 0)), (1, .int x1), (2, .int x2), (3, .int x3), (4, .int x4)] → k5_ x1 x2 x3 x4 M = some Rs → W p l e (rmH (hw + 5)) s m args below meth c H locs 0 0 (MQ below (qI D 241 (xE cI cT cS) ad Rs) args s 0 0 (gA 241 ad)) (F0 m 5 ls [])) {x1 : Int32} {x2 : Int32} {x3 : Int32} {x4 : Int32} (w : gWd D 241 (xE cI cT cS) ad M s H locs) (hl : lv_has ls 5 [(0, .ref (ad 0)), (1, .int x1), (2, .int x2), (3, .int x3), (4, .int x4)]) (hf : f_X6_doLines_5b wk k5_ x1 x2 x3 x4 M = some Rs) : W p l e (rmH (hw + 5)) s m args below meth c H locs 0 0 (MQ below (qI D 241 (xE cI cT cS) ad Rs) args s 0 0 (gA 241 ad)) (F0 m 5 ls []) := by
  unfold f_X6_doLines_5b at hf
  have hx := C.1.1
  have hb := C.1.2.1
  have hi := C.2.2.2.1
  refine lv_iload_n hx hb dX6_doLines_5 rfl (lv_at hl 3 rfl) ?_
  refine lv_if_ne (tgt := 38) hx hb dX6_doLines_6 (by decide) (fun c1 => ?_) (fun c1 => ?_)
  · replace hf := (if_neg c1).symm.trans hf
    refine lv_iload_n hx hb dX6_doLines_38 rfl (lv_at hl 3 rfl) ?_
    exact g_iret C w hr hq hf dX6_doLines_39
  · replace hf := (if_pos c1).symm.trans hf
    refine lv_iload hx hb dX6_doLines_9 (lv_at hl 4 rfl) ?_
    refine lv_aload_n hx hb dX6_doLines_11 rfl (lv_at hl 0 rfl) ?_
    refine gt_X6_11 C w dX6_doLines_12 ?_
    refine lv_iload_n hx hb dX6_doLines_15 rfl (lv_at hl 1 rfl) ?_
    obtain ⟨t2, e3, hf⟩ := bindS hf
    refine g_aald (t0 := 1) C w rf_T rfl e3 dX6_doLines_16 ?_
    refine gt_X6_106 ⟨t2, ixQ_lt e3, rfl⟩ C w dX6_doLines_17 ?_
    refine lv_icmp_ge (tgt := 38) hx hb dX6_doLines_20 (by decide) (fun c4 => ?_) (fun c4 => ?_)
    · replace hf := (if_pos c4).symm.trans hf
      refine lv_iload_n hx hb dX6_doLines_38 rfl (lv_at hl 3 rfl) ?_
      exact g_iret C w hr hq hf dX6_doLines_39
    · replace hf := (if_neg c4).symm.trans hf
      refine lv_aload_n hx hb dX6_doLines_23 rfl (lv_at hl 0 rfl) ?_
      refine lv_iload_n hx hb dX6_doLines_24 rfl (lv_at hl 1 rfl) ?_
      refine lv_iload hx hb dX6_doLines_25 (lv_at hl 4 rfl) ?_
      refine lv_iload_n hx hb dX6_doLines_27 rfl (lv_at hl 2 rfl) ?_
      obtain ⟨⟨v7, M5⟩, e6, hf⟩ := bindS hf
      refine g_backI w (g_runV (rest := []) C w (c_X6_doLine hwk hi  e6) ob_X6 rfl gv_X6_267 md_X6_doLine rfl (by omega) (by decide) hl.1 rfl (Nat.le_of_ble_eq_true rfl) dX6_doLines_28) (fun H locs w => ?_)
      refine lv_istore_n (lv' := [(3, .int v7), (0, .ref (ad 0)), (1, .int x1), (2, .int x2), (4, .int x4)]) hx hb dX6_doLines_31 rfl hl (by decide) rfl (fun ls hl => ?_)
      refine lv_iinc (v := (x4 + 1)) (lv' := [(4, .int (x4 + 1)), (3, .int v7), (0, .ref (ad 0)), (1, .int x1), (2, .int x2)]) hx hb dX6_doLines_32 hl (k := 4) rfl rfl (by decide) rfl (fun ls hl => ?_)
      refine lv_goto (tgt := 5) hx hb dX6_doLines_35 (by decide) ?_
      exact hk5_ w (lv_sub hl [2, 3, 4, 1, 0] rfl) hf
theorem w_X6_doLines_5 {wk : Int32 → Int32 → Mem → Option (Int32 × Mem)} {hw : Nat} (hwk : ∀ {t d : Int32} {M : Mem} {Rs : Int32 × Mem}, wk t d M = some Rs → gMet l yX6_wake cX6_wake 5 (some .int) hw D (xty cI cT cS) 241 (xE cI cT cS) ad [.ref (ad 0), .int t, .int d] M (qI D 241 (xE cI cT cS) ad Rs)) (C : gC p s m args c RX6 cX6_doLines 5 D (xty cI cT cS) 241 (xE cI cT cS) ad) (hr : meth.sig.returnType = (some .int)) (hq : meth.locks = false) {Rs : Int32 × Mem} : ∀ (n : Nat) {x1 : Int32} {x2 : Int32} {x3 : Int32} {x4 : Int32} {M : Mem} {H : Heap} {locs : List Loc} {ls : Array Slot}, gWd D 241 (xE cI cT cS) ad M s H locs → lv_has ls 5 [(0, .ref (ad 0)), (1, .int x1), (2, .int x2), (3, .int x3), (4, .int x4)] → f_X6_doLines_5 wk n x1 x2 x3 x4 M = some Rs → W p l e (rmH (hw + 5)) s m args below meth c H locs 0 0 (MQ below (qI D 241 (xE cI cT cS) ad Rs) args s 0 0 (gA 241 ad)) (F0 m 5 ls []) := by
  intro n
  induction n with
  | zero =>
    intro x1 x2 x3 x4 M H locs ls w hl hf
    cases hf
  | succ n ih =>
    intro x1 x2 x3 x4 M H locs ls w hl hf
    exact w_X6_doLines_5b hwk C hr hq ih  w hl hf
set_option maxRecDepth 100000 in
set_option maxHeartbeats 4000000 in
theorem w_X6_doLines_0 {wk : Int32 → Int32 → Mem → Option (Int32 × Mem)} {hw : Nat} (hwk : ∀ {t d : Int32} {M : Mem} {Rs : Int32 × Mem}, wk t d M = some Rs → gMet l yX6_wake cX6_wake 5 (some .int) hw D (xty cI cT cS) 241 (xE cI cT cS) ad [.ref (ad 0), .int t, .int d] M (qI D 241 (xE cI cT cS) ad Rs)) (C : gC p s m args c RX6 cX6_doLines 5 D (xty cI cT cS) 241 (xE cI cT cS) ad) (hr : meth.sig.returnType = (some .int)) (hq : meth.locks = false) {Rs : Int32 × Mem} {x1 : Int32} {x2 : Int32} (w : gWd D 241 (xE cI cT cS) ad M s H locs) (hl : lv_has ls 5 [(0, .ref (ad 0)), (1, .int x1), (2, .int x2)]) (hf : f_X6_doLines_0 wk x1 x2 M = some Rs) : W p l e (rmH (hw + 5)) s m args below meth c H locs 0 0 (MQ below (qI D 241 (xE cI cT cS) ad Rs) args s 0 0 (gA 241 ad)) (F0 m 0 ls []) := by
  unfold f_X6_doLines_0 at hf
  have hx := C.1.1
  have hb := C.1.2.1
  have hi := C.2.2.2.1
  refine lv_iconst (v := 0) hx hb dX6_doLines_0 (by decide) ?_
  refine lv_istore_n (lv' := [(3, .int (0 : Int32)), (0, .ref (ad 0)), (1, .int x1), (2, .int x2)]) hx hb dX6_doLines_1 rfl hl (by decide) rfl (fun ls hl => ?_)
  refine lv_iconst (v := 0) hx hb dX6_doLines_2 (by decide) ?_
  refine lv_istore (lv' := [(4, .int (0 : Int32)), (3, .int (0 : Int32)), (0, .ref (ad 0)), (1, .int x1), (2, .int x2)]) hx hb dX6_doLines_3 hl (by decide) rfl (fun ls hl => ?_)
  exact w_X6_doLines_5 hwk C hr hq FU w (lv_sub hl [2, 3, 4, 1, 0] rfl) hf
abbrev f_X6_doLines (wk : Int32 → Int32 → Mem → Option (Int32 × Mem)) (x1 : Int32) (x2 : Int32) (M : Mem) : Option (Int32 × Mem) := f_X6_doLines_0 wk x1 x2 M
theorem c_X6_doLines {wk : Int32 → Int32 → Mem → Option (Int32 × Mem)} {hw : Nat} (hwk : ∀ {t d : Int32} {M : Mem} {Rs : Int32 × Mem}, wk t d M = some Rs → gMet l yX6_wake cX6_wake 5 (some .int) hw D (xty cI cT cS) 241 (xE cI cT cS) ad [.ref (ad 0), .int t, .int d] M (qI D 241 (xE cI cT cS) ad Rs)) (hi : gInj 241 ad) {x1 : Int32} {x2 : Int32} {Rs : Int32 × Mem} (hf : f_X6_doLines wk x1 x2 M = some Rs) : gMet l yX6_doLines cX6_doLines 5 (some .int) (hw + 5) D (xty cI cT cS) 241 (xE cI cT cS) ad [.ref (ad 0), .int x1, .int x2] M (qI D 241 (xE cI cT cS) ad Rs) := gMet_of (by decide) hi (xE_loc cI cT cS) (Nat.le_of_ble_eq_true rfl) (fun p e s m args below meth c ls C hr hq w hl => w_X6_doLines_0 hwk C hr hq  w hl hf)
def f_X6_wakeAbove_44b (wk : Int32 → Int32 → Mem → Option (Int32 × Mem)) (k44_ : (Int32 → Nat → Int32 → Int32 → Mem → Option (Int32 × Mem))) (x2 : Int32) (k3 : Nat) (x4 : Int32) (x5 : Int32) (M : Mem) : Option (Int32 × Mem) :=
  if x4 = 0 then (if (M (k3 + 5) 1) ≤ x5 then (some (x4, M)) else ((ldI M ((k3 + 5) + 1) 16 x5).bind fun v3 =>
  (wk v3 (x2 + (1 : Int32)) M).bind fun (v7, M5) =>
  k44_ x2 k3 v7 (x5 + 1) M5)) else (some (x4, M))
def f_X6_wakeAbove_44 (wk : Int32 → Int32 → Mem → Option (Int32 × Mem)) : Nat → Int32 → Nat → Int32 → Int32 → Mem → Option (Int32 × Mem)
  | 0, _, _, _, _, _ => none
  | n + 1, x2, k3, x4, x5, M => f_X6_wakeAbove_44b wk (f_X6_wakeAbove_44 wk n) x2 k3 x4 x5 M
def f_X6_wakeAbove_39 (wk : Int32 → Int32 → Mem → Option (Int32 × Mem)) (x2 : Int32) (k3 : Nat) (s0 : Int32) (M : Mem) : Option (Int32 × Mem) :=
  f_X6_wakeAbove_44 wk FU x2 k3 s0 (0 : Int32) M
def f_X6_wakeAbove_0 (wk : Int32 → Int32 → Mem → Option (Int32 × Mem)) (x1 : Int32) (x2 : Int32) (M : Mem) : Option (Int32 × Mem) :=
  (ixQ 16 x1).bind fun t1 =>
  if (M (33 + 13 * t1) 0) = 0 then (if (M (33 + 13 * t1) 1) = (-1 : Int32) then (f_X6_wakeAbove_39 wk x2 (33 + 13 * t1) (0 : Int32) M) else ((wk (M (33 + 13 * t1) 1) (x2 + (1 : Int32)) M).bind fun (v7, M5) =>
  f_X6_wakeAbove_39 wk x2 (33 + 13 * t1) v7 M5)) else (some ((0 : Int32), M))
set_option maxRecDepth 100000 in
set_option maxHeartbeats 4000000 in
theorem w_X6_wakeAbove_44b {wk : Int32 → Int32 → Mem → Option (Int32 × Mem)} {hw : Nat} (hwk : ∀ {t d : Int32} {M : Mem} {Rs : Int32 × Mem}, wk t d M = some Rs → gMet l yX6_wake cX6_wake 5 (some .int) hw D (xty cI cT cS) 241 (xE cI cT cS) ad [.ref (ad 0), .int t, .int d] M (qI D 241 (xE cI cT cS) ad Rs)) (C : gC p s m args c RX6 cX6_wakeAbove 6 D (xty cI cT cS) 241 (xE cI cT cS) ad) (hr : meth.sig.returnType = (some .int)) (hq : meth.locks = false) {k44_ : (Int32 → Nat → Int32 → Int32 → Mem → Option (Int32 × Mem))} {Rs : Int32 × Mem} (hk44_ : ∀ {x2 : Int32} {k3 : Nat} {x4 : Int32} {x5 : Int32} {M : Mem} {H : Heap} {locs : List Loc} {ls : Array Slot} (h3 : xT k3), gWd D 241 (xE cI cT cS) ad M s H locs → lv_has ls 6 [(0, .ref (ad 0)), (2, .int x2), (3, .ref (ad k3)), (4, .int x4), (5, .int x5)] → k44_ x2 k3 x4 x5 M = some Rs → W p l e (rmH (hw + 1)) s m args below meth c H locs 0 0 (MQ below (qI D 241 (xE cI cT cS) ad Rs) args s 0 0 (gA 241 ad)) (F0 m 44 ls [])) {x2 : Int32} {k3 : Nat} {x4 : Int32} {x5 : Int32} (h3 : xT k3) (w : gWd D 241 (xE cI cT cS) ad M s H locs) (hl : lv_has ls 6 [(0, .ref (ad 0)), (2, .int x2), (3, .ref (ad k3)), (4, .int x4), (5, .int x5)]) (hf : f_X6_wakeAbove_44b wk k44_ x2 k3 x4 x5 M = some Rs) : W p l e (rmH (hw + 1)) s m args below meth c H locs 0 0 (MQ below (qI D 241 (xE cI cT cS) ad Rs) args s 0 0 (gA 241 ad)) (F0 m 44 ls []) := by
  unfold f_X6_wakeAbove_44b at hf
  have hx := C.1.1
  have hb := C.1.2.1
  have hi := C.2.2.2.1
  refine lv_iload hx hb dX6_wakeAbove_44 (lv_at hl 3 rfl) ?_
  refine lv_if_ne (tgt := 86) hx hb dX6_wakeAbove_46 (by decide) (fun c1 => ?_) (fun c1 => ?_)
  · replace hf := (if_neg c1).symm.trans hf
    refine lv_iload hx hb dX6_wakeAbove_86 (lv_at hl 3 rfl) ?_
    exact g_iret C w hr hq hf dX6_wakeAbove_88
  · replace hf := (if_pos c1).symm.trans hf
    refine lv_iload hx hb dX6_wakeAbove_49 (lv_at hl 4 rfl) ?_
    refine lv_aload_n hx hb dX6_wakeAbove_51 rfl (lv_at hl 2 rfl) ?_
    refine gt_X6_222 h3 C w dX6_wakeAbove_52 ?_
    refine gt_X6_83 (xT_r5 h3) C w dX6_wakeAbove_55 ?_
    refine lv_icmp_ge (tgt := 86) hx hb dX6_wakeAbove_58 (by decide) (fun c2 => ?_) (fun c2 => ?_)
    · replace hf := (if_pos c2).symm.trans hf
      refine lv_iload hx hb dX6_wakeAbove_86 (lv_at hl 3 rfl) ?_
      exact g_iret C w hr hq hf dX6_wakeAbove_88
    · replace hf := (if_neg c2).symm.trans hf
      refine lv_aload_n hx hb dX6_wakeAbove_61 rfl (lv_at hl 0 rfl) ?_
      refine lv_aload_n hx hb dX6_wakeAbove_62 rfl (lv_at hl 2 rfl) ?_
      refine gt_X6_222 h3 C w dX6_wakeAbove_63 ?_
      refine gt_X6_225 (xT_r5 h3) C w dX6_wakeAbove_66 ?_
      refine lv_iload hx hb dX6_wakeAbove_69 (lv_at hl 4 rfl) ?_
      obtain ⟨v3, e4, hf⟩ := bindS hf
      refine g_iald C w (xR_a (xT_r5 h3)) e4 dX6_wakeAbove_71 ?_
      refine lv_iload_n hx hb dX6_wakeAbove_72 rfl (lv_at hl 1 rfl) ?_
      refine lv_iconst (v := 1) hx hb dX6_wakeAbove_73 (by decide) ?_
      refine lv_iadd hx hb dX6_wakeAbove_74 ?_
      obtain ⟨⟨v7, M5⟩, e6, hf⟩ := bindS hf
      refine g_backI w (g_runV (rest := []) C w (hwk e6) ob_X6 rfl gv_X6_251 md_X6_wake rfl (by omega) (by decide) hl.1 rfl (Nat.le_of_ble_eq_true rfl) dX6_wakeAbove_75) (fun H locs w => ?_)
      refine lv_istore (lv' := [(4, .int v7), (0, .ref (ad 0)), (2, .int x2), (3, .ref (ad k3)), (5, .int x5)]) hx hb dX6_wakeAbove_78 hl (by decide) rfl (fun ls hl => ?_)
      refine lv_iinc (v := (x5 + 1)) (lv' := [(5, .int (x5 + 1)), (4, .int v7), (0, .ref (ad 0)), (2, .int x2), (3, .ref (ad k3))]) hx hb dX6_wakeAbove_80 hl (k := 4) rfl rfl (by decide) rfl (fun ls hl => ?_)
      refine lv_goto (tgt := 44) hx hb dX6_wakeAbove_83 (by decide) ?_
      exact hk44_ h3 w (lv_sub hl [2, 3, 4, 1, 0] rfl) hf
theorem w_X6_wakeAbove_44 {wk : Int32 → Int32 → Mem → Option (Int32 × Mem)} {hw : Nat} (hwk : ∀ {t d : Int32} {M : Mem} {Rs : Int32 × Mem}, wk t d M = some Rs → gMet l yX6_wake cX6_wake 5 (some .int) hw D (xty cI cT cS) 241 (xE cI cT cS) ad [.ref (ad 0), .int t, .int d] M (qI D 241 (xE cI cT cS) ad Rs)) (C : gC p s m args c RX6 cX6_wakeAbove 6 D (xty cI cT cS) 241 (xE cI cT cS) ad) (hr : meth.sig.returnType = (some .int)) (hq : meth.locks = false) {Rs : Int32 × Mem} : ∀ (n : Nat) {x2 : Int32} {k3 : Nat} {x4 : Int32} {x5 : Int32} {M : Mem} {H : Heap} {locs : List Loc} {ls : Array Slot} (h3 : xT k3), gWd D 241 (xE cI cT cS) ad M s H locs → lv_has ls 6 [(0, .ref (ad 0)), (2, .int x2), (3, .ref (ad k3)), (4, .int x4), (5, .int x5)] → f_X6_wakeAbove_44 wk n x2 k3 x4 x5 M = some Rs → W p l e (rmH (hw + 1)) s m args below meth c H locs 0 0 (MQ below (qI D 241 (xE cI cT cS) ad Rs) args s 0 0 (gA 241 ad)) (F0 m 44 ls []) := by
  intro n
  induction n with
  | zero =>
    intro x2 k3 x4 x5 M H locs ls h3 w hl hf
    cases hf
  | succ n ih =>
    intro x2 k3 x4 x5 M H locs ls h3 w hl hf
    exact w_X6_wakeAbove_44b hwk C hr hq ih h3 w hl hf
set_option maxRecDepth 100000 in
set_option maxHeartbeats 4000000 in
theorem w_X6_wakeAbove_39 {wk : Int32 → Int32 → Mem → Option (Int32 × Mem)} {hw : Nat} (hwk : ∀ {t d : Int32} {M : Mem} {Rs : Int32 × Mem}, wk t d M = some Rs → gMet l yX6_wake cX6_wake 5 (some .int) hw D (xty cI cT cS) 241 (xE cI cT cS) ad [.ref (ad 0), .int t, .int d] M (qI D 241 (xE cI cT cS) ad Rs)) (C : gC p s m args c RX6 cX6_wakeAbove 6 D (xty cI cT cS) 241 (xE cI cT cS) ad) (hr : meth.sig.returnType = (some .int)) (hq : meth.locks = false) {Rs : Int32 × Mem} {x2 : Int32} {k3 : Nat} {s0 : Int32} (h3 : xT k3) (w : gWd D 241 (xE cI cT cS) ad M s H locs) (hl : lv_has ls 6 [(0, .ref (ad 0)), (2, .int x2), (3, .ref (ad k3))]) (hf : f_X6_wakeAbove_39 wk x2 k3 s0 M = some Rs) : W p l e (rmH (hw + 1)) s m args below meth c H locs 0 0 (MQ below (qI D 241 (xE cI cT cS) ad Rs) args s 0 0 (gA 241 ad)) (F0 m 39 ls [.int s0]) := by
  unfold f_X6_wakeAbove_39 at hf
  have hx := C.1.1
  have hb := C.1.2.1
  have hi := C.2.2.2.1
  refine lv_istore (lv' := [(4, .int s0), (0, .ref (ad 0)), (2, .int x2), (3, .ref (ad k3))]) hx hb dX6_wakeAbove_39 hl (by decide) rfl (fun ls hl => ?_)
  refine lv_iconst (v := 0) hx hb dX6_wakeAbove_41 (by decide) ?_
  refine lv_istore (lv' := [(5, .int (0 : Int32)), (4, .int s0), (0, .ref (ad 0)), (2, .int x2), (3, .ref (ad k3))]) hx hb dX6_wakeAbove_42 hl (by decide) rfl (fun ls hl => ?_)
  exact w_X6_wakeAbove_44 hwk C hr hq FU h3 w (lv_sub hl [2, 3, 4, 1, 0] rfl) hf
set_option maxRecDepth 100000 in
set_option maxHeartbeats 4000000 in
theorem w_X6_wakeAbove_0 {wk : Int32 → Int32 → Mem → Option (Int32 × Mem)} {hw : Nat} (hwk : ∀ {t d : Int32} {M : Mem} {Rs : Int32 × Mem}, wk t d M = some Rs → gMet l yX6_wake cX6_wake 5 (some .int) hw D (xty cI cT cS) 241 (xE cI cT cS) ad [.ref (ad 0), .int t, .int d] M (qI D 241 (xE cI cT cS) ad Rs)) (C : gC p s m args c RX6 cX6_wakeAbove 6 D (xty cI cT cS) 241 (xE cI cT cS) ad) (hr : meth.sig.returnType = (some .int)) (hq : meth.locks = false) {Rs : Int32 × Mem} {x1 : Int32} {x2 : Int32} (w : gWd D 241 (xE cI cT cS) ad M s H locs) (hl : lv_has ls 6 [(0, .ref (ad 0)), (1, .int x1), (2, .int x2)]) (hf : f_X6_wakeAbove_0 wk x1 x2 M = some Rs) : W p l e (rmH (hw + 1)) s m args below meth c H locs 0 0 (MQ below (qI D 241 (xE cI cT cS) ad Rs) args s 0 0 (gA 241 ad)) (F0 m 0 ls []) := by
  unfold f_X6_wakeAbove_0 at hf
  have hx := C.1.1
  have hb := C.1.2.1
  have hi := C.2.2.2.1
  refine lv_aload_n hx hb dX6_wakeAbove_0 rfl (lv_at hl 0 rfl) ?_
  refine gt_X6_11 C w dX6_wakeAbove_1 ?_
  refine lv_iload_n hx hb dX6_wakeAbove_4 rfl (lv_at hl 1 rfl) ?_
  obtain ⟨t1, e2, hf⟩ := bindS hf
  refine g_aald (t0 := 1) C w rf_T rfl e2 dX6_wakeAbove_5 ?_
  refine lv_astore_n (lv' := [(3, .ref (ad (33 + 13 * t1))), (0, .ref (ad 0)), (1, .int x1), (2, .int x2)]) hx hb dX6_wakeAbove_6 rfl hl (by decide) rfl (fun ls hl => ?_)
  refine lv_aload_n hx hb dX6_wakeAbove_7 rfl (lv_at hl 0 rfl) ?_
  refine gt_X6_71 ⟨t1, ixQ_lt e2, rfl⟩ C w dX6_wakeAbove_8 ?_
  refine lv_if_eq (tgt := 16) hx hb dX6_wakeAbove_11 (by decide) (fun c3 => ?_) (fun c3 => ?_)
  · replace hf := (if_pos c3).symm.trans hf
    refine lv_aload_n hx hb dX6_wakeAbove_16 rfl (lv_at hl 0 rfl) ?_
    refine gt_X6_232 ⟨t1, ixQ_lt e2, rfl⟩ C w dX6_wakeAbove_17 ?_
    refine lv_iconst (v := -1) hx hb dX6_wakeAbove_20 (by decide) ?_
    refine lv_icmp_ne (tgt := 28) hx hb dX6_wakeAbove_21 (by decide) (fun c4 => ?_) (fun c4 => ?_)
    · replace hf := (if_neg c4).symm.trans hf
      refine lv_aload_n hx hb dX6_wakeAbove_28 rfl (lv_at hl 1 rfl) ?_
      refine lv_aload_n hx hb dX6_wakeAbove_29 rfl (lv_at hl 0 rfl) ?_
      refine gt_X6_232 ⟨t1, ixQ_lt e2, rfl⟩ C w dX6_wakeAbove_30 ?_
      refine lv_iload_n hx hb dX6_wakeAbove_33 rfl (lv_at hl 3 rfl) ?_
      refine lv_iconst (v := 1) hx hb dX6_wakeAbove_34 (by decide) ?_
      refine lv_iadd hx hb dX6_wakeAbove_35 ?_
      obtain ⟨⟨v7, M5⟩, e6, hf⟩ := bindS hf
      refine g_backI w (g_runV (rest := []) C w (hwk e6) ob_X6 rfl gv_X6_251 md_X6_wake rfl (by omega) (by decide) hl.1 rfl (Nat.le_of_ble_eq_true rfl) dX6_wakeAbove_36) (fun H locs w => ?_)
      exact w_X6_wakeAbove_39 hwk C hr hq ⟨t1, ixQ_lt e2, rfl⟩ w (lv_sub hl [1, 3, 0] rfl) hf
    · replace hf := (if_pos c4).symm.trans hf
      refine lv_iconst (v := 0) hx hb dX6_wakeAbove_24 (by decide) ?_
      refine lv_goto (tgt := 39) hx hb dX6_wakeAbove_25 (by decide) ?_
      exact w_X6_wakeAbove_39 hwk C hr hq ⟨t1, ixQ_lt e2, rfl⟩ w (lv_sub hl [1, 3, 0] rfl) hf
  · replace hf := (if_neg c3).symm.trans hf
    refine lv_iconst (v := 0) hx hb dX6_wakeAbove_14 (by decide) ?_
    exact g_iret C w hr hq hf dX6_wakeAbove_15
abbrev f_X6_wakeAbove (wk : Int32 → Int32 → Mem → Option (Int32 × Mem)) (x1 : Int32) (x2 : Int32) (M : Mem) : Option (Int32 × Mem) := f_X6_wakeAbove_0 wk x1 x2 M
theorem c_X6_wakeAbove {wk : Int32 → Int32 → Mem → Option (Int32 × Mem)} {hw : Nat} (hwk : ∀ {t d : Int32} {M : Mem} {Rs : Int32 × Mem}, wk t d M = some Rs → gMet l yX6_wake cX6_wake 5 (some .int) hw D (xty cI cT cS) 241 (xE cI cT cS) ad [.ref (ad 0), .int t, .int d] M (qI D 241 (xE cI cT cS) ad Rs)) (hi : gInj 241 ad) {x1 : Int32} {x2 : Int32} {Rs : Int32 × Mem} (hf : f_X6_wakeAbove wk x1 x2 M = some Rs) : gMet l yX6_wakeAbove cX6_wakeAbove 6 (some .int) (hw + 1) D (xty cI cT cS) 241 (xE cI cT cS) ad [.ref (ad 0), .int x1, .int x2] M (qI D 241 (xE cI cT cS) ad Rs) := gMet_of (by decide) hi (xE_loc cI cT cS) (Nat.le_of_ble_eq_true rfl) (fun p e s m args below meth c ls C hr hq w hl => w_X6_wakeAbove_0 hwk C hr hq  w hl hf)
def f_X6_wake_82 (wk : Int32 → Int32 → Mem → Option (Int32 × Mem)) (x1 : Int32) (x4 : Int32) (q0 : Nat) (s1 : Int32) (s2 : Int32) (M : Mem) : Option (Int32 × Mem) :=
  (stI M q0 16 s1 s2).bind fun M1 =>
  (f_X0_addStart x1 (M1 0 8) x4 (M1 6 3) M1).bind fun (v5, M3) =>
  some (x4, M3)
def f_X6_wake_70 (wk : Int32 → Int32 → Mem → Option (Int32 × Mem)) (x1 : Int32) (k3 : Nat) (x4 : Int32) (M : Mem) : Option (Int32 × Mem) :=
  if x4 = 0 then (f_X6_wake_82 wk x1 x4 k3 x1 (2 : Int32) M) else (f_X6_wake_82 wk x1 x4 k3 x1 (3 : Int32) M)
def f_X6_wake_0 (wk : Int32 → Int32 → Mem → Option (Int32 × Mem)) (x1 : Int32) (x2 : Int32) (M : Mem) : Option (Int32 × Mem) :=
  (f_X6_placeOf (M 0 8) x1 M).bind fun (k3, M1) =>
  (ckP (xPb k3)).bind fun u4 =>
  (ldI M1 (k3 + 1) 16 x1).bind fun v6 =>
  if v6 = (2 : Int32) then (some ((0 : Int32), M1)) else ((ldI M1 (k3 + 1) 16 x1).bind fun v9 =>
  if v9 = (1 : Int32) then (some ((0 : Int32), M1)) else ((ldI M1 (k3 + 1) 16 x1).bind fun v12 =>
  if v12 = (3 : Int32) then (some ((18 : Int32), M1)) else (if x2 < (16 : Int32) then ((stI M1 (k3 + 1) 16 x1 (1 : Int32)).bind fun M16 =>
  (f_X6_wakeAbove wk x1 x2 M16).bind fun (v20, M18) =>
  if v20 = 0 then ((f_X6_doLines wk x1 x2 M18).bind fun (v24, M22) =>
  f_X6_wake_70 wk x1 (k3 + 1) v24 M22) else (f_X6_wake_70 wk x1 (k3 + 1) v20 M18)) else (some ((18 : Int32), M1)))))
set_option maxRecDepth 100000 in
set_option maxHeartbeats 4000000 in
theorem w_X6_wake_82 {wk : Int32 → Int32 → Mem → Option (Int32 × Mem)} {hw : Nat} (hwk : ∀ {t d : Int32} {M : Mem} {Rs : Int32 × Mem}, wk t d M = some Rs → gMet l yX6_wake cX6_wake 5 (some .int) hw D (xty cI cT cS) 241 (xE cI cT cS) ad [.ref (ad 0), .int t, .int d] M (qI D 241 (xE cI cT cS) ad Rs)) (C : gC p s m args c RX6 cX6_wake 5 D (xty cI cT cS) 241 (xE cI cT cS) ad) (hr : meth.sig.returnType = (some .int)) (hq : meth.locks = false) {Rs : Int32 × Mem} {x1 : Int32} {x4 : Int32} {q0 : Nat} {s1 : Int32} {s2 : Int32} (g0 : gAr 241 (xE cI cT cS) ad cI q0 16) (w : gWd D 241 (xE cI cT cS) ad M s H locs) (hl : lv_has ls 5 [(0, .ref (ad 0)), (1, .int x1), (4, .int x4)]) (hf : f_X6_wake_82 wk x1 x4 q0 s1 s2 M = some Rs) : W p l e (rmH (hw + 6)) s m args below meth c H locs 0 0 (MQ below (qI D 241 (xE cI cT cS) ad Rs) args s 0 0 (gA 241 ad)) (F0 m 82 ls [.int s2, .int s1, .ref (ad q0)]) := by
  unfold f_X6_wake_82 at hf
  have hx := C.1.1
  have hb := C.1.2.1
  have hi := C.2.2.2.1
  obtain ⟨M1, e2, hf⟩ := bindS hf
  refine g_iast C w g0 e2 dX6_wake_82 (fun H locs w => ?_)
  refine lv_aload_n hx hb dX6_wake_83 rfl (lv_at hl 0 rfl) ?_
  refine gt_X6_38 C w dX6_wake_84 ?_
  refine lv_iload_n hx hb dX6_wake_87 rfl (lv_at hl 1 rfl) ?_
  refine lv_aload_n hx hb dX6_wake_88 rfl (lv_at hl 0 rfl) ?_
  refine gt_X6_117 C w dX6_wake_89 ?_
  refine lv_iload hx hb dX6_wake_92 (lv_at hl 2 rfl) ?_
  refine lv_aload_n hx hb dX6_wake_94 rfl (lv_at hl 0 rfl) ?_
  refine gt_X6_31 C w dX6_wake_95 ?_
  refine gt_X6_198 C w dX6_wake_98 ?_
  obtain ⟨⟨v5, M3⟩, e4, hf⟩ := bindS hf
  refine g_backV w (g_runV (rest := []) C w (c_X0_addStart hi  e4) ob_X0 rfl gv_X6_263 md_X0_addStart rfl (by omega) (by decide) hl.1 rfl (Nat.le_of_ble_eq_true rfl) dX6_wake_101) (fun H locs w => ?_)
  refine lv_iload hx hb dX6_wake_104 (lv_at hl 2 rfl) ?_
  exact g_iret C w hr hq hf dX6_wake_106
set_option maxRecDepth 100000 in
set_option maxHeartbeats 4000000 in
theorem w_X6_wake_70 {wk : Int32 → Int32 → Mem → Option (Int32 × Mem)} {hw : Nat} (hwk : ∀ {t d : Int32} {M : Mem} {Rs : Int32 × Mem}, wk t d M = some Rs → gMet l yX6_wake cX6_wake 5 (some .int) hw D (xty cI cT cS) 241 (xE cI cT cS) ad [.ref (ad 0), .int t, .int d] M (qI D 241 (xE cI cT cS) ad Rs)) (C : gC p s m args c RX6 cX6_wake 5 D (xty cI cT cS) 241 (xE cI cT cS) ad) (hr : meth.sig.returnType = (some .int)) (hq : meth.locks = false) {Rs : Int32 × Mem} {x1 : Int32} {k3 : Nat} {x4 : Int32} (h3 : gAr 241 (xE cI cT cS) ad cI k3 16) (w : gWd D 241 (xE cI cT cS) ad M s H locs) (hl : lv_has ls 5 [(0, .ref (ad 0)), (1, .int x1), (3, .ref (ad k3)), (4, .int x4)]) (hf : f_X6_wake_70 wk x1 k3 x4 M = some Rs) : W p l e (rmH (hw + 6)) s m args below meth c H locs 0 0 (MQ below (qI D 241 (xE cI cT cS) ad Rs) args s 0 0 (gA 241 ad)) (F0 m 70 ls []) := by
  unfold f_X6_wake_70 at hf
  have hx := C.1.1
  have hb := C.1.2.1
  have hi := C.2.2.2.1
  refine lv_aload_n hx hb dX6_wake_70 rfl (lv_at hl 2 rfl) ?_
  refine lv_iload_n hx hb dX6_wake_71 rfl (lv_at hl 1 rfl) ?_
  refine lv_iload hx hb dX6_wake_72 (lv_at hl 3 rfl) ?_
  refine lv_if_ne (tgt := 81) hx hb dX6_wake_74 (by decide) (fun c1 => ?_) (fun c1 => ?_)
  · replace hf := (if_neg c1).symm.trans hf
    refine lv_iconst (v := 3) hx hb dX6_wake_81 (by decide) ?_
    exact w_X6_wake_82 hwk C hr hq h3 w (lv_sub hl [0, 1, 3] rfl) hf
  · replace hf := (if_pos c1).symm.trans hf
    refine lv_iconst (v := 2) hx hb dX6_wake_77 (by decide) ?_
    refine lv_goto (tgt := 82) hx hb dX6_wake_78 (by decide) ?_
    exact w_X6_wake_82 hwk C hr hq h3 w (lv_sub hl [0, 1, 3] rfl) hf
set_option maxRecDepth 100000 in
set_option maxHeartbeats 4000000 in
theorem w_X6_wake_0 {wk : Int32 → Int32 → Mem → Option (Int32 × Mem)} {hw : Nat} (hwk : ∀ {t d : Int32} {M : Mem} {Rs : Int32 × Mem}, wk t d M = some Rs → gMet l yX6_wake cX6_wake 5 (some .int) hw D (xty cI cT cS) 241 (xE cI cT cS) ad [.ref (ad 0), .int t, .int d] M (qI D 241 (xE cI cT cS) ad Rs)) (C : gC p s m args c RX6 cX6_wake 5 D (xty cI cT cS) 241 (xE cI cT cS) ad) (hr : meth.sig.returnType = (some .int)) (hq : meth.locks = false) {Rs : Int32 × Mem} {x1 : Int32} {x2 : Int32} (w : gWd D 241 (xE cI cT cS) ad M s H locs) (hl : lv_has ls 5 [(0, .ref (ad 0)), (1, .int x1), (2, .int x2)]) (hf : f_X6_wake_0 wk x1 x2 M = some Rs) : W p l e (rmH (hw + 6)) s m args below meth c H locs 0 0 (MQ below (qI D 241 (xE cI cT cS) ad Rs) args s 0 0 (gA 241 ad)) (F0 m 0 ls []) := by
  unfold f_X6_wake_0 at hf
  have hx := C.1.1
  have hb := C.1.2.1
  have hi := C.2.2.2.1
  refine lv_aload_n hx hb dX6_wake_0 rfl (lv_at hl 0 rfl) ?_
  refine lv_aload_n hx hb dX6_wake_1 rfl (lv_at hl 0 rfl) ?_
  refine gt_X6_117 C w dX6_wake_2 ?_
  refine lv_iload_n hx hb dX6_wake_5 rfl (lv_at hl 1 rfl) ?_
  obtain ⟨⟨k3, M1⟩, e2, hf⟩ := bindS hf
  refine g_backR w (g_runV (rest := []) C w (c_X6_placeOf hi  e2) ob_X6 rfl gv_X6_146 md_X6_placeOf rfl (by omega) (by decide) hl.1 rfl (Nat.le_of_ble_eq_true rfl) dX6_wake_6) (fun H locs w => ?_)
  obtain ⟨u4, e5, hf⟩ := bindS hf
  refine gt_X6_150 (xPb_ok e5) C w dX6_wake_9 ?_
  refine lv_astore_n (lv' := [(3, .ref (ad (k3 + 1))), (0, .ref (ad 0)), (1, .int x1), (2, .int x2)]) hx hb dX6_wake_12 rfl hl (by decide) rfl (fun ls hl => ?_)
  refine lv_aload_n hx hb dX6_wake_13 rfl (lv_at hl 0 rfl) ?_
  refine lv_iload_n hx hb dX6_wake_14 rfl (lv_at hl 2 rfl) ?_
  obtain ⟨v6, e7, hf⟩ := bindS hf
  refine g_iald C w (xP_s (xPb_ok e5)) e7 dX6_wake_15 ?_
  refine lv_iconst (v := 2) hx hb dX6_wake_16 (by decide) ?_
  refine lv_icmp_eq (tgt := 27) hx hb dX6_wake_17 (by decide) (fun c8 => ?_) (fun c8 => ?_)
  · replace hf := (if_pos c8).symm.trans hf
    refine lv_iconst (v := 0) hx hb dX6_wake_27 (by decide) ?_
    exact g_iret C w hr hq hf dX6_wake_28
  · replace hf := (if_neg c8).symm.trans hf
    refine lv_aload_n hx hb dX6_wake_20 rfl (lv_at hl 0 rfl) ?_
    refine lv_iload_n hx hb dX6_wake_21 rfl (lv_at hl 2 rfl) ?_
    obtain ⟨v9, e10, hf⟩ := bindS hf
    refine g_iald C w (xP_s (xPb_ok e5)) e10 dX6_wake_22 ?_
    refine lv_iconst (v := 1) hx hb dX6_wake_23 (by decide) ?_
    refine lv_icmp_ne (tgt := 29) hx hb dX6_wake_24 (by decide) (fun c11 => ?_) (fun c11 => ?_)
    · replace hf := (if_neg c11).symm.trans hf
      refine lv_aload_n hx hb dX6_wake_29 rfl (lv_at hl 0 rfl) ?_
      refine lv_iload_n hx hb dX6_wake_30 rfl (lv_at hl 2 rfl) ?_
      obtain ⟨v12, e13, hf⟩ := bindS hf
      refine g_iald C w (xP_s (xPb_ok e5)) e13 dX6_wake_31 ?_
      refine lv_iconst (v := 3) hx hb dX6_wake_32 (by decide) ?_
      refine lv_icmp_eq (tgt := 42) hx hb dX6_wake_33 (by decide) (fun c14 => ?_) (fun c14 => ?_)
      · replace hf := (if_pos c14).symm.trans hf
        refine lv_bipush (v := 18) hx hb dX6_wake_42 (by decide) ?_
        exact g_iret C w hr hq hf dX6_wake_44
      · replace hf := (if_neg c14).symm.trans hf
        refine lv_iload_n hx hb dX6_wake_36 rfl (lv_at hl 3 rfl) ?_
        refine lv_bipush (v := 16) hx hb dX6_wake_37 (by decide) ?_
        refine lv_icmp_lt (tgt := 45) hx hb dX6_wake_39 (by decide) (fun c15 => ?_) (fun c15 => ?_)
        · replace hf := (if_pos c15).symm.trans hf
          refine lv_aload_n hx hb dX6_wake_45 rfl (lv_at hl 0 rfl) ?_
          refine lv_iload_n hx hb dX6_wake_46 rfl (lv_at hl 2 rfl) ?_
          refine lv_iconst (v := 1) hx hb dX6_wake_47 (by decide) ?_
          obtain ⟨M16, e17, hf⟩ := bindS hf
          refine g_iast C w (xP_s (xPb_ok e5)) e17 dX6_wake_48 (fun H locs w => ?_)
          refine lv_aload_n hx hb dX6_wake_49 rfl (lv_at hl 1 rfl) ?_
          refine lv_iload_n hx hb dX6_wake_50 rfl (lv_at hl 2 rfl) ?_
          refine lv_iload_n hx hb dX6_wake_51 rfl (lv_at hl 3 rfl) ?_
          obtain ⟨⟨v20, M18⟩, e19, hf⟩ := bindS hf
          refine g_backI w (g_runV (rest := []) C w (c_X6_wakeAbove hwk hi  e19) ob_X6 rfl gv_X6_257 md_X6_wakeAbove rfl (by omega) (by decide) hl.1 rfl (Nat.le_of_ble_eq_true rfl) dX6_wake_52) (fun H locs w => ?_)
          refine lv_istore (lv' := [(4, .int v20), (3, .ref (ad (k3 + 1))), (0, .ref (ad 0)), (1, .int x1), (2, .int x2)]) hx hb dX6_wake_55 hl (by decide) rfl (fun ls hl => ?_)
          refine lv_iload hx hb dX6_wake_57 (lv_at hl 0 rfl) ?_
          refine lv_if_ne (tgt := 70) hx hb dX6_wake_59 (by decide) (fun c21 => ?_) (fun c21 => ?_)
          · replace hf := (if_neg c21).symm.trans hf
            exact w_X6_wake_70 hwk C hr hq (xP_s (xPb_ok e5)) w (lv_sub hl [2, 3, 1, 0] rfl) hf
          · replace hf := (if_pos c21).symm.trans hf
            refine lv_aload_n hx hb dX6_wake_62 rfl (lv_at hl 2 rfl) ?_
            refine lv_iload_n hx hb dX6_wake_63 rfl (lv_at hl 3 rfl) ?_
            refine lv_iload_n hx hb dX6_wake_64 rfl (lv_at hl 4 rfl) ?_
            obtain ⟨⟨v24, M22⟩, e23, hf⟩ := bindS hf
            refine g_backI w (g_runV (rest := []) C w (c_X6_doLines hwk hi  e23) ob_X6 rfl gv_X6_260 md_X6_doLines rfl (by omega) (by decide) hl.1 rfl (Nat.le_of_ble_eq_true rfl) dX6_wake_65) (fun H locs w => ?_)
            refine lv_istore (lv' := [(4, .int v24), (3, .ref (ad (k3 + 1))), (0, .ref (ad 0)), (1, .int x1), (2, .int x2)]) hx hb dX6_wake_68 hl (by decide) rfl (fun ls hl => ?_)
            exact w_X6_wake_70 hwk C hr hq (xP_s (xPb_ok e5)) w (lv_sub hl [2, 3, 1, 0] rfl) hf
        · replace hf := (if_neg c15).symm.trans hf
          refine lv_bipush (v := 18) hx hb dX6_wake_42 (by decide) ?_
          exact g_iret C w hr hq hf dX6_wake_44
    · replace hf := (if_pos c11).symm.trans hf
      refine lv_iconst (v := 0) hx hb dX6_wake_27 (by decide) ?_
      exact g_iret C w hr hq hf dX6_wake_28
abbrev f_X6_wake (wk : Int32 → Int32 → Mem → Option (Int32 × Mem)) (x1 : Int32) (x2 : Int32) (M : Mem) : Option (Int32 × Mem) := f_X6_wake_0 wk x1 x2 M
theorem c_X6_wake {wk : Int32 → Int32 → Mem → Option (Int32 × Mem)} {hw : Nat} (hwk : ∀ {t d : Int32} {M : Mem} {Rs : Int32 × Mem}, wk t d M = some Rs → gMet l yX6_wake cX6_wake 5 (some .int) hw D (xty cI cT cS) 241 (xE cI cT cS) ad [.ref (ad 0), .int t, .int d] M (qI D 241 (xE cI cT cS) ad Rs)) (hi : gInj 241 ad) {x1 : Int32} {x2 : Int32} {Rs : Int32 × Mem} (hf : f_X6_wake wk x1 x2 M = some Rs) : gMet l yX6_wake cX6_wake 5 (some .int) (hw + 6) D (xty cI cT cS) 241 (xE cI cT cS) ad [.ref (ad 0), .int x1, .int x2] M (qI D 241 (xE cI cT cS) ad Rs) := gMet_of (by decide) hi (xE_loc cI cT cS) (Nat.le_of_ble_eq_true rfl) (fun p e s m args below meth c ls C hr hq w hl => w_X6_wake_0 hwk C hr hq  w hl hf)
def f_wake : Nat → Int32 → Int32 → Mem → Option (Int32 × Mem)
  | 0, _, _, _ => none
  | n + 1, t, d, M => f_X6_wake (f_wake n) t d M
theorem c_wake (hi : gInj 241 ad) : ∀ (n : Nat) {t d : Int32} {M : Mem} {Rs : Int32 × Mem}, f_wake n t d M = some Rs → gMet l yX6_wake cX6_wake 5 (some .int) (6 * n) D (xty cI cT cS) 241 (xE cI cT cS) ad [.ref (ad 0), .int t, .int d] M (qI D 241 (xE cI cT cS) ad Rs) := by
  intro n
  induction n with
  | zero =>
    intro t d M Rs hf
    cases hf
  | succ n ih =>
    intro t d M Rs hf
    exact c_X6_wake (hw := 6 * n) ih hi hf
end GENX
end
section
section GENX
variable {p : Program} {l : Launch} {e : Env} {h : Nat} {R : Room} {s : State} {m : MethodId} {args : Array Value} {below : List Frame} {meth : Method} {c : Code} {H : Heap} {locs : List Loc} {cells slots : Nat} {Q : State → Prop} {cc : ByteArray} {nL pc : Nat} {ls : Array Slot} {rest : List Value} {D : va_G} {ad : Nat → Nat} {M M1 : Mem} {cI cT cS cZ : ClassId}
theorem kc_X6_makeAndCount : Cond.code yX6_makeAndCount cX6_makeAndCount 3 (some .int) ∈ gW := gw_in 364 (by decide +kernel) rfl
theorem md_X6_makeAndCount : gMd yX6_makeAndCount 1 := ⟨by decide +kernel, by decide +kernel, by decide +kernel⟩
theorem kl_X6_235 : Cond.methodLink RX6 235 yX6_makeAndCount ∈ gW := gw_in 361 (by decide +kernel) rfl
theorem kn_X6_makeAndCount : Cond.instanceMethod yX6_makeAndCount ∈ gW := gw_in 363 (by decide +kernel) rfl
theorem ks_X6_makeAndCount : Cond.selects RX6 yX6_makeAndCount yX6_makeAndCount ∈ gW := gw_in 7 (by decide +kernel) rfl
theorem gv_X6_235 : gWv RX6 235 yX6_makeAndCount cX6_makeAndCount 3 (some .int) := ⟨kl_X6_235, kn_X6_makeAndCount, ks_X6_makeAndCount, ki_X6, kc_X6_makeAndCount⟩
theorem kc_X6_askAndSet : Cond.code yX6_askAndSet cX6_askAndSet 5 (some .int) ∈ gW := gw_in 424 (by decide +kernel) rfl
theorem md_X6_askAndSet : gMd yX6_askAndSet 3 := ⟨by decide +kernel, by decide +kernel, by decide +kernel⟩
theorem kl_X6_242 : Cond.methodLink RX6 242 yX6_askAndSet ∈ gW := gw_in 421 (by decide +kernel) rfl
theorem kn_X6_askAndSet : Cond.instanceMethod yX6_askAndSet ∈ gW := gw_in 423 (by decide +kernel) rfl
theorem ks_X6_askAndSet : Cond.selects RX6 yX6_askAndSet yX6_askAndSet ∈ gW := gw_in 18 (by decide +kernel) rfl
theorem gv_X6_242 : gWv RX6 242 yX6_askAndSet cX6_askAndSet 5 (some .int) := ⟨kl_X6_242, kn_X6_askAndSet, ks_X6_askAndSet, ki_X6, kc_X6_askAndSet⟩
theorem kc_X4_begin : Cond.code yX4_begin cX4_begin 4 none ∈ gW := gw_in 279 (by decide +kernel) rfl
theorem ki_X4 : Cond.initialized RX4 ∈ gW := gw_in 43 (by decide +kernel) rfl
theorem md_X4_begin : gMd yX4_begin 3 := ⟨by decide +kernel, by decide +kernel, by decide +kernel⟩
theorem kl_X6_60 : Cond.methodLink RX6 60 yX4_begin ∈ gW := gw_in 276 (by decide +kernel) rfl
theorem kn_X4_begin : Cond.instanceMethod yX4_begin ∈ gW := gw_in 277 (by decide +kernel) rfl
theorem ks_X4_begin : Cond.selects RX4 yX4_begin yX4_begin ∈ gW := gw_in 278 (by decide +kernel) rfl
theorem gv_X6_60 : gWv RX6 60 yX4_begin cX4_begin 4 none := ⟨kl_X6_60, kn_X4_begin, ks_X4_begin, ki_X4, kc_X4_begin⟩
theorem kc_X6_arrange : Cond.code yX6_arrange cX6_arrange 5 none ∈ gW := gw_in 290 (by decide +kernel) rfl
theorem md_X6_arrange : gMd yX6_arrange 1 := ⟨by decide +kernel, by decide +kernel, by decide +kernel⟩
theorem kl_X6_64 : Cond.methodLink RX6 64 yX6_arrange ∈ gW := gw_in 287 (by decide +kernel) rfl
theorem kn_X6_arrange : Cond.instanceMethod yX6_arrange ∈ gW := gw_in 289 (by decide +kernel) rfl
theorem ks_X6_arrange : Cond.selects RX6 yX6_arrange yX6_arrange ∈ gW := gw_in 2 (by decide +kernel) rfl
theorem gv_X6_64 : gWv RX6 64 yX6_arrange cX6_arrange 5 none := ⟨kl_X6_64, kn_X6_arrange, ks_X6_arrange, ki_X6, kc_X6_arrange⟩
theorem pt_X6_56 {x : Int32} (C : gC p s m args c RX6 cc nL D (xty cI cT cS) 241 (xE cI cT cS) ad) (w : gWd D 241 (xE cI cT cS) ad M s H locs) (e1 : stF M 0 5 x = some M1) (hdg : decode cc pc = .ok (.putfield 56, 3)) (kk : ∀ (H1 : Heap) (locs1 : List Loc), gWd D 241 (xE cI cT cS) ad M1 s H1 locs1 → W p l e R s m args below meth c H1 locs1 cells slots Q (F0 m (pc + 3) ls rest)) : W p l e R s m args below meth c H locs cells slots Q (F0 m pc ls (.int x :: .ref (ad 0) :: rest)) := by
  cases e1
  exact g_put C w ob_X6 rfl ginX6 tyX6 tyX6_ok nmX6 5 (by decide) kf_X6_56 rfl rfl rfl (Nat.le_of_ble_eq_true rfl) (by simp [fX6, mset, upd]) hdg kk
theorem kl_X6_78 : Cond.methodLink RX6 78 yX2_has ∈ gW := gw_in 309 (by decide +kernel) rfl
theorem gv_X6_78 : gWv RX6 78 yX2_has cX2_has 2 (some .boolean) := ⟨kl_X6_78, kn_X2_has, ks_X2_has, ki_X2, kc_X2_has⟩
theorem kc_X6_isLine : Cond.code yX6_isLine cX6_isLine 4 (some .boolean) ∈ gW := gw_in 326 (by decide +kernel) rfl
theorem md_X6_isLine : gMd yX6_isLine 4 := ⟨by decide +kernel, by decide +kernel, by decide +kernel⟩
theorem kt_X6_isLine : Cond.static yX6_isLine ∈ gW := gw_in 325 (by decide +kernel) rfl
theorem kl_X6_102 : Cond.methodLink RX6 102 yX6_isLine ∈ gW := gw_in 324 (by decide +kernel) rfl
theorem gs_X6_102 : gWs RX6 102 yX6_isLine cX6_isLine 4 (some .boolean) := ⟨kl_X6_102, kt_X6_isLine, ki_X6, kc_X6_isLine⟩
theorem kc_X4_addLine : Cond.code yX4_addLine cX4_addLine 5 (some .int) ∈ gW := gw_in 333 (by decide +kernel) rfl
theorem md_X4_addLine : gMd yX4_addLine 4 := ⟨by decide +kernel, by decide +kernel, by decide +kernel⟩
theorem kl_X6_109 : Cond.methodLink RX6 109 yX4_addLine ∈ gW := gw_in 330 (by decide +kernel) rfl
theorem kn_X4_addLine : Cond.instanceMethod yX4_addLine ∈ gW := gw_in 331 (by decide +kernel) rfl
theorem ks_X4_addLine : Cond.selects RX4 yX4_addLine yX4_addLine ∈ gW := gw_in 332 (by decide +kernel) rfl
theorem gv_X6_109 : gWv RX6 109 yX4_addLine cX4_addLine 5 (some .int) := ⟨kl_X6_109, kn_X4_addLine, ks_X4_addLine, ki_X4, kc_X4_addLine⟩
theorem kc_X5_close : Cond.code yX5_close cX5_close 4 none ∈ gW := gw_in 428 (by decide +kernel) rfl
theorem ki_X5 : Cond.initialized RX5 ∈ gW := gw_in 41 (by decide +kernel) rfl
theorem md_X5_close : gMd yX5_close 3 := ⟨by decide +kernel, by decide +kernel, by decide +kernel⟩
theorem kl_X6_139 : Cond.methodLink RX6 139 yX5_close ∈ gW := gw_in 425 (by decide +kernel) rfl
theorem kn_X5_close : Cond.instanceMethod yX5_close ∈ gW := gw_in 426 (by decide +kernel) rfl
theorem ks_X5_close : Cond.selects RX5 yX5_close yX5_close ∈ gW := gw_in 427 (by decide +kernel) rfl
theorem gv_X6_139 : gWv RX6 139 yX5_close cX5_close 4 none := ⟨kl_X6_139, kn_X5_close, ks_X5_close, ki_X5, kc_X5_close⟩
theorem kf_X6_136 : Cond.fieldLink RX6 136 (TX6 7).1 (TX6 7).2.1 (TX6 7).2.2.1 ∈ gW := gw_in 234 (by decide +kernel) rfl
theorem gt_X6_136 (C : gC p s m args c RX6 cc nL D (xty cI cT cS) 241 (xE cI cT cS) ad) (w : gWd D 241 (xE cI cT cS) ad M s H locs) (hdg : decode cc pc = .ok (.getfield 136, 3)) (kk : W p l e R s m args below meth c H locs cells slots Q (F0 m (pc + 3) ls (.int (M 0 7) :: rest))) : W p l e R s m args below meth c H locs cells slots Q (F0 m pc ls (.ref (ad 0) :: rest)) := g_get C w ob_X6 rfl ginX6 7 (by decide) kf_X6_136 rfl hdg kk
theorem kc_X6_refusalOfUse : Cond.code yX6_refusalOfUse cX6_refusalOfUse 7 (some .int) ∈ gW := gw_in 341 (by decide +kernel) rfl
theorem md_X6_refusalOfUse : gMd yX6_refusalOfUse 5 := ⟨by decide +kernel, by decide +kernel, by decide +kernel⟩
theorem kl_X6_113 : Cond.methodLink RX6 113 yX6_refusalOfUse ∈ gW := gw_in 338 (by decide +kernel) rfl
theorem kn_X6_refusalOfUse : Cond.instanceMethod yX6_refusalOfUse ∈ gW := gw_in 340 (by decide +kernel) rfl
theorem ks_X6_refusalOfUse : Cond.selects RX6 yX6_refusalOfUse yX6_refusalOfUse ∈ gW := gw_in 3 (by decide +kernel) rfl
theorem gv_X6_113 : gWv RX6 113 yX6_refusalOfUse cX6_refusalOfUse 7 (some .int) := ⟨kl_X6_113, kn_X6_refusalOfUse, ks_X6_refusalOfUse, ki_X6, kc_X6_refusalOfUse⟩
theorem pt_X6_117 {x : Int32} (C : gC p s m args c RX6 cc nL D (xty cI cT cS) 241 (xE cI cT cS) ad) (w : gWd D 241 (xE cI cT cS) ad M s H locs) (e1 : stF M 0 8 x = some M1) (hdg : decode cc pc = .ok (.putfield 117, 3)) (kk : ∀ (H1 : Heap) (locs1 : List Loc), gWd D 241 (xE cI cT cS) ad M1 s H1 locs1 → W p l e R s m args below meth c H1 locs1 cells slots Q (F0 m (pc + 3) ls rest)) : W p l e R s m args below meth c H locs cells slots Q (F0 m pc ls (.int x :: .ref (ad 0) :: rest)) := by
  cases e1
  exact g_put C w ob_X6 rfl ginX6 tyX6 tyX6_ok nmX6 8 (by decide) kf_X6_117 rfl rfl rfl (Nat.le_of_ble_eq_true rfl) (by simp [fX6, mset, upd]) hdg kk
theorem kf_X6_126 : Cond.fieldLink RX6 126 (TX3 3).1 (TX3 3).2.1 (TX3 3).2.2.1 ∈ gW := gw_in 217 (by decide +kernel) rfl
theorem gt_X6_126 {k : Nat} (hk : xS k) (C : gC p s m args c RX6 cc nL D (xty cI cT cS) 241 (xE cI cT cS) ad) (w : gWd D 241 (xE cI cT cS) ad M s H locs) (hdg : decode cc pc = .ok (.getfield 126, 3)) (kk : W p l e R s m args below meth c H locs cells slots Q (F0 m (pc + 3) ls (.int (M k 3) :: rest))) : W p l e R s m args below meth c H locs cells slots Q (F0 m pc ls (.ref (ad k) :: rest)) := g_get C w (ob_X3 hk) rfl ginX3 3 (by decide) kf_X6_126 rfl hdg kk
theorem kc_X5_open : Cond.code yX5_open cX5_open 3 (some .int) ∈ gW := gw_in 356 (by decide +kernel) rfl
theorem md_X5_open : gMd yX5_open 1 := ⟨by decide +kernel, by decide +kernel, by decide +kernel⟩
theorem kl_X6_129 : Cond.methodLink RX6 129 yX5_open ∈ gW := gw_in 353 (by decide +kernel) rfl
theorem kn_X5_open : Cond.instanceMethod yX5_open ∈ gW := gw_in 354 (by decide +kernel) rfl
theorem ks_X5_open : Cond.selects RX5 yX5_open yX5_open ∈ gW := gw_in 355 (by decide +kernel) rfl
theorem gv_X6_129 : gWv RX6 129 yX5_open cX5_open 3 (some .int) := ⟨kl_X6_129, kn_X5_open, ks_X5_open, ki_X5, kc_X5_open⟩
theorem pt_X6_126 {k : Nat} (hk : xS k) {x : Int32} (C : gC p s m args c RX6 cc nL D (xty cI cT cS) 241 (xE cI cT cS) ad) (w : gWd D 241 (xE cI cT cS) ad M s H locs) (e1 : stF M k 3 x = some M1) (hdg : decode cc pc = .ok (.putfield 126, 3)) (kk : ∀ (H1 : Heap) (locs1 : List Loc), gWd D 241 (xE cI cT cS) ad M1 s H1 locs1 → W p l e R s m args below meth c H1 locs1 cells slots Q (F0 m (pc + 3) ls rest)) : W p l e R s m args below meth c H locs cells slots Q (F0 m pc ls (.int x :: .ref (ad k) :: rest)) := by
  cases e1
  exact g_put C w (ob_X3 hk) rfl ginX3 tyX3 tyX3_ok nmX3 3 (by decide) kf_X6_126 rfl rfl rfl (Nat.le_of_ble_eq_true rfl) (by simp [fX3, mset, upd]) hdg kk
theorem kc_X6_perform : Cond.code yX6_perform cX6_perform 5 (some .int) ∈ gW := gw_in 360 (by decide +kernel) rfl
theorem md_X6_perform : gMd yX6_perform 4 := ⟨by decide +kernel, by decide +kernel, by decide +kernel⟩
theorem kl_X6_133 : Cond.methodLink RX6 133 yX6_perform ∈ gW := gw_in 357 (by decide +kernel) rfl
theorem kn_X6_perform : Cond.instanceMethod yX6_perform ∈ gW := gw_in 359 (by decide +kernel) rfl
theorem ks_X6_perform : Cond.selects RX6 yX6_perform yX6_perform ∈ gW := gw_in 6 (by decide +kernel) rfl
theorem gv_X6_133 : gWv RX6 133 yX6_perform cX6_perform 5 (some .int) := ⟨kl_X6_133, kn_X6_perform, ks_X6_perform, ki_X6, kc_X6_perform⟩
theorem pt_X6_136 {x : Int32} (C : gC p s m args c RX6 cc nL D (xty cI cT cS) 241 (xE cI cT cS) ad) (w : gWd D 241 (xE cI cT cS) ad M s H locs) (e1 : stF M 0 7 x = some M1) (hdg : decode cc pc = .ok (.putfield 136, 3)) (kk : ∀ (H1 : Heap) (locs1 : List Loc), gWd D 241 (xE cI cT cS) ad M1 s H1 locs1 → W p l e R s m args below meth c H1 locs1 cells slots Q (F0 m (pc + 3) ls rest)) : W p l e R s m args below meth c H locs cells slots Q (F0 m pc ls (.int x :: .ref (ad 0) :: rest)) := by
  cases e1
  exact g_put C w ob_X6 rfl ginX6 tyX6 tyX6_ok nmX6 7 (by decide) kf_X6_136 rfl rfl rfl (Nat.le_of_ble_eq_true rfl) (by simp [fX6, mset, upd]) hdg kk
theorem kc_X6_countNotZero : Cond.code yX6_countNotZero cX6_countNotZero 6 (some .int) ∈ gW := gw_in 441 (by decide +kernel) rfl
theorem md_X6_countNotZero : gMd yX6_countNotZero 2 := ⟨by decide +kernel, by decide +kernel, by decide +kernel⟩
theorem kl_X6_156 : Cond.methodLink RX6 156 yX6_countNotZero ∈ gW := gw_in 438 (by decide +kernel) rfl
theorem kn_X6_countNotZero : Cond.instanceMethod yX6_countNotZero ∈ gW := gw_in 440 (by decide +kernel) rfl
theorem ks_X6_countNotZero : Cond.selects RX6 yX6_countNotZero yX6_countNotZero ∈ gW := gw_in 19 (by decide +kernel) rfl
theorem gv_X6_156 : gWv RX6 156 yX6_countNotZero cX6_countNotZero 6 (some .int) := ⟨kl_X6_156, kn_X6_countNotZero, ks_X6_countNotZero, ki_X6, kc_X6_countNotZero⟩
theorem kf_X6_163 : Cond.fieldLink RX6 163 (TX0 2).1 (TX0 2).2.1 (TX0 2).2.2.1 ∈ gW := gw_in 115 (by decide +kernel) rfl
theorem gt_X6_163 (C : gC p s m args c RX6 cc nL D (xty cI cT cS) 241 (xE cI cT cS) ad) (w : gWd D 241 (xE cI cT cS) ad M s H locs) (hdg : decode cc pc = .ok (.getfield 163, 3)) (kk : W p l e R s m args below meth c H locs cells slots Q (F0 m (pc + 3) ls (.int (M 10 2) :: rest))) : W p l e R s m args below meth c H locs cells slots Q (F0 m pc ls (.ref (ad 10) :: rest)) := g_get C w ob_X0 rfl ginX0 2 (by decide) kf_X6_163 rfl hdg kk
theorem kf_X6_166 : Cond.fieldLink RX6 166 (TX0 0).1 (TX0 0).2.1 (TX0 0).2.2.1 ∈ gW := gw_in 111 (by decide +kernel) rfl
theorem gt_X6_166 (C : gC p s m args c RX6 cc nL D (xty cI cT cS) 241 (xE cI cT cS) ad) (w : gWd D 241 (xE cI cT cS) ad M s H locs) (hdg : decode cc pc = .ok (.getfield 166, 3)) (kk : W p l e R s m args below meth c H locs cells slots Q (F0 m (pc + 3) ls (.ref (ad 11) :: rest))) : W p l e R s m args below meth c H locs cells slots Q (F0 m pc ls (.ref (ad 10) :: rest)) := g_get C w ob_X0 rfl ginX0 0 (by decide) kf_X6_166 rfl hdg kk
theorem kk_X6_182 : Cond.constant RX6 182 100000 ∈ gW := gw_in 454 (by decide +kernel) rfl
theorem kf_X6_192 : Cond.fieldLink RX6 192 (TX5 2).1 (TX5 2).2.1 (TX5 2).2.2.1 ∈ gW := gw_in 92 (by decide +kernel) rfl
theorem gt_X6_192 (C : gC p s m args c RX6 cc nL D (xty cI cT cS) 241 (xE cI cT cS) ad) (w : gWd D 241 (xE cI cT cS) ad M s H locs) (hdg : decode cc pc = .ok (.getfield 192, 3)) (kk : W p l e R s m args below meth c H locs cells slots Q (F0 m (pc + 3) ls (.ref (ad 9) :: rest))) : W p l e R s m args below meth c H locs cells slots Q (F0 m pc ls (.ref (ad 6) :: rest)) := g_get C w ob_X5 rfl ginX5 2 (by decide) kf_X6_192 rfl hdg kk
theorem kf_X6_186 : Cond.fieldLink RX6 186 (TX5 0).1 (TX5 0).2.1 (TX5 0).2.2.1 ∈ gW := gw_in 88 (by decide +kernel) rfl
theorem gt_X6_186 (C : gC p s m args c RX6 cc nL D (xty cI cT cS) 241 (xE cI cT cS) ad) (w : gWd D 241 (xE cI cT cS) ad M s H locs) (hdg : decode cc pc = .ok (.getfield 186, 3)) (kk : W p l e R s m args below meth c H locs cells slots Q (F0 m (pc + 3) ls (.ref (ad 7) :: rest))) : W p l e R s m args below meth c H locs cells slots Q (F0 m pc ls (.ref (ad 6) :: rest)) := g_get C w ob_X5 rfl ginX5 0 (by decide) kf_X6_186 rfl hdg kk
theorem kf_X6_189 : Cond.fieldLink RX6 189 (TX5 1).1 (TX5 1).2.1 (TX5 1).2.2.1 ∈ gW := gw_in 90 (by decide +kernel) rfl
theorem gt_X6_189 (C : gC p s m args c RX6 cc nL D (xty cI cT cS) 241 (xE cI cT cS) ad) (w : gWd D 241 (xE cI cT cS) ad M s H locs) (hdg : decode cc pc = .ok (.getfield 189, 3)) (kk : W p l e R s m args below meth c H locs cells slots Q (F0 m (pc + 3) ls (.ref (ad 8) :: rest))) : W p l e R s m args below meth c H locs cells slots Q (F0 m pc ls (.ref (ad 6) :: rest)) := g_get C w ob_X5 rfl ginX5 1 (by decide) kf_X6_189 rfl hdg kk
theorem kc_X3_forget : Cond.code yX3_forget cX3_forget 1 (some .int) ∈ gW := gw_in 466 (by decide +kernel) rfl
theorem ki_X3 : Cond.initialized RX3 ∈ gW := gw_in 45 (by decide +kernel) rfl
theorem md_X3_forget : gMd yX3_forget 0 := ⟨by decide +kernel, by decide +kernel, by decide +kernel⟩
theorem kl_X6_194 : Cond.methodLink RX6 194 yX3_forget ∈ gW := gw_in 463 (by decide +kernel) rfl
theorem kn_X3_forget : Cond.instanceMethod yX3_forget ∈ gW := gw_in 464 (by decide +kernel) rfl
theorem ks_X3_forget : Cond.selects RX3 yX3_forget yX3_forget ∈ gW := gw_in 465 (by decide +kernel) rfl
theorem gv_X6_194 : gWv RX6 194 yX3_forget cX3_forget 1 (some .int) := ⟨kl_X6_194, kn_X3_forget, ks_X3_forget, ki_X3, kc_X3_forget⟩
theorem kf_X6_169 : Cond.fieldLink RX6 169 (TX0 3).1 (TX0 3).2.1 (TX0 3).2.2.1 ∈ gW := gw_in 117 (by decide +kernel) rfl
theorem gt_X6_169 (C : gC p s m args c RX6 cc nL D (xty cI cT cS) 241 (xE cI cT cS) ad) (w : gWd D 241 (xE cI cT cS) ad M s H locs) (hdg : decode cc pc = .ok (.getfield 169, 3)) (kk : W p l e R s m args below meth c H locs cells slots Q (F0 m (pc + 3) ls (.int (M 10 3) :: rest))) : W p l e R s m args below meth c H locs cells slots Q (F0 m pc ls (.ref (ad 10) :: rest)) := g_get C w ob_X0 rfl ginX0 3 (by decide) kf_X6_169 rfl hdg kk
theorem kl_X6_202 : Cond.methodLink RX6 202 yX1_forget ∈ gW := gw_in 481 (by decide +kernel) rfl
theorem gv_X6_202 : gWv RX6 202 yX1_forget cX1_forget 3 (some .int) := ⟨kl_X6_202, kn_X1_forget, ks_X1_forget, ki_X1, kc_X1_forget⟩
theorem pt_X6_198 {x : Int32} (C : gC p s m args c RX6 cc nL D (xty cI cT cS) 241 (xE cI cT cS) ad) (w : gWd D 241 (xE cI cT cS) ad M s H locs) (e1 : stF M 6 3 x = some M1) (hdg : decode cc pc = .ok (.putfield 198, 3)) (kk : ∀ (H1 : Heap) (locs1 : List Loc), gWd D 241 (xE cI cT cS) ad M1 s H1 locs1 → W p l e R s m args below meth c H1 locs1 cells slots Q (F0 m (pc + 3) ls rest)) : W p l e R s m args below meth c H locs cells slots Q (F0 m pc ls (.int x :: .ref (ad 6) :: rest)) := by
  cases e1
  exact g_put C w ob_X5 rfl ginX5 tyX5 tyX5_ok nmX5 3 (by decide) kf_X6_198 rfl rfl rfl (Nat.le_of_ble_eq_true rfl) (by simp [fX5, mset, upd]) hdg kk
theorem pt_X6_163 {x : Int32} (C : gC p s m args c RX6 cc nL D (xty cI cT cS) 241 (xE cI cT cS) ad) (w : gWd D 241 (xE cI cT cS) ad M s H locs) (e1 : stF M 10 2 x = some M1) (hdg : decode cc pc = .ok (.putfield 163, 3)) (kk : ∀ (H1 : Heap) (locs1 : List Loc), gWd D 241 (xE cI cT cS) ad M1 s H1 locs1 → W p l e R s m args below meth c H1 locs1 cells slots Q (F0 m (pc + 3) ls rest)) : W p l e R s m args below meth c H locs cells slots Q (F0 m pc ls (.int x :: .ref (ad 10) :: rest)) := by
  cases e1
  exact g_put C w ob_X0 rfl ginX0 tyX0 tyX0_ok nmX0 2 (by decide) kf_X6_163 rfl rfl rfl (Nat.le_of_ble_eq_true rfl) (by simp [fX0, mset, upd]) hdg kk
theorem pt_X6_169 {x : Int32} (C : gC p s m args c RX6 cc nL D (xty cI cT cS) 241 (xE cI cT cS) ad) (w : gWd D 241 (xE cI cT cS) ad M s H locs) (e1 : stF M 10 3 x = some M1) (hdg : decode cc pc = .ok (.putfield 169, 3)) (kk : ∀ (H1 : Heap) (locs1 : List Loc), gWd D 241 (xE cI cT cS) ad M1 s H1 locs1 → W p l e R s m args below meth c H1 locs1 cells slots Q (F0 m (pc + 3) ls rest)) : W p l e R s m args below meth c H locs cells slots Q (F0 m pc ls (.int x :: .ref (ad 10) :: rest)) := by
  cases e1
  exact g_put C w ob_X0 rfl ginX0 tyX0 tyX0_ok nmX0 3 (by decide) kf_X6_169 rfl rfl rfl (Nat.le_of_ble_eq_true rfl) (by simp [fX0, mset, upd]) hdg kk
def f_X6_makeAndCount_0 (x1 : Int32) (M : Mem) : Option (Int32 × Mem) :=
  (f_X6_makeThing (f_wake 17) x1 (0 : Int32) M).bind fun (v3, M1) =>
  (ixQ 4 (M1 0 8)).bind fun t4 =>
  (ldI M1 ((13 + 5 * t4) + 4) 16 x1).bind fun v6 =>
  (stF M1 0 10 v6).bind fun M8 =>
  some (v3, M8)
set_option maxRecDepth 100000 in
set_option maxHeartbeats 4000000 in
theorem w_X6_makeAndCount_0 (C : gC p s m args c RX6 cX6_makeAndCount 3 D (xty cI cT cS) 241 (xE cI cT cS) ad) (hr : meth.sig.returnType = (some .int)) (hq : meth.locks = false) {Rs : Int32 × Mem} {x1 : Int32} (w : gWd D 241 (xE cI cT cS) ad M s H locs) (hl : lv_has ls 3 [(0, .ref (ad 0)), (1, .int x1)]) (hf : f_X6_makeAndCount_0  x1 M = some Rs) : W p l e (rmH 106) s m args below meth c H locs 0 0 (MQ below (qI D 241 (xE cI cT cS) ad Rs) args s 0 0 (gA 241 ad)) (F0 m 0 ls []) := by
  unfold f_X6_makeAndCount_0 at hf
  have hx := C.1.1
  have hb := C.1.2.1
  have hi := C.2.2.2.1
  refine lv_aload_n hx hb dX6_makeAndCount_0 rfl (lv_at hl 0 rfl) ?_
  refine lv_iload_n hx hb dX6_makeAndCount_1 rfl (lv_at hl 1 rfl) ?_
  refine lv_iconst (v := 0) hx hb dX6_makeAndCount_2 (by decide) ?_
  obtain ⟨⟨v3, M1⟩, e2, hf⟩ := bindS hf
  refine g_backI w (g_runV (rest := []) C w (c_X6_makeThing (c_wake hi 17) hi  e2) ob_X6 rfl gv_X6_245 md_X6_makeThing rfl (by omega) (by decide) hl.1 rfl (Nat.le_of_ble_eq_true rfl) dX6_makeAndCount_3) (fun H locs w => ?_)
  refine lv_istore_n (lv' := [(2, .int v3), (0, .ref (ad 0)), (1, .int x1)]) hx hb dX6_makeAndCount_6 rfl hl (by decide) rfl (fun ls hl => ?_)
  refine lv_aload_n hx hb dX6_makeAndCount_7 rfl (lv_at hl 1 rfl) ?_
  refine lv_aload_n hx hb dX6_makeAndCount_8 rfl (lv_at hl 1 rfl) ?_
  refine gt_X6_17 C w dX6_makeAndCount_9 ?_
  refine lv_aload_n hx hb dX6_makeAndCount_12 rfl (lv_at hl 1 rfl) ?_
  refine gt_X6_117 C w dX6_makeAndCount_13 ?_
  obtain ⟨t4, e5, hf⟩ := bindS hf
  refine g_aald (t0 := 2) C w rf_S rfl e5 dX6_makeAndCount_16 ?_
  refine gt_X6_153 ⟨t4, ixQ_lt e5, rfl⟩ C w dX6_makeAndCount_17 ?_
  refine lv_iload_n hx hb dX6_makeAndCount_20 rfl (lv_at hl 2 rfl) ?_
  obtain ⟨v6, e7, hf⟩ := bindS hf
  refine g_iald C w (xS_g ⟨t4, ixQ_lt e5, rfl⟩) e7 dX6_makeAndCount_21 ?_
  obtain ⟨M8, e9, hf⟩ := bindS hf
  refine pt_X6_123 C w e9 dX6_makeAndCount_22 (fun H locs w => ?_)
  refine lv_iload_n hx hb dX6_makeAndCount_25 rfl (lv_at hl 0 rfl) ?_
  exact g_iret C w hr hq hf dX6_makeAndCount_26
abbrev f_X6_makeAndCount (x1 : Int32) (M : Mem) : Option (Int32 × Mem) := f_X6_makeAndCount_0 x1 M
theorem c_X6_makeAndCount (hi : gInj 241 ad) {x1 : Int32} {Rs : Int32 × Mem} (hf : f_X6_makeAndCount x1 M = some Rs) : gMet l yX6_makeAndCount cX6_makeAndCount 3 (some .int) 106 D (xty cI cT cS) 241 (xE cI cT cS) ad [.ref (ad 0), .int x1] M (qI D 241 (xE cI cT cS) ad Rs) := gMet_of (by decide) hi (xE_loc cI cT cS) (Nat.le_of_ble_eq_true rfl) (fun p e s m args below meth c ls C hr hq w hl => w_X6_makeAndCount_0 C hr hq  w hl hf)
def f_X6_askAndSet_0 (x1 : Int32) (x2 : Int32) (x3 : Int32) (M : Mem) : Option (Int32 × Mem) :=
  (f_X6_ask (f_wake 17) x1 x2 (0 : Int32) M).bind fun (v3, M1) =>
  if v3 = 0 then ((f_X6_homeOf x1 x2 M1).bind fun (v7, M5) =>
  (f_X6_write v7 x2 x3 M5).bind fun (v10, M8) =>
  some (v10, M8)) else (some (v3, M1))
set_option maxRecDepth 100000 in
set_option maxHeartbeats 4000000 in
theorem w_X6_askAndSet_0 (C : gC p s m args c RX6 cX6_askAndSet 5 D (xty cI cT cS) 241 (xE cI cT cS) ad) (hr : meth.sig.returnType = (some .int)) (hq : meth.locks = false) {Rs : Int32 × Mem} {x1 : Int32} {x2 : Int32} {x3 : Int32} (w : gWd D 241 (xE cI cT cS) ad M s H locs) (hl : lv_has ls 5 [(0, .ref (ad 0)), (1, .int x1), (2, .int x2), (3, .int x3)]) (hf : f_X6_askAndSet_0  x1 x2 x3 M = some Rs) : W p l e (rmH 105) s m args below meth c H locs 0 0 (MQ below (qI D 241 (xE cI cT cS) ad Rs) args s 0 0 (gA 241 ad)) (F0 m 0 ls []) := by
  unfold f_X6_askAndSet_0 at hf
  have hx := C.1.1
  have hb := C.1.2.1
  have hi := C.2.2.2.1
  refine lv_aload_n hx hb dX6_askAndSet_0 rfl (lv_at hl 0 rfl) ?_
  refine lv_iload_n hx hb dX6_askAndSet_1 rfl (lv_at hl 1 rfl) ?_
  refine lv_iload_n hx hb dX6_askAndSet_2 rfl (lv_at hl 2 rfl) ?_
  refine lv_iconst (v := 0) hx hb dX6_askAndSet_3 (by decide) ?_
  obtain ⟨⟨v3, M1⟩, e2, hf⟩ := bindS hf
  refine g_backI w (g_runV (rest := []) C w (c_X6_ask (c_wake hi 17) hi  e2) ob_X6 rfl gv_X6_238 md_X6_ask rfl (by omega) (by decide) hl.1 rfl (Nat.le_of_ble_eq_true rfl) dX6_askAndSet_4) (fun H locs w => ?_)
  refine lv_istore (lv' := [(4, .int v3), (0, .ref (ad 0)), (1, .int x1), (2, .int x2), (3, .int x3)]) hx hb dX6_askAndSet_7 hl (by decide) rfl (fun ls hl => ?_)
  refine lv_iload hx hb dX6_askAndSet_9 (lv_at hl 0 rfl) ?_
  refine lv_if_ne (tgt := 29) hx hb dX6_askAndSet_11 (by decide) (fun c4 => ?_) (fun c4 => ?_)
  · replace hf := (if_neg c4).symm.trans hf
    refine lv_iload hx hb dX6_askAndSet_29 (lv_at hl 0 rfl) ?_
    exact g_iret C w hr hq hf dX6_askAndSet_31
  · replace hf := (if_pos c4).symm.trans hf
    refine lv_aload_n hx hb dX6_askAndSet_14 rfl (lv_at hl 1 rfl) ?_
    refine lv_aload_n hx hb dX6_askAndSet_15 rfl (lv_at hl 1 rfl) ?_
    refine lv_iload_n hx hb dX6_askAndSet_16 rfl (lv_at hl 2 rfl) ?_
    refine lv_iload_n hx hb dX6_askAndSet_17 rfl (lv_at hl 3 rfl) ?_
    obtain ⟨⟨v7, M5⟩, e6, hf⟩ := bindS hf
    refine g_backI w (g_runV (rest := [.ref (ad 0)]) C w (c_X6_homeOf hi  e6) ob_X6 rfl gv_X6_210 md_X6_homeOf rfl (by omega) (by decide) hl.1 rfl (Nat.le_of_ble_eq_true rfl) dX6_askAndSet_18) (fun H locs w => ?_)
    refine lv_iload_n hx hb dX6_askAndSet_21 rfl (lv_at hl 3 rfl) ?_
    refine lv_iload_n hx hb dX6_askAndSet_22 rfl (lv_at hl 4 rfl) ?_
    obtain ⟨⟨v10, M8⟩, e9, hf⟩ := bindS hf
    refine g_backI w (g_runV (rest := []) C w (c_X6_write hi  e9) ob_X6 rfl gv_X6_248 md_X6_write rfl (by omega) (by decide) hl.1 rfl (Nat.le_of_ble_eq_true rfl) dX6_askAndSet_23) (fun H locs w => ?_)
    refine lv_goto (tgt := 31) hx hb dX6_askAndSet_26 (by decide) ?_
    exact g_iret C w hr hq hf dX6_askAndSet_31
abbrev f_X6_askAndSet (x1 : Int32) (x2 : Int32) (x3 : Int32) (M : Mem) : Option (Int32 × Mem) := f_X6_askAndSet_0 x1 x2 x3 M
theorem c_X6_askAndSet (hi : gInj 241 ad) {x1 : Int32} {x2 : Int32} {x3 : Int32} {Rs : Int32 × Mem} (hf : f_X6_askAndSet x1 x2 x3 M = some Rs) : gMet l yX6_askAndSet cX6_askAndSet 5 (some .int) 105 D (xty cI cT cS) 241 (xE cI cT cS) ad [.ref (ad 0), .int x1, .int x2, .int x3] M (qI D 241 (xE cI cT cS) ad Rs) := gMet_of (by decide) hi (xE_loc cI cT cS) (Nat.le_of_ble_eq_true rfl) (fun p e s m args below meth c ls C hr hq w hl => w_X6_askAndSet_0 C hr hq  w hl hf)
def f_X6_perform_0 (x1 : Int32) (x2 : Int32) (x3 : Int32) (x4 : Int32) (M : Mem) : Option (Int32 × Mem) :=
  if x2 = 0 then ((f_X6_makeAndCount x1 M).bind fun (v4, M2) =>
  some (v4, M2)) else if x2 = 1 then ((f_X6_ask (f_wake 17) x1 x3 (0 : Int32) M).bind fun (v8, M6) =>
  some (v8, M6)) else if x2 = 2 then ((f_X6_askAndSet x1 x3 x4 M).bind fun (v12, M10) =>
  some (v12, M10)) else (some ((0 : Int32), M))
set_option maxRecDepth 100000 in
set_option maxHeartbeats 4000000 in
theorem w_X6_perform_0 (C : gC p s m args c RX6 cX6_perform 5 D (xty cI cT cS) 241 (xE cI cT cS) ad) (hr : meth.sig.returnType = (some .int)) (hq : meth.locks = false) {Rs : Int32 × Mem} {x1 : Int32} {x2 : Int32} {x3 : Int32} {x4 : Int32} (w : gWd D 241 (xE cI cT cS) ad M s H locs) (hl : lv_has ls 5 [(0, .ref (ad 0)), (1, .int x1), (2, .int x2), (3, .int x3), (4, .int x4)]) (hf : f_X6_perform_0  x1 x2 x3 x4 M = some Rs) : W p l e (rmH 107) s m args below meth c H locs 0 0 (MQ below (qI D 241 (xE cI cT cS) ad Rs) args s 0 0 (gA 241 ad)) (F0 m 0 ls []) := by
  unfold f_X6_perform_0 at hf
  have hx := C.1.1
  have hb := C.1.2.1
  have hi := C.2.2.2.1
  refine lv_iload_n hx hb dX6_perform_0 rfl (lv_at hl 2 rfl) ?_
  by_cases c1 : x2 = 0
  · replace hf := (if_pos c1).symm.trans hf
    refine lv_tableIn (tgt := 28) hx hb dX6_perform_1 (by rw [c1]; decide) (by rw [c1]; decide) (by rw [c1]; rfl) (by decide) ?_
    refine lv_aload_n hx hb dX6_perform_28 rfl (lv_at hl 0 rfl) ?_
    refine lv_iload_n hx hb dX6_perform_29 rfl (lv_at hl 1 rfl) ?_
    obtain ⟨⟨v4, M2⟩, e3, hf⟩ := bindS hf
    refine g_backI w (g_runV (rest := []) C w (c_X6_makeAndCount hi  e3) ob_X6 rfl gv_X6_235 md_X6_makeAndCount rfl (by omega) (by decide) hl.1 rfl (Nat.le_of_ble_eq_true rfl) dX6_perform_30) (fun H locs w => ?_)
    exact g_iret C w hr hq hf dX6_perform_33
  · replace hf := (if_neg c1).symm.trans hf
    by_cases c5 : x2 = 1
    · replace hf := (if_pos c5).symm.trans hf
      refine lv_tableIn (tgt := 34) hx hb dX6_perform_1 (by rw [c5]; decide) (by rw [c5]; decide) (by rw [c5]; rfl) (by decide) ?_
      refine lv_aload_n hx hb dX6_perform_34 rfl (lv_at hl 0 rfl) ?_
      refine lv_iload_n hx hb dX6_perform_35 rfl (lv_at hl 1 rfl) ?_
      refine lv_iload_n hx hb dX6_perform_36 rfl (lv_at hl 3 rfl) ?_
      refine lv_iconst (v := 0) hx hb dX6_perform_37 (by decide) ?_
      obtain ⟨⟨v8, M6⟩, e7, hf⟩ := bindS hf
      refine g_backI w (g_runV (rest := []) C w (c_X6_ask (c_wake hi 17) hi  e7) ob_X6 rfl gv_X6_238 md_X6_ask rfl (by omega) (by decide) hl.1 rfl (Nat.le_of_ble_eq_true rfl) dX6_perform_38) (fun H locs w => ?_)
      exact g_iret C w hr hq hf dX6_perform_41
    · replace hf := (if_neg c5).symm.trans hf
      by_cases c9 : x2 = 2
      · replace hf := (if_pos c9).symm.trans hf
        refine lv_tableIn (tgt := 42) hx hb dX6_perform_1 (by rw [c9]; decide) (by rw [c9]; decide) (by rw [c9]; rfl) (by decide) ?_
        refine lv_aload_n hx hb dX6_perform_42 rfl (lv_at hl 0 rfl) ?_
        refine lv_iload_n hx hb dX6_perform_43 rfl (lv_at hl 1 rfl) ?_
        refine lv_iload_n hx hb dX6_perform_44 rfl (lv_at hl 3 rfl) ?_
        refine lv_iload hx hb dX6_perform_45 (lv_at hl 4 rfl) ?_
        obtain ⟨⟨v12, M10⟩, e11, hf⟩ := bindS hf
        refine g_backI w (g_runV (rest := []) C w (c_X6_askAndSet hi  e11) ob_X6 rfl gv_X6_242 md_X6_askAndSet rfl (by omega) (by decide) hl.1 rfl (Nat.le_of_ble_eq_true rfl) dX6_perform_47) (fun H locs w => ?_)
        exact g_iret C w hr hq hf dX6_perform_50
      · replace hf := (if_neg c9).symm.trans hf
        refine lv_tableOut (tgt := 51) hx hb dX6_perform_1 (by have := lv_neT c1 (show (0 : Int32).toInt = 0 from rfl); have := lv_neT c5 (show (1 : Int32).toInt = 1 from rfl); have := lv_neT c9 (show (2 : Int32).toInt = 2 from rfl); omega) (by decide) ?_
        refine lv_iconst (v := 0) hx hb dX6_perform_51 (by decide) ?_
        exact g_iret C w hr hq hf dX6_perform_52
abbrev f_X6_perform (x1 : Int32) (x2 : Int32) (x3 : Int32) (x4 : Int32) (M : Mem) : Option (Int32 × Mem) := f_X6_perform_0 x1 x2 x3 x4 M
theorem c_X6_perform (hi : gInj 241 ad) {x1 : Int32} {x2 : Int32} {x3 : Int32} {x4 : Int32} {Rs : Int32 × Mem} (hf : f_X6_perform x1 x2 x3 x4 M = some Rs) : gMet l yX6_perform cX6_perform 5 (some .int) 107 D (xty cI cT cS) 241 (xE cI cT cS) ad [.ref (ad 0), .int x1, .int x2, .int x3, .int x4] M (qI D 241 (xE cI cT cS) ad Rs) := gMet_of (by decide) hi (xE_loc cI cT cS) (Nat.le_of_ble_eq_true rfl) (fun p e s m args below meth c ls C hr hq w hl => w_X6_perform_0 C hr hq  w hl hf)
def f_X6_type_56 (x1 : Int32) (x2 : Int32) (x3 : Int32) (M : Mem) : Option (Int32 × Mem) :=
  if (M 0 5) < (16 : Int32) then ((ixQ 16 (M 0 5)).bind fun t2 =>
  (f_X4_begin (33 + 13 * t2) x1 x2 x3 M).bind fun (v6, M4) =>
  (f_X6_arrange (M 0 5) M4).bind fun (v9, M7) =>
  (stF M7 0 5 ((M7 0 5) + (1 : Int32))).bind fun M10 =>
  some ((M 0 5), M10)) else (some ((-104 : Int32), M))
def f_X6_type_32 (x1 : Int32) (x2 : Int32) (x3 : Int32) (M : Mem) : Option (Int32 × Mem) :=
  if x3 = 0 then (f_X6_type_56 x1 x2 x3 M) else (if x2 = (-1 : Int32) then (f_X6_type_56 x1 x2 x3 M) else ((ixQ 16 x2).bind fun t3 =>
  if (M (33 + 13 * t3) 2) = 0 then (some ((-103 : Int32), M)) else (f_X6_type_56 x1 x2 x3 M)))
def f_X6_type_0 (x1 : Int32) (x2 : Int32) (x3 : Int32) (M : Mem) : Option (Int32 × Mem) :=
  (f_X6_within x1 (0 : Int32) (2 : Int32) M).bind fun (v3, M1) =>
  if v3 = 0 then (some ((-102 : Int32), M1)) else (if x2 = (-1 : Int32) then (f_X6_type_32 x1 x2 x3 M1) else (if x1 = 0 then ((f_X6_isClass x2 M1).bind fun (v9, M7) =>
  if v9 = 0 then (some ((-101 : Int32), M7)) else (f_X6_type_32 x1 x2 x3 M7)) else (some ((-101 : Int32), M1))))
set_option maxRecDepth 100000 in
set_option maxHeartbeats 4000000 in
theorem w_X6_type_56 (C : gC p s m args c RX6 cX6_type 5 D (xty cI cT cS) 241 (xE cI cT cS) ad) (hr : meth.sig.returnType = (some .int)) (hq : meth.locks = false) {Rs : Int32 × Mem} {x1 : Int32} {x2 : Int32} {x3 : Int32} (w : gWd D 241 (xE cI cT cS) ad M s H locs) (hl : lv_has ls 5 [(0, .ref (ad 0)), (1, .int x1), (2, .int x2), (3, .int x3)]) (hf : f_X6_type_56  x1 x2 x3 M = some Rs) : W p l e (rmH 4) s m args below meth c H locs 0 0 (MQ below (qI D 241 (xE cI cT cS) ad Rs) args s 0 0 (gA 241 ad)) (F0 m 56 ls []) := by
  unfold f_X6_type_56 at hf
  have hx := C.1.1
  have hb := C.1.2.1
  have hi := C.2.2.2.1
  refine lv_aload_n hx hb dX6_type_56 rfl (lv_at hl 0 rfl) ?_
  refine gt_X6_56 C w dX6_type_57 ?_
  refine lv_bipush (v := 16) hx hb dX6_type_60 (by decide) ?_
  refine lv_icmp_lt (tgt := 68) hx hb dX6_type_62 (by decide) (fun c1 => ?_) (fun c1 => ?_)
  · replace hf := (if_pos c1).symm.trans hf
    refine lv_aload_n hx hb dX6_type_68 rfl (lv_at hl 0 rfl) ?_
    refine gt_X6_56 C w dX6_type_69 ?_
    refine lv_istore (lv' := [(4, .int (M 0 5)), (0, .ref (ad 0)), (1, .int x1), (2, .int x2), (3, .int x3)]) hx hb dX6_type_72 hl (by decide) rfl (fun ls hl => ?_)
    refine lv_aload_n hx hb dX6_type_74 rfl (lv_at hl 1 rfl) ?_
    refine gt_X6_11 C w dX6_type_75 ?_
    refine lv_iload hx hb dX6_type_78 (lv_at hl 0 rfl) ?_
    obtain ⟨t2, e3, hf⟩ := bindS hf
    refine g_aald (t0 := 1) C w rf_T rfl e3 dX6_type_80 ?_
    refine lv_iload_n hx hb dX6_type_81 rfl (lv_at hl 2 rfl) ?_
    refine lv_iload_n hx hb dX6_type_82 rfl (lv_at hl 3 rfl) ?_
    refine lv_iload_n hx hb dX6_type_83 rfl (lv_at hl 4 rfl) ?_
    obtain ⟨⟨v6, M4⟩, e5, hf⟩ := bindS hf
    refine g_backV w (g_runV (rest := []) C w (c_X4_begin hi ⟨t2, ixQ_lt e3, rfl⟩ e5) (ob_X4 ⟨t2, ixQ_lt e3, rfl⟩) rfl gv_X6_60 md_X4_begin rfl (by omega) (by decide) hl.1 rfl (Nat.le_of_ble_eq_true rfl) dX6_type_84) (fun H locs w => ?_)
    refine lv_aload_n hx hb dX6_type_87 rfl (lv_at hl 1 rfl) ?_
    refine lv_iload hx hb dX6_type_88 (lv_at hl 0 rfl) ?_
    obtain ⟨⟨v9, M7⟩, e8, hf⟩ := bindS hf
    refine g_backV w (g_runV (rest := []) C w (c_X6_arrange hi  e8) ob_X6 rfl gv_X6_64 md_X6_arrange rfl (by omega) (by decide) hl.1 rfl (Nat.le_of_ble_eq_true rfl) dX6_type_90) (fun H locs w => ?_)
    refine lv_aload_n hx hb dX6_type_93 rfl (lv_at hl 1 rfl) ?_
    refine lv_dup hx hb dX6_type_94 rfl ?_
    refine gt_X6_56 C w dX6_type_95 ?_
    refine lv_iconst (v := 1) hx hb dX6_type_98 (by decide) ?_
    refine lv_iadd hx hb dX6_type_99 ?_
    obtain ⟨M10, e11, hf⟩ := bindS hf
    refine pt_X6_56 C w e11 dX6_type_100 (fun H locs w => ?_)
    refine lv_iload hx hb dX6_type_103 (lv_at hl 0 rfl) ?_
    exact g_iret C w hr hq hf dX6_type_105
  · replace hf := (if_neg c1).symm.trans hf
    refine lv_bipush (v := -104) hx hb dX6_type_65 (by decide) ?_
    exact g_iret C w hr hq hf dX6_type_67
set_option maxRecDepth 100000 in
set_option maxHeartbeats 4000000 in
theorem w_X6_type_32 (C : gC p s m args c RX6 cX6_type 5 D (xty cI cT cS) 241 (xE cI cT cS) ad) (hr : meth.sig.returnType = (some .int)) (hq : meth.locks = false) {Rs : Int32 × Mem} {x1 : Int32} {x2 : Int32} {x3 : Int32} (w : gWd D 241 (xE cI cT cS) ad M s H locs) (hl : lv_has ls 5 [(0, .ref (ad 0)), (1, .int x1), (2, .int x2), (3, .int x3)]) (hf : f_X6_type_32  x1 x2 x3 M = some Rs) : W p l e (rmH 4) s m args below meth c H locs 0 0 (MQ below (qI D 241 (xE cI cT cS) ad Rs) args s 0 0 (gA 241 ad)) (F0 m 32 ls []) := by
  unfold f_X6_type_32 at hf
  have hx := C.1.1
  have hb := C.1.2.1
  have hi := C.2.2.2.1
  refine lv_iload_n hx hb dX6_type_32 rfl (lv_at hl 3 rfl) ?_
  refine lv_if_eq (tgt := 56) hx hb dX6_type_33 (by decide) (fun c1 => ?_) (fun c1 => ?_)
  · replace hf := (if_pos c1).symm.trans hf
    exact w_X6_type_56 C hr hq w (lv_sub hl [0, 1, 2, 3] rfl) hf
  · replace hf := (if_neg c1).symm.trans hf
    refine lv_iload_n hx hb dX6_type_36 rfl (lv_at hl 2 rfl) ?_
    refine lv_iconst (v := -1) hx hb dX6_type_37 (by decide) ?_
    refine lv_icmp_eq (tgt := 56) hx hb dX6_type_38 (by decide) (fun c2 => ?_) (fun c2 => ?_)
    · replace hf := (if_pos c2).symm.trans hf
      exact w_X6_type_56 C hr hq w (lv_sub hl [0, 1, 2, 3] rfl) hf
    · replace hf := (if_neg c2).symm.trans hf
      refine lv_aload_n hx hb dX6_type_41 rfl (lv_at hl 0 rfl) ?_
      refine gt_X6_11 C w dX6_type_42 ?_
      refine lv_iload_n hx hb dX6_type_45 rfl (lv_at hl 2 rfl) ?_
      obtain ⟨t3, e4, hf⟩ := bindS hf
      refine g_aald (t0 := 1) C w rf_T rfl e4 dX6_type_46 ?_
      refine gt_X6_52 ⟨t3, ixQ_lt e4, rfl⟩ C w dX6_type_47 ?_
      refine lv_if_ne (tgt := 56) hx hb dX6_type_50 (by decide) (fun c5 => ?_) (fun c5 => ?_)
      · replace hf := (if_neg c5).symm.trans hf
        exact w_X6_type_56 C hr hq w (lv_sub hl [0, 1, 2, 3] rfl) hf
      · replace hf := (if_pos c5).symm.trans hf
        refine lv_bipush (v := -103) hx hb dX6_type_53 (by decide) ?_
        exact g_iret C w hr hq hf dX6_type_55
set_option maxRecDepth 100000 in
set_option maxHeartbeats 4000000 in
theorem w_X6_type_0 (C : gC p s m args c RX6 cX6_type 5 D (xty cI cT cS) 241 (xE cI cT cS) ad) (hr : meth.sig.returnType = (some .int)) (hq : meth.locks = false) {Rs : Int32 × Mem} {x1 : Int32} {x2 : Int32} {x3 : Int32} (w : gWd D 241 (xE cI cT cS) ad M s H locs) (hl : lv_has ls 5 [(0, .ref (ad 0)), (1, .int x1), (2, .int x2), (3, .int x3)]) (hf : f_X6_type_0  x1 x2 x3 M = some Rs) : W p l e (rmH 4) s m args below meth c H locs 0 0 (MQ below (qI D 241 (xE cI cT cS) ad Rs) args s 0 0 (gA 241 ad)) (F0 m 0 ls []) := by
  unfold f_X6_type_0 at hf
  have hx := C.1.1
  have hb := C.1.2.1
  have hi := C.2.2.2.1
  refine lv_iload_n hx hb dX6_type_0 rfl (lv_at hl 1 rfl) ?_
  refine lv_iconst (v := 0) hx hb dX6_type_1 (by decide) ?_
  refine lv_iconst (v := 2) hx hb dX6_type_2 (by decide) ?_
  obtain ⟨⟨v3, M1⟩, e2, hf⟩ := bindS hf
  refine g_backI w (g_runS (rest := []) C w (c_X6_within hi  e2) gs_X6_44 md_X6_within rfl (by omega) (by decide) hl.1 rfl (Nat.le_of_ble_eq_true rfl) dX6_type_3) (fun H locs w => ?_)
  refine lv_if_ne (tgt := 12) hx hb dX6_type_6 (by decide) (fun c4 => ?_) (fun c4 => ?_)
  · replace hf := (if_neg c4).symm.trans hf
    refine lv_iload_n hx hb dX6_type_12 rfl (lv_at hl 2 rfl) ?_
    refine lv_iconst (v := -1) hx hb dX6_type_13 (by decide) ?_
    refine lv_icmp_eq (tgt := 32) hx hb dX6_type_14 (by decide) (fun c5 => ?_) (fun c5 => ?_)
    · replace hf := (if_pos c5).symm.trans hf
      exact w_X6_type_32 C hr hq w (lv_sub hl [0, 1, 2, 3] rfl) hf
    · replace hf := (if_neg c5).symm.trans hf
      refine lv_iload_n hx hb dX6_type_17 rfl (lv_at hl 1 rfl) ?_
      refine lv_if_ne (tgt := 29) hx hb dX6_type_18 (by decide) (fun c6 => ?_) (fun c6 => ?_)
      · replace hf := (if_neg c6).symm.trans hf
        refine lv_bipush (v := -101) hx hb dX6_type_29 (by decide) ?_
        exact g_iret C w hr hq hf dX6_type_31
      · replace hf := (if_pos c6).symm.trans hf
        refine lv_aload_n hx hb dX6_type_21 rfl (lv_at hl 0 rfl) ?_
        refine lv_iload_n hx hb dX6_type_22 rfl (lv_at hl 2 rfl) ?_
        obtain ⟨⟨v9, M7⟩, e8, hf⟩ := bindS hf
        refine g_backI w (g_runV (rest := []) C w (c_X6_isClass hi  e8) ob_X6 rfl gv_X6_48 md_X6_isClass rfl (by omega) (by decide) hl.1 rfl (Nat.le_of_ble_eq_true rfl) dX6_type_23) (fun H locs w => ?_)
        refine lv_if_ne (tgt := 32) hx hb dX6_type_26 (by decide) (fun c10 => ?_) (fun c10 => ?_)
        · replace hf := (if_neg c10).symm.trans hf
          exact w_X6_type_32 C hr hq w (lv_sub hl [0, 1, 2, 3] rfl) hf
        · replace hf := (if_pos c10).symm.trans hf
          refine lv_bipush (v := -101) hx hb dX6_type_29 (by decide) ?_
          exact g_iret C w hr hq hf dX6_type_31
  · replace hf := (if_pos c4).symm.trans hf
    refine lv_bipush (v := -102) hx hb dX6_type_9 (by decide) ?_
    exact g_iret C w hr hq hf dX6_type_11
abbrev f_X6_type (x1 : Int32) (x2 : Int32) (x3 : Int32) (M : Mem) : Option (Int32 × Mem) := f_X6_type_0 x1 x2 x3 M
theorem c_X6_type (hi : gInj 241 ad) {x1 : Int32} {x2 : Int32} {x3 : Int32} {Rs : Int32 × Mem} (hf : f_X6_type x1 x2 x3 M = some Rs) : gMet l yX6_type cX6_type 5 (some .int) 4 D (xty cI cT cS) 241 (xE cI cT cS) ad [.ref (ad 0), .int x1, .int x2, .int x3] M (qI D 241 (xE cI cT cS) ad Rs) := gMet_of (by decide) hi (xE_loc cI cT cS) (Nat.le_of_ble_eq_true rfl) (fun p e s m args below meth c ls C hr hq w hl => w_X6_type_0 C hr hq  w hl hf)
def f_X6_face_101b (k101_ : (Nat → Int32 → Mem → Option (Int32 × Mem))) (k3 : Nat) (x4 : Int32) (M : Mem) : Option (Int32 × Mem) :=
  if (M 0 5) ≤ x4 then (some ((M (k3 + 1) 1), M)) else ((f_X6_arrange x4 M).bind fun (v4, M2) =>
  k101_ k3 (x4 + 1) M2)
def f_X6_face_101 : Nat → Nat → Int32 → Mem → Option (Int32 × Mem)
  | 0, _, _, _ => none
  | n + 1, k3, x4, M => f_X6_face_101b (f_X6_face_101  n) k3 x4 M
def f_X6_face_62 (x1 : Int32) (x2 : Int32) (k3 : Nat) (M : Mem) : Option (Int32 × Mem) :=
  (f_X2_has (k3 + 1) x2 M).bind fun (v3, M1) =>
  if v3 = 0 then (if (M1 (k3 + 1) 1) < (3 : Int32) then ((f_X2_addOnce (k3 + 1) x2 M1).bind fun (v8, M6) =>
  f_X6_face_101 FU k3 x1 M6) else (some ((-104 : Int32), M1))) else (some ((-103 : Int32), M1))
def f_X6_face_0 (x1 : Int32) (x2 : Int32) (M : Mem) : Option (Int32 × Mem) :=
  (f_X6_isType x1 M).bind fun (v3, M1) =>
  if v3 = 0 then (some ((-101 : Int32), M1)) else ((f_X6_isType x2 M1).bind fun (v7, M5) =>
  if v7 = 0 then (some ((-101 : Int32), M5)) else (if x1 ≤ x2 then (some ((-101 : Int32), M5)) else ((ixQ 16 x2).bind fun t10 =>
  if (M5 (33 + 13 * t10) 0) = 0 then (some ((-101 : Int32), M5)) else ((ixQ 16 x1).bind fun t13 =>
  if (M5 (33 + 13 * t13) 2) = 0 then (f_X6_face_62 x1 x2 (33 + 13 * t13) M5) else ((ixQ 16 x2).bind fun t16 =>
  if (M5 (33 + 13 * t16) 2) = 0 then (some ((-103 : Int32), M5)) else (f_X6_face_62 x1 x2 (33 + 13 * t13) M5))))))
set_option maxRecDepth 100000 in
set_option maxHeartbeats 4000000 in
theorem w_X6_face_101b (C : gC p s m args c RX6 cX6_face 5 D (xty cI cT cS) 241 (xE cI cT cS) ad) (hr : meth.sig.returnType = (some .int)) (hq : meth.locks = false) {k101_ : (Nat → Int32 → Mem → Option (Int32 × Mem))} {Rs : Int32 × Mem} (hk101_ : ∀ {k3 : Nat} {x4 : Int32} {M : Mem} {H : Heap} {locs : List Loc} {ls : Array Slot} (h3 : xT k3), gWd D 241 (xE cI cT cS) ad M s H locs → lv_has ls 5 [(0, .ref (ad 0)), (3, .ref (ad k3)), (4, .int x4)] → k101_ k3 x4 M = some Rs → W p l e (rmH 4) s m args below meth c H locs 0 0 (MQ below (qI D 241 (xE cI cT cS) ad Rs) args s 0 0 (gA 241 ad)) (F0 m 101 ls [])) {k3 : Nat} {x4 : Int32} (h3 : xT k3) (w : gWd D 241 (xE cI cT cS) ad M s H locs) (hl : lv_has ls 5 [(0, .ref (ad 0)), (3, .ref (ad k3)), (4, .int x4)]) (hf : f_X6_face_101b k101_ k3 x4 M = some Rs) : W p l e (rmH 4) s m args below meth c H locs 0 0 (MQ below (qI D 241 (xE cI cT cS) ad Rs) args s 0 0 (gA 241 ad)) (F0 m 101 ls []) := by
  unfold f_X6_face_101b at hf
  have hx := C.1.1
  have hb := C.1.2.1
  have hi := C.2.2.2.1
  refine lv_iload hx hb dX6_face_101 (lv_at hl 2 rfl) ?_
  refine lv_aload_n hx hb dX6_face_103 rfl (lv_at hl 0 rfl) ?_
  refine gt_X6_56 C w dX6_face_104 ?_
  refine lv_icmp_ge (tgt := 122) hx hb dX6_face_107 (by decide) (fun c1 => ?_) (fun c1 => ?_)
  · replace hf := (if_pos c1).symm.trans hf
    refine lv_aload_n hx hb dX6_face_122 rfl (lv_at hl 1 rfl) ?_
    refine gt_X6_74 h3 C w dX6_face_123 ?_
    refine gt_X6_83 (xT_r1 h3) C w dX6_face_126 ?_
    exact g_iret C w hr hq hf dX6_face_129
  · replace hf := (if_neg c1).symm.trans hf
    refine lv_aload_n hx hb dX6_face_110 rfl (lv_at hl 0 rfl) ?_
    refine lv_iload hx hb dX6_face_111 (lv_at hl 2 rfl) ?_
    obtain ⟨⟨v4, M2⟩, e3, hf⟩ := bindS hf
    refine g_backV w (g_runV (rest := []) C w (c_X6_arrange hi  e3) ob_X6 rfl gv_X6_64 md_X6_arrange rfl (by omega) (by decide) hl.1 rfl (Nat.le_of_ble_eq_true rfl) dX6_face_113) (fun H locs w => ?_)
    refine lv_iinc (v := (x4 + 1)) (lv' := [(4, .int (x4 + 1)), (0, .ref (ad 0)), (3, .ref (ad k3))]) hx hb dX6_face_116 hl (k := 2) rfl rfl (by decide) rfl (fun ls hl => ?_)
    refine lv_goto (tgt := 101) hx hb dX6_face_119 (by decide) ?_
    exact hk101_ h3 w (lv_sub hl [1, 2, 0] rfl) hf
theorem w_X6_face_101 (C : gC p s m args c RX6 cX6_face 5 D (xty cI cT cS) 241 (xE cI cT cS) ad) (hr : meth.sig.returnType = (some .int)) (hq : meth.locks = false) {Rs : Int32 × Mem} : ∀ (n : Nat) {k3 : Nat} {x4 : Int32} {M : Mem} {H : Heap} {locs : List Loc} {ls : Array Slot} (h3 : xT k3), gWd D 241 (xE cI cT cS) ad M s H locs → lv_has ls 5 [(0, .ref (ad 0)), (3, .ref (ad k3)), (4, .int x4)] → f_X6_face_101  n k3 x4 M = some Rs → W p l e (rmH 4) s m args below meth c H locs 0 0 (MQ below (qI D 241 (xE cI cT cS) ad Rs) args s 0 0 (gA 241 ad)) (F0 m 101 ls []) := by
  intro n
  induction n with
  | zero =>
    intro k3 x4 M H locs ls h3 w hl hf
    cases hf
  | succ n ih =>
    intro k3 x4 M H locs ls h3 w hl hf
    exact w_X6_face_101b C hr hq ih h3 w hl hf
set_option maxRecDepth 100000 in
set_option maxHeartbeats 4000000 in
theorem w_X6_face_62 (C : gC p s m args c RX6 cX6_face 5 D (xty cI cT cS) 241 (xE cI cT cS) ad) (hr : meth.sig.returnType = (some .int)) (hq : meth.locks = false) {Rs : Int32 × Mem} {x1 : Int32} {x2 : Int32} {k3 : Nat} (h3 : xT k3) (w : gWd D 241 (xE cI cT cS) ad M s H locs) (hl : lv_has ls 5 [(0, .ref (ad 0)), (1, .int x1), (2, .int x2), (3, .ref (ad k3))]) (hf : f_X6_face_62  x1 x2 k3 M = some Rs) : W p l e (rmH 4) s m args below meth c H locs 0 0 (MQ below (qI D 241 (xE cI cT cS) ad Rs) args s 0 0 (gA 241 ad)) (F0 m 62 ls []) := by
  unfold f_X6_face_62 at hf
  have hx := C.1.1
  have hb := C.1.2.1
  have hi := C.2.2.2.1
  refine lv_aload_n hx hb dX6_face_62 rfl (lv_at hl 3 rfl) ?_
  refine gt_X6_74 h3 C w dX6_face_63 ?_
  refine lv_iload_n hx hb dX6_face_66 rfl (lv_at hl 2 rfl) ?_
  obtain ⟨⟨v3, M1⟩, e2, hf⟩ := bindS hf
  refine g_backI w (g_runV (rest := []) C w (c_X2_has hi (xT_r1 h3) e2) (ob_X2 (xT_r1 h3)) rfl gv_X6_78 md_X2_has rfl (by omega) (by decide) hl.1 rfl (Nat.le_of_ble_eq_true rfl) dX6_face_67) (fun H locs w => ?_)
  refine lv_if_eq (tgt := 76) hx hb dX6_face_70 (by decide) (fun c4 => ?_) (fun c4 => ?_)
  · replace hf := (if_pos c4).symm.trans hf
    refine lv_aload_n hx hb dX6_face_76 rfl (lv_at hl 3 rfl) ?_
    refine gt_X6_74 h3 C w dX6_face_77 ?_
    refine gt_X6_83 (xT_r1 h3) C w dX6_face_80 ?_
    refine lv_iconst (v := 3) hx hb dX6_face_83 (by decide) ?_
    refine lv_icmp_lt (tgt := 90) hx hb dX6_face_84 (by decide) (fun c5 => ?_) (fun c5 => ?_)
    · replace hf := (if_pos c5).symm.trans hf
      refine lv_aload_n hx hb dX6_face_90 rfl (lv_at hl 3 rfl) ?_
      refine gt_X6_74 h3 C w dX6_face_91 ?_
      refine lv_iload_n hx hb dX6_face_94 rfl (lv_at hl 2 rfl) ?_
      obtain ⟨⟨v8, M6⟩, e7, hf⟩ := bindS hf
      refine g_backV w (g_runV (rest := []) C w (c_X2_addOnce hi (xT_r1 h3) e7) (ob_X2 (xT_r1 h3)) rfl gv_X6_86 md_X2_addOnce rfl (by omega) (by decide) hl.1 rfl (Nat.le_of_ble_eq_true rfl) dX6_face_95) (fun H locs w => ?_)
      refine lv_iload_n hx hb dX6_face_98 rfl (lv_at hl 1 rfl) ?_
      refine lv_istore (lv' := [(4, .int x1), (0, .ref (ad 0)), (1, .int x1), (2, .int x2), (3, .ref (ad k3))]) hx hb dX6_face_99 hl (by decide) rfl (fun ls hl => ?_)
      exact w_X6_face_101 C hr hq FU h3 w (lv_sub hl [1, 4, 0] rfl) hf
    · replace hf := (if_neg c5).symm.trans hf
      refine lv_bipush (v := -104) hx hb dX6_face_87 (by decide) ?_
      exact g_iret C w hr hq hf dX6_face_89
  · replace hf := (if_neg c4).symm.trans hf
    refine lv_bipush (v := -103) hx hb dX6_face_73 (by decide) ?_
    exact g_iret C w hr hq hf dX6_face_75
set_option maxRecDepth 100000 in
set_option maxHeartbeats 4000000 in
theorem w_X6_face_0 (C : gC p s m args c RX6 cX6_face 5 D (xty cI cT cS) 241 (xE cI cT cS) ad) (hr : meth.sig.returnType = (some .int)) (hq : meth.locks = false) {Rs : Int32 × Mem} {x1 : Int32} {x2 : Int32} (w : gWd D 241 (xE cI cT cS) ad M s H locs) (hl : lv_has ls 5 [(0, .ref (ad 0)), (1, .int x1), (2, .int x2)]) (hf : f_X6_face_0  x1 x2 M = some Rs) : W p l e (rmH 4) s m args below meth c H locs 0 0 (MQ below (qI D 241 (xE cI cT cS) ad Rs) args s 0 0 (gA 241 ad)) (F0 m 0 ls []) := by
  unfold f_X6_face_0 at hf
  have hx := C.1.1
  have hb := C.1.2.1
  have hi := C.2.2.2.1
  refine lv_aload_n hx hb dX6_face_0 rfl (lv_at hl 0 rfl) ?_
  refine lv_iload_n hx hb dX6_face_1 rfl (lv_at hl 1 rfl) ?_
  obtain ⟨⟨v3, M1⟩, e2, hf⟩ := bindS hf
  refine g_backI w (g_runV (rest := []) C w (c_X6_isType hi  e2) ob_X6 rfl gv_X6_68 md_X6_isType rfl (by omega) (by decide) hl.1 rfl (Nat.le_of_ble_eq_true rfl) dX6_face_2) (fun H locs w => ?_)
  refine lv_if_eq (tgt := 33) hx hb dX6_face_5 (by decide) (fun c4 => ?_) (fun c4 => ?_)
  · replace hf := (if_pos c4).symm.trans hf
    refine lv_bipush (v := -101) hx hb dX6_face_33 (by decide) ?_
    exact g_iret C w hr hq hf dX6_face_35
  · replace hf := (if_neg c4).symm.trans hf
    refine lv_aload_n hx hb dX6_face_8 rfl (lv_at hl 0 rfl) ?_
    refine lv_iload_n hx hb dX6_face_9 rfl (lv_at hl 2 rfl) ?_
    obtain ⟨⟨v7, M5⟩, e6, hf⟩ := bindS hf
    refine g_backI w (g_runV (rest := []) C w (c_X6_isType hi  e6) ob_X6 rfl gv_X6_68 md_X6_isType rfl (by omega) (by decide) hl.1 rfl (Nat.le_of_ble_eq_true rfl) dX6_face_10) (fun H locs w => ?_)
    refine lv_if_eq (tgt := 33) hx hb dX6_face_13 (by decide) (fun c8 => ?_) (fun c8 => ?_)
    · replace hf := (if_pos c8).symm.trans hf
      refine lv_bipush (v := -101) hx hb dX6_face_33 (by decide) ?_
      exact g_iret C w hr hq hf dX6_face_35
    · replace hf := (if_neg c8).symm.trans hf
      refine lv_iload_n hx hb dX6_face_16 rfl (lv_at hl 2 rfl) ?_
      refine lv_iload_n hx hb dX6_face_17 rfl (lv_at hl 1 rfl) ?_
      refine lv_icmp_ge (tgt := 33) hx hb dX6_face_18 (by decide) (fun c9 => ?_) (fun c9 => ?_)
      · replace hf := (if_pos c9).symm.trans hf
        refine lv_bipush (v := -101) hx hb dX6_face_33 (by decide) ?_
        exact g_iret C w hr hq hf dX6_face_35
      · replace hf := (if_neg c9).symm.trans hf
        refine lv_aload_n hx hb dX6_face_21 rfl (lv_at hl 0 rfl) ?_
        refine gt_X6_11 C w dX6_face_22 ?_
        refine lv_iload_n hx hb dX6_face_25 rfl (lv_at hl 2 rfl) ?_
        obtain ⟨t10, e11, hf⟩ := bindS hf
        refine g_aald (t0 := 1) C w rf_T rfl e11 dX6_face_26 ?_
        refine gt_X6_71 ⟨t10, ixQ_lt e11, rfl⟩ C w dX6_face_27 ?_
        refine lv_if_ne (tgt := 36) hx hb dX6_face_30 (by decide) (fun c12 => ?_) (fun c12 => ?_)
        · replace hf := (if_neg c12).symm.trans hf
          refine lv_aload_n hx hb dX6_face_36 rfl (lv_at hl 0 rfl) ?_
          refine gt_X6_11 C w dX6_face_37 ?_
          refine lv_iload_n hx hb dX6_face_40 rfl (lv_at hl 1 rfl) ?_
          obtain ⟨t13, e14, hf⟩ := bindS hf
          refine g_aald (t0 := 1) C w rf_T rfl e14 dX6_face_41 ?_
          refine lv_astore_n (lv' := [(3, .ref (ad (33 + 13 * t13))), (0, .ref (ad 0)), (1, .int x1), (2, .int x2)]) hx hb dX6_face_42 rfl hl (by decide) rfl (fun ls hl => ?_)
          refine lv_aload_n hx hb dX6_face_43 rfl (lv_at hl 0 rfl) ?_
          refine gt_X6_52 ⟨t13, ixQ_lt e14, rfl⟩ C w dX6_face_44 ?_
          refine lv_if_eq (tgt := 62) hx hb dX6_face_47 (by decide) (fun c15 => ?_) (fun c15 => ?_)
          · replace hf := (if_pos c15).symm.trans hf
            exact w_X6_face_62 C hr hq ⟨t13, ixQ_lt e14, rfl⟩ w (lv_sub hl [1, 2, 3, 0] rfl) hf
          · replace hf := (if_neg c15).symm.trans hf
            refine lv_aload_n hx hb dX6_face_50 rfl (lv_at hl 1 rfl) ?_
            refine gt_X6_11 C w dX6_face_51 ?_
            refine lv_iload_n hx hb dX6_face_54 rfl (lv_at hl 3 rfl) ?_
            obtain ⟨t16, e17, hf⟩ := bindS hf
            refine g_aald (t0 := 1) C w rf_T rfl e17 dX6_face_55 ?_
            refine gt_X6_52 ⟨t16, ixQ_lt e17, rfl⟩ C w dX6_face_56 ?_
            refine lv_if_eq (tgt := 73) hx hb dX6_face_59 (by decide) (fun c18 => ?_) (fun c18 => ?_)
            · replace hf := (if_pos c18).symm.trans hf
              refine lv_bipush (v := -103) hx hb dX6_face_73 (by decide) ?_
              exact g_iret C w hr hq hf dX6_face_75
            · replace hf := (if_neg c18).symm.trans hf
              exact w_X6_face_62 C hr hq ⟨t13, ixQ_lt e14, rfl⟩ w (lv_sub hl [1, 2, 3, 0] rfl) hf
        · replace hf := (if_pos c12).symm.trans hf
          refine lv_bipush (v := -101) hx hb dX6_face_33 (by decide) ?_
          exact g_iret C w hr hq hf dX6_face_35
abbrev f_X6_face (x1 : Int32) (x2 : Int32) (M : Mem) : Option (Int32 × Mem) := f_X6_face_0 x1 x2 M
theorem c_X6_face (hi : gInj 241 ad) {x1 : Int32} {x2 : Int32} {Rs : Int32 × Mem} (hf : f_X6_face x1 x2 M = some Rs) : gMet l yX6_face cX6_face 5 (some .int) 4 D (xty cI cT cS) 241 (xE cI cT cS) ad [.ref (ad 0), .int x1, .int x2] M (qI D 241 (xE cI cT cS) ad Rs) := gMet_of (by decide) hi (xE_loc cI cT cS) (Nat.le_of_ble_eq_true rfl) (fun p e s m args below meth c ls C hr hq w hl => w_X6_face_0 C hr hq  w hl hf)
def f_X6_field_33 (x1 : Int32) (x2 : Int32) (x3 : Int32) (x4 : Int32) (M : Mem) : Option (Int32 × Mem) :=
  if x3 = 0 then ((ixQ 16 x1).bind fun t10 =>
  (stI M ((33 + 13 * t10) + 7) 5 x2 (2 : Int32)).bind fun M12 =>
  some ((0 : Int32), M12)) else ((ixQ 16 x1).bind fun t2 =>
  (stI M ((33 + 13 * t2) + 7) 5 x2 (1 : Int32)).bind fun M4 =>
  (ixQ 16 x1).bind fun t6 =>
  (stI M4 ((33 + 13 * t6) + 8) 5 x2 x4).bind fun M8 =>
  some ((1 : Int32), M8))
def f_X6_field_0 (x1 : Int32) (x2 : Int32) (x3 : Int32) (x4 : Int32) (M : Mem) : Option (Int32 × Mem) :=
  (f_X6_isType x1 M).bind fun (v3, M1) =>
  if v3 = 0 then (some ((-101 : Int32), M1)) else ((f_X6_isField x2 M1).bind fun (v7, M5) =>
  if v7 = 0 then (some ((-102 : Int32), M5)) else (if x3 = 0 then (f_X6_field_33 x1 x2 x3 x4 M5) else ((f_X6_isNumber x4 M5).bind fun (v12, M10) =>
  if v12 = 0 then (some ((-102 : Int32), M10)) else (f_X6_field_33 x1 x2 x3 x4 M10))))
set_option maxRecDepth 100000 in
set_option maxHeartbeats 4000000 in
theorem w_X6_field_33 (C : gC p s m args c RX6 cX6_field 5 D (xty cI cT cS) 241 (xE cI cT cS) ad) (hr : meth.sig.returnType = (some .int)) (hq : meth.locks = false) {Rs : Int32 × Mem} {x1 : Int32} {x2 : Int32} {x3 : Int32} {x4 : Int32} (w : gWd D 241 (xE cI cT cS) ad M s H locs) (hl : lv_has ls 5 [(0, .ref (ad 0)), (1, .int x1), (2, .int x2), (3, .int x3), (4, .int x4)]) (hf : f_X6_field_33  x1 x2 x3 x4 M = some Rs) : W p l e (rmH 2) s m args below meth c H locs 0 0 (MQ below (qI D 241 (xE cI cT cS) ad Rs) args s 0 0 (gA 241 ad)) (F0 m 33 ls []) := by
  unfold f_X6_field_33 at hf
  have hx := C.1.1
  have hb := C.1.2.1
  have hi := C.2.2.2.1
  refine lv_iload_n hx hb dX6_field_33 rfl (lv_at hl 3 rfl) ?_
  refine lv_if_ne (tgt := 51) hx hb dX6_field_34 (by decide) (fun c1 => ?_) (fun c1 => ?_)
  · replace hf := (if_neg c1).symm.trans hf
    refine lv_aload_n hx hb dX6_field_51 rfl (lv_at hl 0 rfl) ?_
    refine gt_X6_11 C w dX6_field_52 ?_
    refine lv_iload_n hx hb dX6_field_55 rfl (lv_at hl 1 rfl) ?_
    obtain ⟨t2, e3, hf⟩ := bindS hf
    refine g_aald (t0 := 1) C w rf_T rfl e3 dX6_field_56 ?_
    refine gt_X6_95 ⟨t2, ixQ_lt e3, rfl⟩ C w dX6_field_57 ?_
    refine lv_iload_n hx hb dX6_field_60 rfl (lv_at hl 2 rfl) ?_
    refine lv_iconst (v := 1) hx hb dX6_field_61 (by decide) ?_
    obtain ⟨M4, e5, hf⟩ := bindS hf
    refine g_iast C w (xT_a7 ⟨t2, ixQ_lt e3, rfl⟩) e5 dX6_field_62 (fun H locs w => ?_)
    refine lv_aload_n hx hb dX6_field_63 rfl (lv_at hl 0 rfl) ?_
    refine gt_X6_11 C w dX6_field_64 ?_
    refine lv_iload_n hx hb dX6_field_67 rfl (lv_at hl 1 rfl) ?_
    obtain ⟨t6, e7, hf⟩ := bindS hf
    refine g_aald (t0 := 1) C w rf_T rfl e7 dX6_field_68 ?_
    refine gt_X6_99 ⟨t6, ixQ_lt e7, rfl⟩ C w dX6_field_69 ?_
    refine lv_iload_n hx hb dX6_field_72 rfl (lv_at hl 2 rfl) ?_
    refine lv_iload hx hb dX6_field_73 (lv_at hl 4 rfl) ?_
    obtain ⟨M8, e9, hf⟩ := bindS hf
    refine g_iast C w (xT_a8 ⟨t6, ixQ_lt e7, rfl⟩) e9 dX6_field_75 (fun H locs w => ?_)
    refine lv_iconst (v := 1) hx hb dX6_field_76 (by decide) ?_
    exact g_iret C w hr hq hf dX6_field_77
  · replace hf := (if_pos c1).symm.trans hf
    refine lv_aload_n hx hb dX6_field_37 rfl (lv_at hl 0 rfl) ?_
    refine gt_X6_11 C w dX6_field_38 ?_
    refine lv_iload_n hx hb dX6_field_41 rfl (lv_at hl 1 rfl) ?_
    obtain ⟨t10, e11, hf⟩ := bindS hf
    refine g_aald (t0 := 1) C w rf_T rfl e11 dX6_field_42 ?_
    refine gt_X6_95 ⟨t10, ixQ_lt e11, rfl⟩ C w dX6_field_43 ?_
    refine lv_iload_n hx hb dX6_field_46 rfl (lv_at hl 2 rfl) ?_
    refine lv_iconst (v := 2) hx hb dX6_field_47 (by decide) ?_
    obtain ⟨M12, e13, hf⟩ := bindS hf
    refine g_iast C w (xT_a7 ⟨t10, ixQ_lt e11, rfl⟩) e13 dX6_field_48 (fun H locs w => ?_)
    refine lv_iconst (v := 0) hx hb dX6_field_49 (by decide) ?_
    exact g_iret C w hr hq hf dX6_field_50
set_option maxRecDepth 100000 in
set_option maxHeartbeats 4000000 in
theorem w_X6_field_0 (C : gC p s m args c RX6 cX6_field 5 D (xty cI cT cS) 241 (xE cI cT cS) ad) (hr : meth.sig.returnType = (some .int)) (hq : meth.locks = false) {Rs : Int32 × Mem} {x1 : Int32} {x2 : Int32} {x3 : Int32} {x4 : Int32} (w : gWd D 241 (xE cI cT cS) ad M s H locs) (hl : lv_has ls 5 [(0, .ref (ad 0)), (1, .int x1), (2, .int x2), (3, .int x3), (4, .int x4)]) (hf : f_X6_field_0  x1 x2 x3 x4 M = some Rs) : W p l e (rmH 2) s m args below meth c H locs 0 0 (MQ below (qI D 241 (xE cI cT cS) ad Rs) args s 0 0 (gA 241 ad)) (F0 m 0 ls []) := by
  unfold f_X6_field_0 at hf
  have hx := C.1.1
  have hb := C.1.2.1
  have hi := C.2.2.2.1
  refine lv_aload_n hx hb dX6_field_0 rfl (lv_at hl 0 rfl) ?_
  refine lv_iload_n hx hb dX6_field_1 rfl (lv_at hl 1 rfl) ?_
  obtain ⟨⟨v3, M1⟩, e2, hf⟩ := bindS hf
  refine g_backI w (g_runV (rest := []) C w (c_X6_isType hi  e2) ob_X6 rfl gv_X6_68 md_X6_isType rfl (by omega) (by decide) hl.1 rfl (Nat.le_of_ble_eq_true rfl) dX6_field_2) (fun H locs w => ?_)
  refine lv_if_ne (tgt := 11) hx hb dX6_field_5 (by decide) (fun c4 => ?_) (fun c4 => ?_)
  · replace hf := (if_neg c4).symm.trans hf
    refine lv_iload_n hx hb dX6_field_11 rfl (lv_at hl 2 rfl) ?_
    obtain ⟨⟨v7, M5⟩, e6, hf⟩ := bindS hf
    refine g_backI w (g_runS (rest := []) C w (c_X6_isField hi  e6) gs_X6_89 md_X6_isField rfl (by omega) (by decide) hl.1 rfl (Nat.le_of_ble_eq_true rfl) dX6_field_12) (fun H locs w => ?_)
    refine lv_if_eq (tgt := 30) hx hb dX6_field_15 (by decide) (fun c8 => ?_) (fun c8 => ?_)
    · replace hf := (if_pos c8).symm.trans hf
      refine lv_bipush (v := -102) hx hb dX6_field_30 (by decide) ?_
      exact g_iret C w hr hq hf dX6_field_32
    · replace hf := (if_neg c8).symm.trans hf
      refine lv_iload_n hx hb dX6_field_18 rfl (lv_at hl 3 rfl) ?_
      refine lv_if_eq (tgt := 33) hx hb dX6_field_19 (by decide) (fun c9 => ?_) (fun c9 => ?_)
      · replace hf := (if_pos c9).symm.trans hf
        exact w_X6_field_33 C hr hq w (lv_sub hl [0, 1, 2, 3, 4] rfl) hf
      · replace hf := (if_neg c9).symm.trans hf
        refine lv_iload hx hb dX6_field_22 (lv_at hl 4 rfl) ?_
        obtain ⟨⟨v12, M10⟩, e11, hf⟩ := bindS hf
        refine g_backI w (g_runS (rest := []) C w (c_X6_isNumber hi  e11) gs_X6_92 md_X6_isNumber rfl (by omega) (by decide) hl.1 rfl (Nat.le_of_ble_eq_true rfl) dX6_field_24) (fun H locs w => ?_)
        refine lv_if_ne (tgt := 33) hx hb dX6_field_27 (by decide) (fun c13 => ?_) (fun c13 => ?_)
        · replace hf := (if_neg c13).symm.trans hf
          exact w_X6_field_33 C hr hq w (lv_sub hl [0, 1, 2, 3, 4] rfl) hf
        · replace hf := (if_pos c13).symm.trans hf
          refine lv_bipush (v := -102) hx hb dX6_field_30 (by decide) ?_
          exact g_iret C w hr hq hf dX6_field_32
  · replace hf := (if_pos c4).symm.trans hf
    refine lv_bipush (v := -101) hx hb dX6_field_8 (by decide) ?_
    exact g_iret C w hr hq hf dX6_field_10
abbrev f_X6_field (x1 : Int32) (x2 : Int32) (x3 : Int32) (x4 : Int32) (M : Mem) : Option (Int32 × Mem) := f_X6_field_0 x1 x2 x3 x4 M
theorem c_X6_field (hi : gInj 241 ad) {x1 : Int32} {x2 : Int32} {x3 : Int32} {x4 : Int32} {Rs : Int32 × Mem} (hf : f_X6_field x1 x2 x3 x4 M = some Rs) : gMet l yX6_field cX6_field 5 (some .int) 2 D (xty cI cT cS) 241 (xE cI cT cS) ad [.ref (ad 0), .int x1, .int x2, .int x3, .int x4] M (qI D 241 (xE cI cT cS) ad Rs) := gMet_of (by decide) hi (xE_loc cI cT cS) (Nat.le_of_ble_eq_true rfl) (fun p e s m args below meth c ls C hr hq w hl => w_X6_field_0 C hr hq  w hl hf)
def f_X6_line_0 (x1 : Int32) (x2 : Int32) (x3 : Int32) (x4 : Int32) (x5 : Int32) (M : Mem) : Option (Int32 × Mem) :=
  (f_X6_isType x1 M).bind fun (v3, M1) =>
  if v3 = 0 then (some ((-101 : Int32), M1)) else ((f_X6_isLine x2 x3 x4 x5 M1).bind fun (v7, M5) =>
  if v7 = 0 then (some ((-102 : Int32), M5)) else ((ixQ 16 x1).bind fun t9 =>
  if (M5 (33 + 13 * t9) 12) < (8 : Int32) then ((ixQ 16 x1).bind fun t12 =>
  (f_X4_addLine (33 + 13 * t12) x2 x3 x4 x5 M5).bind fun (v16, M14) =>
  some (v16, M14)) else (some ((-104 : Int32), M5))))
set_option maxRecDepth 100000 in
set_option maxHeartbeats 4000000 in
theorem w_X6_line_0 (C : gC p s m args c RX6 cX6_line 6 D (xty cI cT cS) 241 (xE cI cT cS) ad) (hr : meth.sig.returnType = (some .int)) (hq : meth.locks = false) {Rs : Int32 × Mem} {x1 : Int32} {x2 : Int32} {x3 : Int32} {x4 : Int32} {x5 : Int32} (w : gWd D 241 (xE cI cT cS) ad M s H locs) (hl : lv_has ls 6 [(0, .ref (ad 0)), (1, .int x1), (2, .int x2), (3, .int x3), (4, .int x4), (5, .int x5)]) (hf : f_X6_line_0  x1 x2 x3 x4 x5 M = some Rs) : W p l e (rmH 3) s m args below meth c H locs 0 0 (MQ below (qI D 241 (xE cI cT cS) ad Rs) args s 0 0 (gA 241 ad)) (F0 m 0 ls []) := by
  unfold f_X6_line_0 at hf
  have hx := C.1.1
  have hb := C.1.2.1
  have hi := C.2.2.2.1
  refine lv_aload_n hx hb dX6_line_0 rfl (lv_at hl 0 rfl) ?_
  refine lv_iload_n hx hb dX6_line_1 rfl (lv_at hl 1 rfl) ?_
  obtain ⟨⟨v3, M1⟩, e2, hf⟩ := bindS hf
  refine g_backI w (g_runV (rest := []) C w (c_X6_isType hi  e2) ob_X6 rfl gv_X6_68 md_X6_isType rfl (by omega) (by decide) hl.1 rfl (Nat.le_of_ble_eq_true rfl) dX6_line_2) (fun H locs w => ?_)
  refine lv_if_ne (tgt := 11) hx hb dX6_line_5 (by decide) (fun c4 => ?_) (fun c4 => ?_)
  · replace hf := (if_neg c4).symm.trans hf
    refine lv_iload_n hx hb dX6_line_11 rfl (lv_at hl 2 rfl) ?_
    refine lv_iload_n hx hb dX6_line_12 rfl (lv_at hl 3 rfl) ?_
    refine lv_iload hx hb dX6_line_13 (lv_at hl 4 rfl) ?_
    refine lv_iload hx hb dX6_line_15 (lv_at hl 5 rfl) ?_
    obtain ⟨⟨v7, M5⟩, e6, hf⟩ := bindS hf
    refine g_backI w (g_runS (rest := []) C w (c_X6_isLine hi  e6) gs_X6_102 md_X6_isLine rfl (by omega) (by decide) hl.1 rfl (Nat.le_of_ble_eq_true rfl) dX6_line_17) (fun H locs w => ?_)
    refine lv_if_ne (tgt := 26) hx hb dX6_line_20 (by decide) (fun c8 => ?_) (fun c8 => ?_)
    · replace hf := (if_neg c8).symm.trans hf
      refine lv_aload_n hx hb dX6_line_26 rfl (lv_at hl 0 rfl) ?_
      refine gt_X6_11 C w dX6_line_27 ?_
      refine lv_iload_n hx hb dX6_line_30 rfl (lv_at hl 1 rfl) ?_
      obtain ⟨t9, e10, hf⟩ := bindS hf
      refine g_aald (t0 := 1) C w rf_T rfl e10 dX6_line_31 ?_
      refine gt_X6_106 ⟨t9, ixQ_lt e10, rfl⟩ C w dX6_line_32 ?_
      refine lv_bipush (v := 8) hx hb dX6_line_35 (by decide) ?_
      refine lv_icmp_lt (tgt := 43) hx hb dX6_line_37 (by decide) (fun c11 => ?_) (fun c11 => ?_)
      · replace hf := (if_pos c11).symm.trans hf
        refine lv_aload_n hx hb dX6_line_43 rfl (lv_at hl 0 rfl) ?_
        refine gt_X6_11 C w dX6_line_44 ?_
        refine lv_iload_n hx hb dX6_line_47 rfl (lv_at hl 1 rfl) ?_
        obtain ⟨t12, e13, hf⟩ := bindS hf
        refine g_aald (t0 := 1) C w rf_T rfl e13 dX6_line_48 ?_
        refine lv_iload_n hx hb dX6_line_49 rfl (lv_at hl 2 rfl) ?_
        refine lv_iload_n hx hb dX6_line_50 rfl (lv_at hl 3 rfl) ?_
        refine lv_iload hx hb dX6_line_51 (lv_at hl 4 rfl) ?_
        refine lv_iload hx hb dX6_line_53 (lv_at hl 5 rfl) ?_
        obtain ⟨⟨v16, M14⟩, e15, hf⟩ := bindS hf
        refine g_backI w (g_runV (rest := []) C w (c_X4_addLine hi ⟨t12, ixQ_lt e13, rfl⟩ e15) (ob_X4 ⟨t12, ixQ_lt e13, rfl⟩) rfl gv_X6_109 md_X4_addLine rfl (by omega) (by decide) hl.1 rfl (Nat.le_of_ble_eq_true rfl) dX6_line_55) (fun H locs w => ?_)
        exact g_iret C w hr hq hf dX6_line_58
      · replace hf := (if_neg c11).symm.trans hf
        refine lv_bipush (v := -104) hx hb dX6_line_40 (by decide) ?_
        exact g_iret C w hr hq hf dX6_line_42
    · replace hf := (if_pos c8).symm.trans hf
      refine lv_bipush (v := -102) hx hb dX6_line_23 (by decide) ?_
      exact g_iret C w hr hq hf dX6_line_25
  · replace hf := (if_pos c4).symm.trans hf
    refine lv_bipush (v := -101) hx hb dX6_line_8 (by decide) ?_
    exact g_iret C w hr hq hf dX6_line_10
abbrev f_X6_line (x1 : Int32) (x2 : Int32) (x3 : Int32) (x4 : Int32) (x5 : Int32) (M : Mem) : Option (Int32 × Mem) := f_X6_line_0 x1 x2 x3 x4 x5 M
theorem c_X6_line (hi : gInj 241 ad) {x1 : Int32} {x2 : Int32} {x3 : Int32} {x4 : Int32} {x5 : Int32} {Rs : Int32 × Mem} (hf : f_X6_line x1 x2 x3 x4 x5 M = some Rs) : gMet l yX6_line cX6_line 6 (some .int) 3 D (xty cI cT cS) 241 (xE cI cT cS) ad [.ref (ad 0), .int x1, .int x2, .int x3, .int x4, .int x5] M (qI D 241 (xE cI cT cS) ad Rs) := gMet_of (by decide) hi (xE_loc cI cT cS) (Nat.le_of_ble_eq_true rfl) (fun p e s m args below meth c ls C hr hq w hl => w_X6_line_0 C hr hq  w hl hf)
def f_X6_use_113 (s1 : Int32) (s2 : Int32) (M : Mem) : Option (Int32 × Mem) :=
  (f_X5_close s1 s2 (M 0 9) M).bind fun (v3, M1) =>
  if (M1 0 7) = 0 then (some ((M1 0 10), M1)) else (some ((0 : Int32), M1))
def f_X6_use_95 (x2 : Int32) (x7 : Int32) (s0 : Int32) (M : Mem) : Option (Int32 × Mem) :=
  if s0 = 0 then (f_X6_use_113 x7 (-1 : Int32) M) else (f_X6_use_113 x7 x2 M)
def f_X6_use_94 (x2 : Int32) (x7 : Int32) (M : Mem) : Option (Int32 × Mem) :=
  f_X6_use_95 x2 x7 (0 : Int32) M
def f_X6_use_0 (x1 : Int32) (x2 : Int32) (x3 : Int32) (x4 : Int32) (x5 : Int32) (M : Mem) : Option (Int32 × Mem) :=
  (f_X6_refusalOfUse x1 x2 x3 x4 x5 M).bind fun (v3, M1) =>
  if v3 = 0 then ((stF M1 0 8 x1).bind fun M5 =>
  (stF M5 0 9 (0 : Int32)).bind fun M7 =>
  (stF M7 0 10 (0 : Int32)).bind fun M9 =>
  (ixQ 4 x1).bind fun t11 =>
  (f_X5_open (M9 (13 + 5 * t11) 3) M9).bind fun (v15, M13) =>
  (ixQ 4 x1).bind fun t16 =>
  (stF M13 (13 + 5 * t16) 3 v15).bind fun M18 =>
  (f_X6_perform x2 x3 x4 x5 M18).bind fun (v22, M20) =>
  (stF M20 0 7 v22).bind fun M23 =>
  if x3 = 0 then (if (M23 0 7) = 0 then (f_X6_use_95 x2 v15 (1 : Int32) M23) else (f_X6_use_94 x2 v15 M23)) else (f_X6_use_94 x2 v15 M23)) else (some (v3, M1))
set_option maxRecDepth 100000 in
set_option maxHeartbeats 4000000 in
theorem w_X6_use_113 (C : gC p s m args c RX6 cX6_use 9 D (xty cI cT cS) 241 (xE cI cT cS) ad) (hr : meth.sig.returnType = (some .int)) (hq : meth.locks = false) {Rs : Int32 × Mem} {s1 : Int32} {s2 : Int32} (w : gWd D 241 (xE cI cT cS) ad M s H locs) (hl : lv_has ls 9 [(0, .ref (ad 0))]) (hf : f_X6_use_113  s1 s2 M = some Rs) : W p l e (rmH 108) s m args below meth c H locs 0 0 (MQ below (qI D 241 (xE cI cT cS) ad Rs) args s 0 0 (gA 241 ad)) (F0 m 113 ls [.int s2, .int s1, .ref (ad 6)]) := by
  unfold f_X6_use_113 at hf
  have hx := C.1.1
  have hb := C.1.2.1
  have hi := C.2.2.2.1
  refine lv_aload_n hx hb dX6_use_113 rfl (lv_at hl 0 rfl) ?_
  refine gt_X6_120 C w dX6_use_114 ?_
  obtain ⟨⟨v3, M1⟩, e2, hf⟩ := bindS hf
  refine g_backV w (g_runV (rest := []) C w (c_X5_close hi  e2) ob_X5 rfl gv_X6_139 md_X5_close rfl (by omega) (by decide) hl.1 rfl (Nat.le_of_ble_eq_true rfl) dX6_use_117) (fun H locs w => ?_)
  refine lv_aload_n hx hb dX6_use_120 rfl (lv_at hl 0 rfl) ?_
  refine gt_X6_136 C w dX6_use_121 ?_
  refine lv_if_ne (tgt := 134) hx hb dX6_use_124 (by decide) (fun c4 => ?_) (fun c4 => ?_)
  · replace hf := (if_neg c4).symm.trans hf
    refine lv_iconst (v := 0) hx hb dX6_use_134 (by decide) ?_
    exact g_iret C w hr hq hf dX6_use_135
  · replace hf := (if_pos c4).symm.trans hf
    refine lv_aload_n hx hb dX6_use_127 rfl (lv_at hl 0 rfl) ?_
    refine gt_X6_123 C w dX6_use_128 ?_
    refine lv_goto (tgt := 135) hx hb dX6_use_131 (by decide) ?_
    exact g_iret C w hr hq hf dX6_use_135
set_option maxRecDepth 100000 in
set_option maxHeartbeats 4000000 in
theorem w_X6_use_95 (C : gC p s m args c RX6 cX6_use 9 D (xty cI cT cS) 241 (xE cI cT cS) ad) (hr : meth.sig.returnType = (some .int)) (hq : meth.locks = false) {Rs : Int32 × Mem} {x2 : Int32} {x7 : Int32} {s0 : Int32} (w : gWd D 241 (xE cI cT cS) ad M s H locs) (hl : lv_has ls 9 [(0, .ref (ad 0)), (2, .int x2), (7, .int x7)]) (hf : f_X6_use_95  x2 x7 s0 M = some Rs) : W p l e (rmH 108) s m args below meth c H locs 0 0 (MQ below (qI D 241 (xE cI cT cS) ad Rs) args s 0 0 (gA 241 ad)) (F0 m 95 ls [.int s0]) := by
  unfold f_X6_use_95 at hf
  have hx := C.1.1
  have hb := C.1.2.1
  have hi := C.2.2.2.1
  refine lv_istore (lv' := [(8, .int s0), (0, .ref (ad 0)), (2, .int x2), (7, .int x7)]) hx hb dX6_use_95 hl (by decide) rfl (fun ls hl => ?_)
  refine lv_aload_n hx hb dX6_use_97 rfl (lv_at hl 1 rfl) ?_
  refine gt_X6_31 C w dX6_use_98 ?_
  refine lv_iload hx hb dX6_use_101 (lv_at hl 3 rfl) ?_
  refine lv_iload hx hb dX6_use_103 (lv_at hl 0 rfl) ?_
  refine lv_if_eq (tgt := 112) hx hb dX6_use_105 (by decide) (fun c1 => ?_) (fun c1 => ?_)
  · replace hf := (if_pos c1).symm.trans hf
    refine lv_iconst (v := -1) hx hb dX6_use_112 (by decide) ?_
    exact w_X6_use_113 C hr hq w (lv_sub hl [1] rfl) hf
  · replace hf := (if_neg c1).symm.trans hf
    refine lv_iload_n hx hb dX6_use_108 rfl (lv_at hl 2 rfl) ?_
    refine lv_goto (tgt := 113) hx hb dX6_use_109 (by decide) ?_
    exact w_X6_use_113 C hr hq w (lv_sub hl [1] rfl) hf
set_option maxRecDepth 100000 in
set_option maxHeartbeats 4000000 in
theorem w_X6_use_94 (C : gC p s m args c RX6 cX6_use 9 D (xty cI cT cS) 241 (xE cI cT cS) ad) (hr : meth.sig.returnType = (some .int)) (hq : meth.locks = false) {Rs : Int32 × Mem} {x2 : Int32} {x7 : Int32} (w : gWd D 241 (xE cI cT cS) ad M s H locs) (hl : lv_has ls 9 [(0, .ref (ad 0)), (2, .int x2), (7, .int x7)]) (hf : f_X6_use_94  x2 x7 M = some Rs) : W p l e (rmH 108) s m args below meth c H locs 0 0 (MQ below (qI D 241 (xE cI cT cS) ad Rs) args s 0 0 (gA 241 ad)) (F0 m 94 ls []) := by
  unfold f_X6_use_94 at hf
  have hx := C.1.1
  have hb := C.1.2.1
  have hi := C.2.2.2.1
  refine lv_iconst (v := 0) hx hb dX6_use_94 (by decide) ?_
  exact w_X6_use_95 C hr hq w (lv_sub hl [0, 1, 2] rfl) hf
set_option maxRecDepth 100000 in
set_option maxHeartbeats 4000000 in
theorem w_X6_use_0 (C : gC p s m args c RX6 cX6_use 9 D (xty cI cT cS) 241 (xE cI cT cS) ad) (hr : meth.sig.returnType = (some .int)) (hq : meth.locks = false) {Rs : Int32 × Mem} {x1 : Int32} {x2 : Int32} {x3 : Int32} {x4 : Int32} {x5 : Int32} (w : gWd D 241 (xE cI cT cS) ad M s H locs) (hl : lv_has ls 9 [(0, .ref (ad 0)), (1, .int x1), (2, .int x2), (3, .int x3), (4, .int x4), (5, .int x5)]) (hf : f_X6_use_0  x1 x2 x3 x4 x5 M = some Rs) : W p l e (rmH 108) s m args below meth c H locs 0 0 (MQ below (qI D 241 (xE cI cT cS) ad Rs) args s 0 0 (gA 241 ad)) (F0 m 0 ls []) := by
  unfold f_X6_use_0 at hf
  have hx := C.1.1
  have hb := C.1.2.1
  have hi := C.2.2.2.1
  refine lv_aload_n hx hb dX6_use_0 rfl (lv_at hl 0 rfl) ?_
  refine lv_iload_n hx hb dX6_use_1 rfl (lv_at hl 1 rfl) ?_
  refine lv_iload_n hx hb dX6_use_2 rfl (lv_at hl 2 rfl) ?_
  refine lv_iload_n hx hb dX6_use_3 rfl (lv_at hl 3 rfl) ?_
  refine lv_iload hx hb dX6_use_4 (lv_at hl 4 rfl) ?_
  refine lv_iload hx hb dX6_use_6 (lv_at hl 5 rfl) ?_
  obtain ⟨⟨v3, M1⟩, e2, hf⟩ := bindS hf
  refine g_backI w (g_runV (rest := []) C w (c_X6_refusalOfUse hi  e2) ob_X6 rfl gv_X6_113 md_X6_refusalOfUse rfl (by omega) (by decide) hl.1 rfl (Nat.le_of_ble_eq_true rfl) dX6_use_8) (fun H locs w => ?_)
  refine lv_istore (lv' := [(6, .int v3), (0, .ref (ad 0)), (1, .int x1), (2, .int x2), (3, .int x3), (4, .int x4), (5, .int x5)]) hx hb dX6_use_11 hl (by decide) rfl (fun ls hl => ?_)
  refine lv_iload hx hb dX6_use_13 (lv_at hl 0 rfl) ?_
  refine lv_if_eq (tgt := 21) hx hb dX6_use_15 (by decide) (fun c4 => ?_) (fun c4 => ?_)
  · replace hf := (if_pos c4).symm.trans hf
    refine lv_aload_n hx hb dX6_use_21 rfl (lv_at hl 1 rfl) ?_
    refine lv_iload_n hx hb dX6_use_22 rfl (lv_at hl 2 rfl) ?_
    obtain ⟨M5, e6, hf⟩ := bindS hf
    refine pt_X6_117 C w e6 dX6_use_23 (fun H locs w => ?_)
    refine lv_aload_n hx hb dX6_use_26 rfl (lv_at hl 1 rfl) ?_
    refine lv_iconst (v := 0) hx hb dX6_use_27 (by decide) ?_
    obtain ⟨M7, e8, hf⟩ := bindS hf
    refine pt_X6_120 C w e8 dX6_use_28 (fun H locs w => ?_)
    refine lv_aload_n hx hb dX6_use_31 rfl (lv_at hl 1 rfl) ?_
    refine lv_iconst (v := 0) hx hb dX6_use_32 (by decide) ?_
    obtain ⟨M9, e10, hf⟩ := bindS hf
    refine pt_X6_123 C w e10 dX6_use_33 (fun H locs w => ?_)
    refine lv_aload_n hx hb dX6_use_36 rfl (lv_at hl 1 rfl) ?_
    refine gt_X6_31 C w dX6_use_37 ?_
    refine lv_aload_n hx hb dX6_use_40 rfl (lv_at hl 1 rfl) ?_
    refine gt_X6_17 C w dX6_use_41 ?_
    refine lv_iload_n hx hb dX6_use_44 rfl (lv_at hl 2 rfl) ?_
    obtain ⟨t11, e12, hf⟩ := bindS hf
    refine g_aald (t0 := 2) C w rf_S rfl e12 dX6_use_45 ?_
    refine gt_X6_126 ⟨t11, ixQ_lt e12, rfl⟩ C w dX6_use_46 ?_
    obtain ⟨⟨v15, M13⟩, e14, hf⟩ := bindS hf
    refine g_backI w (g_runV (rest := []) C w (c_X5_open hi  e14) ob_X5 rfl gv_X6_129 md_X5_open rfl (by omega) (by decide) hl.1 rfl (Nat.le_of_ble_eq_true rfl) dX6_use_49) (fun H locs w => ?_)
    refine lv_istore (lv' := [(7, .int v15), (6, .int v3), (0, .ref (ad 0)), (1, .int x1), (2, .int x2), (3, .int x3), (4, .int x4), (5, .int x5)]) hx hb dX6_use_52 hl (by decide) rfl (fun ls hl => ?_)
    refine lv_aload_n hx hb dX6_use_54 rfl (lv_at hl 2 rfl) ?_
    refine gt_X6_17 C w dX6_use_55 ?_
    refine lv_iload_n hx hb dX6_use_58 rfl (lv_at hl 3 rfl) ?_
    obtain ⟨t16, e17, hf⟩ := bindS hf
    refine g_aald (t0 := 2) C w rf_S rfl e17 dX6_use_59 ?_
    refine lv_iload hx hb dX6_use_60 (lv_at hl 0 rfl) ?_
    obtain ⟨M18, e19, hf⟩ := bindS hf
    refine pt_X6_126 ⟨t16, ixQ_lt e17, rfl⟩ C w e19 dX6_use_62 (fun H locs w => ?_)
    refine lv_aload_n hx hb dX6_use_65 rfl (lv_at hl 2 rfl) ?_
    refine lv_aload_n hx hb dX6_use_66 rfl (lv_at hl 2 rfl) ?_
    refine lv_iload_n hx hb dX6_use_67 rfl (lv_at hl 4 rfl) ?_
    refine lv_iload_n hx hb dX6_use_68 rfl (lv_at hl 5 rfl) ?_
    refine lv_iload hx hb dX6_use_69 (lv_at hl 6 rfl) ?_
    refine lv_iload hx hb dX6_use_71 (lv_at hl 7 rfl) ?_
    obtain ⟨⟨v22, M20⟩, e21, hf⟩ := bindS hf
    refine g_backI w (g_runV (rest := [.ref (ad 0)]) C w (c_X6_perform hi  e21) ob_X6 rfl gv_X6_133 md_X6_perform rfl (by omega) (by decide) hl.1 rfl (Nat.le_of_ble_eq_true rfl) dX6_use_73) (fun H locs w => ?_)
    obtain ⟨M23, e24, hf⟩ := bindS hf
    refine pt_X6_136 C w e24 dX6_use_76 (fun H locs w => ?_)
    refine lv_iload_n hx hb dX6_use_79 rfl (lv_at hl 5 rfl) ?_
    refine lv_if_ne (tgt := 94) hx hb dX6_use_80 (by decide) (fun c25 => ?_) (fun c25 => ?_)
    · replace hf := (if_neg c25).symm.trans hf
      exact w_X6_use_94 C hr hq w (lv_sub hl [2, 4, 0] rfl) hf
    · replace hf := (if_pos c25).symm.trans hf
      refine lv_aload_n hx hb dX6_use_83 rfl (lv_at hl 2 rfl) ?_
      refine gt_X6_136 C w dX6_use_84 ?_
      refine lv_if_ne (tgt := 94) hx hb dX6_use_87 (by decide) (fun c26 => ?_) (fun c26 => ?_)
      · replace hf := (if_neg c26).symm.trans hf
        exact w_X6_use_94 C hr hq w (lv_sub hl [2, 4, 0] rfl) hf
      · replace hf := (if_pos c26).symm.trans hf
        refine lv_iconst (v := 1) hx hb dX6_use_90 (by decide) ?_
        refine lv_goto (tgt := 95) hx hb dX6_use_91 (by decide) ?_
        exact w_X6_use_95 C hr hq w (lv_sub hl [2, 4, 0] rfl) hf
  · replace hf := (if_neg c4).symm.trans hf
    refine lv_iload hx hb dX6_use_18 (lv_at hl 0 rfl) ?_
    exact g_iret C w hr hq hf dX6_use_20
abbrev f_X6_use (x1 : Int32) (x2 : Int32) (x3 : Int32) (x4 : Int32) (x5 : Int32) (M : Mem) : Option (Int32 × Mem) := f_X6_use_0 x1 x2 x3 x4 x5 M
theorem c_X6_use (hi : gInj 241 ad) {x1 : Int32} {x2 : Int32} {x3 : Int32} {x4 : Int32} {x5 : Int32} {Rs : Int32 × Mem} (hf : f_X6_use x1 x2 x3 x4 x5 M = some Rs) : gMet l yX6_use cX6_use 9 (some .int) 108 D (xty cI cT cS) 241 (xE cI cT cS) ad [.ref (ad 0), .int x1, .int x2, .int x3, .int x4, .int x5] M (qI D 241 (xE cI cT cS) ad Rs) := gMet_of (by decide) hi (xE_loc cI cT cS) (Nat.le_of_ble_eq_true rfl) (fun p e s m args below meth c ls C hr hq w hl => w_X6_use_0 C hr hq  w hl hf)
def f_X6_failure_0 (M : Mem) : Option (Int32 × Mem) :=
  some ((M 0 7), M)
set_option maxRecDepth 100000 in
set_option maxHeartbeats 4000000 in
theorem w_X6_failure_0 (C : gC p s m args c RX6 cX6_failure 1 D (xty cI cT cS) 241 (xE cI cT cS) ad) (hr : meth.sig.returnType = (some .int)) (hq : meth.locks = false) {Rs : Int32 × Mem}  (w : gWd D 241 (xE cI cT cS) ad M s H locs) (hl : lv_has ls 1 [(0, .ref (ad 0))]) (hf : f_X6_failure_0  M = some Rs) : W p l e (rmH 0) s m args below meth c H locs 0 0 (MQ below (qI D 241 (xE cI cT cS) ad Rs) args s 0 0 (gA 241 ad)) (F0 m 0 ls []) := by
  unfold f_X6_failure_0 at hf
  have hx := C.1.1
  have hb := C.1.2.1
  have hi := C.2.2.2.1
  refine lv_aload_n hx hb dX6_failure_0 rfl (lv_at hl 0 rfl) ?_
  refine gt_X6_136 C w dX6_failure_1 ?_
  exact g_iret C w hr hq hf dX6_failure_4
abbrev f_X6_failure (M : Mem) : Option (Int32 × Mem) := f_X6_failure_0 M
theorem c_X6_failure (hi : gInj 241 ad)  {Rs : Int32 × Mem} (hf : f_X6_failure M = some Rs) : gMet l yX6_failure cX6_failure 1 (some .int) 0 D (xty cI cT cS) 241 (xE cI cT cS) ad [.ref (ad 0)] M (qI D 241 (xE cI cT cS) ad Rs) := gMet_of (by decide) hi (xE_loc cI cT cS) (Nat.le_of_ble_eq_true rfl) (fun p e s m args below meth c ls C hr hq w hl => w_X6_failure_0 C hr hq  w hl hf)
def f_X6_told_0 (x1 : Int32) (x2 : Int32) (x3 : Int32) (M : Mem) : Option (Int32 × Mem) :=
  (f_X6_isSession x1 M).bind fun (v3, M1) =>
  if v3 = 0 then (some ((-101 : Int32), M1)) else ((f_X6_isType x2 M1).bind fun (v7, M5) =>
  if v7 = 0 then (some ((-101 : Int32), M5)) else (if x3 = 0 then ((f_X6_placeOf x1 x2 M5).bind fun (k12, M10) =>
  (ckP (xPb k12)).bind fun u13 =>
  (ldI M10 (k12 + 1) 16 x2).bind fun v15 =>
  some (v15, M10)) else if x3 = 1 then ((ixQ 4 x1).bind fun t18 =>
  (ldI M5 ((13 + 5 * t18) + 4) 16 x2).bind fun v20 =>
  some (v20, M5)) else if x3 = 2 then ((f_X6_countNotZero x1 x2 M5).bind fun (v25, M23) =>
  some (v25, M23)) else (some ((-102 : Int32), M5))))
set_option maxRecDepth 100000 in
set_option maxHeartbeats 4000000 in
theorem w_X6_told_0 (C : gC p s m args c RX6 cX6_told 4 D (xty cI cT cS) 241 (xE cI cT cS) ad) (hr : meth.sig.returnType = (some .int)) (hq : meth.locks = false) {Rs : Int32 × Mem} {x1 : Int32} {x2 : Int32} {x3 : Int32} (w : gWd D 241 (xE cI cT cS) ad M s H locs) (hl : lv_has ls 4 [(0, .ref (ad 0)), (1, .int x1), (2, .int x2), (3, .int x3)]) (hf : f_X6_told_0  x1 x2 x3 M = some Rs) : W p l e (rmH 2) s m args below meth c H locs 0 0 (MQ below (qI D 241 (xE cI cT cS) ad Rs) args s 0 0 (gA 241 ad)) (F0 m 0 ls []) := by
  unfold f_X6_told_0 at hf
  have hx := C.1.1
  have hb := C.1.2.1
  have hi := C.2.2.2.1
  refine lv_iload_n hx hb dX6_told_0 rfl (lv_at hl 1 rfl) ?_
  obtain ⟨⟨v3, M1⟩, e2, hf⟩ := bindS hf
  refine g_backI w (g_runS (rest := []) C w (c_X6_isSession hi  e2) gs_X6_143 md_X6_isSession rfl (by omega) (by decide) hl.1 rfl (Nat.le_of_ble_eq_true rfl) dX6_told_1) (fun H locs w => ?_)
  refine lv_if_eq (tgt := 15) hx hb dX6_told_4 (by decide) (fun c4 => ?_) (fun c4 => ?_)
  · replace hf := (if_pos c4).symm.trans hf
    refine lv_bipush (v := -101) hx hb dX6_told_15 (by decide) ?_
    exact g_iret C w hr hq hf dX6_told_17
  · replace hf := (if_neg c4).symm.trans hf
    refine lv_aload_n hx hb dX6_told_7 rfl (lv_at hl 0 rfl) ?_
    refine lv_iload_n hx hb dX6_told_8 rfl (lv_at hl 2 rfl) ?_
    obtain ⟨⟨v7, M5⟩, e6, hf⟩ := bindS hf
    refine g_backI w (g_runV (rest := []) C w (c_X6_isType hi  e6) ob_X6 rfl gv_X6_68 md_X6_isType rfl (by omega) (by decide) hl.1 rfl (Nat.le_of_ble_eq_true rfl) dX6_told_9) (fun H locs w => ?_)
    refine lv_if_ne (tgt := 18) hx hb dX6_told_12 (by decide) (fun c8 => ?_) (fun c8 => ?_)
    · replace hf := (if_neg c8).symm.trans hf
      refine lv_iload_n hx hb dX6_told_18 rfl (lv_at hl 3 rfl) ?_
      by_cases c9 : x3 = 0
      · replace hf := (if_pos c9).symm.trans hf
        refine lv_tableIn (tgt := 44) hx hb dX6_told_19 (by rw [c9]; decide) (by rw [c9]; decide) (by rw [c9]; rfl) (by decide) ?_
        refine lv_aload_n hx hb dX6_told_44 rfl (lv_at hl 0 rfl) ?_
        refine lv_iload_n hx hb dX6_told_45 rfl (lv_at hl 1 rfl) ?_
        refine lv_iload_n hx hb dX6_told_46 rfl (lv_at hl 2 rfl) ?_
        obtain ⟨⟨k12, M10⟩, e11, hf⟩ := bindS hf
        refine g_backR w (g_runV (rest := []) C w (c_X6_placeOf hi  e11) ob_X6 rfl gv_X6_146 md_X6_placeOf rfl (by omega) (by decide) hl.1 rfl (Nat.le_of_ble_eq_true rfl) dX6_told_47) (fun H locs w => ?_)
        obtain ⟨u13, e14, hf⟩ := bindS hf
        refine gt_X6_150 (xPb_ok e14) C w dX6_told_50 ?_
        refine lv_iload_n hx hb dX6_told_53 rfl (lv_at hl 2 rfl) ?_
        obtain ⟨v15, e16, hf⟩ := bindS hf
        refine g_iald C w (xP_s (xPb_ok e14)) e16 dX6_told_54 ?_
        exact g_iret C w hr hq hf dX6_told_55
      · replace hf := (if_neg c9).symm.trans hf
        by_cases c17 : x3 = 1
        · replace hf := (if_pos c17).symm.trans hf
          refine lv_tableIn (tgt := 56) hx hb dX6_told_19 (by rw [c17]; decide) (by rw [c17]; decide) (by rw [c17]; rfl) (by decide) ?_
          refine lv_aload_n hx hb dX6_told_56 rfl (lv_at hl 0 rfl) ?_
          refine gt_X6_17 C w dX6_told_57 ?_
          refine lv_iload_n hx hb dX6_told_60 rfl (lv_at hl 1 rfl) ?_
          obtain ⟨t18, e19, hf⟩ := bindS hf
          refine g_aald (t0 := 2) C w rf_S rfl e19 dX6_told_61 ?_
          refine gt_X6_153 ⟨t18, ixQ_lt e19, rfl⟩ C w dX6_told_62 ?_
          refine lv_iload_n hx hb dX6_told_65 rfl (lv_at hl 2 rfl) ?_
          obtain ⟨v20, e21, hf⟩ := bindS hf
          refine g_iald C w (xS_g ⟨t18, ixQ_lt e19, rfl⟩) e21 dX6_told_66 ?_
          exact g_iret C w hr hq hf dX6_told_67
        · replace hf := (if_neg c17).symm.trans hf
          by_cases c22 : x3 = 2
          · replace hf := (if_pos c22).symm.trans hf
            refine lv_tableIn (tgt := 68) hx hb dX6_told_19 (by rw [c22]; decide) (by rw [c22]; decide) (by rw [c22]; rfl) (by decide) ?_
            refine lv_aload_n hx hb dX6_told_68 rfl (lv_at hl 0 rfl) ?_
            refine lv_iload_n hx hb dX6_told_69 rfl (lv_at hl 1 rfl) ?_
            refine lv_iload_n hx hb dX6_told_70 rfl (lv_at hl 2 rfl) ?_
            obtain ⟨⟨v25, M23⟩, e24, hf⟩ := bindS hf
            refine g_backI w (g_runV (rest := []) C w (c_X6_countNotZero hi  e24) ob_X6 rfl gv_X6_156 md_X6_countNotZero rfl (by omega) (by decide) hl.1 rfl (Nat.le_of_ble_eq_true rfl) dX6_told_71) (fun H locs w => ?_)
            exact g_iret C w hr hq hf dX6_told_74
          · replace hf := (if_neg c22).symm.trans hf
            refine lv_tableOut (tgt := 75) hx hb dX6_told_19 (by have := lv_neT c9 (show (0 : Int32).toInt = 0 from rfl); have := lv_neT c17 (show (1 : Int32).toInt = 1 from rfl); have := lv_neT c22 (show (2 : Int32).toInt = 2 from rfl); omega) (by decide) ?_
            refine lv_bipush (v := -102) hx hb dX6_told_75 (by decide) ?_
            exact g_iret C w hr hq hf dX6_told_77
    · replace hf := (if_pos c8).symm.trans hf
      refine lv_bipush (v := -101) hx hb dX6_told_15 (by decide) ?_
      exact g_iret C w hr hq hf dX6_told_17
abbrev f_X6_told (x1 : Int32) (x2 : Int32) (x3 : Int32) (M : Mem) : Option (Int32 × Mem) := f_X6_told_0 x1 x2 x3 M
theorem c_X6_told (hi : gInj 241 ad) {x1 : Int32} {x2 : Int32} {x3 : Int32} {Rs : Int32 × Mem} (hf : f_X6_told x1 x2 x3 M = some Rs) : gMet l yX6_told cX6_told 4 (some .int) 2 D (xty cI cT cS) 241 (xE cI cT cS) ad [.ref (ad 0), .int x1, .int x2, .int x3] M (qI D 241 (xE cI cT cS) ad Rs) := gMet_of (by decide) hi (xE_loc cI cT cS) (Nat.le_of_ble_eq_true rfl) (fun p e s m args below meth c ls C hr hq w hl => w_X6_told_0 C hr hq  w hl hf)
def f_X6_peek_0 (x1 : Int32) (x2 : Int32) (x3 : Int32) (M : Mem) : Option (Int32 × Mem) :=
  (f_X6_isSession x1 M).bind fun (v3, M1) =>
  if v3 = 0 then (some ((-101 : Int32), M1)) else ((f_X6_isType x2 M1).bind fun (v7, M5) =>
  if v7 = 0 then (some ((-101 : Int32), M5)) else ((f_X6_isField x3 M5).bind fun (v11, M9) =>
  if v11 = 0 then (some ((-103 : Int32), M9)) else ((ixQ 16 x2).bind fun t13 =>
  (ldI M9 ((33 + 13 * t13) + 7) 5 x3).bind fun v15 =>
  if v15 = (2 : Int32) then ((f_X6_placeOf x1 x2 M9).bind fun (k20, M18) =>
  (ckP (xPb k20)).bind fun u21 =>
  (f_X1_numberOf k20 x2 x3 M18).bind fun (v25, M23) =>
  some (v25, M23)) else (some ((-103 : Int32), M9)))))
set_option maxRecDepth 100000 in
set_option maxHeartbeats 4000000 in
theorem w_X6_peek_0 (C : gC p s m args c RX6 cX6_peek 4 D (xty cI cT cS) 241 (xE cI cT cS) ad) (hr : meth.sig.returnType = (some .int)) (hq : meth.locks = false) {Rs : Int32 × Mem} {x1 : Int32} {x2 : Int32} {x3 : Int32} (w : gWd D 241 (xE cI cT cS) ad M s H locs) (hl : lv_has ls 4 [(0, .ref (ad 0)), (1, .int x1), (2, .int x2), (3, .int x3)]) (hf : f_X6_peek_0  x1 x2 x3 M = some Rs) : W p l e (rmH 2) s m args below meth c H locs 0 0 (MQ below (qI D 241 (xE cI cT cS) ad Rs) args s 0 0 (gA 241 ad)) (F0 m 0 ls []) := by
  unfold f_X6_peek_0 at hf
  have hx := C.1.1
  have hb := C.1.2.1
  have hi := C.2.2.2.1
  refine lv_iload_n hx hb dX6_peek_0 rfl (lv_at hl 1 rfl) ?_
  obtain ⟨⟨v3, M1⟩, e2, hf⟩ := bindS hf
  refine g_backI w (g_runS (rest := []) C w (c_X6_isSession hi  e2) gs_X6_143 md_X6_isSession rfl (by omega) (by decide) hl.1 rfl (Nat.le_of_ble_eq_true rfl) dX6_peek_1) (fun H locs w => ?_)
  refine lv_if_eq (tgt := 15) hx hb dX6_peek_4 (by decide) (fun c4 => ?_) (fun c4 => ?_)
  · replace hf := (if_pos c4).symm.trans hf
    refine lv_bipush (v := -101) hx hb dX6_peek_15 (by decide) ?_
    exact g_iret C w hr hq hf dX6_peek_17
  · replace hf := (if_neg c4).symm.trans hf
    refine lv_aload_n hx hb dX6_peek_7 rfl (lv_at hl 0 rfl) ?_
    refine lv_iload_n hx hb dX6_peek_8 rfl (lv_at hl 2 rfl) ?_
    obtain ⟨⟨v7, M5⟩, e6, hf⟩ := bindS hf
    refine g_backI w (g_runV (rest := []) C w (c_X6_isType hi  e6) ob_X6 rfl gv_X6_68 md_X6_isType rfl (by omega) (by decide) hl.1 rfl (Nat.le_of_ble_eq_true rfl) dX6_peek_9) (fun H locs w => ?_)
    refine lv_if_ne (tgt := 18) hx hb dX6_peek_12 (by decide) (fun c8 => ?_) (fun c8 => ?_)
    · replace hf := (if_neg c8).symm.trans hf
      refine lv_iload_n hx hb dX6_peek_18 rfl (lv_at hl 3 rfl) ?_
      obtain ⟨⟨v11, M9⟩, e10, hf⟩ := bindS hf
      refine g_backI w (g_runS (rest := []) C w (c_X6_isField hi  e10) gs_X6_89 md_X6_isField rfl (by omega) (by decide) hl.1 rfl (Nat.le_of_ble_eq_true rfl) dX6_peek_19) (fun H locs w => ?_)
      refine lv_if_eq (tgt := 40) hx hb dX6_peek_22 (by decide) (fun c12 => ?_) (fun c12 => ?_)
      · replace hf := (if_pos c12).symm.trans hf
        refine lv_bipush (v := -103) hx hb dX6_peek_40 (by decide) ?_
        exact g_iret C w hr hq hf dX6_peek_42
      · replace hf := (if_neg c12).symm.trans hf
        refine lv_aload_n hx hb dX6_peek_25 rfl (lv_at hl 0 rfl) ?_
        refine gt_X6_11 C w dX6_peek_26 ?_
        refine lv_iload_n hx hb dX6_peek_29 rfl (lv_at hl 2 rfl) ?_
        obtain ⟨t13, e14, hf⟩ := bindS hf
        refine g_aald (t0 := 1) C w rf_T rfl e14 dX6_peek_30 ?_
        refine gt_X6_95 ⟨t13, ixQ_lt e14, rfl⟩ C w dX6_peek_31 ?_
        refine lv_iload_n hx hb dX6_peek_34 rfl (lv_at hl 3 rfl) ?_
        obtain ⟨v15, e16, hf⟩ := bindS hf
        refine g_iald C w (xT_a7 ⟨t13, ixQ_lt e14, rfl⟩) e16 dX6_peek_35 ?_
        refine lv_iconst (v := 2) hx hb dX6_peek_36 (by decide) ?_
        refine lv_icmp_eq (tgt := 43) hx hb dX6_peek_37 (by decide) (fun c17 => ?_) (fun c17 => ?_)
        · replace hf := (if_pos c17).symm.trans hf
          refine lv_aload_n hx hb dX6_peek_43 rfl (lv_at hl 0 rfl) ?_
          refine lv_iload_n hx hb dX6_peek_44 rfl (lv_at hl 1 rfl) ?_
          refine lv_iload_n hx hb dX6_peek_45 rfl (lv_at hl 2 rfl) ?_
          obtain ⟨⟨k20, M18⟩, e19, hf⟩ := bindS hf
          refine g_backR w (g_runV (rest := []) C w (c_X6_placeOf hi  e19) ob_X6 rfl gv_X6_146 md_X6_placeOf rfl (by omega) (by decide) hl.1 rfl (Nat.le_of_ble_eq_true rfl) dX6_peek_46) (fun H locs w => ?_)
          obtain ⟨u21, e22, hf⟩ := bindS hf
          refine lv_iload_n hx hb dX6_peek_49 rfl (lv_at hl 2 rfl) ?_
          refine lv_iload_n hx hb dX6_peek_50 rfl (lv_at hl 3 rfl) ?_
          obtain ⟨⟨v25, M23⟩, e24, hf⟩ := bindS hf
          refine g_backI w (g_runV (rest := []) C w (c_X1_numberOf hi (xPb_ok e22) e24) (ob_X1 (xPb_ok e22)) rfl gv_X6_160 md_X1_numberOf rfl (by omega) (by decide) hl.1 rfl (Nat.le_of_ble_eq_true rfl) dX6_peek_51) (fun H locs w => ?_)
          exact g_iret C w hr hq hf dX6_peek_54
        · replace hf := (if_neg c17).symm.trans hf
          refine lv_bipush (v := -103) hx hb dX6_peek_40 (by decide) ?_
          exact g_iret C w hr hq hf dX6_peek_42
    · replace hf := (if_pos c8).symm.trans hf
      refine lv_bipush (v := -101) hx hb dX6_peek_15 (by decide) ?_
      exact g_iret C w hr hq hf dX6_peek_17
abbrev f_X6_peek (x1 : Int32) (x2 : Int32) (x3 : Int32) (M : Mem) : Option (Int32 × Mem) := f_X6_peek_0 x1 x2 x3 M
theorem c_X6_peek (hi : gInj 241 ad) {x1 : Int32} {x2 : Int32} {x3 : Int32} {Rs : Int32 × Mem} (hf : f_X6_peek x1 x2 x3 M = some Rs) : gMet l yX6_peek cX6_peek 4 (some .int) 2 D (xty cI cT cS) 241 (xE cI cT cS) ad [.ref (ad 0), .int x1, .int x2, .int x3] M (qI D 241 (xE cI cT cS) ad Rs) := gMet_of (by decide) hi (xE_loc cI cT cS) (Nat.le_of_ble_eq_true rfl) (fun p e s m args below meth c ls C hr hq w hl => w_X6_peek_0 C hr hq  w hl hf)
def f_X6_start_0 (x1 : Int32) (x2 : Int32) (M : Mem) : Option (Int32 × Mem) :=
  (f_X6_within x1 (0 : Int32) ((M 10 2) - (1 : Int32)) M).bind fun (v3, M1) =>
  if v3 = 0 then (some ((-1 : Int32), M1)) else ((f_X6_within x2 (0 : Int32) (3 : Int32) M1).bind fun (v7, M5) =>
  if v7 = 0 then (some ((-102 : Int32), M5)) else ((ldI M5 11 600 ((x1 * (4 : Int32)) + x2)).bind fun v9 =>
  some (v9, M5)))
set_option maxRecDepth 100000 in
set_option maxHeartbeats 4000000 in
theorem w_X6_start_0 (C : gC p s m args c RX6 cX6_start 3 D (xty cI cT cS) 241 (xE cI cT cS) ad) (hr : meth.sig.returnType = (some .int)) (hq : meth.locks = false) {Rs : Int32 × Mem} {x1 : Int32} {x2 : Int32} (w : gWd D 241 (xE cI cT cS) ad M s H locs) (hl : lv_has ls 3 [(0, .ref (ad 0)), (1, .int x1), (2, .int x2)]) (hf : f_X6_start_0  x1 x2 M = some Rs) : W p l e (rmH 1) s m args below meth c H locs 0 0 (MQ below (qI D 241 (xE cI cT cS) ad Rs) args s 0 0 (gA 241 ad)) (F0 m 0 ls []) := by
  unfold f_X6_start_0 at hf
  have hx := C.1.1
  have hb := C.1.2.1
  have hi := C.2.2.2.1
  refine lv_iload_n hx hb dX6_start_0 rfl (lv_at hl 1 rfl) ?_
  refine lv_iconst (v := 0) hx hb dX6_start_1 (by decide) ?_
  refine lv_aload_n hx hb dX6_start_2 rfl (lv_at hl 0 rfl) ?_
  refine gt_X6_38 C w dX6_start_3 ?_
  refine gt_X6_163 C w dX6_start_6 ?_
  refine lv_iconst (v := 1) hx hb dX6_start_9 (by decide) ?_
  refine lv_isub hx hb dX6_start_10 ?_
  obtain ⟨⟨v3, M1⟩, e2, hf⟩ := bindS hf
  refine g_backI w (g_runS (rest := []) C w (c_X6_within hi  e2) gs_X6_44 md_X6_within rfl (by omega) (by decide) hl.1 rfl (Nat.le_of_ble_eq_true rfl) dX6_start_11) (fun H locs w => ?_)
  refine lv_if_ne (tgt := 19) hx hb dX6_start_14 (by decide) (fun c4 => ?_) (fun c4 => ?_)
  · replace hf := (if_neg c4).symm.trans hf
    refine lv_iload_n hx hb dX6_start_19 rfl (lv_at hl 2 rfl) ?_
    refine lv_iconst (v := 0) hx hb dX6_start_20 (by decide) ?_
    refine lv_iconst (v := 3) hx hb dX6_start_21 (by decide) ?_
    obtain ⟨⟨v7, M5⟩, e6, hf⟩ := bindS hf
    refine g_backI w (g_runS (rest := []) C w (c_X6_within hi  e6) gs_X6_44 md_X6_within rfl (by omega) (by decide) hl.1 rfl (Nat.le_of_ble_eq_true rfl) dX6_start_22) (fun H locs w => ?_)
    refine lv_if_ne (tgt := 31) hx hb dX6_start_25 (by decide) (fun c8 => ?_) (fun c8 => ?_)
    · replace hf := (if_neg c8).symm.trans hf
      refine lv_aload_n hx hb dX6_start_31 rfl (lv_at hl 0 rfl) ?_
      refine gt_X6_38 C w dX6_start_32 ?_
      refine gt_X6_166 C w dX6_start_35 ?_
      refine lv_iload_n hx hb dX6_start_38 rfl (lv_at hl 1 rfl) ?_
      refine lv_iconst (v := 4) hx hb dX6_start_39 (by decide) ?_
      refine lv_imul hx hb dX6_start_40 ?_
      refine lv_iload_n hx hb dX6_start_41 rfl (lv_at hl 2 rfl) ?_
      refine lv_iadd hx hb dX6_start_42 ?_
      obtain ⟨v9, e10, hf⟩ := bindS hf
      refine g_iald C w x_a11 e10 dX6_start_43 ?_
      exact g_iret C w hr hq hf dX6_start_44
    · replace hf := (if_pos c8).symm.trans hf
      refine lv_bipush (v := -102) hx hb dX6_start_28 (by decide) ?_
      exact g_iret C w hr hq hf dX6_start_30
  · replace hf := (if_pos c4).symm.trans hf
    refine lv_iconst (v := -1) hx hb dX6_start_17 (by decide) ?_
    exact g_iret C w hr hq hf dX6_start_18
abbrev f_X6_start (x1 : Int32) (x2 : Int32) (M : Mem) : Option (Int32 × Mem) := f_X6_start_0 x1 x2 M
theorem c_X6_start (hi : gInj 241 ad) {x1 : Int32} {x2 : Int32} {Rs : Int32 × Mem} (hf : f_X6_start x1 x2 M = some Rs) : gMet l yX6_start cX6_start 3 (some .int) 1 D (xty cI cT cS) 241 (xE cI cT cS) ad [.ref (ad 0), .int x1, .int x2] M (qI D 241 (xE cI cT cS) ad Rs) := gMet_of (by decide) hi (xE_loc cI cT cS) (Nat.le_of_ble_eq_true rfl) (fun p e s m args below meth c ls C hr hq w hl => w_X6_start_0 C hr hq  w hl hf)
def f_X6_steps_0 (x1 : Int32) (x2 : Int32) (M : Mem) : Option (Int32 × Mem) :=
  (f_X6_isSession x1 M).bind fun (v3, M1) =>
  if v3 = 0 then (some ((-101 : Int32), M1)) else ((f_X6_within x2 (0 : Int32) (100000 : Int32) M1).bind fun (v7, M5) =>
  if v7 = 0 then (some ((-102 : Int32), M5)) else ((ixQ 4 x1).bind fun t9 =>
  (ixQ 4 x1).bind fun t11 =>
  (stF M5 (13 + 5 * t11) 2 x2).bind fun M13 =>
  some ((M5 (13 + 5 * t9) 2), M13)))
set_option maxRecDepth 100000 in
set_option maxHeartbeats 4000000 in
theorem w_X6_steps_0 (C : gC p s m args c RX6 cX6_steps 4 D (xty cI cT cS) 241 (xE cI cT cS) ad) (hr : meth.sig.returnType = (some .int)) (hq : meth.locks = false) {Rs : Int32 × Mem} {x1 : Int32} {x2 : Int32} (w : gWd D 241 (xE cI cT cS) ad M s H locs) (hl : lv_has ls 4 [(0, .ref (ad 0)), (1, .int x1), (2, .int x2)]) (hf : f_X6_steps_0  x1 x2 M = some Rs) : W p l e (rmH 2) s m args below meth c H locs 0 0 (MQ below (qI D 241 (xE cI cT cS) ad Rs) args s 0 0 (gA 241 ad)) (F0 m 0 ls []) := by
  unfold f_X6_steps_0 at hf
  have hx := C.1.1
  have hb := C.1.2.1
  have hi := C.2.2.2.1
  refine lv_iload_n hx hb dX6_steps_0 rfl (lv_at hl 1 rfl) ?_
  obtain ⟨⟨v3, M1⟩, e2, hf⟩ := bindS hf
  refine g_backI w (g_runS (rest := []) C w (c_X6_isSession hi  e2) gs_X6_143 md_X6_isSession rfl (by omega) (by decide) hl.1 rfl (Nat.le_of_ble_eq_true rfl) dX6_steps_1) (fun H locs w => ?_)
  refine lv_if_ne (tgt := 10) hx hb dX6_steps_4 (by decide) (fun c4 => ?_) (fun c4 => ?_)
  · replace hf := (if_neg c4).symm.trans hf
    refine lv_iload_n hx hb dX6_steps_10 rfl (lv_at hl 2 rfl) ?_
    refine lv_iconst (v := 0) hx hb dX6_steps_11 (by decide) ?_
    refine lv_ldc hx hb C.1.2.2.2.1 (C.1.2.2.2.2 _ kk_X6_182) dX6_steps_12 ?_
    obtain ⟨⟨v7, M5⟩, e6, hf⟩ := bindS hf
    refine g_backI w (g_runS (rest := []) C w (c_X6_within hi  e6) gs_X6_44 md_X6_within rfl (by omega) (by decide) hl.1 rfl (Nat.le_of_ble_eq_true rfl) dX6_steps_14) (fun H locs w => ?_)
    refine lv_if_ne (tgt := 23) hx hb dX6_steps_17 (by decide) (fun c8 => ?_) (fun c8 => ?_)
    · replace hf := (if_neg c8).symm.trans hf
      refine lv_aload_n hx hb dX6_steps_23 rfl (lv_at hl 0 rfl) ?_
      refine gt_X6_17 C w dX6_steps_24 ?_
      refine lv_iload_n hx hb dX6_steps_27 rfl (lv_at hl 1 rfl) ?_
      obtain ⟨t9, e10, hf⟩ := bindS hf
      refine g_aald (t0 := 2) C w rf_S rfl e10 dX6_steps_28 ?_
      refine gt_X6_183 ⟨t9, ixQ_lt e10, rfl⟩ C w dX6_steps_29 ?_
      refine lv_istore_n (lv' := [(3, .int (M5 (13 + 5 * t9) 2)), (0, .ref (ad 0)), (1, .int x1), (2, .int x2)]) hx hb dX6_steps_32 rfl hl (by decide) rfl (fun ls hl => ?_)
      refine lv_aload_n hx hb dX6_steps_33 rfl (lv_at hl 1 rfl) ?_
      refine gt_X6_17 C w dX6_steps_34 ?_
      refine lv_iload_n hx hb dX6_steps_37 rfl (lv_at hl 2 rfl) ?_
      obtain ⟨t11, e12, hf⟩ := bindS hf
      refine g_aald (t0 := 2) C w rf_S rfl e12 dX6_steps_38 ?_
      refine lv_iload_n hx hb dX6_steps_39 rfl (lv_at hl 3 rfl) ?_
      obtain ⟨M13, e14, hf⟩ := bindS hf
      refine pt_X6_183 ⟨t11, ixQ_lt e12, rfl⟩ C w e14 dX6_steps_40 (fun H locs w => ?_)
      refine lv_iload_n hx hb dX6_steps_43 rfl (lv_at hl 0 rfl) ?_
      exact g_iret C w hr hq hf dX6_steps_44
    · replace hf := (if_pos c8).symm.trans hf
      refine lv_bipush (v := -102) hx hb dX6_steps_20 (by decide) ?_
      exact g_iret C w hr hq hf dX6_steps_22
  · replace hf := (if_pos c4).symm.trans hf
    refine lv_bipush (v := -101) hx hb dX6_steps_7 (by decide) ?_
    exact g_iret C w hr hq hf dX6_steps_9
abbrev f_X6_steps (x1 : Int32) (x2 : Int32) (M : Mem) : Option (Int32 × Mem) := f_X6_steps_0 x1 x2 M
theorem c_X6_steps (hi : gInj 241 ad) {x1 : Int32} {x2 : Int32} {Rs : Int32 × Mem} (hf : f_X6_steps x1 x2 M = some Rs) : gMet l yX6_steps cX6_steps 4 (some .int) 2 D (xty cI cT cS) 241 (xE cI cT cS) ad [.ref (ad 0), .int x1, .int x2] M (qI D 241 (xE cI cT cS) ad Rs) := gMet_of (by decide) hi (xE_loc cI cT cS) (Nat.le_of_ble_eq_true rfl) (fun p e s m args below meth c ls C hr hq w hl => w_X6_steps_0 C hr hq  w hl hf)
def f_X6_undo_70 (x3 : Int32) (M : Mem) : Option (Int32 × Mem) :=
  (ldI M 9 512 x3).bind fun v1 =>
  some (v1, M)
def f_X6_undo_0 (x1 : Int32) (M : Mem) : Option (Int32 × Mem) :=
  (f_X6_isSession x1 M).bind fun (v3, M1) =>
  if v3 = 0 then (some ((-101 : Int32), M1)) else ((ixQ 4 x1).bind fun t5 =>
  if (M1 (13 + 5 * t5) 3) = (-1 : Int32) then (some ((-1 : Int32), M1)) else ((ldI M1 7 512 (M1 (13 + 5 * t5) 3)).bind fun v8 =>
  (stF M1 (13 + 5 * t5) 3 v8).bind fun M10 =>
  (ldI M10 8 512 (M1 (13 + 5 * t5) 3)).bind fun v12 =>
  if v12 = (-1 : Int32) then (f_X6_undo_70 (M1 (13 + 5 * t5) 3) M10) else ((ldI M10 ((13 + 5 * t5) + 4) 16 v12).bind fun v15 =>
  (stI M10 ((13 + 5 * t5) + 4) 16 v12 (v15 - (1 : Int32))).bind fun M17 =>
  f_X6_undo_70 (M1 (13 + 5 * t5) 3) M17)))
set_option maxRecDepth 100000 in
set_option maxHeartbeats 4000000 in
theorem w_X6_undo_70 (C : gC p s m args c RX6 cX6_undo 5 D (xty cI cT cS) 241 (xE cI cT cS) ad) (hr : meth.sig.returnType = (some .int)) (hq : meth.locks = false) {Rs : Int32 × Mem} {x3 : Int32} (w : gWd D 241 (xE cI cT cS) ad M s H locs) (hl : lv_has ls 5 [(0, .ref (ad 0)), (3, .int x3)]) (hf : f_X6_undo_70  x3 M = some Rs) : W p l e (rmH 2) s m args below meth c H locs 0 0 (MQ below (qI D 241 (xE cI cT cS) ad Rs) args s 0 0 (gA 241 ad)) (F0 m 70 ls []) := by
  unfold f_X6_undo_70 at hf
  have hx := C.1.1
  have hb := C.1.2.1
  have hi := C.2.2.2.1
  refine lv_aload_n hx hb dX6_undo_70 rfl (lv_at hl 0 rfl) ?_
  refine gt_X6_31 C w dX6_undo_71 ?_
  refine gt_X6_192 C w dX6_undo_74 ?_
  refine lv_iload_n hx hb dX6_undo_77 rfl (lv_at hl 1 rfl) ?_
  obtain ⟨v1, e2, hf⟩ := bindS hf
  refine g_iald C w x_a9 e2 dX6_undo_78 ?_
  exact g_iret C w hr hq hf dX6_undo_79
set_option maxRecDepth 100000 in
set_option maxHeartbeats 4000000 in
theorem w_X6_undo_0 (C : gC p s m args c RX6 cX6_undo 5 D (xty cI cT cS) 241 (xE cI cT cS) ad) (hr : meth.sig.returnType = (some .int)) (hq : meth.locks = false) {Rs : Int32 × Mem} {x1 : Int32} (w : gWd D 241 (xE cI cT cS) ad M s H locs) (hl : lv_has ls 5 [(0, .ref (ad 0)), (1, .int x1)]) (hf : f_X6_undo_0  x1 M = some Rs) : W p l e (rmH 2) s m args below meth c H locs 0 0 (MQ below (qI D 241 (xE cI cT cS) ad Rs) args s 0 0 (gA 241 ad)) (F0 m 0 ls []) := by
  unfold f_X6_undo_0 at hf
  have hx := C.1.1
  have hb := C.1.2.1
  have hi := C.2.2.2.1
  refine lv_iload_n hx hb dX6_undo_0 rfl (lv_at hl 1 rfl) ?_
  obtain ⟨⟨v3, M1⟩, e2, hf⟩ := bindS hf
  refine g_backI w (g_runS (rest := []) C w (c_X6_isSession hi  e2) gs_X6_143 md_X6_isSession rfl (by omega) (by decide) hl.1 rfl (Nat.le_of_ble_eq_true rfl) dX6_undo_1) (fun H locs w => ?_)
  refine lv_if_ne (tgt := 10) hx hb dX6_undo_4 (by decide) (fun c4 => ?_) (fun c4 => ?_)
  · replace hf := (if_neg c4).symm.trans hf
    refine lv_aload_n hx hb dX6_undo_10 rfl (lv_at hl 0 rfl) ?_
    refine gt_X6_17 C w dX6_undo_11 ?_
    refine lv_iload_n hx hb dX6_undo_14 rfl (lv_at hl 1 rfl) ?_
    obtain ⟨t5, e6, hf⟩ := bindS hf
    refine g_aald (t0 := 2) C w rf_S rfl e6 dX6_undo_15 ?_
    refine lv_astore_n (lv' := [(2, .ref (ad (13 + 5 * t5))), (0, .ref (ad 0)), (1, .int x1)]) hx hb dX6_undo_16 rfl hl (by decide) rfl (fun ls hl => ?_)
    refine lv_aload_n hx hb dX6_undo_17 rfl (lv_at hl 0 rfl) ?_
    refine gt_X6_126 ⟨t5, ixQ_lt e6, rfl⟩ C w dX6_undo_18 ?_
    refine lv_istore_n (lv' := [(3, .int (M1 (13 + 5 * t5) 3)), (2, .ref (ad (13 + 5 * t5))), (0, .ref (ad 0)), (1, .int x1)]) hx hb dX6_undo_21 rfl hl (by decide) rfl (fun ls hl => ?_)
    refine lv_iload_n hx hb dX6_undo_22 rfl (lv_at hl 0 rfl) ?_
    refine lv_iconst (v := -1) hx hb dX6_undo_23 (by decide) ?_
    refine lv_icmp_ne (tgt := 29) hx hb dX6_undo_24 (by decide) (fun c7 => ?_) (fun c7 => ?_)
    · replace hf := (if_neg c7).symm.trans hf
      refine lv_aload_n hx hb dX6_undo_29 rfl (lv_at hl 1 rfl) ?_
      refine lv_aload_n hx hb dX6_undo_30 rfl (lv_at hl 2 rfl) ?_
      refine gt_X6_31 C w dX6_undo_31 ?_
      refine gt_X6_186 C w dX6_undo_34 ?_
      refine lv_iload_n hx hb dX6_undo_37 rfl (lv_at hl 0 rfl) ?_
      obtain ⟨v8, e9, hf⟩ := bindS hf
      refine g_iald C w x_a7 e9 dX6_undo_38 ?_
      obtain ⟨M10, e11, hf⟩ := bindS hf
      refine pt_X6_126 ⟨t5, ixQ_lt e6, rfl⟩ C w e11 dX6_undo_39 (fun H locs w => ?_)
      refine lv_aload_n hx hb dX6_undo_42 rfl (lv_at hl 2 rfl) ?_
      refine gt_X6_31 C w dX6_undo_43 ?_
      refine gt_X6_189 C w dX6_undo_46 ?_
      refine lv_iload_n hx hb dX6_undo_49 rfl (lv_at hl 0 rfl) ?_
      obtain ⟨v12, e13, hf⟩ := bindS hf
      refine g_iald C w x_a8 e13 dX6_undo_50 ?_
      refine lv_istore (lv' := [(4, .int v12), (3, .int (M1 (13 + 5 * t5) 3)), (2, .ref (ad (13 + 5 * t5))), (0, .ref (ad 0)), (1, .int x1)]) hx hb dX6_undo_51 hl (by decide) rfl (fun ls hl => ?_)
      refine lv_iload hx hb dX6_undo_53 (lv_at hl 0 rfl) ?_
      refine lv_iconst (v := -1) hx hb dX6_undo_55 (by decide) ?_
      refine lv_icmp_eq (tgt := 70) hx hb dX6_undo_56 (by decide) (fun c14 => ?_) (fun c14 => ?_)
      · replace hf := (if_pos c14).symm.trans hf
        exact w_X6_undo_70 C hr hq w (lv_sub hl [3, 1] rfl) hf
      · replace hf := (if_neg c14).symm.trans hf
        refine lv_aload_n hx hb dX6_undo_59 rfl (lv_at hl 2 rfl) ?_
        refine gt_X6_153 ⟨t5, ixQ_lt e6, rfl⟩ C w dX6_undo_60 ?_
        refine lv_iload hx hb dX6_undo_63 (lv_at hl 0 rfl) ?_
        refine lv_dup2_11 hx hb dX6_undo_65 rfl rfl ?_
        obtain ⟨v15, e16, hf⟩ := bindS hf
        refine g_iald C w (xS_g ⟨t5, ixQ_lt e6, rfl⟩) e16 dX6_undo_66 ?_
        refine lv_iconst (v := 1) hx hb dX6_undo_67 (by decide) ?_
        refine lv_isub hx hb dX6_undo_68 ?_
        obtain ⟨M17, e18, hf⟩ := bindS hf
        refine g_iast C w (xS_g ⟨t5, ixQ_lt e6, rfl⟩) e18 dX6_undo_69 (fun H locs w => ?_)
        exact w_X6_undo_70 C hr hq w (lv_sub hl [3, 1] rfl) hf
    · replace hf := (if_pos c7).symm.trans hf
      refine lv_iconst (v := -1) hx hb dX6_undo_27 (by decide) ?_
      exact g_iret C w hr hq hf dX6_undo_28
  · replace hf := (if_pos c4).symm.trans hf
    refine lv_bipush (v := -101) hx hb dX6_undo_7 (by decide) ?_
    exact g_iret C w hr hq hf dX6_undo_9
abbrev f_X6_undo (x1 : Int32) (M : Mem) : Option (Int32 × Mem) := f_X6_undo_0 x1 M
theorem c_X6_undo (hi : gInj 241 ad) {x1 : Int32} {Rs : Int32 × Mem} (hf : f_X6_undo x1 M = some Rs) : gMet l yX6_undo cX6_undo 5 (some .int) 2 D (xty cI cT cS) 241 (xE cI cT cS) ad [.ref (ad 0), .int x1] M (qI D 241 (xE cI cT cS) ad Rs) := gMet_of (by decide) hi (xE_loc cI cT cS) (Nat.le_of_ble_eq_true rfl) (fun p e s m args below meth c ls C hr hq w hl => w_X6_undo_0 C hr hq  w hl hf)
def f_X6_restart_0 (x1 : Int32) (M : Mem) : Option (Int32 × Mem) :=
  (f_X6_isSession x1 M).bind fun (v3, M1) =>
  if v3 = 0 then (some ((-101 : Int32), M1)) else ((ixQ 4 x1).bind fun t5 =>
  (f_X3_forget (13 + 5 * t5) M1).bind fun (v9, M7) =>
  some (v9, M7))
set_option maxRecDepth 100000 in
set_option maxHeartbeats 4000000 in
theorem w_X6_restart_0 (C : gC p s m args c RX6 cX6_restart 2 D (xty cI cT cS) 241 (xE cI cT cS) ad) (hr : meth.sig.returnType = (some .int)) (hq : meth.locks = false) {Rs : Int32 × Mem} {x1 : Int32} (w : gWd D 241 (xE cI cT cS) ad M s H locs) (hl : lv_has ls 2 [(0, .ref (ad 0)), (1, .int x1)]) (hf : f_X6_restart_0  x1 M = some Rs) : W p l e (rmH 3) s m args below meth c H locs 0 0 (MQ below (qI D 241 (xE cI cT cS) ad Rs) args s 0 0 (gA 241 ad)) (F0 m 0 ls []) := by
  unfold f_X6_restart_0 at hf
  have hx := C.1.1
  have hb := C.1.2.1
  have hi := C.2.2.2.1
  refine lv_iload_n hx hb dX6_restart_0 rfl (lv_at hl 1 rfl) ?_
  obtain ⟨⟨v3, M1⟩, e2, hf⟩ := bindS hf
  refine g_backI w (g_runS (rest := []) C w (c_X6_isSession hi  e2) gs_X6_143 md_X6_isSession rfl (by omega) (by decide) hl.1 rfl (Nat.le_of_ble_eq_true rfl) dX6_restart_1) (fun H locs w => ?_)
  refine lv_if_eq (tgt := 19) hx hb dX6_restart_4 (by decide) (fun c4 => ?_) (fun c4 => ?_)
  · replace hf := (if_pos c4).symm.trans hf
    refine lv_bipush (v := -101) hx hb dX6_restart_19 (by decide) ?_
    exact g_iret C w hr hq hf dX6_restart_21
  · replace hf := (if_neg c4).symm.trans hf
    refine lv_aload_n hx hb dX6_restart_7 rfl (lv_at hl 0 rfl) ?_
    refine gt_X6_17 C w dX6_restart_8 ?_
    refine lv_iload_n hx hb dX6_restart_11 rfl (lv_at hl 1 rfl) ?_
    obtain ⟨t5, e6, hf⟩ := bindS hf
    refine g_aald (t0 := 2) C w rf_S rfl e6 dX6_restart_12 ?_
    obtain ⟨⟨v9, M7⟩, e8, hf⟩ := bindS hf
    refine g_backI w (g_runV (rest := []) C w (c_X3_forget hi ⟨t5, ixQ_lt e6, rfl⟩ e8) (ob_X3 ⟨t5, ixQ_lt e6, rfl⟩) rfl gv_X6_194 md_X3_forget rfl (by omega) (by decide) hl.1 rfl (Nat.le_of_ble_eq_true rfl) dX6_restart_13) (fun H locs w => ?_)
    refine lv_goto (tgt := 21) hx hb dX6_restart_16 (by decide) ?_
    exact g_iret C w hr hq hf dX6_restart_21
abbrev f_X6_restart (x1 : Int32) (M : Mem) : Option (Int32 × Mem) := f_X6_restart_0 x1 M
theorem c_X6_restart (hi : gInj 241 ad) {x1 : Int32} {Rs : Int32 × Mem} (hf : f_X6_restart x1 M = some Rs) : gMet l yX6_restart cX6_restart 2 (some .int) 3 D (xty cI cT cS) 241 (xE cI cT cS) ad [.ref (ad 0), .int x1] M (qI D 241 (xE cI cT cS) ad Rs) := gMet_of (by decide) hi (xE_loc cI cT cS) (Nat.le_of_ble_eq_true rfl) (fun p e s m args below meth c ls C hr hq w hl => w_X6_restart_0 C hr hq  w hl hf)
def f_X6_about_0 (x1 : Int32) (M : Mem) : Option (Int32 × Mem) :=
  if x1 = 0 then (some ((M 0 5), M)) else if x1 = 1 then (some ((M 6 3), M)) else if x1 = 2 then (some ((M 10 2), M)) else if x1 = 3 then (some ((M 10 3), M)) else if x1 = 4 then (some ((M 0 6), M)) else (some ((-102 : Int32), M))
set_option maxRecDepth 100000 in
set_option maxHeartbeats 4000000 in
theorem w_X6_about_0 (C : gC p s m args c RX6 cX6_about 2 D (xty cI cT cS) 241 (xE cI cT cS) ad) (hr : meth.sig.returnType = (some .int)) (hq : meth.locks = false) {Rs : Int32 × Mem} {x1 : Int32} (w : gWd D 241 (xE cI cT cS) ad M s H locs) (hl : lv_has ls 2 [(0, .ref (ad 0)), (1, .int x1)]) (hf : f_X6_about_0  x1 M = some Rs) : W p l e (rmH 0) s m args below meth c H locs 0 0 (MQ below (qI D 241 (xE cI cT cS) ad Rs) args s 0 0 (gA 241 ad)) (F0 m 0 ls []) := by
  unfold f_X6_about_0 at hf
  have hx := C.1.1
  have hb := C.1.2.1
  have hi := C.2.2.2.1
  refine lv_iload_n hx hb dX6_about_0 rfl (lv_at hl 1 rfl) ?_
  by_cases c1 : x1 = 0
  · replace hf := (if_pos c1).symm.trans hf
    refine lv_tableIn (tgt := 36) hx hb dX6_about_1 (by rw [c1]; decide) (by rw [c1]; decide) (by rw [c1]; rfl) (by decide) ?_
    refine lv_aload_n hx hb dX6_about_36 rfl (lv_at hl 0 rfl) ?_
    refine gt_X6_56 C w dX6_about_37 ?_
    exact g_iret C w hr hq hf dX6_about_40
  · replace hf := (if_neg c1).symm.trans hf
    by_cases c2 : x1 = 1
    · replace hf := (if_pos c2).symm.trans hf
      refine lv_tableIn (tgt := 41) hx hb dX6_about_1 (by rw [c2]; decide) (by rw [c2]; decide) (by rw [c2]; rfl) (by decide) ?_
      refine lv_aload_n hx hb dX6_about_41 rfl (lv_at hl 0 rfl) ?_
      refine gt_X6_31 C w dX6_about_42 ?_
      refine gt_X6_198 C w dX6_about_45 ?_
      exact g_iret C w hr hq hf dX6_about_48
    · replace hf := (if_neg c2).symm.trans hf
      by_cases c3 : x1 = 2
      · replace hf := (if_pos c3).symm.trans hf
        refine lv_tableIn (tgt := 49) hx hb dX6_about_1 (by rw [c3]; decide) (by rw [c3]; decide) (by rw [c3]; rfl) (by decide) ?_
        refine lv_aload_n hx hb dX6_about_49 rfl (lv_at hl 0 rfl) ?_
        refine gt_X6_38 C w dX6_about_50 ?_
        refine gt_X6_163 C w dX6_about_53 ?_
        exact g_iret C w hr hq hf dX6_about_56
      · replace hf := (if_neg c3).symm.trans hf
        by_cases c4 : x1 = 3
        · replace hf := (if_pos c4).symm.trans hf
          refine lv_tableIn (tgt := 57) hx hb dX6_about_1 (by rw [c4]; decide) (by rw [c4]; decide) (by rw [c4]; rfl) (by decide) ?_
          refine lv_aload_n hx hb dX6_about_57 rfl (lv_at hl 0 rfl) ?_
          refine gt_X6_38 C w dX6_about_58 ?_
          refine gt_X6_169 C w dX6_about_61 ?_
          exact g_iret C w hr hq hf dX6_about_64
        · replace hf := (if_neg c4).symm.trans hf
          by_cases c5 : x1 = 4
          · replace hf := (if_pos c5).symm.trans hf
            refine lv_tableIn (tgt := 65) hx hb dX6_about_1 (by rw [c5]; decide) (by rw [c5]; decide) (by rw [c5]; rfl) (by decide) ?_
            refine lv_aload_n hx hb dX6_about_65 rfl (lv_at hl 0 rfl) ?_
            refine gt_X6_199 C w dX6_about_66 ?_
            exact g_iret C w hr hq hf dX6_about_69
          · replace hf := (if_neg c5).symm.trans hf
            refine lv_tableOut (tgt := 70) hx hb dX6_about_1 (by have := lv_neT c1 (show (0 : Int32).toInt = 0 from rfl); have := lv_neT c2 (show (1 : Int32).toInt = 1 from rfl); have := lv_neT c3 (show (2 : Int32).toInt = 2 from rfl); have := lv_neT c4 (show (3 : Int32).toInt = 3 from rfl); have := lv_neT c5 (show (4 : Int32).toInt = 4 from rfl); omega) (by decide) ?_
            refine lv_bipush (v := -102) hx hb dX6_about_70 (by decide) ?_
            exact g_iret C w hr hq hf dX6_about_72
abbrev f_X6_about (x1 : Int32) (M : Mem) : Option (Int32 × Mem) := f_X6_about_0 x1 M
theorem c_X6_about (hi : gInj 241 ad) {x1 : Int32} {Rs : Int32 × Mem} (hf : f_X6_about x1 M = some Rs) : gMet l yX6_about cX6_about 2 (some .int) 0 D (xty cI cT cS) 241 (xE cI cT cS) ad [.ref (ad 0), .int x1] M (qI D 241 (xE cI cT cS) ad Rs) := gMet_of (by decide) hi (xE_loc cI cT cS) (Nat.le_of_ble_eq_true rfl) (fun p e s m args below meth c ls C hr hq w hl => w_X6_about_0 C hr hq  w hl hf)
def f_X6_clear_7b (k7_ : (Int32 → Int32 → Mem → Option (Int32 × Mem))) (x1 : Int32) (x2 : Int32) (M : Mem) : Option (Int32 × Mem) :=
  if (4 : Int32) ≤ x2 then ((f_X1_forget 3 M).bind fun (v4, M2) =>
  (stF M2 6 3 (0 : Int32)).bind fun M5 =>
  (stF M5 10 2 (0 : Int32)).bind fun M7 =>
  (stF M7 10 3 (0 : Int32)).bind fun M9 =>
  (stF M9 0 5 (0 : Int32)).bind fun M11 =>
  (stF M11 0 6 (0 : Int32)).bind fun M13 =>
  (stF M13 0 7 (0 : Int32)).bind fun M15 =>
  some (x1, M15)) else ((ixQ 4 x2).bind fun t17 =>
  (f_X3_forget (13 + 5 * t17) M).bind fun (v21, M19) =>
  (ixQ 4 x2).bind fun t22 =>
  (stF M19 (13 + 5 * t22) 2 (1000 : Int32)).bind fun M24 =>
  k7_ x1 (x2 + 1) M24)
def f_X6_clear_7 : Nat → Int32 → Int32 → Mem → Option (Int32 × Mem)
  | 0, _, _, _ => none
  | n + 1, x1, x2, M => f_X6_clear_7b (f_X6_clear_7  n) x1 x2 M
def f_X6_clear_0 (M : Mem) : Option (Int32 × Mem) :=
  f_X6_clear_7 FU (M 0 5) (0 : Int32) M
set_option maxRecDepth 100000 in
set_option maxHeartbeats 4000000 in
theorem w_X6_clear_7b (C : gC p s m args c RX6 cX6_clear 3 D (xty cI cT cS) 241 (xE cI cT cS) ad) (hr : meth.sig.returnType = (some .int)) (hq : meth.locks = false) {k7_ : (Int32 → Int32 → Mem → Option (Int32 × Mem))} {Rs : Int32 × Mem} (hk7_ : ∀ {x1 : Int32} {x2 : Int32} {M : Mem} {H : Heap} {locs : List Loc} {ls : Array Slot}, gWd D 241 (xE cI cT cS) ad M s H locs → lv_has ls 3 [(0, .ref (ad 0)), (1, .int x1), (2, .int x2)] → k7_ x1 x2 M = some Rs → W p l e (rmH 3) s m args below meth c H locs 0 0 (MQ below (qI D 241 (xE cI cT cS) ad Rs) args s 0 0 (gA 241 ad)) (F0 m 7 ls [])) {x1 : Int32} {x2 : Int32} (w : gWd D 241 (xE cI cT cS) ad M s H locs) (hl : lv_has ls 3 [(0, .ref (ad 0)), (1, .int x1), (2, .int x2)]) (hf : f_X6_clear_7b k7_ x1 x2 M = some Rs) : W p l e (rmH 3) s m args below meth c H locs 0 0 (MQ below (qI D 241 (xE cI cT cS) ad Rs) args s 0 0 (gA 241 ad)) (F0 m 7 ls []) := by
  unfold f_X6_clear_7b at hf
  have hx := C.1.1
  have hb := C.1.2.1
  have hi := C.2.2.2.1
  refine lv_iload_n hx hb dX6_clear_7 rfl (lv_at hl 2 rfl) ?_
  refine lv_iconst (v := 4) hx hb dX6_clear_8 (by decide) ?_
  refine lv_icmp_ge (tgt := 40) hx hb dX6_clear_9 (by decide) (fun c1 => ?_) (fun c1 => ?_)
  · replace hf := (if_pos c1).symm.trans hf
    refine lv_aload_n hx hb dX6_clear_40 rfl (lv_at hl 0 rfl) ?_
    refine gt_X6_24 C w dX6_clear_41 ?_
    obtain ⟨⟨v4, M2⟩, e3, hf⟩ := bindS hf
    refine g_backI w (g_runV (rest := []) C w (c_X1_forget hi xP_3 e3) (ob_X1 xP_3) rfl gv_X6_202 md_X1_forget rfl (by omega) (by decide) hl.1 rfl (Nat.le_of_ble_eq_true rfl) dX6_clear_44) (fun H locs w => ?_)
    refine lv_pop hx hb dX6_clear_47 rfl ?_
    refine lv_aload_n hx hb dX6_clear_48 rfl (lv_at hl 0 rfl) ?_
    refine gt_X6_31 C w dX6_clear_49 ?_
    refine lv_iconst (v := 0) hx hb dX6_clear_52 (by decide) ?_
    obtain ⟨M5, e6, hf⟩ := bindS hf
    refine pt_X6_198 C w e6 dX6_clear_53 (fun H locs w => ?_)
    refine lv_aload_n hx hb dX6_clear_56 rfl (lv_at hl 0 rfl) ?_
    refine gt_X6_38 C w dX6_clear_57 ?_
    refine lv_iconst (v := 0) hx hb dX6_clear_60 (by decide) ?_
    obtain ⟨M7, e8, hf⟩ := bindS hf
    refine pt_X6_163 C w e8 dX6_clear_61 (fun H locs w => ?_)
    refine lv_aload_n hx hb dX6_clear_64 rfl (lv_at hl 0 rfl) ?_
    refine gt_X6_38 C w dX6_clear_65 ?_
    refine lv_iconst (v := 0) hx hb dX6_clear_68 (by decide) ?_
    obtain ⟨M9, e10, hf⟩ := bindS hf
    refine pt_X6_169 C w e10 dX6_clear_69 (fun H locs w => ?_)
    refine lv_aload_n hx hb dX6_clear_72 rfl (lv_at hl 0 rfl) ?_
    refine lv_iconst (v := 0) hx hb dX6_clear_73 (by decide) ?_
    obtain ⟨M11, e12, hf⟩ := bindS hf
    refine pt_X6_56 C w e12 dX6_clear_74 (fun H locs w => ?_)
    refine lv_aload_n hx hb dX6_clear_77 rfl (lv_at hl 0 rfl) ?_
    refine lv_iconst (v := 0) hx hb dX6_clear_78 (by decide) ?_
    obtain ⟨M13, e14, hf⟩ := bindS hf
    refine pt_X6_199 C w e14 dX6_clear_79 (fun H locs w => ?_)
    refine lv_aload_n hx hb dX6_clear_82 rfl (lv_at hl 0 rfl) ?_
    refine lv_iconst (v := 0) hx hb dX6_clear_83 (by decide) ?_
    obtain ⟨M15, e16, hf⟩ := bindS hf
    refine pt_X6_136 C w e16 dX6_clear_84 (fun H locs w => ?_)
    refine lv_iload_n hx hb dX6_clear_87 rfl (lv_at hl 1 rfl) ?_
    exact g_iret C w hr hq hf dX6_clear_88
  · replace hf := (if_neg c1).symm.trans hf
    refine lv_aload_n hx hb dX6_clear_12 rfl (lv_at hl 0 rfl) ?_
    refine gt_X6_17 C w dX6_clear_13 ?_
    refine lv_iload_n hx hb dX6_clear_16 rfl (lv_at hl 2 rfl) ?_
    obtain ⟨t17, e18, hf⟩ := bindS hf
    refine g_aald (t0 := 2) C w rf_S rfl e18 dX6_clear_17 ?_
    obtain ⟨⟨v21, M19⟩, e20, hf⟩ := bindS hf
    refine g_backI w (g_runV (rest := []) C w (c_X3_forget hi ⟨t17, ixQ_lt e18, rfl⟩ e20) (ob_X3 ⟨t17, ixQ_lt e18, rfl⟩) rfl gv_X6_194 md_X3_forget rfl (by omega) (by decide) hl.1 rfl (Nat.le_of_ble_eq_true rfl) dX6_clear_18) (fun H locs w => ?_)
    refine lv_pop hx hb dX6_clear_21 rfl ?_
    refine lv_aload_n hx hb dX6_clear_22 rfl (lv_at hl 0 rfl) ?_
    refine gt_X6_17 C w dX6_clear_23 ?_
    refine lv_iload_n hx hb dX6_clear_26 rfl (lv_at hl 2 rfl) ?_
    obtain ⟨t22, e23, hf⟩ := bindS hf
    refine g_aald (t0 := 2) C w rf_S rfl e23 dX6_clear_27 ?_
    refine lv_sipush (v := 1000) hx hb dX6_clear_28 (by decide) ?_
    obtain ⟨M24, e25, hf⟩ := bindS hf
    refine pt_X6_183 ⟨t22, ixQ_lt e23, rfl⟩ C w e25 dX6_clear_31 (fun H locs w => ?_)
    refine lv_iinc (v := (x2 + 1)) (lv' := [(2, .int (x2 + 1)), (0, .ref (ad 0)), (1, .int x1)]) hx hb dX6_clear_34 hl (k := 2) rfl rfl (by decide) rfl (fun ls hl => ?_)
    refine lv_goto (tgt := 7) hx hb dX6_clear_37 (by decide) ?_
    exact hk7_ w (lv_sub hl [1, 2, 0] rfl) hf
theorem w_X6_clear_7 (C : gC p s m args c RX6 cX6_clear 3 D (xty cI cT cS) 241 (xE cI cT cS) ad) (hr : meth.sig.returnType = (some .int)) (hq : meth.locks = false) {Rs : Int32 × Mem} : ∀ (n : Nat) {x1 : Int32} {x2 : Int32} {M : Mem} {H : Heap} {locs : List Loc} {ls : Array Slot}, gWd D 241 (xE cI cT cS) ad M s H locs → lv_has ls 3 [(0, .ref (ad 0)), (1, .int x1), (2, .int x2)] → f_X6_clear_7  n x1 x2 M = some Rs → W p l e (rmH 3) s m args below meth c H locs 0 0 (MQ below (qI D 241 (xE cI cT cS) ad Rs) args s 0 0 (gA 241 ad)) (F0 m 7 ls []) := by
  intro n
  induction n with
  | zero =>
    intro x1 x2 M H locs ls w hl hf
    cases hf
  | succ n ih =>
    intro x1 x2 M H locs ls w hl hf
    exact w_X6_clear_7b C hr hq ih  w hl hf
set_option maxRecDepth 100000 in
set_option maxHeartbeats 4000000 in
theorem w_X6_clear_0 (C : gC p s m args c RX6 cX6_clear 3 D (xty cI cT cS) 241 (xE cI cT cS) ad) (hr : meth.sig.returnType = (some .int)) (hq : meth.locks = false) {Rs : Int32 × Mem}  (w : gWd D 241 (xE cI cT cS) ad M s H locs) (hl : lv_has ls 3 [(0, .ref (ad 0))]) (hf : f_X6_clear_0  M = some Rs) : W p l e (rmH 3) s m args below meth c H locs 0 0 (MQ below (qI D 241 (xE cI cT cS) ad Rs) args s 0 0 (gA 241 ad)) (F0 m 0 ls []) := by
  unfold f_X6_clear_0 at hf
  have hx := C.1.1
  have hb := C.1.2.1
  have hi := C.2.2.2.1
  refine lv_aload_n hx hb dX6_clear_0 rfl (lv_at hl 0 rfl) ?_
  refine gt_X6_56 C w dX6_clear_1 ?_
  refine lv_istore_n (lv' := [(1, .int (M 0 5)), (0, .ref (ad 0))]) hx hb dX6_clear_4 rfl hl (by decide) rfl (fun ls hl => ?_)
  refine lv_iconst (v := 0) hx hb dX6_clear_5 (by decide) ?_
  refine lv_istore_n (lv' := [(2, .int (0 : Int32)), (1, .int (M 0 5)), (0, .ref (ad 0))]) hx hb dX6_clear_6 rfl hl (by decide) rfl (fun ls hl => ?_)
  exact w_X6_clear_7 C hr hq FU w (lv_sub hl [2, 1, 0] rfl) hf
abbrev f_X6_clear (M : Mem) : Option (Int32 × Mem) := f_X6_clear_0 M
theorem c_X6_clear (hi : gInj 241 ad)  {Rs : Int32 × Mem} (hf : f_X6_clear M = some Rs) : gMet l yX6_clear cX6_clear 3 (some .int) 3 D (xty cI cT cS) 241 (xE cI cT cS) ad [.ref (ad 0)] M (qI D 241 (xE cI cT cS) ad Rs) := gMet_of (by decide) hi (xE_loc cI cT cS) (Nat.le_of_ble_eq_true rfl) (fun p e s m args below meth c ls C hr hq w hl => w_X6_clear_0 C hr hq  w hl hf)
end GENX
end
