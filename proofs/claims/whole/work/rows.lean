section
-- ===== PART A: goes FIRST, ahead of the names: the tables' words, and 'selects' of the private methods out of them =====
/-- a private method of a class that the tables say can be made, by its rows of tables_1 -/
def lw_okq (q : MethodName × Nat) : Prop := (q.1.cls ≠ "java/lang/invoke/MethodHandle" ∧ q.1.cls ≠ "java/lang/invoke/VarHandle") ∧ Cond.instantiable q.1.cls q.2 ∈ tables_1 ∧ Cond.privateMethod q.1 ∈ tables_1 ∧ Cond.instanceMethod q.1 ∈ tables_1
theorem lw_p0 : lw_okq (⟨"ExtensionStarts", "isClass", "(I)Z"⟩, 11) := ⟨⟨by decide +kernel, by decide +kernel⟩, List.mem_of_getElem? (i := 17) (by decide +kernel), List.mem_of_getElem? (i := 231) (by decide +kernel), List.mem_of_getElem? (i := 232) (by decide +kernel)⟩
theorem lw_p1 : lw_okq (⟨"ExtensionStarts", "isType", "(I)Z"⟩, 11) := ⟨⟨by decide +kernel, by decide +kernel⟩, List.mem_of_getElem? (i := 17) (by decide +kernel), List.mem_of_getElem? (i := 235) (by decide +kernel), List.mem_of_getElem? (i := 236) (by decide +kernel)⟩
theorem lw_p2 : lw_okq (⟨"ExtensionStarts", "arrange", "(I)V"⟩, 11) := ⟨⟨by decide +kernel, by decide +kernel⟩, List.mem_of_getElem? (i := 17) (by decide +kernel), List.mem_of_getElem? (i := 250) (by decide +kernel), List.mem_of_getElem? (i := 251) (by decide +kernel)⟩
theorem lw_p3 : lw_okq (⟨"ExtensionStarts", "refusalOfUse", "(IIIII)I"⟩, 11) := ⟨⟨by decide +kernel, by decide +kernel⟩, List.mem_of_getElem? (i := 17) (by decide +kernel), List.mem_of_getElem? (i := 301) (by decide +kernel), List.mem_of_getElem? (i := 302) (by decide +kernel)⟩
theorem lw_p4 : lw_okq (⟨"ExtensionStarts", "canBeSet", "(II)Z"⟩, 11) := ⟨⟨by decide +kernel, by decide +kernel⟩, List.mem_of_getElem? (i := 17) (by decide +kernel), List.mem_of_getElem? (i := 308) (by decide +kernel), List.mem_of_getElem? (i := 309) (by decide +kernel)⟩
theorem lw_p5 : lw_okq (⟨"ExtensionStarts", "homeOf", "(II)I"⟩, 11) := ⟨⟨by decide +kernel, by decide +kernel⟩, List.mem_of_getElem? (i := 17) (by decide +kernel), List.mem_of_getElem? (i := 312) (by decide +kernel), List.mem_of_getElem? (i := 313) (by decide +kernel)⟩
theorem lw_p6 : lw_okq (⟨"ExtensionStarts", "perform", "(IIII)I"⟩, 11) := ⟨⟨by decide +kernel, by decide +kernel⟩, List.mem_of_getElem? (i := 17) (by decide +kernel), List.mem_of_getElem? (i := 320) (by decide +kernel), List.mem_of_getElem? (i := 321) (by decide +kernel)⟩
theorem lw_p7 : lw_okq (⟨"ExtensionStarts", "makeAndCount", "(I)I"⟩, 11) := ⟨⟨by decide +kernel, by decide +kernel⟩, List.mem_of_getElem? (i := 17) (by decide +kernel), List.mem_of_getElem? (i := 324) (by decide +kernel), List.mem_of_getElem? (i := 325) (by decide +kernel)⟩
theorem lw_p8 : lw_okq (⟨"ExtensionStarts", "makeThing", "(II)I"⟩, 11) := ⟨⟨by decide +kernel, by decide +kernel⟩, List.mem_of_getElem? (i := 17) (by decide +kernel), List.mem_of_getElem? (i := 328) (by decide +kernel), List.mem_of_getElem? (i := 329) (by decide +kernel)⟩
theorem lw_p9 : lw_okq (⟨"ExtensionStarts", "wake", "(II)I"⟩, 11) := ⟨⟨by decide +kernel, by decide +kernel⟩, List.mem_of_getElem? (i := 17) (by decide +kernel), List.mem_of_getElem? (i := 332) (by decide +kernel), List.mem_of_getElem? (i := 333) (by decide +kernel)⟩
theorem lw_p10 : lw_okq (⟨"ExtensionStarts", "placeOf", "(II)LExtensionStarts$Place;"⟩, 11) := ⟨⟨by decide +kernel, by decide +kernel⟩, List.mem_of_getElem? (i := 17) (by decide +kernel), List.mem_of_getElem? (i := 336) (by decide +kernel), List.mem_of_getElem? (i := 337) (by decide +kernel)⟩
theorem lw_p11 : lw_okq (⟨"ExtensionStarts", "wakeAbove", "(II)I"⟩, 11) := ⟨⟨by decide +kernel, by decide +kernel⟩, List.mem_of_getElem? (i := 17) (by decide +kernel), List.mem_of_getElem? (i := 340) (by decide +kernel), List.mem_of_getElem? (i := 341) (by decide +kernel)⟩
theorem lw_p12 : lw_okq (⟨"ExtensionStarts", "doLines", "(II)I"⟩, 11) := ⟨⟨by decide +kernel, by decide +kernel⟩, List.mem_of_getElem? (i := 17) (by decide +kernel), List.mem_of_getElem? (i := 344) (by decide +kernel), List.mem_of_getElem? (i := 345) (by decide +kernel)⟩
theorem lw_p13 : lw_okq (⟨"ExtensionStarts", "doLine", "(III)I"⟩, 11) := ⟨⟨by decide +kernel, by decide +kernel⟩, List.mem_of_getElem? (i := 17) (by decide +kernel), List.mem_of_getElem? (i := 348) (by decide +kernel), List.mem_of_getElem? (i := 349) (by decide +kernel)⟩
theorem lw_p14 : lw_okq (⟨"ExtensionStarts", "takeSteps", "(I)Z"⟩, 11) := ⟨⟨by decide +kernel, by decide +kernel⟩, List.mem_of_getElem? (i := 17) (by decide +kernel), List.mem_of_getElem? (i := 352) (by decide +kernel), List.mem_of_getElem? (i := 353) (by decide +kernel)⟩
theorem lw_p15 : lw_okq (⟨"ExtensionStarts", "write", "(III)I"⟩, 11) := ⟨⟨by decide +kernel, by decide +kernel⟩, List.mem_of_getElem? (i := 17) (by decide +kernel), List.mem_of_getElem? (i := 356) (by decide +kernel), List.mem_of_getElem? (i := 357) (by decide +kernel)⟩
def lw_privs_1 : List (MethodName × Nat) := [(⟨"ExtensionStarts", "isClass", "(I)Z"⟩, 11), (⟨"ExtensionStarts", "isType", "(I)Z"⟩, 11), (⟨"ExtensionStarts", "arrange", "(I)V"⟩, 11), (⟨"ExtensionStarts", "refusalOfUse", "(IIIII)I"⟩, 11), (⟨"ExtensionStarts", "canBeSet", "(II)Z"⟩, 11), (⟨"ExtensionStarts", "homeOf", "(II)I"⟩, 11), (⟨"ExtensionStarts", "perform", "(IIII)I"⟩, 11), (⟨"ExtensionStarts", "makeAndCount", "(I)I"⟩, 11), (⟨"ExtensionStarts", "makeThing", "(II)I"⟩, 11), (⟨"ExtensionStarts", "wake", "(II)I"⟩, 11), (⟨"ExtensionStarts", "placeOf", "(II)LExtensionStarts$Place;"⟩, 11), (⟨"ExtensionStarts", "wakeAbove", "(II)I"⟩, 11), (⟨"ExtensionStarts", "doLines", "(II)I"⟩, 11), (⟨"ExtensionStarts", "doLine", "(III)I"⟩, 11), (⟨"ExtensionStarts", "takeSteps", "(I)Z"⟩, 11), (⟨"ExtensionStarts", "write", "(III)I"⟩, 11)]
theorem lw_r1 : ∀ q ∈ lw_privs_1, lw_okq q := List.forall_mem_cons.mpr ⟨lw_p0, List.forall_mem_cons.mpr ⟨lw_p1, List.forall_mem_cons.mpr ⟨lw_p2, List.forall_mem_cons.mpr ⟨lw_p3, List.forall_mem_cons.mpr ⟨lw_p4, List.forall_mem_cons.mpr ⟨lw_p5, List.forall_mem_cons.mpr ⟨lw_p6, List.forall_mem_cons.mpr ⟨lw_p7, List.forall_mem_cons.mpr ⟨lw_p8, List.forall_mem_cons.mpr ⟨lw_p9, List.forall_mem_cons.mpr ⟨lw_p10, List.forall_mem_cons.mpr ⟨lw_p11, List.forall_mem_cons.mpr ⟨lw_p12, List.forall_mem_cons.mpr ⟨lw_p13, List.forall_mem_cons.mpr ⟨lw_p14, List.forall_mem_cons.mpr ⟨lw_p15, fun _ h => absurd h List.not_mem_nil⟩⟩⟩⟩⟩⟩⟩⟩⟩⟩⟩⟩⟩⟩⟩⟩
theorem lw_p16 : lw_okq (⟨"ExtensionStarts", "askAndAdd", "(IIIII)I"⟩, 11) := ⟨⟨by decide +kernel, by decide +kernel⟩, List.mem_of_getElem? (i := 17) (by decide +kernel), List.mem_of_getElem? (i := 364) (by decide +kernel), List.mem_of_getElem? (i := 365) (by decide +kernel)⟩
theorem lw_p17 : lw_okq (⟨"ExtensionStarts", "ask", "(III)I"⟩, 11) := ⟨⟨by decide +kernel, by decide +kernel⟩, List.mem_of_getElem? (i := 17) (by decide +kernel), List.mem_of_getElem? (i := 368) (by decide +kernel), List.mem_of_getElem? (i := 369) (by decide +kernel)⟩
theorem lw_p18 : lw_okq (⟨"ExtensionStarts", "askAndSet", "(III)I"⟩, 11) := ⟨⟨by decide +kernel, by decide +kernel⟩, List.mem_of_getElem? (i := 17) (by decide +kernel), List.mem_of_getElem? (i := 384) (by decide +kernel), List.mem_of_getElem? (i := 385) (by decide +kernel)⟩
theorem lw_p19 : lw_okq (⟨"ExtensionStarts", "countNotZero", "(II)I"⟩, 11) := ⟨⟨by decide +kernel, by decide +kernel⟩, List.mem_of_getElem? (i := 17) (by decide +kernel), List.mem_of_getElem? (i := 401) (by decide +kernel), List.mem_of_getElem? (i := 402) (by decide +kernel)⟩
theorem lw_p20 : lw_okq (⟨"java/lang/Throwable", "fillInStackTrace", "(I)Ljava/lang/Throwable;"⟩, 6) := ⟨⟨by decide +kernel, by decide +kernel⟩, List.mem_of_getElem? (i := 476) (by decide +kernel), List.mem_of_getElem? (i := 474) (by decide +kernel), List.mem_of_getElem? (i := 475) (by decide +kernel)⟩
theorem lw_p21 : lw_okq (⟨"ExtensionStartsModel", "begins", "()V"⟩, 41) := ⟨⟨by decide +kernel, by decide +kernel⟩, List.mem_of_getElem? (i := 529) (by decide +kernel), List.mem_of_getElem? (i := 535) (by decide +kernel), List.mem_of_getElem? (i := 536) (by decide +kernel)⟩
theorem lw_p22 : lw_okq (⟨"ExtensionStartsModel", "isType", "(I)Z"⟩, 41) := ⟨⟨by decide +kernel, by decide +kernel⟩, List.mem_of_getElem? (i := 529) (by decide +kernel), List.mem_of_getElem? (i := 675) (by decide +kernel), List.mem_of_getElem? (i := 676) (by decide +kernel)⟩
theorem lw_p23 : lw_okq (⟨"ExtensionStartsModel", "homeOf", "(II)I"⟩, 41) := ⟨⟨by decide +kernel, by decide +kernel⟩, List.mem_of_getElem? (i := 529) (by decide +kernel), List.mem_of_getElem? (i := 701) (by decide +kernel), List.mem_of_getElem? (i := 702) (by decide +kernel)⟩
theorem lw_p24 : lw_okq (⟨"ExtensionStartsModel", "makes", "(II)I"⟩, 41) := ⟨⟨by decide +kernel, by decide +kernel⟩, List.mem_of_getElem? (i := 529) (by decide +kernel), List.mem_of_getElem? (i := 705) (by decide +kernel), List.mem_of_getElem? (i := 706) (by decide +kernel)⟩
theorem lw_p25 : lw_okq (⟨"ExtensionStartsModel", "wakes", "(II)I"⟩, 41) := ⟨⟨by decide +kernel, by decide +kernel⟩, List.mem_of_getElem? (i := 529) (by decide +kernel), List.mem_of_getElem? (i := 709) (by decide +kernel), List.mem_of_getElem? (i := 710) (by decide +kernel)⟩
theorem lw_p26 : lw_okq (⟨"ExtensionStartsModel", "ask", "(II)V"⟩, 41) := ⟨⟨by decide +kernel, by decide +kernel⟩, List.mem_of_getElem? (i := 529) (by decide +kernel), List.mem_of_getElem? (i := 713) (by decide +kernel), List.mem_of_getElem? (i := 714) (by decide +kernel)⟩
theorem lw_p27 : lw_okq (⟨"ExtensionStartsModel", "at", "(II)I"⟩, 41) := ⟨⟨by decide +kernel, by decide +kernel⟩, List.mem_of_getElem? (i := 529) (by decide +kernel), List.mem_of_getElem? (i := 717) (by decide +kernel), List.mem_of_getElem? (i := 718) (by decide +kernel)⟩
theorem lw_p28 : lw_okq (⟨"ExtensionStartsModel", "listFulls", "(I)V"⟩, 41) := ⟨⟨by decide +kernel, by decide +kernel⟩, List.mem_of_getElem? (i := 529) (by decide +kernel), List.mem_of_getElem? (i := 721) (by decide +kernel), List.mem_of_getElem? (i := 722) (by decide +kernel)⟩
theorem lw_p29 : lw_okq (⟨"ExtensionStartsModel", "heard", "(I)V"⟩, 41) := ⟨⟨by decide +kernel, by decide +kernel⟩, List.mem_of_getElem? (i := 529) (by decide +kernel), List.mem_of_getElem? (i := 725) (by decide +kernel), List.mem_of_getElem? (i := 726) (by decide +kernel)⟩
theorem lw_p30 : lw_okq (⟨"ExtensionStartsModel", "write", "(IIII)I"⟩, 41) := ⟨⟨by decide +kernel, by decide +kernel⟩, List.mem_of_getElem? (i := 529) (by decide +kernel), List.mem_of_getElem? (i := 729) (by decide +kernel), List.mem_of_getElem? (i := 730) (by decide +kernel)⟩
theorem lw_p31 : lw_okq (⟨"ExtensionStartsModel", "plain", "(III)I"⟩, 41) := ⟨⟨by decide +kernel, by decide +kernel⟩, List.mem_of_getElem? (i := 529) (by decide +kernel), List.mem_of_getElem? (i := 733) (by decide +kernel), List.mem_of_getElem? (i := 734) (by decide +kernel)⟩
def lw_privs_2 : List (MethodName × Nat) := [(⟨"ExtensionStarts", "askAndAdd", "(IIIII)I"⟩, 11), (⟨"ExtensionStarts", "ask", "(III)I"⟩, 11), (⟨"ExtensionStarts", "askAndSet", "(III)I"⟩, 11), (⟨"ExtensionStarts", "countNotZero", "(II)I"⟩, 11), (⟨"java/lang/Throwable", "fillInStackTrace", "(I)Ljava/lang/Throwable;"⟩, 6), (⟨"ExtensionStartsModel", "begins", "()V"⟩, 41), (⟨"ExtensionStartsModel", "isType", "(I)Z"⟩, 41), (⟨"ExtensionStartsModel", "homeOf", "(II)I"⟩, 41), (⟨"ExtensionStartsModel", "makes", "(II)I"⟩, 41), (⟨"ExtensionStartsModel", "wakes", "(II)I"⟩, 41), (⟨"ExtensionStartsModel", "ask", "(II)V"⟩, 41), (⟨"ExtensionStartsModel", "at", "(II)I"⟩, 41), (⟨"ExtensionStartsModel", "listFulls", "(I)V"⟩, 41), (⟨"ExtensionStartsModel", "heard", "(I)V"⟩, 41), (⟨"ExtensionStartsModel", "write", "(IIII)I"⟩, 41), (⟨"ExtensionStartsModel", "plain", "(III)I"⟩, 41)]
theorem lw_r2 : ∀ q ∈ lw_privs_2, lw_okq q := List.forall_mem_cons.mpr ⟨lw_p16, List.forall_mem_cons.mpr ⟨lw_p17, List.forall_mem_cons.mpr ⟨lw_p18, List.forall_mem_cons.mpr ⟨lw_p19, List.forall_mem_cons.mpr ⟨lw_p20, List.forall_mem_cons.mpr ⟨lw_p21, List.forall_mem_cons.mpr ⟨lw_p22, List.forall_mem_cons.mpr ⟨lw_p23, List.forall_mem_cons.mpr ⟨lw_p24, List.forall_mem_cons.mpr ⟨lw_p25, List.forall_mem_cons.mpr ⟨lw_p26, List.forall_mem_cons.mpr ⟨lw_p27, List.forall_mem_cons.mpr ⟨lw_p28, List.forall_mem_cons.mpr ⟨lw_p29, List.forall_mem_cons.mpr ⟨lw_p30, List.forall_mem_cons.mpr ⟨lw_p31, fun _ h => absurd h List.not_mem_nil⟩⟩⟩⟩⟩⟩⟩⟩⟩⟩⟩⟩⟩⟩⟩⟩
theorem lw_p32 : lw_okq (⟨"ExtensionStartsModel", "end", "(II)V"⟩, 41) := ⟨⟨by decide +kernel, by decide +kernel⟩, List.mem_of_getElem? (i := 529) (by decide +kernel), List.mem_of_getElem? (i := 737) (by decide +kernel), List.mem_of_getElem? (i := 738) (by decide +kernel)⟩
theorem lw_p33 : lw_okq (⟨"ExtensionStartsModel", "goes", "(I)V"⟩, 41) := ⟨⟨by decide +kernel, by decide +kernel⟩, List.mem_of_getElem? (i := 529) (by decide +kernel), List.mem_of_getElem? (i := 741) (by decide +kernel), List.mem_of_getElem? (i := 742) (by decide +kernel)⟩
theorem lw_p34 : lw_okq (⟨"ExtensionStartsModel", "does", "(II)V"⟩, 41) := ⟨⟨by decide +kernel, by decide +kernel⟩, List.mem_of_getElem? (i := 529) (by decide +kernel), List.mem_of_getElem? (i := 745) (by decide +kernel), List.mem_of_getElem? (i := 746) (by decide +kernel)⟩
theorem lw_p35 : lw_okq (⟨"ExtensionStartsModel", "asksFor", "(II)I"⟩, 41) := ⟨⟨by decide +kernel, by decide +kernel⟩, List.mem_of_getElem? (i := 529) (by decide +kernel), List.mem_of_getElem? (i := 749) (by decide +kernel), List.mem_of_getElem? (i := 750) (by decide +kernel)⟩
theorem lw_p36 : lw_okq (⟨"ExtensionStartsModel", "make", "(II)V"⟩, 41) := ⟨⟨by decide +kernel, by decide +kernel⟩, List.mem_of_getElem? (i := 529) (by decide +kernel), List.mem_of_getElem? (i := 753) (by decide +kernel), List.mem_of_getElem? (i := 754) (by decide +kernel)⟩
theorem lw_p37 : lw_okq (⟨"ExtensionStartsModel", "asks", "(III)I"⟩, 41) := ⟨⟨by decide +kernel, by decide +kernel⟩, List.mem_of_getElem? (i := 529) (by decide +kernel), List.mem_of_getElem? (i := 757) (by decide +kernel), List.mem_of_getElem? (i := 758) (by decide +kernel)⟩
def lw_privs_3 : List (MethodName × Nat) := [(⟨"ExtensionStartsModel", "end", "(II)V"⟩, 41), (⟨"ExtensionStartsModel", "goes", "(I)V"⟩, 41), (⟨"ExtensionStartsModel", "does", "(II)V"⟩, 41), (⟨"ExtensionStartsModel", "asksFor", "(II)I"⟩, 41), (⟨"ExtensionStartsModel", "make", "(II)V"⟩, 41), (⟨"ExtensionStartsModel", "asks", "(III)I"⟩, 41)]
theorem lw_r3 : ∀ q ∈ lw_privs_3, lw_okq q := List.forall_mem_cons.mpr ⟨lw_p32, List.forall_mem_cons.mpr ⟨lw_p33, List.forall_mem_cons.mpr ⟨lw_p34, List.forall_mem_cons.mpr ⟨lw_p35, List.forall_mem_cons.mpr ⟨lw_p36, List.forall_mem_cons.mpr ⟨lw_p37, fun _ h => absurd h List.not_mem_nil⟩⟩⟩⟩⟩⟩
def lw_privs : List (MethodName × Nat) := lw_privs_1 ++ (lw_privs_2 ++ (lw_privs_3))
def lw_tbl : List Cond := k2_sels lw_privs ++ tables_1
theorem lw_privs_ok : ∀ q ∈ lw_privs, lw_okq q := by
  show ∀ q ∈ lw_privs_1 ++ (lw_privs_2 ++ (lw_privs_3)), lw_okq q
  exact List.forall_mem_append.mpr ⟨lw_r1, List.forall_mem_append.mpr ⟨lw_r2, lw_r3⟩⟩
def RX0 : String := "ExtensionStarts$Kept"
def TX0 : u_T := fun k => match k with
  | 0 => ("ExtensionStarts$Kept", "starts", "[I", true)
  | 1 => ("ExtensionStarts$Kept", "messages", "[I", true)
  | 2 => ("ExtensionStarts$Kept", "startCount", "I", false)
  | _ => ("ExtensionStarts$Kept", "messageCount", "I", false)
def tyX0 : Nat → FieldType := fun k => match k with
  | 0 => .array .int
  | 1 => .array .int
  | 2 => .int
  | _ => .int
abbrev wsX00 : List Cond := u_ws RX0 TX0 4
theorem nmX0 : ∀ a, a < 4 → ∀ b, b < 4 → a ≠ b → (TX0 a).2.1 ≠ (TX0 b).2.1 := by decide +kernel
theorem tyX0_ok : ∀ k, k < 4 → parseFieldDescriptor (TX0 k).2.2.1 = some (tyX0 k) := by decide +kernel
abbrev cX0_init : ByteArray := prog_2_method_1_code
def yX0_init : MethodName := ⟨RX0, "<init>", "()V"⟩
abbrev cX0_addStart : ByteArray := prog_2_method_2_code
def yX0_addStart : MethodName := ⟨RX0, "addStart", "(IIII)V"⟩
abbrev cX0_addMessage : ByteArray := prog_2_method_3_code
def yX0_addMessage : MethodName := ⟨RX0, "addMessage", "(I)V"⟩
def RX1 : String := "ExtensionStarts$Place"
def TX1 : u_T := fun k => match k with
  | 0 => ("ExtensionStarts$Place", "states", "[I", true)
  | _ => ("ExtensionStarts$Place", "numbers", "[I", true)
def tyX1 : Nat → FieldType := fun k => match k with
  | 0 => .array .int
  | _ => .array .int
abbrev wsX10 : List Cond := u_ws RX1 TX1 2
theorem nmX1 : ∀ a, a < 2 → ∀ b, b < 2 → a ≠ b → (TX1 a).2.1 ≠ (TX1 b).2.1 := by decide +kernel
theorem tyX1_ok : ∀ k, k < 2 → parseFieldDescriptor (TX1 k).2.2.1 = some (tyX1 k) := by decide +kernel
abbrev cX1_init : ByteArray := prog_3_method_1_code
def yX1_init : MethodName := ⟨RX1, "<init>", "()V"⟩
abbrev cX1_numberOf : ByteArray := prog_3_method_2_code
def yX1_numberOf : MethodName := ⟨RX1, "numberOf", "(II)I"⟩
abbrev cX1_setNumber : ByteArray := prog_3_method_3_code
def yX1_setNumber : MethodName := ⟨RX1, "setNumber", "(III)V"⟩
abbrev cX1_forget : ByteArray := prog_3_method_4_code
def yX1_forget : MethodName := ⟨RX1, "forget", "()I"⟩
def RX2 : String := "ExtensionStarts$Row"
def TX2 : u_T := fun k => match k with
  | 0 => ("ExtensionStarts$Row", "items", "[I", true)
  | 1 => ("ExtensionStarts$Row", "count", "I", false)
  | _ => ("ExtensionStarts$Row", "bits", "I", false)
def tyX2 : Nat → FieldType := fun k => match k with
  | 0 => .array .int
  | 1 => .int
  | _ => .int
abbrev wsX20 : List Cond := u_ws RX2 TX2 3
theorem nmX2 : ∀ a, a < 3 → ∀ b, b < 3 → a ≠ b → (TX2 a).2.1 ≠ (TX2 b).2.1 := by decide +kernel
theorem tyX2_ok : ∀ k, k < 3 → parseFieldDescriptor (TX2 k).2.2.1 = some (tyX2 k) := by decide +kernel
abbrev cX2_init : ByteArray := prog_4_method_1_code
def yX2_init : MethodName := ⟨RX2, "<init>", "()V"⟩
abbrev cX2_empty : ByteArray := prog_4_method_2_code
def yX2_empty : MethodName := ⟨RX2, "empty", "()V"⟩
abbrev cX2_has : ByteArray := prog_4_method_3_code
def yX2_has : MethodName := ⟨RX2, "has", "(I)Z"⟩
abbrev cX2_addOnce : ByteArray := prog_4_method_4_code
def yX2_addOnce : MethodName := ⟨RX2, "addOnce", "(I)V"⟩
abbrev cX2_addAllOnce : ByteArray := prog_4_method_5_code
def yX2_addAllOnce : MethodName := ⟨RX2, "addAllOnce", "(LExtensionStarts$Row;)V"⟩
def RX3 : String := "ExtensionStarts$Session"
def TX3 : u_T := fun k => match k with
  | 0 => ("ExtensionStarts$Session", "place", "LExtensionStarts$Place;", true)
  | 1 => ("ExtensionStarts$Session", "things", "[I", true)
  | 2 => ("ExtensionStarts$Session", "stepsLeft", "I", false)
  | _ => ("ExtensionStarts$Session", "latestUse", "I", false)
def tyX3 : Nat → FieldType := fun k => match k with
  | 0 => .object "ExtensionStarts$Place"
  | 1 => .array .int
  | 2 => .int
  | _ => .int
abbrev wsX30 : List Cond := u_ws RX3 TX3 4
theorem nmX3 : ∀ a, a < 4 → ∀ b, b < 4 → a ≠ b → (TX3 a).2.1 ≠ (TX3 b).2.1 := by decide +kernel
theorem tyX3_ok : ∀ k, k < 4 → parseFieldDescriptor (TX3 k).2.2.1 = some (tyX3 k) := by decide +kernel
abbrev cX3_init : ByteArray := prog_5_method_1_code
def yX3_init : MethodName := ⟨RX3, "<init>", "()V"⟩
abbrev cX3_forget : ByteArray := prog_5_method_2_code
def yX3_forget : MethodName := ⟨RX3, "forget", "()I"⟩
def RX4 : String := "ExtensionStarts$Type"
def TX4 : u_T := fun k => match k with
  | 0 => ("ExtensionStarts$Type", "kind", "I", false)
  | 1 => ("ExtensionStarts$Type", "parent", "I", false)
  | 2 => ("ExtensionStarts$Type", "shared", "Z", false)
  | 3 => ("ExtensionStarts$Type", "faces", "LExtensionStarts$Row;", true)
  | 4 => ("ExtensionStarts$Type", "lookedIn", "LExtensionStarts$Row;", true)
  | 5 => ("ExtensionStarts$Type", "fullFaces", "LExtensionStarts$Row;", true)
  | 6 => ("ExtensionStarts$Type", "fieldKinds", "[I", true)
  | 7 => ("ExtensionStarts$Type", "constants", "[I", true)
  | 8 => ("ExtensionStarts$Type", "acts", "[I", true)
  | 9 => ("ExtensionStarts$Type", "as", "[I", true)
  | 10 => ("ExtensionStarts$Type", "bs", "[I", true)
  | 11 => ("ExtensionStarts$Type", "cs", "[I", true)
  | _ => ("ExtensionStarts$Type", "lineCount", "I", false)
def tyX4 : Nat → FieldType := fun k => match k with
  | 0 => .int
  | 1 => .int
  | 2 => .boolean
  | 3 => .object "ExtensionStarts$Row"
  | 4 => .object "ExtensionStarts$Row"
  | 5 => .object "ExtensionStarts$Row"
  | 6 => .array .int
  | 7 => .array .int
  | 8 => .array .int
  | 9 => .array .int
  | 10 => .array .int
  | 11 => .array .int
  | _ => .int
abbrev wsX40 : List Cond := u_ws RX4 TX4 13
theorem nmX4 : ∀ a, a < 13 → ∀ b, b < 13 → a ≠ b → (TX4 a).2.1 ≠ (TX4 b).2.1 := by decide +kernel
theorem tyX4_ok : ∀ k, k < 13 → parseFieldDescriptor (TX4 k).2.2.1 = some (tyX4 k) := by decide +kernel
abbrev cX4_init : ByteArray := prog_6_method_1_code
def yX4_init : MethodName := ⟨RX4, "<init>", "()V"⟩
abbrev cX4_begin : ByteArray := prog_6_method_2_code
def yX4_begin : MethodName := ⟨RX4, "begin", "(IIZ)V"⟩
abbrev cX4_addLine : ByteArray := prog_6_method_3_code
def yX4_addLine : MethodName := ⟨RX4, "addLine", "(IIII)I"⟩
def RX5 : String := "ExtensionStarts$Uses"
def TX5 : u_T := fun k => match k with
  | 0 => ("ExtensionStarts$Uses", "before", "[I", true)
  | 1 => ("ExtensionStarts$Uses", "made", "[I", true)
  | 2 => ("ExtensionStarts$Uses", "writes", "[I", true)
  | _ => ("ExtensionStarts$Uses", "count", "I", false)
def tyX5 : Nat → FieldType := fun k => match k with
  | 0 => .array .int
  | 1 => .array .int
  | 2 => .array .int
  | _ => .int
abbrev wsX50 : List Cond := u_ws RX5 TX5 4
theorem nmX5 : ∀ a, a < 4 → ∀ b, b < 4 → a ≠ b → (TX5 a).2.1 ≠ (TX5 b).2.1 := by decide +kernel
theorem tyX5_ok : ∀ k, k < 4 → parseFieldDescriptor (TX5 k).2.2.1 = some (tyX5 k) := by decide +kernel
abbrev cX5_init : ByteArray := prog_7_method_1_code
def yX5_init : MethodName := ⟨RX5, "<init>", "()V"⟩
abbrev cX5_open : ByteArray := prog_7_method_2_code
def yX5_open : MethodName := ⟨RX5, "open", "(I)I"⟩
abbrev cX5_close : ByteArray := prog_7_method_3_code
def yX5_close : MethodName := ⟨RX5, "close", "(III)V"⟩
def RX6 : String := "ExtensionStarts"
def TX6 : u_T := fun k => match k with
  | 0 => ("ExtensionStarts", "types", "[LExtensionStarts$Type;", true)
  | 1 => ("ExtensionStarts", "sessions", "[LExtensionStarts$Session;", true)
  | 2 => ("ExtensionStarts", "common", "LExtensionStarts$Place;", true)
  | 3 => ("ExtensionStarts", "uses", "LExtensionStarts$Uses;", true)
  | 4 => ("ExtensionStarts", "kept", "LExtensionStarts$Kept;", true)
  | 5 => ("ExtensionStarts", "typeCount", "I", false)
  | 6 => ("ExtensionStarts", "stepsTaken", "I", false)
  | 7 => ("ExtensionStarts", "latestFailure", "I", false)
  | 8 => ("ExtensionStarts", "here", "I", false)
  | 9 => ("ExtensionStarts", "writes", "I", false)
  | _ => ("ExtensionStarts", "answer", "I", false)
def tyX6 : Nat → FieldType := fun k => match k with
  | 0 => .array (.object "ExtensionStarts$Type")
  | 1 => .array (.object "ExtensionStarts$Session")
  | 2 => .object "ExtensionStarts$Place"
  | 3 => .object "ExtensionStarts$Uses"
  | 4 => .object "ExtensionStarts$Kept"
  | 5 => .int
  | 6 => .int
  | 7 => .int
  | 8 => .int
  | 9 => .int
  | _ => .int
abbrev wsX60 : List Cond := u_ws RX6 TX6 11
theorem nmX6 : ∀ a, a < 11 → ∀ b, b < 11 → a ≠ b → (TX6 a).2.1 ≠ (TX6 b).2.1 := by decide +kernel
theorem tyX6_ok : ∀ k, k < 11 → parseFieldDescriptor (TX6 k).2.2.1 = some (tyX6 k) := by decide +kernel
abbrev cX6_init : ByteArray := prog_1_method_1_code
def yX6_init : MethodName := ⟨RX6, "<init>", "()V"⟩
abbrev cX6_type : ByteArray := prog_1_method_2_code
def yX6_type : MethodName := ⟨RX6, "type", "(IIZ)I"⟩
abbrev cX6_face : ByteArray := prog_1_method_3_code
def yX6_face : MethodName := ⟨RX6, "face", "(II)I"⟩
abbrev cX6_field : ByteArray := prog_1_method_4_code
def yX6_field : MethodName := ⟨RX6, "field", "(IIZI)I"⟩
abbrev cX6_line : ByteArray := prog_1_method_5_code
def yX6_line : MethodName := ⟨RX6, "line", "(IIIII)I"⟩
abbrev cX6_use : ByteArray := prog_1_method_6_code
def yX6_use : MethodName := ⟨RX6, "use", "(IIIII)I"⟩
abbrev cX6_failure : ByteArray := prog_1_method_7_code
def yX6_failure : MethodName := ⟨RX6, "failure", "()I"⟩
abbrev cX6_told : ByteArray := prog_1_method_8_code
def yX6_told : MethodName := ⟨RX6, "told", "(III)I"⟩
abbrev cX6_peek : ByteArray := prog_1_method_9_code
def yX6_peek : MethodName := ⟨RX6, "peek", "(III)I"⟩
abbrev cX6_start : ByteArray := prog_1_method_10_code
def yX6_start : MethodName := ⟨RX6, "start", "(II)I"⟩
abbrev cX6_message : ByteArray := prog_1_method_11_code
def yX6_message : MethodName := ⟨RX6, "message", "(I)I"⟩
abbrev cX6_steps : ByteArray := prog_1_method_12_code
def yX6_steps : MethodName := ⟨RX6, "steps", "(II)I"⟩
abbrev cX6_undo : ByteArray := prog_1_method_13_code
def yX6_undo : MethodName := ⟨RX6, "undo", "(I)I"⟩
abbrev cX6_restart : ByteArray := prog_1_method_14_code
def yX6_restart : MethodName := ⟨RX6, "restart", "(I)I"⟩
abbrev cX6_about : ByteArray := prog_1_method_15_code
def yX6_about : MethodName := ⟨RX6, "about", "(I)I"⟩
abbrev cX6_clear : ByteArray := prog_1_method_16_code
def yX6_clear : MethodName := ⟨RX6, "clear", "()I"⟩
abbrev cX6_within : ByteArray := prog_1_method_17_code
def yX6_within : MethodName := ⟨RX6, "within", "(III)Z"⟩
abbrev cX6_isNumber : ByteArray := prog_1_method_18_code
def yX6_isNumber : MethodName := ⟨RX6, "isNumber", "(I)Z"⟩
abbrev cX6_isField : ByteArray := prog_1_method_19_code
def yX6_isField : MethodName := ⟨RX6, "isField", "(I)Z"⟩
abbrev cX6_isSession : ByteArray := prog_1_method_20_code
def yX6_isSession : MethodName := ⟨RX6, "isSession", "(I)Z"⟩
abbrev cX6_isType : ByteArray := prog_1_method_21_code
def yX6_isType : MethodName := ⟨RX6, "isType", "(I)Z"⟩
abbrev cX6_isClass : ByteArray := prog_1_method_22_code
def yX6_isClass : MethodName := ⟨RX6, "isClass", "(I)Z"⟩
abbrev cX6_mayNameType : ByteArray := prog_1_method_23_code
def yX6_mayNameType : MethodName := ⟨RX6, "mayNameType", "(I)Z"⟩
abbrev cX6_isLine : ByteArray := prog_1_method_24_code
def yX6_isLine : MethodName := ⟨RX6, "isLine", "(IIII)Z"⟩
abbrev cX6_refusalOfUse : ByteArray := prog_1_method_25_code
def yX6_refusalOfUse : MethodName := ⟨RX6, "refusalOfUse", "(IIIII)I"⟩
abbrev cX6_canBeSet : ByteArray := prog_1_method_26_code
def yX6_canBeSet : MethodName := ⟨RX6, "canBeSet", "(II)Z"⟩
abbrev cX6_placeOf : ByteArray := prog_1_method_27_code
def yX6_placeOf : MethodName := ⟨RX6, "placeOf", "(II)LExtensionStarts$Place;"⟩
abbrev cX6_countNotZero : ByteArray := prog_1_method_28_code
def yX6_countNotZero : MethodName := ⟨RX6, "countNotZero", "(II)I"⟩
abbrev cX6_arrange : ByteArray := prog_1_method_29_code
def yX6_arrange : MethodName := ⟨RX6, "arrange", "(I)V"⟩
abbrev cX6_homeOf : ByteArray := prog_1_method_30_code
def yX6_homeOf : MethodName := ⟨RX6, "homeOf", "(II)I"⟩
abbrev cX6_perform : ByteArray := prog_1_method_31_code
def yX6_perform : MethodName := ⟨RX6, "perform", "(IIII)I"⟩
abbrev cX6_makeAndCount : ByteArray := prog_1_method_32_code
def yX6_makeAndCount : MethodName := ⟨RX6, "makeAndCount", "(I)I"⟩
abbrev cX6_askAndSet : ByteArray := prog_1_method_33_code
def yX6_askAndSet : MethodName := ⟨RX6, "askAndSet", "(III)I"⟩
abbrev cX6_makeThing : ByteArray := prog_1_method_34_code
def yX6_makeThing : MethodName := ⟨RX6, "makeThing", "(II)I"⟩
abbrev cX6_ask : ByteArray := prog_1_method_35_code
def yX6_ask : MethodName := ⟨RX6, "ask", "(III)I"⟩
abbrev cX6_write : ByteArray := prog_1_method_36_code
def yX6_write : MethodName := ⟨RX6, "write", "(III)I"⟩
abbrev cX6_wake : ByteArray := prog_1_method_37_code
def yX6_wake : MethodName := ⟨RX6, "wake", "(II)I"⟩
abbrev cX6_wakeAbove : ByteArray := prog_1_method_38_code
def yX6_wakeAbove : MethodName := ⟨RX6, "wakeAbove", "(II)I"⟩
abbrev cX6_doLines : ByteArray := prog_1_method_39_code
def yX6_doLines : MethodName := ⟨RX6, "doLines", "(II)I"⟩
abbrev cX6_doLine : ByteArray := prog_1_method_40_code
def yX6_doLine : MethodName := ⟨RX6, "doLine", "(III)I"⟩
abbrev cX6_askAndAdd : ByteArray := prog_1_method_41_code
def yX6_askAndAdd : MethodName := ⟨RX6, "askAndAdd", "(IIIII)I"⟩
abbrev cX6_takeSteps : ByteArray := prog_1_method_42_code
def yX6_takeSteps : MethodName := ⟨RX6, "takeSteps", "(I)Z"⟩
def RX7 : String := "ExtensionStartsModel"
def TX7 : u_T := fun k => match k with
  | 0 => ("ExtensionStartsModel", "thrown", "I", false)
  | 1 => ("ExtensionStartsModel", "types", "I", false)
  | 2 => ("ExtensionStartsModel", "kindOf", "[I", true)
  | 3 => ("ExtensionStartsModel", "parentOf", "[I", true)
  | 4 => ("ExtensionStartsModel", "isShared", "[Z", true)
  | 5 => ("ExtensionStartsModel", "faces", "[I", true)
  | 6 => ("ExtensionStartsModel", "faceOf", "[I", true)
  | 7 => ("ExtensionStartsModel", "fieldSort", "[I", true)
  | 8 => ("ExtensionStartsModel", "constantOf", "[I", true)
  | 9 => ("ExtensionStartsModel", "lines", "[I", true)
  | 10 => ("ExtensionStartsModel", "lineOf", "[I", true)
  | 11 => ("ExtensionStartsModel", "stateOf", "[I", true)
  | 12 => ("ExtensionStartsModel", "numberOf", "[I", true)
  | 13 => ("ExtensionStartsModel", "thingsOf", "[I", true)
  | 14 => ("ExtensionStartsModel", "left", "[I", true)
  | 15 => ("ExtensionStartsModel", "failure", "I", false)
  | 16 => ("ExtensionStartsModel", "uses", "I", false)
  | 17 => ("ExtensionStartsModel", "starts", "I", false)
  | 18 => ("ExtensionStartsModel", "startOf", "[I", true)
  | 19 => ("ExtensionStartsModel", "messages", "I", false)
  | 20 => ("ExtensionStartsModel", "messageOf", "[I", true)
  | 21 => ("ExtensionStartsModel", "taken", "I", false)
  | 22 => ("ExtensionStartsModel", "undos", "[I", true)
  | 23 => ("ExtensionStartsModel", "madeOf", "[I", true)
  | 24 => ("ExtensionStartsModel", "writesOf", "[I", true)
  | 25 => ("ExtensionStartsModel", "writes", "I", false)
  | 26 => ("ExtensionStartsModel", "depth", "I", false)
  | 27 => ("ExtensionStartsModel", "waking", "[I", true)
  | 28 => ("ExtensionStartsModel", "place", "[I", true)
  | 29 => ("ExtensionStartsModel", "waits", "[I", true)
  | 30 => ("ExtensionStartsModel", "lineAt", "[I", true)
  | 31 => ("ExtensionStartsModel", "homeAt", "[I", true)
  | 32 => ("ExtensionStartsModel", "fulls", "[I", true)
  | 33 => ("ExtensionStartsModel", "fullMany", "[I", true)
  | 34 => ("ExtensionStartsModel", "isAnswered", "Z", false)
  | 35 => ("ExtensionStartsModel", "answer", "I", false)
  | 36 => ("ExtensionStartsModel", "seen", "[Z", true)
  | 37 => ("ExtensionStartsModel", "path", "[I", true)
  | 38 => ("ExtensionStartsModel", "next", "[I", true)
  | 39 => ("ExtensionStartsModel", "asked", "I", false)
  | _ => ("ExtensionStartsModel", "wanted", "[I", true)
def tyX7 : Nat → FieldType := fun k => match k with
  | 0 => .int
  | 1 => .int
  | 2 => .array .int
  | 3 => .array .int
  | 4 => .array .boolean
  | 5 => .array .int
  | 6 => .array .int
  | 7 => .array .int
  | 8 => .array .int
  | 9 => .array .int
  | 10 => .array .int
  | 11 => .array .int
  | 12 => .array .int
  | 13 => .array .int
  | 14 => .array .int
  | 15 => .int
  | 16 => .int
  | 17 => .int
  | 18 => .array .int
  | 19 => .int
  | 20 => .array .int
  | 21 => .int
  | 22 => .array .int
  | 23 => .array .int
  | 24 => .array .int
  | 25 => .int
  | 26 => .int
  | 27 => .array .int
  | 28 => .array .int
  | 29 => .array .int
  | 30 => .array .int
  | 31 => .array .int
  | 32 => .array .int
  | 33 => .array .int
  | 34 => .boolean
  | 35 => .int
  | 36 => .array .boolean
  | 37 => .array .int
  | 38 => .array .int
  | 39 => .int
  | _ => .array .int
abbrev wsX70 : List Cond := u_ws RX7 TX7 41
theorem nmX7 : ∀ a, a < 41 → ∀ b, b < 41 → a ≠ b → (TX7 a).2.1 ≠ (TX7 b).2.1 := by decide +kernel
theorem tyX7_ok : ∀ k, k < 41 → parseFieldDescriptor (TX7 k).2.2.1 = some (tyX7 k) := by decide +kernel
abbrev cX7_init : ByteArray := prog_9_method_1_code
def yX7_init : MethodName := ⟨RX7, "<init>", "()V"⟩
abbrev cX7_begins : ByteArray := prog_9_method_2_code
def yX7_begins : MethodName := ⟨RX7, "begins", "()V"⟩
abbrev cX7_thrown : ByteArray := prog_9_method_3_code
def yX7_thrown : MethodName := ⟨RX7, "thrown", "()I"⟩
abbrev cX7_in : ByteArray := prog_9_method_4_code
def yX7_in : MethodName := ⟨RX7, "in", "(III)Z"⟩
abbrev cX7_isType : ByteArray := prog_9_method_5_code
def yX7_isType : MethodName := ⟨RX7, "isType", "(I)Z"⟩
abbrev cX7_isSession : ByteArray := prog_9_method_6_code
def yX7_isSession : MethodName := ⟨RX7, "isSession", "(I)Z"⟩
abbrev cX7_type : ByteArray := prog_9_method_7_code
def yX7_type : MethodName := ⟨RX7, "type", "(IIZ)I"⟩
abbrev cX7_face : ByteArray := prog_9_method_8_code
def yX7_face : MethodName := ⟨RX7, "face", "(II)I"⟩
abbrev cX7_field : ByteArray := prog_9_method_9_code
def yX7_field : MethodName := ⟨RX7, "field", "(IIZI)I"⟩
abbrev cX7_isLine : ByteArray := prog_9_method_10_code
def yX7_isLine : MethodName := ⟨RX7, "isLine", "(IIII)Z"⟩
abbrev cX7_line : ByteArray := prog_9_method_11_code
def yX7_line : MethodName := ⟨RX7, "line", "(IIIII)I"⟩
abbrev cX7_at : ByteArray := prog_9_method_12_code
def yX7_at : MethodName := ⟨RX7, "at", "(II)I"⟩
abbrev cX7_wakes : ByteArray := prog_9_method_13_code
def yX7_wakes : MethodName := ⟨RX7, "wakes", "(II)I"⟩
abbrev cX7_ask : ByteArray := prog_9_method_14_code
def yX7_ask : MethodName := ⟨RX7, "ask", "(II)V"⟩
abbrev cX7_listFulls : ByteArray := prog_9_method_15_code
def yX7_listFulls : MethodName := ⟨RX7, "listFulls", "(I)V"⟩
abbrev cX7_end : ByteArray := prog_9_method_16_code
def yX7_end : MethodName := ⟨RX7, "end", "(II)V"⟩
abbrev cX7_heard : ByteArray := prog_9_method_17_code
def yX7_heard : MethodName := ⟨RX7, "heard", "(I)V"⟩
abbrev cX7_goes : ByteArray := prog_9_method_18_code
def yX7_goes : MethodName := ⟨RX7, "goes", "(I)V"⟩
abbrev cX7_does : ByteArray := prog_9_method_19_code
def yX7_does : MethodName := ⟨RX7, "does", "(II)V"⟩
abbrev cX7_make : ByteArray := prog_9_method_20_code
def yX7_make : MethodName := ⟨RX7, "make", "(II)V"⟩
abbrev cX7_asksFor : ByteArray := prog_9_method_21_code
def yX7_asksFor : MethodName := ⟨RX7, "asksFor", "(II)I"⟩
abbrev cX7_plain : ByteArray := prog_9_method_22_code
def yX7_plain : MethodName := ⟨RX7, "plain", "(III)I"⟩
abbrev cX7_write : ByteArray := prog_9_method_23_code
def yX7_write : MethodName := ⟨RX7, "write", "(IIII)I"⟩
abbrev cX7_makes : ByteArray := prog_9_method_24_code
def yX7_makes : MethodName := ⟨RX7, "makes", "(II)I"⟩
abbrev cX7_asks : ByteArray := prog_9_method_25_code
def yX7_asks : MethodName := ⟨RX7, "asks", "(III)I"⟩
abbrev cX7_homeOf : ByteArray := prog_9_method_26_code
def yX7_homeOf : MethodName := ⟨RX7, "homeOf", "(II)I"⟩
abbrev cX7_use : ByteArray := prog_9_method_27_code
def yX7_use : MethodName := ⟨RX7, "use", "(IIIII)I"⟩
abbrev cX7_failure : ByteArray := prog_9_method_28_code
def yX7_failure : MethodName := ⟨RX7, "failure", "()I"⟩
abbrev cX7_told : ByteArray := prog_9_method_29_code
def yX7_told : MethodName := ⟨RX7, "told", "(III)I"⟩
abbrev cX7_peek : ByteArray := prog_9_method_30_code
def yX7_peek : MethodName := ⟨RX7, "peek", "(III)I"⟩
abbrev cX7_start : ByteArray := prog_9_method_31_code
def yX7_start : MethodName := ⟨RX7, "start", "(II)I"⟩
abbrev cX7_message : ByteArray := prog_9_method_32_code
def yX7_message : MethodName := ⟨RX7, "message", "(I)I"⟩
abbrev cX7_steps : ByteArray := prog_9_method_33_code
def yX7_steps : MethodName := ⟨RX7, "steps", "(II)I"⟩
abbrev cX7_undo : ByteArray := prog_9_method_34_code
def yX7_undo : MethodName := ⟨RX7, "undo", "(I)I"⟩
abbrev cX7_restart : ByteArray := prog_9_method_35_code
def yX7_restart : MethodName := ⟨RX7, "restart", "(I)I"⟩
abbrev cX7_about : ByteArray := prog_9_method_36_code
def yX7_about : MethodName := ⟨RX7, "about", "(I)I"⟩
abbrev cX7_clear : ByteArray := prog_9_method_37_code
def yX7_clear : MethodName := ⟨RX7, "clear", "()I"⟩
def RJx00060 : String := "java/lang/ArrayIndexOutOfBoundsException"
def TJx00060 : u_T := fun k => match k with
  | 0 => ("java/lang/Throwable", "backtrace", "Ljava/lang/Object;", false)
  | 1 => ("java/lang/Throwable", "detailMessage", "Ljava/lang/String;", false)
  | 2 => ("java/lang/Throwable", "cause", "Ljava/lang/Throwable;", false)
  | 3 => ("java/lang/Throwable", "stackTrace", "[Ljava/lang/StackTraceElement;", false)
  | 4 => ("java/lang/Throwable", "depth", "I", false)
  | _ => ("java/lang/Throwable", "suppressedExceptions", "Ljava/util/List;", false)
def tyJx00060 : Nat → FieldType := fun k => match k with
  | 0 => .object "java/lang/Object"
  | 1 => .object "java/lang/String"
  | 2 => .object "java/lang/Throwable"
  | 3 => .array (.object "java/lang/StackTraceElement")
  | 4 => .int
  | _ => .object "java/util/List"
abbrev wsJx000600 : List Cond := u_ws RJx00060 TJx00060 6
theorem nmJx00060 : ∀ a, a < 6 → ∀ b, b < 6 → a ≠ b → (TJx00060 a).2.1 ≠ (TJx00060 b).2.1 := by decide +kernel
theorem tyJx00060_ok : ∀ k, k < 6 → parseFieldDescriptor (TJx00060 k).2.2.1 = some (tyJx00060 k) := by decide +kernel
abbrev cJx00060_init_a7421 : ByteArray := prog_10_method_2_code
def yJx00060_init_a7421 : MethodName := ⟨RJx00060, "<init>", "(Ljava/lang/String;)V"⟩
def RJ0 : String := "java/lang/String"
def TJ0 : u_T := fun k => match k with
  | 0 => ("java/lang/String", "value", "[B", true)
  | _ => ("java/lang/String", "coder", "B", true)
def tyJ0 : Nat → FieldType := fun k => match k with
  | 0 => .array .byte
  | _ => .byte
abbrev wsJ00 : List Cond := u_ws RJ0 TJ0 2
theorem nmJ0 : ∀ a, a < 2 → ∀ b, b < 2 → a ≠ b → (TJ0 a).2.1 ≠ (TJ0 b).2.1 := by decide +kernel
theorem tyJ0_ok : ∀ k, k < 2 → parseFieldDescriptor (TJ0 k).2.2.1 = some (tyJ0 k) := by decide +kernel
def RJ7 : String := "java/util/Arrays"
def TJ7 : u_T := fun k => match k with
  | _ => ("", "", "", false)
def tyJ7 : Nat → FieldType := fun k => match k with
  | _ => .int
abbrev wsJ70 : List Cond := u_ws RJ7 TJ7 0
theorem nmJ7 : ∀ a, a < 0 → ∀ b, b < 0 → a ≠ b → (TJ7 a).2.1 ≠ (TJ7 b).2.1 := by decide +kernel
theorem tyJ7_ok : ∀ k, k < 0 → parseFieldDescriptor (TJ7 k).2.2.1 = some (tyJ7 k) := by decide +kernel
abbrev cJ7_fill_53178 : ByteArray := prog_16_method_103_code
def yJ7_fill_53178 : MethodName := ⟨RJ7, "fill", "([II)V"⟩
def RL : String := "ExtensionStartsLaw"
abbrev cL_message : ByteArray := method_3_code
def yL_message : MethodName := ⟨RL, "message", "(LExtensionStarts;I[J)I"⟩
abbrev cL_law : ByteArray := code
def yL_law : MethodName := ⟨RL, "law", "([I)Z"⟩
abbrev vwCl : List vw_C := [(RJ0, TJ0, 2), (RJx00060, TJx00060, 6), (RX0, TX0, 4), (RX1, TX1, 2), (RX2, TX2, 3), (RX3, TX3, 4), (RX4, TX4, 13), (RX5, TX5, 4), (RX6, TX6, 11), (RX7, TX7, 41)]
/-- the words that a callee may take from its caller -/
def gW : List Cond := lw_tbl.filter goodWord
theorem gw_in {w : Cond} (i : Nat) (h : lw_tbl[i]? = some w) (hg : goodWord w = true) : w ∈ gW := List.mem_filter.mpr ⟨List.mem_of_getElem? h, hg⟩
theorem gw_ins {ws : List Cond} (ps : List Nat) (h : ws = ps.filterMap (fun i => lw_tbl[i]?)) (hg : ws.all goodWord = true) : ∀ w ∈ ws, w ∈ gW := by
  intro w hw
  have h1 := List.all_eq_true.mp hg w hw
  rw [h] at hw
  obtain ⟨i, -, hi⟩ := List.mem_filterMap.mp hw
  exact gw_in i hi h1
theorem gw_good : ∀ w ∈ gW, (w.onTables && w.keeps) = true ∨ ∃ ty, w = .arrayClass ty := fun w h => good_of_word (List.mem_filter.mp h).2
theorem gw_tbl : ∀ w ∈ gW, w ∈ lw_tbl := fun w h => (List.mem_filter.mp h).1
end
section
theorem dX0_init_0 : decode cX0_init 0 = .ok (.aload_n 0, 1) := by decide +kernel
theorem dX0_init_1 : decode cX0_init 1 = .ok (.invokespecial 3, 3) := by decide +kernel
theorem dX0_init_4 : decode cX0_init 4 = .ok (.aload_n 0, 1) := by decide +kernel
theorem dX0_init_5 : decode cX0_init 5 = .ok (.sipush 600, 3) := by decide +kernel
theorem dX0_init_8 : decode cX0_init 8 = .ok (.newarray .int, 2) := by decide +kernel
theorem dX0_init_10 : decode cX0_init 10 = .ok (.putfield 11, 3) := by decide +kernel
theorem dX0_init_13 : decode cX0_init 13 = .ok (.aload_n 0, 1) := by decide +kernel
theorem dX0_init_14 : decode cX0_init 14 = .ok (.bipush 100, 2) := by decide +kernel
theorem dX0_init_16 : decode cX0_init 16 = .ok (.newarray .int, 2) := by decide +kernel
theorem dX0_init_18 : decode cX0_init 18 = .ok (.putfield 15, 3) := by decide +kernel
theorem dX0_init_21 : decode cX0_init 21 = .ok (.return_, 1) := by decide +kernel
theorem dX0_addStart_0 : decode cX0_addStart 0 = .ok (.aload_n 0, 1) := by decide +kernel
theorem dX0_addStart_1 : decode cX0_addStart 1 = .ok (.getfield 18, 3) := by decide +kernel
theorem dX0_addStart_4 : decode cX0_addStart 4 = .ok (.sipush 150, 3) := by decide +kernel
theorem dX0_addStart_7 : decode cX0_addStart 7 = .ok (.if_icmp .lt 4, 3) := by decide +kernel
theorem dX0_addStart_10 : decode cX0_addStart 10 = .ok (.return_, 1) := by decide +kernel
theorem dX0_addStart_11 : decode cX0_addStart 11 = .ok (.aload_n 0, 1) := by decide +kernel
theorem dX0_addStart_12 : decode cX0_addStart 12 = .ok (.getfield 18, 3) := by decide +kernel
theorem dX0_addStart_15 : decode cX0_addStart 15 = .ok (.iconst 4, 1) := by decide +kernel
theorem dX0_addStart_16 : decode cX0_addStart 16 = .ok (.imul, 1) := by decide +kernel
theorem dX0_addStart_17 : decode cX0_addStart 17 = .ok (.istore 5, 2) := by decide +kernel
theorem dX0_addStart_19 : decode cX0_addStart 19 = .ok (.aload_n 0, 1) := by decide +kernel
theorem dX0_addStart_20 : decode cX0_addStart 20 = .ok (.getfield 11, 3) := by decide +kernel
theorem dX0_addStart_23 : decode cX0_addStart 23 = .ok (.iload 5, 2) := by decide +kernel
theorem dX0_addStart_25 : decode cX0_addStart 25 = .ok (.iload_n 1, 1) := by decide +kernel
theorem dX0_addStart_26 : decode cX0_addStart 26 = .ok (.iastore, 1) := by decide +kernel
theorem dX0_addStart_27 : decode cX0_addStart 27 = .ok (.aload_n 0, 1) := by decide +kernel
theorem dX0_addStart_28 : decode cX0_addStart 28 = .ok (.getfield 11, 3) := by decide +kernel
theorem dX0_addStart_31 : decode cX0_addStart 31 = .ok (.iload 5, 2) := by decide +kernel
theorem dX0_addStart_33 : decode cX0_addStart 33 = .ok (.iconst 1, 1) := by decide +kernel
theorem dX0_addStart_34 : decode cX0_addStart 34 = .ok (.iadd, 1) := by decide +kernel
theorem dX0_addStart_35 : decode cX0_addStart 35 = .ok (.iload_n 2, 1) := by decide +kernel
theorem dX0_addStart_36 : decode cX0_addStart 36 = .ok (.iastore, 1) := by decide +kernel
theorem dX0_addStart_37 : decode cX0_addStart 37 = .ok (.aload_n 0, 1) := by decide +kernel
theorem dX0_addStart_38 : decode cX0_addStart 38 = .ok (.getfield 11, 3) := by decide +kernel
theorem dX0_addStart_41 : decode cX0_addStart 41 = .ok (.iload 5, 2) := by decide +kernel
theorem dX0_addStart_43 : decode cX0_addStart 43 = .ok (.iconst 2, 1) := by decide +kernel
theorem dX0_addStart_44 : decode cX0_addStart 44 = .ok (.iadd, 1) := by decide +kernel
theorem dX0_addStart_45 : decode cX0_addStart 45 = .ok (.iload_n 3, 1) := by decide +kernel
theorem dX0_addStart_46 : decode cX0_addStart 46 = .ok (.iastore, 1) := by decide +kernel
theorem dX0_addStart_47 : decode cX0_addStart 47 = .ok (.aload_n 0, 1) := by decide +kernel
theorem dX0_addStart_48 : decode cX0_addStart 48 = .ok (.getfield 11, 3) := by decide +kernel
theorem dX0_addStart_51 : decode cX0_addStart 51 = .ok (.iload 5, 2) := by decide +kernel
theorem dX0_addStart_53 : decode cX0_addStart 53 = .ok (.iconst 3, 1) := by decide +kernel
theorem dX0_addStart_54 : decode cX0_addStart 54 = .ok (.iadd, 1) := by decide +kernel
theorem dX0_addStart_55 : decode cX0_addStart 55 = .ok (.iload 4, 2) := by decide +kernel
theorem dX0_addStart_57 : decode cX0_addStart 57 = .ok (.iastore, 1) := by decide +kernel
theorem dX0_addStart_58 : decode cX0_addStart 58 = .ok (.aload_n 0, 1) := by decide +kernel
theorem dX0_addStart_59 : decode cX0_addStart 59 = .ok (.dup, 1) := by decide +kernel
theorem dX0_addStart_60 : decode cX0_addStart 60 = .ok (.getfield 18, 3) := by decide +kernel
theorem dX0_addStart_63 : decode cX0_addStart 63 = .ok (.iconst 1, 1) := by decide +kernel
theorem dX0_addStart_64 : decode cX0_addStart 64 = .ok (.iadd, 1) := by decide +kernel
theorem dX0_addStart_65 : decode cX0_addStart 65 = .ok (.putfield 18, 3) := by decide +kernel
theorem dX0_addStart_68 : decode cX0_addStart 68 = .ok (.return_, 1) := by decide +kernel
theorem dX0_addMessage_0 : decode cX0_addMessage 0 = .ok (.aload_n 0, 1) := by decide +kernel
theorem dX0_addMessage_1 : decode cX0_addMessage 1 = .ok (.getfield 22, 3) := by decide +kernel
theorem dX0_addMessage_4 : decode cX0_addMessage 4 = .ok (.bipush 100, 2) := by decide +kernel
theorem dX0_addMessage_6 : decode cX0_addMessage 6 = .ok (.if_icmp .ge 23, 3) := by decide +kernel
theorem dX0_addMessage_9 : decode cX0_addMessage 9 = .ok (.aload_n 0, 1) := by decide +kernel
theorem dX0_addMessage_10 : decode cX0_addMessage 10 = .ok (.getfield 15, 3) := by decide +kernel
theorem dX0_addMessage_13 : decode cX0_addMessage 13 = .ok (.aload_n 0, 1) := by decide +kernel
theorem dX0_addMessage_14 : decode cX0_addMessage 14 = .ok (.getfield 22, 3) := by decide +kernel
theorem dX0_addMessage_17 : decode cX0_addMessage 17 = .ok (.iload_n 1, 1) := by decide +kernel
theorem dX0_addMessage_18 : decode cX0_addMessage 18 = .ok (.iastore, 1) := by decide +kernel
theorem dX0_addMessage_19 : decode cX0_addMessage 19 = .ok (.aload_n 0, 1) := by decide +kernel
theorem dX0_addMessage_20 : decode cX0_addMessage 20 = .ok (.dup, 1) := by decide +kernel
theorem dX0_addMessage_21 : decode cX0_addMessage 21 = .ok (.getfield 22, 3) := by decide +kernel
theorem dX0_addMessage_24 : decode cX0_addMessage 24 = .ok (.iconst 1, 1) := by decide +kernel
theorem dX0_addMessage_25 : decode cX0_addMessage 25 = .ok (.iadd, 1) := by decide +kernel
theorem dX0_addMessage_26 : decode cX0_addMessage 26 = .ok (.putfield 22, 3) := by decide +kernel
theorem dX0_addMessage_29 : decode cX0_addMessage 29 = .ok (.return_, 1) := by decide +kernel
theorem dX1_init_0 : decode cX1_init 0 = .ok (.aload_n 0, 1) := by decide +kernel
theorem dX1_init_1 : decode cX1_init 1 = .ok (.invokespecial 3, 3) := by decide +kernel
theorem dX1_init_4 : decode cX1_init 4 = .ok (.aload_n 0, 1) := by decide +kernel
theorem dX1_init_5 : decode cX1_init 5 = .ok (.bipush 16, 2) := by decide +kernel
theorem dX1_init_7 : decode cX1_init 7 = .ok (.newarray .int, 2) := by decide +kernel
theorem dX1_init_9 : decode cX1_init 9 = .ok (.putfield 9, 3) := by decide +kernel
theorem dX1_init_12 : decode cX1_init 12 = .ok (.aload_n 0, 1) := by decide +kernel
theorem dX1_init_13 : decode cX1_init 13 = .ok (.bipush 80, 2) := by decide +kernel
theorem dX1_init_15 : decode cX1_init 15 = .ok (.newarray .int, 2) := by decide +kernel
theorem dX1_init_17 : decode cX1_init 17 = .ok (.putfield 15, 3) := by decide +kernel
theorem dX1_init_20 : decode cX1_init 20 = .ok (.return_, 1) := by decide +kernel
theorem dX1_numberOf_0 : decode cX1_numberOf 0 = .ok (.aload_n 0, 1) := by decide +kernel
theorem dX1_numberOf_1 : decode cX1_numberOf 1 = .ok (.getfield 15, 3) := by decide +kernel
theorem dX1_numberOf_4 : decode cX1_numberOf 4 = .ok (.iload_n 1, 1) := by decide +kernel
theorem dX1_numberOf_5 : decode cX1_numberOf 5 = .ok (.iconst 5, 1) := by decide +kernel
theorem dX1_numberOf_6 : decode cX1_numberOf 6 = .ok (.imul, 1) := by decide +kernel
theorem dX1_numberOf_7 : decode cX1_numberOf 7 = .ok (.iload_n 2, 1) := by decide +kernel
theorem dX1_numberOf_8 : decode cX1_numberOf 8 = .ok (.iadd, 1) := by decide +kernel
theorem dX1_numberOf_9 : decode cX1_numberOf 9 = .ok (.iaload, 1) := by decide +kernel
theorem dX1_numberOf_10 : decode cX1_numberOf 10 = .ok (.ireturn, 1) := by decide +kernel
theorem dX1_setNumber_0 : decode cX1_setNumber 0 = .ok (.aload_n 0, 1) := by decide +kernel
theorem dX1_setNumber_1 : decode cX1_setNumber 1 = .ok (.getfield 15, 3) := by decide +kernel
theorem dX1_setNumber_4 : decode cX1_setNumber 4 = .ok (.iload_n 1, 1) := by decide +kernel
theorem dX1_setNumber_5 : decode cX1_setNumber 5 = .ok (.iconst 5, 1) := by decide +kernel
theorem dX1_setNumber_6 : decode cX1_setNumber 6 = .ok (.imul, 1) := by decide +kernel
theorem dX1_setNumber_7 : decode cX1_setNumber 7 = .ok (.iload_n 2, 1) := by decide +kernel
theorem dX1_setNumber_8 : decode cX1_setNumber 8 = .ok (.iadd, 1) := by decide +kernel
theorem dX1_setNumber_9 : decode cX1_setNumber 9 = .ok (.iload_n 3, 1) := by decide +kernel
theorem dX1_setNumber_10 : decode cX1_setNumber 10 = .ok (.iastore, 1) := by decide +kernel
theorem dX1_setNumber_11 : decode cX1_setNumber 11 = .ok (.return_, 1) := by decide +kernel
theorem dX1_forget_0 : decode cX1_forget 0 = .ok (.iconst 0, 1) := by decide +kernel
theorem dX1_forget_1 : decode cX1_forget 1 = .ok (.istore_n 1, 1) := by decide +kernel
theorem dX1_forget_2 : decode cX1_forget 2 = .ok (.iconst 0, 1) := by decide +kernel
theorem dX1_forget_3 : decode cX1_forget 3 = .ok (.istore_n 2, 1) := by decide +kernel
theorem dX1_forget_4 : decode cX1_forget 4 = .ok (.iload_n 2, 1) := by decide +kernel
theorem dX1_forget_5 : decode cX1_forget 5 = .ok (.bipush 16, 2) := by decide +kernel
theorem dX1_forget_7 : decode cX1_forget 7 = .ok (.if_icmp .ge 21, 3) := by decide +kernel
theorem dX1_forget_10 : decode cX1_forget 10 = .ok (.aload_n 0, 1) := by decide +kernel
theorem dX1_forget_11 : decode cX1_forget 11 = .ok (.getfield 9, 3) := by decide +kernel
theorem dX1_forget_14 : decode cX1_forget 14 = .ok (.iload_n 2, 1) := by decide +kernel
theorem dX1_forget_15 : decode cX1_forget 15 = .ok (.iaload, 1) := by decide +kernel
theorem dX1_forget_16 : decode cX1_forget 16 = .ok (.ifCond .eq 6, 3) := by decide +kernel
theorem dX1_forget_19 : decode cX1_forget 19 = .ok (.iinc 1 1, 3) := by decide +kernel
theorem dX1_forget_22 : decode cX1_forget 22 = .ok (.iinc 2 1, 3) := by decide +kernel
theorem dX1_forget_25 : decode cX1_forget 25 = .ok (.goto (-21), 3) := by decide +kernel
theorem dX1_forget_28 : decode cX1_forget 28 = .ok (.aload_n 0, 1) := by decide +kernel
theorem dX1_forget_29 : decode cX1_forget 29 = .ok (.getfield 9, 3) := by decide +kernel
theorem dX1_forget_32 : decode cX1_forget 32 = .ok (.iconst 0, 1) := by decide +kernel
theorem dX1_forget_33 : decode cX1_forget 33 = .ok (.invokestatic 18, 3) := by decide +kernel
theorem dX1_forget_36 : decode cX1_forget 36 = .ok (.aload_n 0, 1) := by decide +kernel
theorem dX1_forget_37 : decode cX1_forget 37 = .ok (.getfield 15, 3) := by decide +kernel
theorem dX1_forget_40 : decode cX1_forget 40 = .ok (.iconst 0, 1) := by decide +kernel
theorem dX1_forget_41 : decode cX1_forget 41 = .ok (.invokestatic 18, 3) := by decide +kernel
theorem dX1_forget_44 : decode cX1_forget 44 = .ok (.iload_n 1, 1) := by decide +kernel
theorem dX1_forget_45 : decode cX1_forget 45 = .ok (.ireturn, 1) := by decide +kernel
theorem dX2_init_0 : decode cX2_init 0 = .ok (.aload_n 0, 1) := by decide +kernel
theorem dX2_init_1 : decode cX2_init 1 = .ok (.invokespecial 3, 3) := by decide +kernel
theorem dX2_init_4 : decode cX2_init 4 = .ok (.aload_n 0, 1) := by decide +kernel
theorem dX2_init_5 : decode cX2_init 5 = .ok (.bipush 16, 2) := by decide +kernel
theorem dX2_init_7 : decode cX2_init 7 = .ok (.newarray .int, 2) := by decide +kernel
theorem dX2_init_9 : decode cX2_init 9 = .ok (.putfield 9, 3) := by decide +kernel
theorem dX2_init_12 : decode cX2_init 12 = .ok (.return_, 1) := by decide +kernel
theorem dX2_empty_0 : decode cX2_empty 0 = .ok (.aload_n 0, 1) := by decide +kernel
theorem dX2_empty_1 : decode cX2_empty 1 = .ok (.iconst 0, 1) := by decide +kernel
theorem dX2_empty_2 : decode cX2_empty 2 = .ok (.putfield 15, 3) := by decide +kernel
theorem dX2_empty_5 : decode cX2_empty 5 = .ok (.aload_n 0, 1) := by decide +kernel
theorem dX2_empty_6 : decode cX2_empty 6 = .ok (.iconst 0, 1) := by decide +kernel
theorem dX2_empty_7 : decode cX2_empty 7 = .ok (.putfield 19, 3) := by decide +kernel
theorem dX2_empty_10 : decode cX2_empty 10 = .ok (.return_, 1) := by decide +kernel
theorem dX2_has_0 : decode cX2_has 0 = .ok (.aload_n 0, 1) := by decide +kernel
theorem dX2_has_1 : decode cX2_has 1 = .ok (.getfield 19, 3) := by decide +kernel
theorem dX2_has_4 : decode cX2_has 4 = .ok (.iload_n 1, 1) := by decide +kernel
theorem dX2_has_5 : decode cX2_has 5 = .ok (.ishr, 1) := by decide +kernel
theorem dX2_has_6 : decode cX2_has 6 = .ok (.iconst 1, 1) := by decide +kernel
theorem dX2_has_7 : decode cX2_has 7 = .ok (.iand, 1) := by decide +kernel
theorem dX2_has_8 : decode cX2_has 8 = .ok (.ifCond .eq 7, 3) := by decide +kernel
theorem dX2_has_11 : decode cX2_has 11 = .ok (.iconst 1, 1) := by decide +kernel
theorem dX2_has_12 : decode cX2_has 12 = .ok (.goto 4, 3) := by decide +kernel
theorem dX2_has_15 : decode cX2_has 15 = .ok (.iconst 0, 1) := by decide +kernel
theorem dX2_has_16 : decode cX2_has 16 = .ok (.ireturn, 1) := by decide +kernel
theorem dX2_addOnce_0 : decode cX2_addOnce 0 = .ok (.aload_n 0, 1) := by decide +kernel
theorem dX2_addOnce_1 : decode cX2_addOnce 1 = .ok (.iload_n 1, 1) := by decide +kernel
theorem dX2_addOnce_2 : decode cX2_addOnce 2 = .ok (.invokevirtual 22, 3) := by decide +kernel
theorem dX2_addOnce_5 : decode cX2_addOnce 5 = .ok (.ifCond .ne 44, 3) := by decide +kernel
theorem dX2_addOnce_8 : decode cX2_addOnce 8 = .ok (.aload_n 0, 1) := by decide +kernel
theorem dX2_addOnce_9 : decode cX2_addOnce 9 = .ok (.getfield 15, 3) := by decide +kernel
theorem dX2_addOnce_12 : decode cX2_addOnce 12 = .ok (.bipush 16, 2) := by decide +kernel
theorem dX2_addOnce_14 : decode cX2_addOnce 14 = .ok (.if_icmp .ge 35, 3) := by decide +kernel
theorem dX2_addOnce_17 : decode cX2_addOnce 17 = .ok (.aload_n 0, 1) := by decide +kernel
theorem dX2_addOnce_18 : decode cX2_addOnce 18 = .ok (.getfield 9, 3) := by decide +kernel
theorem dX2_addOnce_21 : decode cX2_addOnce 21 = .ok (.aload_n 0, 1) := by decide +kernel
theorem dX2_addOnce_22 : decode cX2_addOnce 22 = .ok (.getfield 15, 3) := by decide +kernel
theorem dX2_addOnce_25 : decode cX2_addOnce 25 = .ok (.iload_n 1, 1) := by decide +kernel
theorem dX2_addOnce_26 : decode cX2_addOnce 26 = .ok (.iastore, 1) := by decide +kernel
theorem dX2_addOnce_27 : decode cX2_addOnce 27 = .ok (.aload_n 0, 1) := by decide +kernel
theorem dX2_addOnce_28 : decode cX2_addOnce 28 = .ok (.dup, 1) := by decide +kernel
theorem dX2_addOnce_29 : decode cX2_addOnce 29 = .ok (.getfield 15, 3) := by decide +kernel
theorem dX2_addOnce_32 : decode cX2_addOnce 32 = .ok (.iconst 1, 1) := by decide +kernel
theorem dX2_addOnce_33 : decode cX2_addOnce 33 = .ok (.iadd, 1) := by decide +kernel
theorem dX2_addOnce_34 : decode cX2_addOnce 34 = .ok (.putfield 15, 3) := by decide +kernel
theorem dX2_addOnce_37 : decode cX2_addOnce 37 = .ok (.aload_n 0, 1) := by decide +kernel
theorem dX2_addOnce_38 : decode cX2_addOnce 38 = .ok (.dup, 1) := by decide +kernel
theorem dX2_addOnce_39 : decode cX2_addOnce 39 = .ok (.getfield 19, 3) := by decide +kernel
theorem dX2_addOnce_42 : decode cX2_addOnce 42 = .ok (.iconst 1, 1) := by decide +kernel
theorem dX2_addOnce_43 : decode cX2_addOnce 43 = .ok (.iload_n 1, 1) := by decide +kernel
theorem dX2_addOnce_44 : decode cX2_addOnce 44 = .ok (.ishl, 1) := by decide +kernel
theorem dX2_addOnce_45 : decode cX2_addOnce 45 = .ok (.ior, 1) := by decide +kernel
theorem dX2_addOnce_46 : decode cX2_addOnce 46 = .ok (.putfield 19, 3) := by decide +kernel
theorem dX2_addOnce_49 : decode cX2_addOnce 49 = .ok (.return_, 1) := by decide +kernel
theorem dX2_addAllOnce_0 : decode cX2_addAllOnce 0 = .ok (.iconst 0, 1) := by decide +kernel
theorem dX2_addAllOnce_1 : decode cX2_addAllOnce 1 = .ok (.istore_n 2, 1) := by decide +kernel
theorem dX2_addAllOnce_2 : decode cX2_addAllOnce 2 = .ok (.iload_n 2, 1) := by decide +kernel
theorem dX2_addAllOnce_3 : decode cX2_addAllOnce 3 = .ok (.aload_n 1, 1) := by decide +kernel
theorem dX2_addAllOnce_4 : decode cX2_addAllOnce 4 = .ok (.getfield 15, 3) := by decide +kernel
theorem dX2_addAllOnce_7 : decode cX2_addAllOnce 7 = .ok (.if_icmp .ge 19, 3) := by decide +kernel
theorem dX2_addAllOnce_10 : decode cX2_addAllOnce 10 = .ok (.aload_n 0, 1) := by decide +kernel
theorem dX2_addAllOnce_11 : decode cX2_addAllOnce 11 = .ok (.aload_n 1, 1) := by decide +kernel
theorem dX2_addAllOnce_12 : decode cX2_addAllOnce 12 = .ok (.getfield 9, 3) := by decide +kernel
theorem dX2_addAllOnce_15 : decode cX2_addAllOnce 15 = .ok (.iload_n 2, 1) := by decide +kernel
theorem dX2_addAllOnce_16 : decode cX2_addAllOnce 16 = .ok (.iaload, 1) := by decide +kernel
theorem dX2_addAllOnce_17 : decode cX2_addAllOnce 17 = .ok (.invokevirtual 26, 3) := by decide +kernel
theorem dX2_addAllOnce_20 : decode cX2_addAllOnce 20 = .ok (.iinc 2 1, 3) := by decide +kernel
theorem dX2_addAllOnce_23 : decode cX2_addAllOnce 23 = .ok (.goto (-21), 3) := by decide +kernel
theorem dX2_addAllOnce_26 : decode cX2_addAllOnce 26 = .ok (.return_, 1) := by decide +kernel
theorem dX3_init_0 : decode cX3_init 0 = .ok (.aload_n 0, 1) := by decide +kernel
theorem dX3_init_1 : decode cX3_init 1 = .ok (.invokespecial 3, 3) := by decide +kernel
theorem dX3_init_4 : decode cX3_init 4 = .ok (.aload_n 0, 1) := by decide +kernel
theorem dX3_init_5 : decode cX3_init 5 = .ok (.new 9, 3) := by decide +kernel
theorem dX3_init_8 : decode cX3_init 8 = .ok (.dup, 1) := by decide +kernel
theorem dX3_init_9 : decode cX3_init 9 = .ok (.invokespecial 11, 3) := by decide +kernel
theorem dX3_init_12 : decode cX3_init 12 = .ok (.putfield 12, 3) := by decide +kernel
theorem dX3_init_15 : decode cX3_init 15 = .ok (.aload_n 0, 1) := by decide +kernel
theorem dX3_init_16 : decode cX3_init 16 = .ok (.bipush 16, 2) := by decide +kernel
theorem dX3_init_18 : decode cX3_init 18 = .ok (.newarray .int, 2) := by decide +kernel
theorem dX3_init_20 : decode cX3_init 20 = .ok (.putfield 18, 3) := by decide +kernel
theorem dX3_init_23 : decode cX3_init 23 = .ok (.aload_n 0, 1) := by decide +kernel
theorem dX3_init_24 : decode cX3_init 24 = .ok (.sipush 1000, 3) := by decide +kernel
theorem dX3_init_27 : decode cX3_init 27 = .ok (.putfield 22, 3) := by decide +kernel
theorem dX3_init_30 : decode cX3_init 30 = .ok (.aload_n 0, 1) := by decide +kernel
theorem dX3_init_31 : decode cX3_init 31 = .ok (.iconst (-1), 1) := by decide +kernel
theorem dX3_init_32 : decode cX3_init 32 = .ok (.putfield 26, 3) := by decide +kernel
theorem dX3_init_35 : decode cX3_init 35 = .ok (.return_, 1) := by decide +kernel
theorem dX3_forget_0 : decode cX3_forget 0 = .ok (.aload_n 0, 1) := by decide +kernel
theorem dX3_forget_1 : decode cX3_forget 1 = .ok (.getfield 18, 3) := by decide +kernel
theorem dX3_forget_4 : decode cX3_forget 4 = .ok (.iconst 0, 1) := by decide +kernel
theorem dX3_forget_5 : decode cX3_forget 5 = .ok (.invokestatic 29, 3) := by decide +kernel
theorem dX3_forget_8 : decode cX3_forget 8 = .ok (.aload_n 0, 1) := by decide +kernel
theorem dX3_forget_9 : decode cX3_forget 9 = .ok (.iconst (-1), 1) := by decide +kernel
theorem dX3_forget_10 : decode cX3_forget 10 = .ok (.putfield 26, 3) := by decide +kernel
theorem dX3_forget_13 : decode cX3_forget 13 = .ok (.aload_n 0, 1) := by decide +kernel
theorem dX3_forget_14 : decode cX3_forget 14 = .ok (.getfield 12, 3) := by decide +kernel
theorem dX3_forget_17 : decode cX3_forget 17 = .ok (.invokevirtual 35, 3) := by decide +kernel
theorem dX3_forget_20 : decode cX3_forget 20 = .ok (.ireturn, 1) := by decide +kernel
theorem dX4_init_0 : decode cX4_init 0 = .ok (.aload_n 0, 1) := by decide +kernel
theorem dX4_init_1 : decode cX4_init 1 = .ok (.invokespecial 3, 3) := by decide +kernel
theorem dX4_init_4 : decode cX4_init 4 = .ok (.aload_n 0, 1) := by decide +kernel
theorem dX4_init_5 : decode cX4_init 5 = .ok (.iconst (-1), 1) := by decide +kernel
theorem dX4_init_6 : decode cX4_init 6 = .ok (.putfield 9, 3) := by decide +kernel
theorem dX4_init_9 : decode cX4_init 9 = .ok (.aload_n 0, 1) := by decide +kernel
theorem dX4_init_10 : decode cX4_init 10 = .ok (.new 15, 3) := by decide +kernel
theorem dX4_init_13 : decode cX4_init 13 = .ok (.dup, 1) := by decide +kernel
theorem dX4_init_14 : decode cX4_init 14 = .ok (.invokespecial 17, 3) := by decide +kernel
theorem dX4_init_17 : decode cX4_init 17 = .ok (.putfield 18, 3) := by decide +kernel
theorem dX4_init_20 : decode cX4_init 20 = .ok (.aload_n 0, 1) := by decide +kernel
theorem dX4_init_21 : decode cX4_init 21 = .ok (.new 15, 3) := by decide +kernel
theorem dX4_init_24 : decode cX4_init 24 = .ok (.dup, 1) := by decide +kernel
theorem dX4_init_25 : decode cX4_init 25 = .ok (.invokespecial 17, 3) := by decide +kernel
theorem dX4_init_28 : decode cX4_init 28 = .ok (.putfield 22, 3) := by decide +kernel
theorem dX4_init_31 : decode cX4_init 31 = .ok (.aload_n 0, 1) := by decide +kernel
theorem dX4_init_32 : decode cX4_init 32 = .ok (.new 15, 3) := by decide +kernel
theorem dX4_init_35 : decode cX4_init 35 = .ok (.dup, 1) := by decide +kernel
theorem dX4_init_36 : decode cX4_init 36 = .ok (.invokespecial 17, 3) := by decide +kernel
theorem dX4_init_39 : decode cX4_init 39 = .ok (.putfield 25, 3) := by decide +kernel
theorem dX4_init_42 : decode cX4_init 42 = .ok (.aload_n 0, 1) := by decide +kernel
theorem dX4_init_43 : decode cX4_init 43 = .ok (.iconst 5, 1) := by decide +kernel
theorem dX4_init_44 : decode cX4_init 44 = .ok (.newarray .int, 2) := by decide +kernel
theorem dX4_init_46 : decode cX4_init 46 = .ok (.putfield 28, 3) := by decide +kernel
theorem dX4_init_49 : decode cX4_init 49 = .ok (.aload_n 0, 1) := by decide +kernel
theorem dX4_init_50 : decode cX4_init 50 = .ok (.iconst 5, 1) := by decide +kernel
theorem dX4_init_51 : decode cX4_init 51 = .ok (.newarray .int, 2) := by decide +kernel
theorem dX4_init_53 : decode cX4_init 53 = .ok (.putfield 32, 3) := by decide +kernel
theorem dX4_init_56 : decode cX4_init 56 = .ok (.aload_n 0, 1) := by decide +kernel
theorem dX4_init_57 : decode cX4_init 57 = .ok (.bipush 8, 2) := by decide +kernel
theorem dX4_init_59 : decode cX4_init 59 = .ok (.newarray .int, 2) := by decide +kernel
theorem dX4_init_61 : decode cX4_init 61 = .ok (.putfield 35, 3) := by decide +kernel
theorem dX4_init_64 : decode cX4_init 64 = .ok (.aload_n 0, 1) := by decide +kernel
theorem dX4_init_65 : decode cX4_init 65 = .ok (.bipush 8, 2) := by decide +kernel
theorem dX4_init_67 : decode cX4_init 67 = .ok (.newarray .int, 2) := by decide +kernel
theorem dX4_init_69 : decode cX4_init 69 = .ok (.putfield 38, 3) := by decide +kernel
theorem dX4_init_72 : decode cX4_init 72 = .ok (.aload_n 0, 1) := by decide +kernel
theorem dX4_init_73 : decode cX4_init 73 = .ok (.bipush 8, 2) := by decide +kernel
theorem dX4_init_75 : decode cX4_init 75 = .ok (.newarray .int, 2) := by decide +kernel
theorem dX4_init_77 : decode cX4_init 77 = .ok (.putfield 41, 3) := by decide +kernel
theorem dX4_init_80 : decode cX4_init 80 = .ok (.aload_n 0, 1) := by decide +kernel
theorem dX4_init_81 : decode cX4_init 81 = .ok (.bipush 8, 2) := by decide +kernel
theorem dX4_init_83 : decode cX4_init 83 = .ok (.newarray .int, 2) := by decide +kernel
theorem dX4_init_85 : decode cX4_init 85 = .ok (.putfield 44, 3) := by decide +kernel
theorem dX4_init_88 : decode cX4_init 88 = .ok (.return_, 1) := by decide +kernel
theorem dX4_begin_0 : decode cX4_begin 0 = .ok (.aload_n 0, 1) := by decide +kernel
theorem dX4_begin_1 : decode cX4_begin 1 = .ok (.iload_n 1, 1) := by decide +kernel
theorem dX4_begin_2 : decode cX4_begin 2 = .ok (.putfield 47, 3) := by decide +kernel
theorem dX4_begin_5 : decode cX4_begin 5 = .ok (.aload_n 0, 1) := by decide +kernel
theorem dX4_begin_6 : decode cX4_begin 6 = .ok (.iload_n 2, 1) := by decide +kernel
theorem dX4_begin_7 : decode cX4_begin 7 = .ok (.putfield 9, 3) := by decide +kernel
theorem dX4_begin_10 : decode cX4_begin 10 = .ok (.aload_n 0, 1) := by decide +kernel
theorem dX4_begin_11 : decode cX4_begin 11 = .ok (.iload_n 3, 1) := by decide +kernel
theorem dX4_begin_12 : decode cX4_begin 12 = .ok (.putfield 50, 3) := by decide +kernel
theorem dX4_begin_15 : decode cX4_begin 15 = .ok (.aload_n 0, 1) := by decide +kernel
theorem dX4_begin_16 : decode cX4_begin 16 = .ok (.getfield 18, 3) := by decide +kernel
theorem dX4_begin_19 : decode cX4_begin 19 = .ok (.invokevirtual 54, 3) := by decide +kernel
theorem dX4_begin_22 : decode cX4_begin 22 = .ok (.aload_n 0, 1) := by decide +kernel
theorem dX4_begin_23 : decode cX4_begin 23 = .ok (.getfield 28, 3) := by decide +kernel
theorem dX4_begin_26 : decode cX4_begin 26 = .ok (.iconst 0, 1) := by decide +kernel
theorem dX4_begin_27 : decode cX4_begin 27 = .ok (.invokestatic 57, 3) := by decide +kernel
theorem dX4_begin_30 : decode cX4_begin 30 = .ok (.aload_n 0, 1) := by decide +kernel
theorem dX4_begin_31 : decode cX4_begin 31 = .ok (.iconst 0, 1) := by decide +kernel
theorem dX4_begin_32 : decode cX4_begin 32 = .ok (.putfield 63, 3) := by decide +kernel
theorem dX4_begin_35 : decode cX4_begin 35 = .ok (.return_, 1) := by decide +kernel
theorem dX4_addLine_0 : decode cX4_addLine 0 = .ok (.aload_n 0, 1) := by decide +kernel
theorem dX4_addLine_1 : decode cX4_addLine 1 = .ok (.getfield 63, 3) := by decide +kernel
theorem dX4_addLine_4 : decode cX4_addLine 4 = .ok (.bipush 8, 2) := by decide +kernel
theorem dX4_addLine_6 : decode cX4_addLine 6 = .ok (.if_icmp .ge 54, 3) := by decide +kernel
theorem dX4_addLine_9 : decode cX4_addLine 9 = .ok (.aload_n 0, 1) := by decide +kernel
theorem dX4_addLine_10 : decode cX4_addLine 10 = .ok (.getfield 35, 3) := by decide +kernel
theorem dX4_addLine_13 : decode cX4_addLine 13 = .ok (.aload_n 0, 1) := by decide +kernel
theorem dX4_addLine_14 : decode cX4_addLine 14 = .ok (.getfield 63, 3) := by decide +kernel
theorem dX4_addLine_17 : decode cX4_addLine 17 = .ok (.iload_n 1, 1) := by decide +kernel
theorem dX4_addLine_18 : decode cX4_addLine 18 = .ok (.iastore, 1) := by decide +kernel
theorem dX4_addLine_19 : decode cX4_addLine 19 = .ok (.aload_n 0, 1) := by decide +kernel
theorem dX4_addLine_20 : decode cX4_addLine 20 = .ok (.getfield 38, 3) := by decide +kernel
theorem dX4_addLine_23 : decode cX4_addLine 23 = .ok (.aload_n 0, 1) := by decide +kernel
theorem dX4_addLine_24 : decode cX4_addLine 24 = .ok (.getfield 63, 3) := by decide +kernel
theorem dX4_addLine_27 : decode cX4_addLine 27 = .ok (.iload_n 2, 1) := by decide +kernel
theorem dX4_addLine_28 : decode cX4_addLine 28 = .ok (.iastore, 1) := by decide +kernel
theorem dX4_addLine_29 : decode cX4_addLine 29 = .ok (.aload_n 0, 1) := by decide +kernel
theorem dX4_addLine_30 : decode cX4_addLine 30 = .ok (.getfield 41, 3) := by decide +kernel
theorem dX4_addLine_33 : decode cX4_addLine 33 = .ok (.aload_n 0, 1) := by decide +kernel
theorem dX4_addLine_34 : decode cX4_addLine 34 = .ok (.getfield 63, 3) := by decide +kernel
theorem dX4_addLine_37 : decode cX4_addLine 37 = .ok (.iload_n 3, 1) := by decide +kernel
theorem dX4_addLine_38 : decode cX4_addLine 38 = .ok (.iastore, 1) := by decide +kernel
theorem dX4_addLine_39 : decode cX4_addLine 39 = .ok (.aload_n 0, 1) := by decide +kernel
theorem dX4_addLine_40 : decode cX4_addLine 40 = .ok (.getfield 44, 3) := by decide +kernel
theorem dX4_addLine_43 : decode cX4_addLine 43 = .ok (.aload_n 0, 1) := by decide +kernel
theorem dX4_addLine_44 : decode cX4_addLine 44 = .ok (.getfield 63, 3) := by decide +kernel
theorem dX4_addLine_47 : decode cX4_addLine 47 = .ok (.iload 4, 2) := by decide +kernel
theorem dX4_addLine_49 : decode cX4_addLine 49 = .ok (.iastore, 1) := by decide +kernel
theorem dX4_addLine_50 : decode cX4_addLine 50 = .ok (.aload_n 0, 1) := by decide +kernel
theorem dX4_addLine_51 : decode cX4_addLine 51 = .ok (.dup, 1) := by decide +kernel
theorem dX4_addLine_52 : decode cX4_addLine 52 = .ok (.getfield 63, 3) := by decide +kernel
theorem dX4_addLine_55 : decode cX4_addLine 55 = .ok (.iconst 1, 1) := by decide +kernel
theorem dX4_addLine_56 : decode cX4_addLine 56 = .ok (.iadd, 1) := by decide +kernel
theorem dX4_addLine_57 : decode cX4_addLine 57 = .ok (.putfield 63, 3) := by decide +kernel
theorem dX4_addLine_60 : decode cX4_addLine 60 = .ok (.aload_n 0, 1) := by decide +kernel
theorem dX4_addLine_61 : decode cX4_addLine 61 = .ok (.getfield 63, 3) := by decide +kernel
theorem dX4_addLine_64 : decode cX4_addLine 64 = .ok (.ireturn, 1) := by decide +kernel
theorem dX5_init_0 : decode cX5_init 0 = .ok (.aload_n 0, 1) := by decide +kernel
theorem dX5_init_1 : decode cX5_init 1 = .ok (.invokespecial 3, 3) := by decide +kernel
theorem dX5_init_4 : decode cX5_init 4 = .ok (.aload_n 0, 1) := by decide +kernel
theorem dX5_init_5 : decode cX5_init 5 = .ok (.sipush 512, 3) := by decide +kernel
theorem dX5_init_8 : decode cX5_init 8 = .ok (.newarray .int, 2) := by decide +kernel
theorem dX5_init_10 : decode cX5_init 10 = .ok (.putfield 9, 3) := by decide +kernel
theorem dX5_init_13 : decode cX5_init 13 = .ok (.aload_n 0, 1) := by decide +kernel
theorem dX5_init_14 : decode cX5_init 14 = .ok (.sipush 512, 3) := by decide +kernel
theorem dX5_init_17 : decode cX5_init 17 = .ok (.newarray .int, 2) := by decide +kernel
theorem dX5_init_19 : decode cX5_init 19 = .ok (.putfield 15, 3) := by decide +kernel
theorem dX5_init_22 : decode cX5_init 22 = .ok (.aload_n 0, 1) := by decide +kernel
theorem dX5_init_23 : decode cX5_init 23 = .ok (.sipush 512, 3) := by decide +kernel
theorem dX5_init_26 : decode cX5_init 26 = .ok (.newarray .int, 2) := by decide +kernel
theorem dX5_init_28 : decode cX5_init 28 = .ok (.putfield 18, 3) := by decide +kernel
theorem dX5_init_31 : decode cX5_init 31 = .ok (.return_, 1) := by decide +kernel
theorem dX5_open_0 : decode cX5_open 0 = .ok (.aload_n 0, 1) := by decide +kernel
theorem dX5_open_1 : decode cX5_open 1 = .ok (.getfield 21, 3) := by decide +kernel
theorem dX5_open_4 : decode cX5_open 4 = .ok (.istore_n 2, 1) := by decide +kernel
theorem dX5_open_5 : decode cX5_open 5 = .ok (.iload_n 2, 1) := by decide +kernel
theorem dX5_open_6 : decode cX5_open 6 = .ok (.sipush 512, 3) := by decide +kernel
theorem dX5_open_9 : decode cX5_open 9 = .ok (.if_icmp .lt 5, 3) := by decide +kernel
theorem dX5_open_12 : decode cX5_open 12 = .ok (.iconst (-1), 1) := by decide +kernel
theorem dX5_open_13 : decode cX5_open 13 = .ok (.ireturn, 1) := by decide +kernel
theorem dX5_open_14 : decode cX5_open 14 = .ok (.aload_n 0, 1) := by decide +kernel
theorem dX5_open_15 : decode cX5_open 15 = .ok (.getfield 9, 3) := by decide +kernel
theorem dX5_open_18 : decode cX5_open 18 = .ok (.iload_n 2, 1) := by decide +kernel
theorem dX5_open_19 : decode cX5_open 19 = .ok (.iload_n 1, 1) := by decide +kernel
theorem dX5_open_20 : decode cX5_open 20 = .ok (.iastore, 1) := by decide +kernel
theorem dX5_open_21 : decode cX5_open 21 = .ok (.aload_n 0, 1) := by decide +kernel
theorem dX5_open_22 : decode cX5_open 22 = .ok (.dup, 1) := by decide +kernel
theorem dX5_open_23 : decode cX5_open 23 = .ok (.getfield 21, 3) := by decide +kernel
theorem dX5_open_26 : decode cX5_open 26 = .ok (.iconst 1, 1) := by decide +kernel
theorem dX5_open_27 : decode cX5_open 27 = .ok (.iadd, 1) := by decide +kernel
theorem dX5_open_28 : decode cX5_open 28 = .ok (.putfield 21, 3) := by decide +kernel
theorem dX5_open_31 : decode cX5_open 31 = .ok (.iload_n 2, 1) := by decide +kernel
theorem dX5_open_32 : decode cX5_open 32 = .ok (.ireturn, 1) := by decide +kernel
theorem dX5_close_0 : decode cX5_close 0 = .ok (.iload_n 1, 1) := by decide +kernel
theorem dX5_close_1 : decode cX5_close 1 = .ok (.iconst 0, 1) := by decide +kernel
theorem dX5_close_2 : decode cX5_close 2 = .ok (.aload_n 0, 1) := by decide +kernel
theorem dX5_close_3 : decode cX5_close 3 = .ok (.getfield 21, 3) := by decide +kernel
theorem dX5_close_6 : decode cX5_close 6 = .ok (.iconst 1, 1) := by decide +kernel
theorem dX5_close_7 : decode cX5_close 7 = .ok (.isub, 1) := by decide +kernel
theorem dX5_close_8 : decode cX5_close 8 = .ok (.invokestatic 25, 3) := by decide +kernel
theorem dX5_close_11 : decode cX5_close 11 = .ok (.ifCond .eq 17, 3) := by decide +kernel
theorem dX5_close_14 : decode cX5_close 14 = .ok (.aload_n 0, 1) := by decide +kernel
theorem dX5_close_15 : decode cX5_close 15 = .ok (.getfield 15, 3) := by decide +kernel
theorem dX5_close_18 : decode cX5_close 18 = .ok (.iload_n 1, 1) := by decide +kernel
theorem dX5_close_19 : decode cX5_close 19 = .ok (.iload_n 2, 1) := by decide +kernel
theorem dX5_close_20 : decode cX5_close 20 = .ok (.iastore, 1) := by decide +kernel
theorem dX5_close_21 : decode cX5_close 21 = .ok (.aload_n 0, 1) := by decide +kernel
theorem dX5_close_22 : decode cX5_close 22 = .ok (.getfield 18, 3) := by decide +kernel
theorem dX5_close_25 : decode cX5_close 25 = .ok (.iload_n 1, 1) := by decide +kernel
theorem dX5_close_26 : decode cX5_close 26 = .ok (.iload_n 3, 1) := by decide +kernel
theorem dX5_close_27 : decode cX5_close 27 = .ok (.iastore, 1) := by decide +kernel
theorem dX5_close_28 : decode cX5_close 28 = .ok (.return_, 1) := by decide +kernel
theorem dX6_init_0 : decode cX6_init 0 = .ok (.aload_n 0, 1) := by decide +kernel
theorem dX6_init_1 : decode cX6_init 1 = .ok (.invokespecial 1, 3) := by decide +kernel
theorem dX6_init_4 : decode cX6_init 4 = .ok (.aload_n 0, 1) := by decide +kernel
theorem dX6_init_5 : decode cX6_init 5 = .ok (.bipush 16, 2) := by decide +kernel
theorem dX6_init_7 : decode cX6_init 7 = .ok (.anewarray 9, 3) := by decide +kernel
theorem dX6_init_10 : decode cX6_init 10 = .ok (.putfield 11, 3) := by decide +kernel
theorem dX6_init_13 : decode cX6_init 13 = .ok (.aload_n 0, 1) := by decide +kernel
theorem dX6_init_14 : decode cX6_init 14 = .ok (.iconst 4, 1) := by decide +kernel
theorem dX6_init_15 : decode cX6_init 15 = .ok (.anewarray 15, 3) := by decide +kernel
theorem dX6_init_18 : decode cX6_init 18 = .ok (.putfield 17, 3) := by decide +kernel
theorem dX6_init_21 : decode cX6_init 21 = .ok (.aload_n 0, 1) := by decide +kernel
theorem dX6_init_22 : decode cX6_init 22 = .ok (.new 21, 3) := by decide +kernel
theorem dX6_init_25 : decode cX6_init 25 = .ok (.dup, 1) := by decide +kernel
theorem dX6_init_26 : decode cX6_init 26 = .ok (.invokespecial 23, 3) := by decide +kernel
theorem dX6_init_29 : decode cX6_init 29 = .ok (.putfield 24, 3) := by decide +kernel
theorem dX6_init_32 : decode cX6_init 32 = .ok (.aload_n 0, 1) := by decide +kernel
theorem dX6_init_33 : decode cX6_init 33 = .ok (.new 28, 3) := by decide +kernel
theorem dX6_init_36 : decode cX6_init 36 = .ok (.dup, 1) := by decide +kernel
theorem dX6_init_37 : decode cX6_init 37 = .ok (.invokespecial 30, 3) := by decide +kernel
theorem dX6_init_40 : decode cX6_init 40 = .ok (.putfield 31, 3) := by decide +kernel
theorem dX6_init_43 : decode cX6_init 43 = .ok (.aload_n 0, 1) := by decide +kernel
theorem dX6_init_44 : decode cX6_init 44 = .ok (.new 35, 3) := by decide +kernel
theorem dX6_init_47 : decode cX6_init 47 = .ok (.dup, 1) := by decide +kernel
theorem dX6_init_48 : decode cX6_init 48 = .ok (.invokespecial 37, 3) := by decide +kernel
theorem dX6_init_51 : decode cX6_init 51 = .ok (.putfield 38, 3) := by decide +kernel
theorem dX6_init_54 : decode cX6_init 54 = .ok (.iconst 0, 1) := by decide +kernel
theorem dX6_init_55 : decode cX6_init 55 = .ok (.istore_n 1, 1) := by decide +kernel
theorem dX6_init_56 : decode cX6_init 56 = .ok (.iload_n 1, 1) := by decide +kernel
theorem dX6_init_57 : decode cX6_init 57 = .ok (.bipush 16, 2) := by decide +kernel
theorem dX6_init_59 : decode cX6_init 59 = .ok (.if_icmp .ge 22, 3) := by decide +kernel
theorem dX6_init_62 : decode cX6_init 62 = .ok (.aload_n 0, 1) := by decide +kernel
theorem dX6_init_63 : decode cX6_init 63 = .ok (.getfield 11, 3) := by decide +kernel
theorem dX6_init_66 : decode cX6_init 66 = .ok (.iload_n 1, 1) := by decide +kernel
theorem dX6_init_67 : decode cX6_init 67 = .ok (.new 9, 3) := by decide +kernel
theorem dX6_init_70 : decode cX6_init 70 = .ok (.dup, 1) := by decide +kernel
theorem dX6_init_71 : decode cX6_init 71 = .ok (.invokespecial 42, 3) := by decide +kernel
theorem dX6_init_74 : decode cX6_init 74 = .ok (.aastore, 1) := by decide +kernel
theorem dX6_init_75 : decode cX6_init 75 = .ok (.iinc 1 1, 3) := by decide +kernel
theorem dX6_init_78 : decode cX6_init 78 = .ok (.goto (-22), 3) := by decide +kernel
theorem dX6_init_81 : decode cX6_init 81 = .ok (.iconst 0, 1) := by decide +kernel
theorem dX6_init_82 : decode cX6_init 82 = .ok (.istore_n 1, 1) := by decide +kernel
theorem dX6_init_83 : decode cX6_init 83 = .ok (.iload_n 1, 1) := by decide +kernel
theorem dX6_init_84 : decode cX6_init 84 = .ok (.iconst 4, 1) := by decide +kernel
theorem dX6_init_85 : decode cX6_init 85 = .ok (.if_icmp .ge 22, 3) := by decide +kernel
theorem dX6_init_88 : decode cX6_init 88 = .ok (.aload_n 0, 1) := by decide +kernel
theorem dX6_init_89 : decode cX6_init 89 = .ok (.getfield 17, 3) := by decide +kernel
theorem dX6_init_92 : decode cX6_init 92 = .ok (.iload_n 1, 1) := by decide +kernel
theorem dX6_init_93 : decode cX6_init 93 = .ok (.new 15, 3) := by decide +kernel
theorem dX6_init_96 : decode cX6_init 96 = .ok (.dup, 1) := by decide +kernel
theorem dX6_init_97 : decode cX6_init 97 = .ok (.invokespecial 43, 3) := by decide +kernel
theorem dX6_init_100 : decode cX6_init 100 = .ok (.aastore, 1) := by decide +kernel
theorem dX6_init_101 : decode cX6_init 101 = .ok (.iinc 1 1, 3) := by decide +kernel
theorem dX6_init_104 : decode cX6_init 104 = .ok (.goto (-21), 3) := by decide +kernel
theorem dX6_init_107 : decode cX6_init 107 = .ok (.return_, 1) := by decide +kernel
theorem dX6_type_0 : decode cX6_type 0 = .ok (.iload_n 1, 1) := by decide +kernel
theorem dX6_type_1 : decode cX6_type 1 = .ok (.iconst 0, 1) := by decide +kernel
theorem dX6_type_2 : decode cX6_type 2 = .ok (.iconst 2, 1) := by decide +kernel
theorem dX6_type_3 : decode cX6_type 3 = .ok (.invokestatic 44, 3) := by decide +kernel
theorem dX6_type_6 : decode cX6_type 6 = .ok (.ifCond .ne 6, 3) := by decide +kernel
theorem dX6_type_9 : decode cX6_type 9 = .ok (.bipush (-102), 2) := by decide +kernel
theorem dX6_type_11 : decode cX6_type 11 = .ok (.ireturn, 1) := by decide +kernel
theorem dX6_type_12 : decode cX6_type 12 = .ok (.iload_n 2, 1) := by decide +kernel
theorem dX6_type_13 : decode cX6_type 13 = .ok (.iconst (-1), 1) := by decide +kernel
theorem dX6_type_14 : decode cX6_type 14 = .ok (.if_icmp .eq 18, 3) := by decide +kernel
theorem dX6_type_17 : decode cX6_type 17 = .ok (.iload_n 1, 1) := by decide +kernel
theorem dX6_type_18 : decode cX6_type 18 = .ok (.ifCond .ne 11, 3) := by decide +kernel
theorem dX6_type_21 : decode cX6_type 21 = .ok (.aload_n 0, 1) := by decide +kernel
theorem dX6_type_22 : decode cX6_type 22 = .ok (.iload_n 2, 1) := by decide +kernel
theorem dX6_type_23 : decode cX6_type 23 = .ok (.invokevirtual 48, 3) := by decide +kernel
theorem dX6_type_26 : decode cX6_type 26 = .ok (.ifCond .ne 6, 3) := by decide +kernel
theorem dX6_type_29 : decode cX6_type 29 = .ok (.bipush (-101), 2) := by decide +kernel
theorem dX6_type_31 : decode cX6_type 31 = .ok (.ireturn, 1) := by decide +kernel
theorem dX6_type_32 : decode cX6_type 32 = .ok (.iload_n 3, 1) := by decide +kernel
theorem dX6_type_33 : decode cX6_type 33 = .ok (.ifCond .eq 23, 3) := by decide +kernel
theorem dX6_type_36 : decode cX6_type 36 = .ok (.iload_n 2, 1) := by decide +kernel
theorem dX6_type_37 : decode cX6_type 37 = .ok (.iconst (-1), 1) := by decide +kernel
theorem dX6_type_38 : decode cX6_type 38 = .ok (.if_icmp .eq 18, 3) := by decide +kernel
theorem dX6_type_41 : decode cX6_type 41 = .ok (.aload_n 0, 1) := by decide +kernel
theorem dX6_type_42 : decode cX6_type 42 = .ok (.getfield 11, 3) := by decide +kernel
theorem dX6_type_45 : decode cX6_type 45 = .ok (.iload_n 2, 1) := by decide +kernel
theorem dX6_type_46 : decode cX6_type 46 = .ok (.aaload, 1) := by decide +kernel
theorem dX6_type_47 : decode cX6_type 47 = .ok (.getfield 52, 3) := by decide +kernel
theorem dX6_type_50 : decode cX6_type 50 = .ok (.ifCond .ne 6, 3) := by decide +kernel
theorem dX6_type_53 : decode cX6_type 53 = .ok (.bipush (-103), 2) := by decide +kernel
theorem dX6_type_55 : decode cX6_type 55 = .ok (.ireturn, 1) := by decide +kernel
theorem dX6_type_56 : decode cX6_type 56 = .ok (.aload_n 0, 1) := by decide +kernel
theorem dX6_type_57 : decode cX6_type 57 = .ok (.getfield 56, 3) := by decide +kernel
theorem dX6_type_60 : decode cX6_type 60 = .ok (.bipush 16, 2) := by decide +kernel
theorem dX6_type_62 : decode cX6_type 62 = .ok (.if_icmp .lt 6, 3) := by decide +kernel
theorem dX6_type_65 : decode cX6_type 65 = .ok (.bipush (-104), 2) := by decide +kernel
theorem dX6_type_67 : decode cX6_type 67 = .ok (.ireturn, 1) := by decide +kernel
theorem dX6_type_68 : decode cX6_type 68 = .ok (.aload_n 0, 1) := by decide +kernel
theorem dX6_type_69 : decode cX6_type 69 = .ok (.getfield 56, 3) := by decide +kernel
theorem dX6_type_72 : decode cX6_type 72 = .ok (.istore 4, 2) := by decide +kernel
theorem dX6_type_74 : decode cX6_type 74 = .ok (.aload_n 0, 1) := by decide +kernel
theorem dX6_type_75 : decode cX6_type 75 = .ok (.getfield 11, 3) := by decide +kernel
theorem dX6_type_78 : decode cX6_type 78 = .ok (.iload 4, 2) := by decide +kernel
theorem dX6_type_80 : decode cX6_type 80 = .ok (.aaload, 1) := by decide +kernel
theorem dX6_type_81 : decode cX6_type 81 = .ok (.iload_n 1, 1) := by decide +kernel
theorem dX6_type_82 : decode cX6_type 82 = .ok (.iload_n 2, 1) := by decide +kernel
theorem dX6_type_83 : decode cX6_type 83 = .ok (.iload_n 3, 1) := by decide +kernel
theorem dX6_type_84 : decode cX6_type 84 = .ok (.invokevirtual 60, 3) := by decide +kernel
theorem dX6_type_87 : decode cX6_type 87 = .ok (.aload_n 0, 1) := by decide +kernel
theorem dX6_type_88 : decode cX6_type 88 = .ok (.iload 4, 2) := by decide +kernel
theorem dX6_type_90 : decode cX6_type 90 = .ok (.invokevirtual 64, 3) := by decide +kernel
theorem dX6_type_93 : decode cX6_type 93 = .ok (.aload_n 0, 1) := by decide +kernel
theorem dX6_type_94 : decode cX6_type 94 = .ok (.dup, 1) := by decide +kernel
theorem dX6_type_95 : decode cX6_type 95 = .ok (.getfield 56, 3) := by decide +kernel
theorem dX6_type_98 : decode cX6_type 98 = .ok (.iconst 1, 1) := by decide +kernel
theorem dX6_type_99 : decode cX6_type 99 = .ok (.iadd, 1) := by decide +kernel
theorem dX6_type_100 : decode cX6_type 100 = .ok (.putfield 56, 3) := by decide +kernel
theorem dX6_type_103 : decode cX6_type 103 = .ok (.iload 4, 2) := by decide +kernel
theorem dX6_type_105 : decode cX6_type 105 = .ok (.ireturn, 1) := by decide +kernel
theorem dX6_face_0 : decode cX6_face 0 = .ok (.aload_n 0, 1) := by decide +kernel
theorem dX6_face_1 : decode cX6_face 1 = .ok (.iload_n 1, 1) := by decide +kernel
theorem dX6_face_2 : decode cX6_face 2 = .ok (.invokevirtual 68, 3) := by decide +kernel
theorem dX6_face_5 : decode cX6_face 5 = .ok (.ifCond .eq 28, 3) := by decide +kernel
theorem dX6_face_8 : decode cX6_face 8 = .ok (.aload_n 0, 1) := by decide +kernel
theorem dX6_face_9 : decode cX6_face 9 = .ok (.iload_n 2, 1) := by decide +kernel
theorem dX6_face_10 : decode cX6_face 10 = .ok (.invokevirtual 68, 3) := by decide +kernel
theorem dX6_face_13 : decode cX6_face 13 = .ok (.ifCond .eq 20, 3) := by decide +kernel
theorem dX6_face_16 : decode cX6_face 16 = .ok (.iload_n 2, 1) := by decide +kernel
theorem dX6_face_17 : decode cX6_face 17 = .ok (.iload_n 1, 1) := by decide +kernel
theorem dX6_face_18 : decode cX6_face 18 = .ok (.if_icmp .ge 15, 3) := by decide +kernel
theorem dX6_face_21 : decode cX6_face 21 = .ok (.aload_n 0, 1) := by decide +kernel
theorem dX6_face_22 : decode cX6_face 22 = .ok (.getfield 11, 3) := by decide +kernel
theorem dX6_face_25 : decode cX6_face 25 = .ok (.iload_n 2, 1) := by decide +kernel
theorem dX6_face_26 : decode cX6_face 26 = .ok (.aaload, 1) := by decide +kernel
theorem dX6_face_27 : decode cX6_face 27 = .ok (.getfield 71, 3) := by decide +kernel
theorem dX6_face_30 : decode cX6_face 30 = .ok (.ifCond .ne 6, 3) := by decide +kernel
theorem dX6_face_33 : decode cX6_face 33 = .ok (.bipush (-101), 2) := by decide +kernel
theorem dX6_face_35 : decode cX6_face 35 = .ok (.ireturn, 1) := by decide +kernel
theorem dX6_face_36 : decode cX6_face 36 = .ok (.aload_n 0, 1) := by decide +kernel
theorem dX6_face_37 : decode cX6_face 37 = .ok (.getfield 11, 3) := by decide +kernel
theorem dX6_face_40 : decode cX6_face 40 = .ok (.iload_n 1, 1) := by decide +kernel
theorem dX6_face_41 : decode cX6_face 41 = .ok (.aaload, 1) := by decide +kernel
theorem dX6_face_42 : decode cX6_face 42 = .ok (.astore_n 3, 1) := by decide +kernel
theorem dX6_face_43 : decode cX6_face 43 = .ok (.aload_n 3, 1) := by decide +kernel
theorem dX6_face_44 : decode cX6_face 44 = .ok (.getfield 52, 3) := by decide +kernel
theorem dX6_face_47 : decode cX6_face 47 = .ok (.ifCond .eq 15, 3) := by decide +kernel
theorem dX6_face_50 : decode cX6_face 50 = .ok (.aload_n 0, 1) := by decide +kernel
theorem dX6_face_51 : decode cX6_face 51 = .ok (.getfield 11, 3) := by decide +kernel
theorem dX6_face_54 : decode cX6_face 54 = .ok (.iload_n 2, 1) := by decide +kernel
theorem dX6_face_55 : decode cX6_face 55 = .ok (.aaload, 1) := by decide +kernel
theorem dX6_face_56 : decode cX6_face 56 = .ok (.getfield 52, 3) := by decide +kernel
theorem dX6_face_59 : decode cX6_face 59 = .ok (.ifCond .eq 14, 3) := by decide +kernel
theorem dX6_face_62 : decode cX6_face 62 = .ok (.aload_n 3, 1) := by decide +kernel
theorem dX6_face_63 : decode cX6_face 63 = .ok (.getfield 74, 3) := by decide +kernel
theorem dX6_face_66 : decode cX6_face 66 = .ok (.iload_n 2, 1) := by decide +kernel
theorem dX6_face_67 : decode cX6_face 67 = .ok (.invokevirtual 78, 3) := by decide +kernel
theorem dX6_face_70 : decode cX6_face 70 = .ok (.ifCond .eq 6, 3) := by decide +kernel
theorem dX6_face_73 : decode cX6_face 73 = .ok (.bipush (-103), 2) := by decide +kernel
theorem dX6_face_75 : decode cX6_face 75 = .ok (.ireturn, 1) := by decide +kernel
theorem dX6_face_76 : decode cX6_face 76 = .ok (.aload_n 3, 1) := by decide +kernel
theorem dX6_face_77 : decode cX6_face 77 = .ok (.getfield 74, 3) := by decide +kernel
theorem dX6_face_80 : decode cX6_face 80 = .ok (.getfield 83, 3) := by decide +kernel
theorem dX6_face_83 : decode cX6_face 83 = .ok (.iconst 3, 1) := by decide +kernel
theorem dX6_face_84 : decode cX6_face 84 = .ok (.if_icmp .lt 6, 3) := by decide +kernel
theorem dX6_face_87 : decode cX6_face 87 = .ok (.bipush (-104), 2) := by decide +kernel
theorem dX6_face_89 : decode cX6_face 89 = .ok (.ireturn, 1) := by decide +kernel
theorem dX6_face_90 : decode cX6_face 90 = .ok (.aload_n 3, 1) := by decide +kernel
theorem dX6_face_91 : decode cX6_face 91 = .ok (.getfield 74, 3) := by decide +kernel
theorem dX6_face_94 : decode cX6_face 94 = .ok (.iload_n 2, 1) := by decide +kernel
theorem dX6_face_95 : decode cX6_face 95 = .ok (.invokevirtual 86, 3) := by decide +kernel
theorem dX6_face_98 : decode cX6_face 98 = .ok (.iload_n 1, 1) := by decide +kernel
theorem dX6_face_99 : decode cX6_face 99 = .ok (.istore 4, 2) := by decide +kernel
theorem dX6_face_101 : decode cX6_face 101 = .ok (.iload 4, 2) := by decide +kernel
theorem dX6_face_103 : decode cX6_face 103 = .ok (.aload_n 0, 1) := by decide +kernel
theorem dX6_face_104 : decode cX6_face 104 = .ok (.getfield 56, 3) := by decide +kernel
theorem dX6_face_107 : decode cX6_face 107 = .ok (.if_icmp .ge 15, 3) := by decide +kernel
theorem dX6_face_110 : decode cX6_face 110 = .ok (.aload_n 0, 1) := by decide +kernel
theorem dX6_face_111 : decode cX6_face 111 = .ok (.iload 4, 2) := by decide +kernel
theorem dX6_face_113 : decode cX6_face 113 = .ok (.invokevirtual 64, 3) := by decide +kernel
theorem dX6_face_116 : decode cX6_face 116 = .ok (.iinc 4 1, 3) := by decide +kernel
theorem dX6_face_119 : decode cX6_face 119 = .ok (.goto (-18), 3) := by decide +kernel
theorem dX6_face_122 : decode cX6_face 122 = .ok (.aload_n 3, 1) := by decide +kernel
theorem dX6_face_123 : decode cX6_face 123 = .ok (.getfield 74, 3) := by decide +kernel
theorem dX6_face_126 : decode cX6_face 126 = .ok (.getfield 83, 3) := by decide +kernel
theorem dX6_face_129 : decode cX6_face 129 = .ok (.ireturn, 1) := by decide +kernel
theorem dX6_field_0 : decode cX6_field 0 = .ok (.aload_n 0, 1) := by decide +kernel
theorem dX6_field_1 : decode cX6_field 1 = .ok (.iload_n 1, 1) := by decide +kernel
theorem dX6_field_2 : decode cX6_field 2 = .ok (.invokevirtual 68, 3) := by decide +kernel
theorem dX6_field_5 : decode cX6_field 5 = .ok (.ifCond .ne 6, 3) := by decide +kernel
theorem dX6_field_8 : decode cX6_field 8 = .ok (.bipush (-101), 2) := by decide +kernel
theorem dX6_field_10 : decode cX6_field 10 = .ok (.ireturn, 1) := by decide +kernel
theorem dX6_field_11 : decode cX6_field 11 = .ok (.iload_n 2, 1) := by decide +kernel
theorem dX6_field_12 : decode cX6_field 12 = .ok (.invokestatic 89, 3) := by decide +kernel
theorem dX6_field_15 : decode cX6_field 15 = .ok (.ifCond .eq 15, 3) := by decide +kernel
theorem dX6_field_18 : decode cX6_field 18 = .ok (.iload_n 3, 1) := by decide +kernel
theorem dX6_field_19 : decode cX6_field 19 = .ok (.ifCond .eq 14, 3) := by decide +kernel
theorem dX6_field_22 : decode cX6_field 22 = .ok (.iload 4, 2) := by decide +kernel
theorem dX6_field_24 : decode cX6_field 24 = .ok (.invokestatic 92, 3) := by decide +kernel
theorem dX6_field_27 : decode cX6_field 27 = .ok (.ifCond .ne 6, 3) := by decide +kernel
theorem dX6_field_30 : decode cX6_field 30 = .ok (.bipush (-102), 2) := by decide +kernel
theorem dX6_field_32 : decode cX6_field 32 = .ok (.ireturn, 1) := by decide +kernel
theorem dX6_field_33 : decode cX6_field 33 = .ok (.iload_n 3, 1) := by decide +kernel
theorem dX6_field_34 : decode cX6_field 34 = .ok (.ifCond .ne 17, 3) := by decide +kernel
theorem dX6_field_37 : decode cX6_field 37 = .ok (.aload_n 0, 1) := by decide +kernel
theorem dX6_field_38 : decode cX6_field 38 = .ok (.getfield 11, 3) := by decide +kernel
theorem dX6_field_41 : decode cX6_field 41 = .ok (.iload_n 1, 1) := by decide +kernel
theorem dX6_field_42 : decode cX6_field 42 = .ok (.aaload, 1) := by decide +kernel
theorem dX6_field_43 : decode cX6_field 43 = .ok (.getfield 95, 3) := by decide +kernel
theorem dX6_field_46 : decode cX6_field 46 = .ok (.iload_n 2, 1) := by decide +kernel
theorem dX6_field_47 : decode cX6_field 47 = .ok (.iconst 2, 1) := by decide +kernel
theorem dX6_field_48 : decode cX6_field 48 = .ok (.iastore, 1) := by decide +kernel
theorem dX6_field_49 : decode cX6_field 49 = .ok (.iconst 0, 1) := by decide +kernel
theorem dX6_field_50 : decode cX6_field 50 = .ok (.ireturn, 1) := by decide +kernel
theorem dX6_field_51 : decode cX6_field 51 = .ok (.aload_n 0, 1) := by decide +kernel
theorem dX6_field_52 : decode cX6_field 52 = .ok (.getfield 11, 3) := by decide +kernel
theorem dX6_field_55 : decode cX6_field 55 = .ok (.iload_n 1, 1) := by decide +kernel
theorem dX6_field_56 : decode cX6_field 56 = .ok (.aaload, 1) := by decide +kernel
theorem dX6_field_57 : decode cX6_field 57 = .ok (.getfield 95, 3) := by decide +kernel
theorem dX6_field_60 : decode cX6_field 60 = .ok (.iload_n 2, 1) := by decide +kernel
theorem dX6_field_61 : decode cX6_field 61 = .ok (.iconst 1, 1) := by decide +kernel
theorem dX6_field_62 : decode cX6_field 62 = .ok (.iastore, 1) := by decide +kernel
theorem dX6_field_63 : decode cX6_field 63 = .ok (.aload_n 0, 1) := by decide +kernel
theorem dX6_field_64 : decode cX6_field 64 = .ok (.getfield 11, 3) := by decide +kernel
theorem dX6_field_67 : decode cX6_field 67 = .ok (.iload_n 1, 1) := by decide +kernel
theorem dX6_field_68 : decode cX6_field 68 = .ok (.aaload, 1) := by decide +kernel
theorem dX6_field_69 : decode cX6_field 69 = .ok (.getfield 99, 3) := by decide +kernel
theorem dX6_field_72 : decode cX6_field 72 = .ok (.iload_n 2, 1) := by decide +kernel
theorem dX6_field_73 : decode cX6_field 73 = .ok (.iload 4, 2) := by decide +kernel
theorem dX6_field_75 : decode cX6_field 75 = .ok (.iastore, 1) := by decide +kernel
theorem dX6_field_76 : decode cX6_field 76 = .ok (.iconst 1, 1) := by decide +kernel
theorem dX6_field_77 : decode cX6_field 77 = .ok (.ireturn, 1) := by decide +kernel
theorem dX6_line_0 : decode cX6_line 0 = .ok (.aload_n 0, 1) := by decide +kernel
theorem dX6_line_1 : decode cX6_line 1 = .ok (.iload_n 1, 1) := by decide +kernel
theorem dX6_line_2 : decode cX6_line 2 = .ok (.invokevirtual 68, 3) := by decide +kernel
theorem dX6_line_5 : decode cX6_line 5 = .ok (.ifCond .ne 6, 3) := by decide +kernel
theorem dX6_line_8 : decode cX6_line 8 = .ok (.bipush (-101), 2) := by decide +kernel
theorem dX6_line_10 : decode cX6_line 10 = .ok (.ireturn, 1) := by decide +kernel
theorem dX6_line_11 : decode cX6_line 11 = .ok (.iload_n 2, 1) := by decide +kernel
theorem dX6_line_12 : decode cX6_line 12 = .ok (.iload_n 3, 1) := by decide +kernel
theorem dX6_line_13 : decode cX6_line 13 = .ok (.iload 4, 2) := by decide +kernel
theorem dX6_line_15 : decode cX6_line 15 = .ok (.iload 5, 2) := by decide +kernel
theorem dX6_line_17 : decode cX6_line 17 = .ok (.invokestatic 102, 3) := by decide +kernel
theorem dX6_line_20 : decode cX6_line 20 = .ok (.ifCond .ne 6, 3) := by decide +kernel
theorem dX6_line_23 : decode cX6_line 23 = .ok (.bipush (-102), 2) := by decide +kernel
theorem dX6_line_25 : decode cX6_line 25 = .ok (.ireturn, 1) := by decide +kernel
theorem dX6_line_26 : decode cX6_line 26 = .ok (.aload_n 0, 1) := by decide +kernel
theorem dX6_line_27 : decode cX6_line 27 = .ok (.getfield 11, 3) := by decide +kernel
theorem dX6_line_30 : decode cX6_line 30 = .ok (.iload_n 1, 1) := by decide +kernel
theorem dX6_line_31 : decode cX6_line 31 = .ok (.aaload, 1) := by decide +kernel
theorem dX6_line_32 : decode cX6_line 32 = .ok (.getfield 106, 3) := by decide +kernel
theorem dX6_line_35 : decode cX6_line 35 = .ok (.bipush 8, 2) := by decide +kernel
theorem dX6_line_37 : decode cX6_line 37 = .ok (.if_icmp .lt 6, 3) := by decide +kernel
theorem dX6_line_40 : decode cX6_line 40 = .ok (.bipush (-104), 2) := by decide +kernel
theorem dX6_line_42 : decode cX6_line 42 = .ok (.ireturn, 1) := by decide +kernel
theorem dX6_line_43 : decode cX6_line 43 = .ok (.aload_n 0, 1) := by decide +kernel
theorem dX6_line_44 : decode cX6_line 44 = .ok (.getfield 11, 3) := by decide +kernel
theorem dX6_line_47 : decode cX6_line 47 = .ok (.iload_n 1, 1) := by decide +kernel
theorem dX6_line_48 : decode cX6_line 48 = .ok (.aaload, 1) := by decide +kernel
theorem dX6_line_49 : decode cX6_line 49 = .ok (.iload_n 2, 1) := by decide +kernel
theorem dX6_line_50 : decode cX6_line 50 = .ok (.iload_n 3, 1) := by decide +kernel
theorem dX6_line_51 : decode cX6_line 51 = .ok (.iload 4, 2) := by decide +kernel
theorem dX6_line_53 : decode cX6_line 53 = .ok (.iload 5, 2) := by decide +kernel
theorem dX6_line_55 : decode cX6_line 55 = .ok (.invokevirtual 109, 3) := by decide +kernel
theorem dX6_line_58 : decode cX6_line 58 = .ok (.ireturn, 1) := by decide +kernel
theorem dX6_use_0 : decode cX6_use 0 = .ok (.aload_n 0, 1) := by decide +kernel
theorem dX6_use_1 : decode cX6_use 1 = .ok (.iload_n 1, 1) := by decide +kernel
theorem dX6_use_2 : decode cX6_use 2 = .ok (.iload_n 2, 1) := by decide +kernel
theorem dX6_use_3 : decode cX6_use 3 = .ok (.iload_n 3, 1) := by decide +kernel
theorem dX6_use_4 : decode cX6_use 4 = .ok (.iload 4, 2) := by decide +kernel
theorem dX6_use_6 : decode cX6_use 6 = .ok (.iload 5, 2) := by decide +kernel
theorem dX6_use_8 : decode cX6_use 8 = .ok (.invokevirtual 113, 3) := by decide +kernel
theorem dX6_use_11 : decode cX6_use 11 = .ok (.istore 6, 2) := by decide +kernel
theorem dX6_use_13 : decode cX6_use 13 = .ok (.iload 6, 2) := by decide +kernel
theorem dX6_use_15 : decode cX6_use 15 = .ok (.ifCond .eq 6, 3) := by decide +kernel
theorem dX6_use_18 : decode cX6_use 18 = .ok (.iload 6, 2) := by decide +kernel
theorem dX6_use_20 : decode cX6_use 20 = .ok (.ireturn, 1) := by decide +kernel
theorem dX6_use_21 : decode cX6_use 21 = .ok (.aload_n 0, 1) := by decide +kernel
theorem dX6_use_22 : decode cX6_use 22 = .ok (.iload_n 1, 1) := by decide +kernel
theorem dX6_use_23 : decode cX6_use 23 = .ok (.putfield 117, 3) := by decide +kernel
theorem dX6_use_26 : decode cX6_use 26 = .ok (.aload_n 0, 1) := by decide +kernel
theorem dX6_use_27 : decode cX6_use 27 = .ok (.iconst 0, 1) := by decide +kernel
theorem dX6_use_28 : decode cX6_use 28 = .ok (.putfield 120, 3) := by decide +kernel
theorem dX6_use_31 : decode cX6_use 31 = .ok (.aload_n 0, 1) := by decide +kernel
theorem dX6_use_32 : decode cX6_use 32 = .ok (.iconst 0, 1) := by decide +kernel
theorem dX6_use_33 : decode cX6_use 33 = .ok (.putfield 123, 3) := by decide +kernel
theorem dX6_use_36 : decode cX6_use 36 = .ok (.aload_n 0, 1) := by decide +kernel
theorem dX6_use_37 : decode cX6_use 37 = .ok (.getfield 31, 3) := by decide +kernel
theorem dX6_use_40 : decode cX6_use 40 = .ok (.aload_n 0, 1) := by decide +kernel
theorem dX6_use_41 : decode cX6_use 41 = .ok (.getfield 17, 3) := by decide +kernel
theorem dX6_use_44 : decode cX6_use 44 = .ok (.iload_n 1, 1) := by decide +kernel
theorem dX6_use_45 : decode cX6_use 45 = .ok (.aaload, 1) := by decide +kernel
theorem dX6_use_46 : decode cX6_use 46 = .ok (.getfield 126, 3) := by decide +kernel
theorem dX6_use_49 : decode cX6_use 49 = .ok (.invokevirtual 129, 3) := by decide +kernel
theorem dX6_use_52 : decode cX6_use 52 = .ok (.istore 7, 2) := by decide +kernel
theorem dX6_use_54 : decode cX6_use 54 = .ok (.aload_n 0, 1) := by decide +kernel
theorem dX6_use_55 : decode cX6_use 55 = .ok (.getfield 17, 3) := by decide +kernel
theorem dX6_use_58 : decode cX6_use 58 = .ok (.iload_n 1, 1) := by decide +kernel
theorem dX6_use_59 : decode cX6_use 59 = .ok (.aaload, 1) := by decide +kernel
theorem dX6_use_60 : decode cX6_use 60 = .ok (.iload 7, 2) := by decide +kernel
theorem dX6_use_62 : decode cX6_use 62 = .ok (.putfield 126, 3) := by decide +kernel
theorem dX6_use_65 : decode cX6_use 65 = .ok (.aload_n 0, 1) := by decide +kernel
theorem dX6_use_66 : decode cX6_use 66 = .ok (.aload_n 0, 1) := by decide +kernel
theorem dX6_use_67 : decode cX6_use 67 = .ok (.iload_n 2, 1) := by decide +kernel
theorem dX6_use_68 : decode cX6_use 68 = .ok (.iload_n 3, 1) := by decide +kernel
theorem dX6_use_69 : decode cX6_use 69 = .ok (.iload 4, 2) := by decide +kernel
theorem dX6_use_71 : decode cX6_use 71 = .ok (.iload 5, 2) := by decide +kernel
theorem dX6_use_73 : decode cX6_use 73 = .ok (.invokevirtual 133, 3) := by decide +kernel
theorem dX6_use_76 : decode cX6_use 76 = .ok (.putfield 136, 3) := by decide +kernel
theorem dX6_use_79 : decode cX6_use 79 = .ok (.iload_n 3, 1) := by decide +kernel
theorem dX6_use_80 : decode cX6_use 80 = .ok (.ifCond .ne 14, 3) := by decide +kernel
theorem dX6_use_83 : decode cX6_use 83 = .ok (.aload_n 0, 1) := by decide +kernel
theorem dX6_use_84 : decode cX6_use 84 = .ok (.getfield 136, 3) := by decide +kernel
theorem dX6_use_87 : decode cX6_use 87 = .ok (.ifCond .ne 7, 3) := by decide +kernel
theorem dX6_use_90 : decode cX6_use 90 = .ok (.iconst 1, 1) := by decide +kernel
theorem dX6_use_91 : decode cX6_use 91 = .ok (.goto 4, 3) := by decide +kernel
theorem dX6_use_94 : decode cX6_use 94 = .ok (.iconst 0, 1) := by decide +kernel
theorem dX6_use_95 : decode cX6_use 95 = .ok (.istore 8, 2) := by decide +kernel
theorem dX6_use_97 : decode cX6_use 97 = .ok (.aload_n 0, 1) := by decide +kernel
theorem dX6_use_98 : decode cX6_use 98 = .ok (.getfield 31, 3) := by decide +kernel
theorem dX6_use_101 : decode cX6_use 101 = .ok (.iload 7, 2) := by decide +kernel
theorem dX6_use_103 : decode cX6_use 103 = .ok (.iload 8, 2) := by decide +kernel
theorem dX6_use_105 : decode cX6_use 105 = .ok (.ifCond .eq 7, 3) := by decide +kernel
theorem dX6_use_108 : decode cX6_use 108 = .ok (.iload_n 2, 1) := by decide +kernel
theorem dX6_use_109 : decode cX6_use 109 = .ok (.goto 4, 3) := by decide +kernel
theorem dX6_use_112 : decode cX6_use 112 = .ok (.iconst (-1), 1) := by decide +kernel
theorem dX6_use_113 : decode cX6_use 113 = .ok (.aload_n 0, 1) := by decide +kernel
theorem dX6_use_114 : decode cX6_use 114 = .ok (.getfield 120, 3) := by decide +kernel
theorem dX6_use_117 : decode cX6_use 117 = .ok (.invokevirtual 139, 3) := by decide +kernel
theorem dX6_use_120 : decode cX6_use 120 = .ok (.aload_n 0, 1) := by decide +kernel
theorem dX6_use_121 : decode cX6_use 121 = .ok (.getfield 136, 3) := by decide +kernel
theorem dX6_use_124 : decode cX6_use 124 = .ok (.ifCond .ne 10, 3) := by decide +kernel
theorem dX6_use_127 : decode cX6_use 127 = .ok (.aload_n 0, 1) := by decide +kernel
theorem dX6_use_128 : decode cX6_use 128 = .ok (.getfield 123, 3) := by decide +kernel
theorem dX6_use_131 : decode cX6_use 131 = .ok (.goto 4, 3) := by decide +kernel
theorem dX6_use_134 : decode cX6_use 134 = .ok (.iconst 0, 1) := by decide +kernel
theorem dX6_use_135 : decode cX6_use 135 = .ok (.ireturn, 1) := by decide +kernel
theorem dX6_failure_0 : decode cX6_failure 0 = .ok (.aload_n 0, 1) := by decide +kernel
theorem dX6_failure_1 : decode cX6_failure 1 = .ok (.getfield 136, 3) := by decide +kernel
theorem dX6_failure_4 : decode cX6_failure 4 = .ok (.ireturn, 1) := by decide +kernel
theorem dX6_told_0 : decode cX6_told 0 = .ok (.iload_n 1, 1) := by decide +kernel
theorem dX6_told_1 : decode cX6_told 1 = .ok (.invokestatic 143, 3) := by decide +kernel
theorem dX6_told_4 : decode cX6_told 4 = .ok (.ifCond .eq 11, 3) := by decide +kernel
theorem dX6_told_7 : decode cX6_told 7 = .ok (.aload_n 0, 1) := by decide +kernel
theorem dX6_told_8 : decode cX6_told 8 = .ok (.iload_n 2, 1) := by decide +kernel
theorem dX6_told_9 : decode cX6_told 9 = .ok (.invokevirtual 68, 3) := by decide +kernel
theorem dX6_told_12 : decode cX6_told 12 = .ok (.ifCond .ne 6, 3) := by decide +kernel
theorem dX6_told_15 : decode cX6_told 15 = .ok (.bipush (-101), 2) := by decide +kernel
theorem dX6_told_17 : decode cX6_told 17 = .ok (.ireturn, 1) := by decide +kernel
theorem dX6_told_18 : decode cX6_told 18 = .ok (.iload_n 3, 1) := by decide +kernel
theorem dX6_told_19 : decode cX6_told 19 = .ok (.tableswitch 56 0 2 #[25, 37, 49], 25) := by decide +kernel
theorem dX6_told_44 : decode cX6_told 44 = .ok (.aload_n 0, 1) := by decide +kernel
theorem dX6_told_45 : decode cX6_told 45 = .ok (.iload_n 1, 1) := by decide +kernel
theorem dX6_told_46 : decode cX6_told 46 = .ok (.iload_n 2, 1) := by decide +kernel
theorem dX6_told_47 : decode cX6_told 47 = .ok (.invokevirtual 146, 3) := by decide +kernel
theorem dX6_told_50 : decode cX6_told 50 = .ok (.getfield 150, 3) := by decide +kernel
theorem dX6_told_53 : decode cX6_told 53 = .ok (.iload_n 2, 1) := by decide +kernel
theorem dX6_told_54 : decode cX6_told 54 = .ok (.iaload, 1) := by decide +kernel
theorem dX6_told_55 : decode cX6_told 55 = .ok (.ireturn, 1) := by decide +kernel
theorem dX6_told_56 : decode cX6_told 56 = .ok (.aload_n 0, 1) := by decide +kernel
theorem dX6_told_57 : decode cX6_told 57 = .ok (.getfield 17, 3) := by decide +kernel
theorem dX6_told_60 : decode cX6_told 60 = .ok (.iload_n 1, 1) := by decide +kernel
theorem dX6_told_61 : decode cX6_told 61 = .ok (.aaload, 1) := by decide +kernel
theorem dX6_told_62 : decode cX6_told 62 = .ok (.getfield 153, 3) := by decide +kernel
theorem dX6_told_65 : decode cX6_told 65 = .ok (.iload_n 2, 1) := by decide +kernel
theorem dX6_told_66 : decode cX6_told 66 = .ok (.iaload, 1) := by decide +kernel
theorem dX6_told_67 : decode cX6_told 67 = .ok (.ireturn, 1) := by decide +kernel
theorem dX6_told_68 : decode cX6_told 68 = .ok (.aload_n 0, 1) := by decide +kernel
theorem dX6_told_69 : decode cX6_told 69 = .ok (.iload_n 1, 1) := by decide +kernel
theorem dX6_told_70 : decode cX6_told 70 = .ok (.iload_n 2, 1) := by decide +kernel
theorem dX6_told_71 : decode cX6_told 71 = .ok (.invokevirtual 156, 3) := by decide +kernel
theorem dX6_told_74 : decode cX6_told 74 = .ok (.ireturn, 1) := by decide +kernel
theorem dX6_told_75 : decode cX6_told 75 = .ok (.bipush (-102), 2) := by decide +kernel
theorem dX6_told_77 : decode cX6_told 77 = .ok (.ireturn, 1) := by decide +kernel
theorem dX6_peek_0 : decode cX6_peek 0 = .ok (.iload_n 1, 1) := by decide +kernel
theorem dX6_peek_1 : decode cX6_peek 1 = .ok (.invokestatic 143, 3) := by decide +kernel
theorem dX6_peek_4 : decode cX6_peek 4 = .ok (.ifCond .eq 11, 3) := by decide +kernel
theorem dX6_peek_7 : decode cX6_peek 7 = .ok (.aload_n 0, 1) := by decide +kernel
theorem dX6_peek_8 : decode cX6_peek 8 = .ok (.iload_n 2, 1) := by decide +kernel
theorem dX6_peek_9 : decode cX6_peek 9 = .ok (.invokevirtual 68, 3) := by decide +kernel
theorem dX6_peek_12 : decode cX6_peek 12 = .ok (.ifCond .ne 6, 3) := by decide +kernel
theorem dX6_peek_15 : decode cX6_peek 15 = .ok (.bipush (-101), 2) := by decide +kernel
theorem dX6_peek_17 : decode cX6_peek 17 = .ok (.ireturn, 1) := by decide +kernel
theorem dX6_peek_18 : decode cX6_peek 18 = .ok (.iload_n 3, 1) := by decide +kernel
theorem dX6_peek_19 : decode cX6_peek 19 = .ok (.invokestatic 89, 3) := by decide +kernel
theorem dX6_peek_22 : decode cX6_peek 22 = .ok (.ifCond .eq 18, 3) := by decide +kernel
theorem dX6_peek_25 : decode cX6_peek 25 = .ok (.aload_n 0, 1) := by decide +kernel
theorem dX6_peek_26 : decode cX6_peek 26 = .ok (.getfield 11, 3) := by decide +kernel
theorem dX6_peek_29 : decode cX6_peek 29 = .ok (.iload_n 2, 1) := by decide +kernel
theorem dX6_peek_30 : decode cX6_peek 30 = .ok (.aaload, 1) := by decide +kernel
theorem dX6_peek_31 : decode cX6_peek 31 = .ok (.getfield 95, 3) := by decide +kernel
theorem dX6_peek_34 : decode cX6_peek 34 = .ok (.iload_n 3, 1) := by decide +kernel
theorem dX6_peek_35 : decode cX6_peek 35 = .ok (.iaload, 1) := by decide +kernel
theorem dX6_peek_36 : decode cX6_peek 36 = .ok (.iconst 2, 1) := by decide +kernel
theorem dX6_peek_37 : decode cX6_peek 37 = .ok (.if_icmp .eq 6, 3) := by decide +kernel
theorem dX6_peek_40 : decode cX6_peek 40 = .ok (.bipush (-103), 2) := by decide +kernel
theorem dX6_peek_42 : decode cX6_peek 42 = .ok (.ireturn, 1) := by decide +kernel
theorem dX6_peek_43 : decode cX6_peek 43 = .ok (.aload_n 0, 1) := by decide +kernel
theorem dX6_peek_44 : decode cX6_peek 44 = .ok (.iload_n 1, 1) := by decide +kernel
theorem dX6_peek_45 : decode cX6_peek 45 = .ok (.iload_n 2, 1) := by decide +kernel
theorem dX6_peek_46 : decode cX6_peek 46 = .ok (.invokevirtual 146, 3) := by decide +kernel
theorem dX6_peek_49 : decode cX6_peek 49 = .ok (.iload_n 2, 1) := by decide +kernel
theorem dX6_peek_50 : decode cX6_peek 50 = .ok (.iload_n 3, 1) := by decide +kernel
theorem dX6_peek_51 : decode cX6_peek 51 = .ok (.invokevirtual 160, 3) := by decide +kernel
theorem dX6_peek_54 : decode cX6_peek 54 = .ok (.ireturn, 1) := by decide +kernel
theorem dX6_start_0 : decode cX6_start 0 = .ok (.iload_n 1, 1) := by decide +kernel
theorem dX6_start_1 : decode cX6_start 1 = .ok (.iconst 0, 1) := by decide +kernel
theorem dX6_start_2 : decode cX6_start 2 = .ok (.aload_n 0, 1) := by decide +kernel
theorem dX6_start_3 : decode cX6_start 3 = .ok (.getfield 38, 3) := by decide +kernel
theorem dX6_start_6 : decode cX6_start 6 = .ok (.getfield 163, 3) := by decide +kernel
theorem dX6_start_9 : decode cX6_start 9 = .ok (.iconst 1, 1) := by decide +kernel
theorem dX6_start_10 : decode cX6_start 10 = .ok (.isub, 1) := by decide +kernel
theorem dX6_start_11 : decode cX6_start 11 = .ok (.invokestatic 44, 3) := by decide +kernel
theorem dX6_start_14 : decode cX6_start 14 = .ok (.ifCond .ne 5, 3) := by decide +kernel
theorem dX6_start_17 : decode cX6_start 17 = .ok (.iconst (-1), 1) := by decide +kernel
theorem dX6_start_18 : decode cX6_start 18 = .ok (.ireturn, 1) := by decide +kernel
theorem dX6_start_19 : decode cX6_start 19 = .ok (.iload_n 2, 1) := by decide +kernel
theorem dX6_start_20 : decode cX6_start 20 = .ok (.iconst 0, 1) := by decide +kernel
theorem dX6_start_21 : decode cX6_start 21 = .ok (.iconst 3, 1) := by decide +kernel
theorem dX6_start_22 : decode cX6_start 22 = .ok (.invokestatic 44, 3) := by decide +kernel
theorem dX6_start_25 : decode cX6_start 25 = .ok (.ifCond .ne 6, 3) := by decide +kernel
theorem dX6_start_28 : decode cX6_start 28 = .ok (.bipush (-102), 2) := by decide +kernel
theorem dX6_start_30 : decode cX6_start 30 = .ok (.ireturn, 1) := by decide +kernel
theorem dX6_start_31 : decode cX6_start 31 = .ok (.aload_n 0, 1) := by decide +kernel
theorem dX6_start_32 : decode cX6_start 32 = .ok (.getfield 38, 3) := by decide +kernel
theorem dX6_start_35 : decode cX6_start 35 = .ok (.getfield 166, 3) := by decide +kernel
theorem dX6_start_38 : decode cX6_start 38 = .ok (.iload_n 1, 1) := by decide +kernel
theorem dX6_start_39 : decode cX6_start 39 = .ok (.iconst 4, 1) := by decide +kernel
theorem dX6_start_40 : decode cX6_start 40 = .ok (.imul, 1) := by decide +kernel
theorem dX6_start_41 : decode cX6_start 41 = .ok (.iload_n 2, 1) := by decide +kernel
theorem dX6_start_42 : decode cX6_start 42 = .ok (.iadd, 1) := by decide +kernel
theorem dX6_start_43 : decode cX6_start 43 = .ok (.iaload, 1) := by decide +kernel
theorem dX6_start_44 : decode cX6_start 44 = .ok (.ireturn, 1) := by decide +kernel
theorem dX6_message_0 : decode cX6_message 0 = .ok (.iload_n 1, 1) := by decide +kernel
theorem dX6_message_1 : decode cX6_message 1 = .ok (.iconst 0, 1) := by decide +kernel
theorem dX6_message_2 : decode cX6_message 2 = .ok (.aload_n 0, 1) := by decide +kernel
theorem dX6_message_3 : decode cX6_message 3 = .ok (.getfield 38, 3) := by decide +kernel
theorem dX6_message_6 : decode cX6_message 6 = .ok (.getfield 169, 3) := by decide +kernel
theorem dX6_message_9 : decode cX6_message 9 = .ok (.iconst 1, 1) := by decide +kernel
theorem dX6_message_10 : decode cX6_message 10 = .ok (.isub, 1) := by decide +kernel
theorem dX6_message_11 : decode cX6_message 11 = .ok (.invokestatic 44, 3) := by decide +kernel
theorem dX6_message_14 : decode cX6_message 14 = .ok (.ifCond .ne 13, 3) := by decide +kernel
theorem dX6_message_17 : decode cX6_message 17 = .ok (.new 172, 3) := by decide +kernel
theorem dX6_message_20 : decode cX6_message 20 = .ok (.dup, 1) := by decide +kernel
theorem dX6_message_21 : decode cX6_message 21 = .ok (.ldc 174, 2) := by decide +kernel
theorem dX6_message_23 : decode cX6_message 23 = .ok (.invokespecial 176, 3) := by decide +kernel
theorem dX6_message_26 : decode cX6_message 26 = .ok (.athrow, 1) := by decide +kernel
theorem dX6_message_27 : decode cX6_message 27 = .ok (.aload_n 0, 1) := by decide +kernel
theorem dX6_message_28 : decode cX6_message 28 = .ok (.getfield 38, 3) := by decide +kernel
theorem dX6_message_31 : decode cX6_message 31 = .ok (.getfield 179, 3) := by decide +kernel
theorem dX6_message_34 : decode cX6_message 34 = .ok (.iload_n 1, 1) := by decide +kernel
theorem dX6_message_35 : decode cX6_message 35 = .ok (.iaload, 1) := by decide +kernel
theorem dX6_message_36 : decode cX6_message 36 = .ok (.ireturn, 1) := by decide +kernel
theorem dX6_steps_0 : decode cX6_steps 0 = .ok (.iload_n 1, 1) := by decide +kernel
theorem dX6_steps_1 : decode cX6_steps 1 = .ok (.invokestatic 143, 3) := by decide +kernel
theorem dX6_steps_4 : decode cX6_steps 4 = .ok (.ifCond .ne 6, 3) := by decide +kernel
theorem dX6_steps_7 : decode cX6_steps 7 = .ok (.bipush (-101), 2) := by decide +kernel
theorem dX6_steps_9 : decode cX6_steps 9 = .ok (.ireturn, 1) := by decide +kernel
theorem dX6_steps_10 : decode cX6_steps 10 = .ok (.iload_n 2, 1) := by decide +kernel
theorem dX6_steps_11 : decode cX6_steps 11 = .ok (.iconst 0, 1) := by decide +kernel
theorem dX6_steps_12 : decode cX6_steps 12 = .ok (.ldc 182, 2) := by decide +kernel
theorem dX6_steps_14 : decode cX6_steps 14 = .ok (.invokestatic 44, 3) := by decide +kernel
theorem dX6_steps_17 : decode cX6_steps 17 = .ok (.ifCond .ne 6, 3) := by decide +kernel
theorem dX6_steps_20 : decode cX6_steps 20 = .ok (.bipush (-102), 2) := by decide +kernel
theorem dX6_steps_22 : decode cX6_steps 22 = .ok (.ireturn, 1) := by decide +kernel
theorem dX6_steps_23 : decode cX6_steps 23 = .ok (.aload_n 0, 1) := by decide +kernel
theorem dX6_steps_24 : decode cX6_steps 24 = .ok (.getfield 17, 3) := by decide +kernel
theorem dX6_steps_27 : decode cX6_steps 27 = .ok (.iload_n 1, 1) := by decide +kernel
theorem dX6_steps_28 : decode cX6_steps 28 = .ok (.aaload, 1) := by decide +kernel
theorem dX6_steps_29 : decode cX6_steps 29 = .ok (.getfield 183, 3) := by decide +kernel
theorem dX6_steps_32 : decode cX6_steps 32 = .ok (.istore_n 3, 1) := by decide +kernel
theorem dX6_steps_33 : decode cX6_steps 33 = .ok (.aload_n 0, 1) := by decide +kernel
theorem dX6_steps_34 : decode cX6_steps 34 = .ok (.getfield 17, 3) := by decide +kernel
theorem dX6_steps_37 : decode cX6_steps 37 = .ok (.iload_n 1, 1) := by decide +kernel
theorem dX6_steps_38 : decode cX6_steps 38 = .ok (.aaload, 1) := by decide +kernel
theorem dX6_steps_39 : decode cX6_steps 39 = .ok (.iload_n 2, 1) := by decide +kernel
theorem dX6_steps_40 : decode cX6_steps 40 = .ok (.putfield 183, 3) := by decide +kernel
theorem dX6_steps_43 : decode cX6_steps 43 = .ok (.iload_n 3, 1) := by decide +kernel
theorem dX6_steps_44 : decode cX6_steps 44 = .ok (.ireturn, 1) := by decide +kernel
theorem dX6_undo_0 : decode cX6_undo 0 = .ok (.iload_n 1, 1) := by decide +kernel
theorem dX6_undo_1 : decode cX6_undo 1 = .ok (.invokestatic 143, 3) := by decide +kernel
theorem dX6_undo_4 : decode cX6_undo 4 = .ok (.ifCond .ne 6, 3) := by decide +kernel
theorem dX6_undo_7 : decode cX6_undo 7 = .ok (.bipush (-101), 2) := by decide +kernel
theorem dX6_undo_9 : decode cX6_undo 9 = .ok (.ireturn, 1) := by decide +kernel
theorem dX6_undo_10 : decode cX6_undo 10 = .ok (.aload_n 0, 1) := by decide +kernel
theorem dX6_undo_11 : decode cX6_undo 11 = .ok (.getfield 17, 3) := by decide +kernel
theorem dX6_undo_14 : decode cX6_undo 14 = .ok (.iload_n 1, 1) := by decide +kernel
theorem dX6_undo_15 : decode cX6_undo 15 = .ok (.aaload, 1) := by decide +kernel
theorem dX6_undo_16 : decode cX6_undo 16 = .ok (.astore_n 2, 1) := by decide +kernel
theorem dX6_undo_17 : decode cX6_undo 17 = .ok (.aload_n 2, 1) := by decide +kernel
theorem dX6_undo_18 : decode cX6_undo 18 = .ok (.getfield 126, 3) := by decide +kernel
theorem dX6_undo_21 : decode cX6_undo 21 = .ok (.istore_n 3, 1) := by decide +kernel
theorem dX6_undo_22 : decode cX6_undo 22 = .ok (.iload_n 3, 1) := by decide +kernel
theorem dX6_undo_23 : decode cX6_undo 23 = .ok (.iconst (-1), 1) := by decide +kernel
theorem dX6_undo_24 : decode cX6_undo 24 = .ok (.if_icmp .ne 5, 3) := by decide +kernel
theorem dX6_undo_27 : decode cX6_undo 27 = .ok (.iconst (-1), 1) := by decide +kernel
theorem dX6_undo_28 : decode cX6_undo 28 = .ok (.ireturn, 1) := by decide +kernel
theorem dX6_undo_29 : decode cX6_undo 29 = .ok (.aload_n 2, 1) := by decide +kernel
theorem dX6_undo_30 : decode cX6_undo 30 = .ok (.aload_n 0, 1) := by decide +kernel
theorem dX6_undo_31 : decode cX6_undo 31 = .ok (.getfield 31, 3) := by decide +kernel
theorem dX6_undo_34 : decode cX6_undo 34 = .ok (.getfield 186, 3) := by decide +kernel
theorem dX6_undo_37 : decode cX6_undo 37 = .ok (.iload_n 3, 1) := by decide +kernel
theorem dX6_undo_38 : decode cX6_undo 38 = .ok (.iaload, 1) := by decide +kernel
theorem dX6_undo_39 : decode cX6_undo 39 = .ok (.putfield 126, 3) := by decide +kernel
theorem dX6_undo_42 : decode cX6_undo 42 = .ok (.aload_n 0, 1) := by decide +kernel
theorem dX6_undo_43 : decode cX6_undo 43 = .ok (.getfield 31, 3) := by decide +kernel
theorem dX6_undo_46 : decode cX6_undo 46 = .ok (.getfield 189, 3) := by decide +kernel
theorem dX6_undo_49 : decode cX6_undo 49 = .ok (.iload_n 3, 1) := by decide +kernel
theorem dX6_undo_50 : decode cX6_undo 50 = .ok (.iaload, 1) := by decide +kernel
theorem dX6_undo_51 : decode cX6_undo 51 = .ok (.istore 4, 2) := by decide +kernel
theorem dX6_undo_53 : decode cX6_undo 53 = .ok (.iload 4, 2) := by decide +kernel
theorem dX6_undo_55 : decode cX6_undo 55 = .ok (.iconst (-1), 1) := by decide +kernel
theorem dX6_undo_56 : decode cX6_undo 56 = .ok (.if_icmp .eq 14, 3) := by decide +kernel
theorem dX6_undo_59 : decode cX6_undo 59 = .ok (.aload_n 2, 1) := by decide +kernel
theorem dX6_undo_60 : decode cX6_undo 60 = .ok (.getfield 153, 3) := by decide +kernel
theorem dX6_undo_63 : decode cX6_undo 63 = .ok (.iload 4, 2) := by decide +kernel
theorem dX6_undo_65 : decode cX6_undo 65 = .ok (.dup2, 1) := by decide +kernel
theorem dX6_undo_66 : decode cX6_undo 66 = .ok (.iaload, 1) := by decide +kernel
theorem dX6_undo_67 : decode cX6_undo 67 = .ok (.iconst 1, 1) := by decide +kernel
theorem dX6_undo_68 : decode cX6_undo 68 = .ok (.isub, 1) := by decide +kernel
theorem dX6_undo_69 : decode cX6_undo 69 = .ok (.iastore, 1) := by decide +kernel
theorem dX6_undo_70 : decode cX6_undo 70 = .ok (.aload_n 0, 1) := by decide +kernel
theorem dX6_undo_71 : decode cX6_undo 71 = .ok (.getfield 31, 3) := by decide +kernel
theorem dX6_undo_74 : decode cX6_undo 74 = .ok (.getfield 192, 3) := by decide +kernel
theorem dX6_undo_77 : decode cX6_undo 77 = .ok (.iload_n 3, 1) := by decide +kernel
theorem dX6_undo_78 : decode cX6_undo 78 = .ok (.iaload, 1) := by decide +kernel
theorem dX6_undo_79 : decode cX6_undo 79 = .ok (.ireturn, 1) := by decide +kernel
theorem dX6_restart_0 : decode cX6_restart 0 = .ok (.iload_n 1, 1) := by decide +kernel
theorem dX6_restart_1 : decode cX6_restart 1 = .ok (.invokestatic 143, 3) := by decide +kernel
theorem dX6_restart_4 : decode cX6_restart 4 = .ok (.ifCond .eq 15, 3) := by decide +kernel
theorem dX6_restart_7 : decode cX6_restart 7 = .ok (.aload_n 0, 1) := by decide +kernel
theorem dX6_restart_8 : decode cX6_restart 8 = .ok (.getfield 17, 3) := by decide +kernel
theorem dX6_restart_11 : decode cX6_restart 11 = .ok (.iload_n 1, 1) := by decide +kernel
theorem dX6_restart_12 : decode cX6_restart 12 = .ok (.aaload, 1) := by decide +kernel
theorem dX6_restart_13 : decode cX6_restart 13 = .ok (.invokevirtual 194, 3) := by decide +kernel
theorem dX6_restart_16 : decode cX6_restart 16 = .ok (.goto 5, 3) := by decide +kernel
theorem dX6_restart_19 : decode cX6_restart 19 = .ok (.bipush (-101), 2) := by decide +kernel
theorem dX6_restart_21 : decode cX6_restart 21 = .ok (.ireturn, 1) := by decide +kernel
theorem dX6_about_0 : decode cX6_about 0 = .ok (.iload_n 1, 1) := by decide +kernel
theorem dX6_about_1 : decode cX6_about 1 = .ok (.tableswitch 69 0 4 #[35, 40, 48, 56, 64], 35) := by decide +kernel
theorem dX6_about_36 : decode cX6_about 36 = .ok (.aload_n 0, 1) := by decide +kernel
theorem dX6_about_37 : decode cX6_about 37 = .ok (.getfield 56, 3) := by decide +kernel
theorem dX6_about_40 : decode cX6_about 40 = .ok (.ireturn, 1) := by decide +kernel
theorem dX6_about_41 : decode cX6_about 41 = .ok (.aload_n 0, 1) := by decide +kernel
theorem dX6_about_42 : decode cX6_about 42 = .ok (.getfield 31, 3) := by decide +kernel
theorem dX6_about_45 : decode cX6_about 45 = .ok (.getfield 198, 3) := by decide +kernel
theorem dX6_about_48 : decode cX6_about 48 = .ok (.ireturn, 1) := by decide +kernel
theorem dX6_about_49 : decode cX6_about 49 = .ok (.aload_n 0, 1) := by decide +kernel
theorem dX6_about_50 : decode cX6_about 50 = .ok (.getfield 38, 3) := by decide +kernel
theorem dX6_about_53 : decode cX6_about 53 = .ok (.getfield 163, 3) := by decide +kernel
theorem dX6_about_56 : decode cX6_about 56 = .ok (.ireturn, 1) := by decide +kernel
theorem dX6_about_57 : decode cX6_about 57 = .ok (.aload_n 0, 1) := by decide +kernel
theorem dX6_about_58 : decode cX6_about 58 = .ok (.getfield 38, 3) := by decide +kernel
theorem dX6_about_61 : decode cX6_about 61 = .ok (.getfield 169, 3) := by decide +kernel
theorem dX6_about_64 : decode cX6_about 64 = .ok (.ireturn, 1) := by decide +kernel
theorem dX6_about_65 : decode cX6_about 65 = .ok (.aload_n 0, 1) := by decide +kernel
theorem dX6_about_66 : decode cX6_about 66 = .ok (.getfield 199, 3) := by decide +kernel
theorem dX6_about_69 : decode cX6_about 69 = .ok (.ireturn, 1) := by decide +kernel
theorem dX6_about_70 : decode cX6_about 70 = .ok (.bipush (-102), 2) := by decide +kernel
theorem dX6_about_72 : decode cX6_about 72 = .ok (.ireturn, 1) := by decide +kernel
theorem dX6_clear_0 : decode cX6_clear 0 = .ok (.aload_n 0, 1) := by decide +kernel
theorem dX6_clear_1 : decode cX6_clear 1 = .ok (.getfield 56, 3) := by decide +kernel
theorem dX6_clear_4 : decode cX6_clear 4 = .ok (.istore_n 1, 1) := by decide +kernel
theorem dX6_clear_5 : decode cX6_clear 5 = .ok (.iconst 0, 1) := by decide +kernel
theorem dX6_clear_6 : decode cX6_clear 6 = .ok (.istore_n 2, 1) := by decide +kernel
theorem dX6_clear_7 : decode cX6_clear 7 = .ok (.iload_n 2, 1) := by decide +kernel
theorem dX6_clear_8 : decode cX6_clear 8 = .ok (.iconst 4, 1) := by decide +kernel
theorem dX6_clear_9 : decode cX6_clear 9 = .ok (.if_icmp .ge 31, 3) := by decide +kernel
theorem dX6_clear_12 : decode cX6_clear 12 = .ok (.aload_n 0, 1) := by decide +kernel
theorem dX6_clear_13 : decode cX6_clear 13 = .ok (.getfield 17, 3) := by decide +kernel
theorem dX6_clear_16 : decode cX6_clear 16 = .ok (.iload_n 2, 1) := by decide +kernel
theorem dX6_clear_17 : decode cX6_clear 17 = .ok (.aaload, 1) := by decide +kernel
theorem dX6_clear_18 : decode cX6_clear 18 = .ok (.invokevirtual 194, 3) := by decide +kernel
theorem dX6_clear_21 : decode cX6_clear 21 = .ok (.pop, 1) := by decide +kernel
theorem dX6_clear_22 : decode cX6_clear 22 = .ok (.aload_n 0, 1) := by decide +kernel
theorem dX6_clear_23 : decode cX6_clear 23 = .ok (.getfield 17, 3) := by decide +kernel
theorem dX6_clear_26 : decode cX6_clear 26 = .ok (.iload_n 2, 1) := by decide +kernel
theorem dX6_clear_27 : decode cX6_clear 27 = .ok (.aaload, 1) := by decide +kernel
theorem dX6_clear_28 : decode cX6_clear 28 = .ok (.sipush 1000, 3) := by decide +kernel
theorem dX6_clear_31 : decode cX6_clear 31 = .ok (.putfield 183, 3) := by decide +kernel
theorem dX6_clear_34 : decode cX6_clear 34 = .ok (.iinc 2 1, 3) := by decide +kernel
theorem dX6_clear_37 : decode cX6_clear 37 = .ok (.goto (-30), 3) := by decide +kernel
theorem dX6_clear_40 : decode cX6_clear 40 = .ok (.aload_n 0, 1) := by decide +kernel
theorem dX6_clear_41 : decode cX6_clear 41 = .ok (.getfield 24, 3) := by decide +kernel
theorem dX6_clear_44 : decode cX6_clear 44 = .ok (.invokevirtual 202, 3) := by decide +kernel
theorem dX6_clear_47 : decode cX6_clear 47 = .ok (.pop, 1) := by decide +kernel
theorem dX6_clear_48 : decode cX6_clear 48 = .ok (.aload_n 0, 1) := by decide +kernel
theorem dX6_clear_49 : decode cX6_clear 49 = .ok (.getfield 31, 3) := by decide +kernel
theorem dX6_clear_52 : decode cX6_clear 52 = .ok (.iconst 0, 1) := by decide +kernel
theorem dX6_clear_53 : decode cX6_clear 53 = .ok (.putfield 198, 3) := by decide +kernel
theorem dX6_clear_56 : decode cX6_clear 56 = .ok (.aload_n 0, 1) := by decide +kernel
theorem dX6_clear_57 : decode cX6_clear 57 = .ok (.getfield 38, 3) := by decide +kernel
theorem dX6_clear_60 : decode cX6_clear 60 = .ok (.iconst 0, 1) := by decide +kernel
theorem dX6_clear_61 : decode cX6_clear 61 = .ok (.putfield 163, 3) := by decide +kernel
theorem dX6_clear_64 : decode cX6_clear 64 = .ok (.aload_n 0, 1) := by decide +kernel
theorem dX6_clear_65 : decode cX6_clear 65 = .ok (.getfield 38, 3) := by decide +kernel
theorem dX6_clear_68 : decode cX6_clear 68 = .ok (.iconst 0, 1) := by decide +kernel
theorem dX6_clear_69 : decode cX6_clear 69 = .ok (.putfield 169, 3) := by decide +kernel
theorem dX6_clear_72 : decode cX6_clear 72 = .ok (.aload_n 0, 1) := by decide +kernel
theorem dX6_clear_73 : decode cX6_clear 73 = .ok (.iconst 0, 1) := by decide +kernel
theorem dX6_clear_74 : decode cX6_clear 74 = .ok (.putfield 56, 3) := by decide +kernel
theorem dX6_clear_77 : decode cX6_clear 77 = .ok (.aload_n 0, 1) := by decide +kernel
theorem dX6_clear_78 : decode cX6_clear 78 = .ok (.iconst 0, 1) := by decide +kernel
theorem dX6_clear_79 : decode cX6_clear 79 = .ok (.putfield 199, 3) := by decide +kernel
theorem dX6_clear_82 : decode cX6_clear 82 = .ok (.aload_n 0, 1) := by decide +kernel
theorem dX6_clear_83 : decode cX6_clear 83 = .ok (.iconst 0, 1) := by decide +kernel
theorem dX6_clear_84 : decode cX6_clear 84 = .ok (.putfield 136, 3) := by decide +kernel
theorem dX6_clear_87 : decode cX6_clear 87 = .ok (.iload_n 1, 1) := by decide +kernel
theorem dX6_clear_88 : decode cX6_clear 88 = .ok (.ireturn, 1) := by decide +kernel
theorem dX6_within_0 : decode cX6_within 0 = .ok (.iload_n 0, 1) := by decide +kernel
theorem dX6_within_1 : decode cX6_within 1 = .ok (.iload_n 1, 1) := by decide +kernel
theorem dX6_within_2 : decode cX6_within 2 = .ok (.if_icmp .lt 12, 3) := by decide +kernel
theorem dX6_within_5 : decode cX6_within 5 = .ok (.iload_n 0, 1) := by decide +kernel
theorem dX6_within_6 : decode cX6_within 6 = .ok (.iload_n 2, 1) := by decide +kernel
theorem dX6_within_7 : decode cX6_within 7 = .ok (.if_icmp .gt 7, 3) := by decide +kernel
theorem dX6_within_10 : decode cX6_within 10 = .ok (.iconst 1, 1) := by decide +kernel
theorem dX6_within_11 : decode cX6_within 11 = .ok (.goto 4, 3) := by decide +kernel
theorem dX6_within_14 : decode cX6_within 14 = .ok (.iconst 0, 1) := by decide +kernel
theorem dX6_within_15 : decode cX6_within 15 = .ok (.ireturn, 1) := by decide +kernel
theorem dX6_isNumber_0 : decode cX6_isNumber 0 = .ok (.iload_n 0, 1) := by decide +kernel
theorem dX6_isNumber_1 : decode cX6_isNumber 1 = .ok (.sipush (-999), 3) := by decide +kernel
theorem dX6_isNumber_4 : decode cX6_isNumber 4 = .ok (.sipush 999, 3) := by decide +kernel
theorem dX6_isNumber_7 : decode cX6_isNumber 7 = .ok (.invokestatic 44, 3) := by decide +kernel
theorem dX6_isNumber_10 : decode cX6_isNumber 10 = .ok (.ireturn, 1) := by decide +kernel
theorem dX6_isField_0 : decode cX6_isField 0 = .ok (.iload_n 0, 1) := by decide +kernel
theorem dX6_isField_1 : decode cX6_isField 1 = .ok (.iconst 0, 1) := by decide +kernel
theorem dX6_isField_2 : decode cX6_isField 2 = .ok (.iconst 4, 1) := by decide +kernel
theorem dX6_isField_3 : decode cX6_isField 3 = .ok (.invokestatic 44, 3) := by decide +kernel
theorem dX6_isField_6 : decode cX6_isField 6 = .ok (.ireturn, 1) := by decide +kernel
theorem dX6_isSession_0 : decode cX6_isSession 0 = .ok (.iload_n 0, 1) := by decide +kernel
theorem dX6_isSession_1 : decode cX6_isSession 1 = .ok (.iconst 0, 1) := by decide +kernel
theorem dX6_isSession_2 : decode cX6_isSession 2 = .ok (.iconst 3, 1) := by decide +kernel
theorem dX6_isSession_3 : decode cX6_isSession 3 = .ok (.invokestatic 44, 3) := by decide +kernel
theorem dX6_isSession_6 : decode cX6_isSession 6 = .ok (.ireturn, 1) := by decide +kernel
theorem dX6_isType_0 : decode cX6_isType 0 = .ok (.iload_n 1, 1) := by decide +kernel
theorem dX6_isType_1 : decode cX6_isType 1 = .ok (.iconst 0, 1) := by decide +kernel
theorem dX6_isType_2 : decode cX6_isType 2 = .ok (.aload_n 0, 1) := by decide +kernel
theorem dX6_isType_3 : decode cX6_isType 3 = .ok (.getfield 56, 3) := by decide +kernel
theorem dX6_isType_6 : decode cX6_isType 6 = .ok (.iconst 1, 1) := by decide +kernel
theorem dX6_isType_7 : decode cX6_isType 7 = .ok (.isub, 1) := by decide +kernel
theorem dX6_isType_8 : decode cX6_isType 8 = .ok (.invokestatic 44, 3) := by decide +kernel
theorem dX6_isType_11 : decode cX6_isType 11 = .ok (.ireturn, 1) := by decide +kernel
theorem dX6_isClass_0 : decode cX6_isClass 0 = .ok (.aload_n 0, 1) := by decide +kernel
theorem dX6_isClass_1 : decode cX6_isClass 1 = .ok (.iload_n 1, 1) := by decide +kernel
theorem dX6_isClass_2 : decode cX6_isClass 2 = .ok (.invokevirtual 68, 3) := by decide +kernel
theorem dX6_isClass_5 : decode cX6_isClass 5 = .ok (.ifCond .eq 19, 3) := by decide +kernel
theorem dX6_isClass_8 : decode cX6_isClass 8 = .ok (.aload_n 0, 1) := by decide +kernel
theorem dX6_isClass_9 : decode cX6_isClass 9 = .ok (.getfield 11, 3) := by decide +kernel
theorem dX6_isClass_12 : decode cX6_isClass 12 = .ok (.iload_n 1, 1) := by decide +kernel
theorem dX6_isClass_13 : decode cX6_isClass 13 = .ok (.aaload, 1) := by decide +kernel
theorem dX6_isClass_14 : decode cX6_isClass 14 = .ok (.getfield 71, 3) := by decide +kernel
theorem dX6_isClass_17 : decode cX6_isClass 17 = .ok (.ifCond .ne 7, 3) := by decide +kernel
theorem dX6_isClass_20 : decode cX6_isClass 20 = .ok (.iconst 1, 1) := by decide +kernel
theorem dX6_isClass_21 : decode cX6_isClass 21 = .ok (.goto 4, 3) := by decide +kernel
theorem dX6_isClass_24 : decode cX6_isClass 24 = .ok (.iconst 0, 1) := by decide +kernel
theorem dX6_isClass_25 : decode cX6_isClass 25 = .ok (.ireturn, 1) := by decide +kernel
theorem dX6_mayNameType_0 : decode cX6_mayNameType 0 = .ok (.iload_n 0, 1) := by decide +kernel
theorem dX6_mayNameType_1 : decode cX6_mayNameType 1 = .ok (.iconst 0, 1) := by decide +kernel
theorem dX6_mayNameType_2 : decode cX6_mayNameType 2 = .ok (.bipush 15, 2) := by decide +kernel
theorem dX6_mayNameType_4 : decode cX6_mayNameType 4 = .ok (.invokestatic 44, 3) := by decide +kernel
theorem dX6_mayNameType_7 : decode cX6_mayNameType 7 = .ok (.ireturn, 1) := by decide +kernel
theorem dX6_isLine_0 : decode cX6_isLine 0 = .ok (.iload_n 0, 1) := by decide +kernel
theorem dX6_isLine_1 : decode cX6_isLine 1 = .ok (.tableswitch 137 0 6 #[43, 63, 90, 95, 103, 112, 117], 43) := by decide +kernel
theorem dX6_isLine_44 : decode cX6_isLine 44 = .ok (.iload_n 1, 1) := by decide +kernel
theorem dX6_isLine_45 : decode cX6_isLine 45 = .ok (.invokestatic 89, 3) := by decide +kernel
theorem dX6_isLine_48 : decode cX6_isLine 48 = .ok (.ifCond .eq 14, 3) := by decide +kernel
theorem dX6_isLine_51 : decode cX6_isLine 51 = .ok (.iload_n 2, 1) := by decide +kernel
theorem dX6_isLine_52 : decode cX6_isLine 52 = .ok (.invokestatic 92, 3) := by decide +kernel
theorem dX6_isLine_55 : decode cX6_isLine 55 = .ok (.ifCond .eq 7, 3) := by decide +kernel
theorem dX6_isLine_58 : decode cX6_isLine 58 = .ok (.iconst 1, 1) := by decide +kernel
theorem dX6_isLine_59 : decode cX6_isLine 59 = .ok (.goto 4, 3) := by decide +kernel
theorem dX6_isLine_62 : decode cX6_isLine 62 = .ok (.iconst 0, 1) := by decide +kernel
theorem dX6_isLine_63 : decode cX6_isLine 63 = .ok (.ireturn, 1) := by decide +kernel
theorem dX6_isLine_64 : decode cX6_isLine 64 = .ok (.iload_n 1, 1) := by decide +kernel
theorem dX6_isLine_65 : decode cX6_isLine 65 = .ok (.invokestatic 89, 3) := by decide +kernel
theorem dX6_isLine_68 : decode cX6_isLine 68 = .ok (.ifCond .eq 21, 3) := by decide +kernel
theorem dX6_isLine_71 : decode cX6_isLine 71 = .ok (.iload_n 2, 1) := by decide +kernel
theorem dX6_isLine_72 : decode cX6_isLine 72 = .ok (.invokestatic 203, 3) := by decide +kernel
theorem dX6_isLine_75 : decode cX6_isLine 75 = .ok (.ifCond .eq 14, 3) := by decide +kernel
theorem dX6_isLine_78 : decode cX6_isLine 78 = .ok (.iload_n 3, 1) := by decide +kernel
theorem dX6_isLine_79 : decode cX6_isLine 79 = .ok (.invokestatic 89, 3) := by decide +kernel
theorem dX6_isLine_82 : decode cX6_isLine 82 = .ok (.ifCond .eq 7, 3) := by decide +kernel
theorem dX6_isLine_85 : decode cX6_isLine 85 = .ok (.iconst 1, 1) := by decide +kernel
theorem dX6_isLine_86 : decode cX6_isLine 86 = .ok (.goto 4, 3) := by decide +kernel
theorem dX6_isLine_89 : decode cX6_isLine 89 = .ok (.iconst 0, 1) := by decide +kernel
theorem dX6_isLine_90 : decode cX6_isLine 90 = .ok (.ireturn, 1) := by decide +kernel
theorem dX6_isLine_91 : decode cX6_isLine 91 = .ok (.iload_n 1, 1) := by decide +kernel
theorem dX6_isLine_92 : decode cX6_isLine 92 = .ok (.invokestatic 203, 3) := by decide +kernel
theorem dX6_isLine_95 : decode cX6_isLine 95 = .ok (.ireturn, 1) := by decide +kernel
theorem dX6_isLine_96 : decode cX6_isLine 96 = .ok (.iload_n 1, 1) := by decide +kernel
theorem dX6_isLine_97 : decode cX6_isLine 97 = .ok (.iconst 0, 1) := by decide +kernel
theorem dX6_isLine_98 : decode cX6_isLine 98 = .ok (.bipush 6, 2) := by decide +kernel
theorem dX6_isLine_100 : decode cX6_isLine 100 = .ok (.invokestatic 44, 3) := by decide +kernel
theorem dX6_isLine_103 : decode cX6_isLine 103 = .ok (.ireturn, 1) := by decide +kernel
theorem dX6_isLine_104 : decode cX6_isLine 104 = .ok (.iload_n 1, 1) := by decide +kernel
theorem dX6_isLine_105 : decode cX6_isLine 105 = .ok (.iconst 0, 1) := by decide +kernel
theorem dX6_isLine_106 : decode cX6_isLine 106 = .ok (.sipush 1000, 3) := by decide +kernel
theorem dX6_isLine_109 : decode cX6_isLine 109 = .ok (.invokestatic 44, 3) := by decide +kernel
theorem dX6_isLine_112 : decode cX6_isLine 112 = .ok (.ireturn, 1) := by decide +kernel
theorem dX6_isLine_113 : decode cX6_isLine 113 = .ok (.iload_n 1, 1) := by decide +kernel
theorem dX6_isLine_114 : decode cX6_isLine 114 = .ok (.invokestatic 92, 3) := by decide +kernel
theorem dX6_isLine_117 : decode cX6_isLine 117 = .ok (.ireturn, 1) := by decide +kernel
theorem dX6_isLine_118 : decode cX6_isLine 118 = .ok (.iload_n 1, 1) := by decide +kernel
theorem dX6_isLine_119 : decode cX6_isLine 119 = .ok (.invokestatic 89, 3) := by decide +kernel
theorem dX6_isLine_122 : decode cX6_isLine 122 = .ok (.ifCond .eq 14, 3) := by decide +kernel
theorem dX6_isLine_125 : decode cX6_isLine 125 = .ok (.iload_n 2, 1) := by decide +kernel
theorem dX6_isLine_126 : decode cX6_isLine 126 = .ok (.invokestatic 203, 3) := by decide +kernel
theorem dX6_isLine_129 : decode cX6_isLine 129 = .ok (.ifCond .eq 7, 3) := by decide +kernel
theorem dX6_isLine_132 : decode cX6_isLine 132 = .ok (.iconst 1, 1) := by decide +kernel
theorem dX6_isLine_133 : decode cX6_isLine 133 = .ok (.goto 4, 3) := by decide +kernel
theorem dX6_isLine_136 : decode cX6_isLine 136 = .ok (.iconst 0, 1) := by decide +kernel
theorem dX6_isLine_137 : decode cX6_isLine 137 = .ok (.ireturn, 1) := by decide +kernel
theorem dX6_isLine_138 : decode cX6_isLine 138 = .ok (.iconst 0, 1) := by decide +kernel
theorem dX6_isLine_139 : decode cX6_isLine 139 = .ok (.ireturn, 1) := by decide +kernel
theorem dX6_refusalOfUse_0 : decode cX6_refusalOfUse 0 = .ok (.iload_n 1, 1) := by decide +kernel
theorem dX6_refusalOfUse_1 : decode cX6_refusalOfUse 1 = .ok (.invokestatic 143, 3) := by decide +kernel
theorem dX6_refusalOfUse_4 : decode cX6_refusalOfUse 4 = .ok (.ifCond .eq 11, 3) := by decide +kernel
theorem dX6_refusalOfUse_7 : decode cX6_refusalOfUse 7 = .ok (.aload_n 0, 1) := by decide +kernel
theorem dX6_refusalOfUse_8 : decode cX6_refusalOfUse 8 = .ok (.iload_n 2, 1) := by decide +kernel
theorem dX6_refusalOfUse_9 : decode cX6_refusalOfUse 9 = .ok (.invokevirtual 68, 3) := by decide +kernel
theorem dX6_refusalOfUse_12 : decode cX6_refusalOfUse 12 = .ok (.ifCond .ne 6, 3) := by decide +kernel
theorem dX6_refusalOfUse_15 : decode cX6_refusalOfUse 15 = .ok (.bipush (-101), 2) := by decide +kernel
theorem dX6_refusalOfUse_17 : decode cX6_refusalOfUse 17 = .ok (.ireturn, 1) := by decide +kernel
theorem dX6_refusalOfUse_18 : decode cX6_refusalOfUse 18 = .ok (.iload_n 3, 1) := by decide +kernel
theorem dX6_refusalOfUse_19 : decode cX6_refusalOfUse 19 = .ok (.iconst 1, 1) := by decide +kernel
theorem dX6_refusalOfUse_20 : decode cX6_refusalOfUse 20 = .ok (.if_icmp .eq 8, 3) := by decide +kernel
theorem dX6_refusalOfUse_23 : decode cX6_refusalOfUse 23 = .ok (.iload_n 3, 1) := by decide +kernel
theorem dX6_refusalOfUse_24 : decode cX6_refusalOfUse 24 = .ok (.iconst 2, 1) := by decide +kernel
theorem dX6_refusalOfUse_25 : decode cX6_refusalOfUse 25 = .ok (.if_icmp .ne 7, 3) := by decide +kernel
theorem dX6_refusalOfUse_28 : decode cX6_refusalOfUse 28 = .ok (.iconst 1, 1) := by decide +kernel
theorem dX6_refusalOfUse_29 : decode cX6_refusalOfUse 29 = .ok (.goto 4, 3) := by decide +kernel
theorem dX6_refusalOfUse_32 : decode cX6_refusalOfUse 32 = .ok (.iconst 0, 1) := by decide +kernel
theorem dX6_refusalOfUse_33 : decode cX6_refusalOfUse 33 = .ok (.istore 6, 2) := by decide +kernel
theorem dX6_refusalOfUse_35 : decode cX6_refusalOfUse 35 = .ok (.iload_n 3, 1) := by decide +kernel
theorem dX6_refusalOfUse_36 : decode cX6_refusalOfUse 36 = .ok (.iconst 0, 1) := by decide +kernel
theorem dX6_refusalOfUse_37 : decode cX6_refusalOfUse 37 = .ok (.iconst 3, 1) := by decide +kernel
theorem dX6_refusalOfUse_38 : decode cX6_refusalOfUse 38 = .ok (.invokestatic 44, 3) := by decide +kernel
theorem dX6_refusalOfUse_41 : decode cX6_refusalOfUse 41 = .ok (.ifCond .eq 29, 3) := by decide +kernel
theorem dX6_refusalOfUse_44 : decode cX6_refusalOfUse 44 = .ok (.iload 6, 2) := by decide +kernel
theorem dX6_refusalOfUse_46 : decode cX6_refusalOfUse 46 = .ok (.ifCond .eq 11, 3) := by decide +kernel
theorem dX6_refusalOfUse_49 : decode cX6_refusalOfUse 49 = .ok (.iload 4, 2) := by decide +kernel
theorem dX6_refusalOfUse_51 : decode cX6_refusalOfUse 51 = .ok (.invokestatic 89, 3) := by decide +kernel
theorem dX6_refusalOfUse_54 : decode cX6_refusalOfUse 54 = .ok (.ifCond .eq 16, 3) := by decide +kernel
theorem dX6_refusalOfUse_57 : decode cX6_refusalOfUse 57 = .ok (.iload_n 3, 1) := by decide +kernel
theorem dX6_refusalOfUse_58 : decode cX6_refusalOfUse 58 = .ok (.iconst 2, 1) := by decide +kernel
theorem dX6_refusalOfUse_59 : decode cX6_refusalOfUse 59 = .ok (.if_icmp .ne 14, 3) := by decide +kernel
theorem dX6_refusalOfUse_62 : decode cX6_refusalOfUse 62 = .ok (.iload 5, 2) := by decide +kernel
theorem dX6_refusalOfUse_64 : decode cX6_refusalOfUse 64 = .ok (.invokestatic 92, 3) := by decide +kernel
theorem dX6_refusalOfUse_67 : decode cX6_refusalOfUse 67 = .ok (.ifCond .ne 6, 3) := by decide +kernel
theorem dX6_refusalOfUse_70 : decode cX6_refusalOfUse 70 = .ok (.bipush (-102), 2) := by decide +kernel
theorem dX6_refusalOfUse_72 : decode cX6_refusalOfUse 72 = .ok (.ireturn, 1) := by decide +kernel
theorem dX6_refusalOfUse_73 : decode cX6_refusalOfUse 73 = .ok (.iload_n 3, 1) := by decide +kernel
theorem dX6_refusalOfUse_74 : decode cX6_refusalOfUse 74 = .ok (.ifCond .ne 11, 3) := by decide +kernel
theorem dX6_refusalOfUse_77 : decode cX6_refusalOfUse 77 = .ok (.aload_n 0, 1) := by decide +kernel
theorem dX6_refusalOfUse_78 : decode cX6_refusalOfUse 78 = .ok (.iload_n 2, 1) := by decide +kernel
theorem dX6_refusalOfUse_79 : decode cX6_refusalOfUse 79 = .ok (.invokevirtual 48, 3) := by decide +kernel
theorem dX6_refusalOfUse_82 : decode cX6_refusalOfUse 82 = .ok (.ifCond .eq 18, 3) := by decide +kernel
theorem dX6_refusalOfUse_85 : decode cX6_refusalOfUse 85 = .ok (.iload_n 3, 1) := by decide +kernel
theorem dX6_refusalOfUse_86 : decode cX6_refusalOfUse 86 = .ok (.iconst 2, 1) := by decide +kernel
theorem dX6_refusalOfUse_87 : decode cX6_refusalOfUse 87 = .ok (.if_icmp .ne 16, 3) := by decide +kernel
theorem dX6_refusalOfUse_90 : decode cX6_refusalOfUse 90 = .ok (.aload_n 0, 1) := by decide +kernel
theorem dX6_refusalOfUse_91 : decode cX6_refusalOfUse 91 = .ok (.iload_n 2, 1) := by decide +kernel
theorem dX6_refusalOfUse_92 : decode cX6_refusalOfUse 92 = .ok (.iload 4, 2) := by decide +kernel
theorem dX6_refusalOfUse_94 : decode cX6_refusalOfUse 94 = .ok (.invokevirtual 206, 3) := by decide +kernel
theorem dX6_refusalOfUse_97 : decode cX6_refusalOfUse 97 = .ok (.ifCond .ne 6, 3) := by decide +kernel
theorem dX6_refusalOfUse_100 : decode cX6_refusalOfUse 100 = .ok (.bipush (-103), 2) := by decide +kernel
theorem dX6_refusalOfUse_102 : decode cX6_refusalOfUse 102 = .ok (.ireturn, 1) := by decide +kernel
theorem dX6_refusalOfUse_103 : decode cX6_refusalOfUse 103 = .ok (.aload_n 0, 1) := by decide +kernel
theorem dX6_refusalOfUse_104 : decode cX6_refusalOfUse 104 = .ok (.getfield 31, 3) := by decide +kernel
theorem dX6_refusalOfUse_107 : decode cX6_refusalOfUse 107 = .ok (.getfield 198, 3) := by decide +kernel
theorem dX6_refusalOfUse_110 : decode cX6_refusalOfUse 110 = .ok (.sipush 512, 3) := by decide +kernel
theorem dX6_refusalOfUse_113 : decode cX6_refusalOfUse 113 = .ok (.if_icmp .lt 8, 3) := by decide +kernel
theorem dX6_refusalOfUse_116 : decode cX6_refusalOfUse 116 = .ok (.bipush (-104), 2) := by decide +kernel
theorem dX6_refusalOfUse_118 : decode cX6_refusalOfUse 118 = .ok (.goto 4, 3) := by decide +kernel
theorem dX6_refusalOfUse_121 : decode cX6_refusalOfUse 121 = .ok (.iconst 0, 1) := by decide +kernel
theorem dX6_refusalOfUse_122 : decode cX6_refusalOfUse 122 = .ok (.ireturn, 1) := by decide +kernel
theorem dX6_canBeSet_0 : decode cX6_canBeSet 0 = .ok (.aload_n 0, 1) := by decide +kernel
theorem dX6_canBeSet_1 : decode cX6_canBeSet 1 = .ok (.iload_n 1, 1) := by decide +kernel
theorem dX6_canBeSet_2 : decode cX6_canBeSet 2 = .ok (.iload_n 2, 1) := by decide +kernel
theorem dX6_canBeSet_3 : decode cX6_canBeSet 3 = .ok (.invokevirtual 210, 3) := by decide +kernel
theorem dX6_canBeSet_6 : decode cX6_canBeSet 6 = .ok (.istore_n 3, 1) := by decide +kernel
theorem dX6_canBeSet_7 : decode cX6_canBeSet 7 = .ok (.iload_n 3, 1) := by decide +kernel
theorem dX6_canBeSet_8 : decode cX6_canBeSet 8 = .ok (.iconst (-1), 1) := by decide +kernel
theorem dX6_canBeSet_9 : decode cX6_canBeSet 9 = .ok (.if_icmp .eq 22, 3) := by decide +kernel
theorem dX6_canBeSet_12 : decode cX6_canBeSet 12 = .ok (.aload_n 0, 1) := by decide +kernel
theorem dX6_canBeSet_13 : decode cX6_canBeSet 13 = .ok (.getfield 11, 3) := by decide +kernel
theorem dX6_canBeSet_16 : decode cX6_canBeSet 16 = .ok (.iload_n 3, 1) := by decide +kernel
theorem dX6_canBeSet_17 : decode cX6_canBeSet 17 = .ok (.aaload, 1) := by decide +kernel
theorem dX6_canBeSet_18 : decode cX6_canBeSet 18 = .ok (.getfield 95, 3) := by decide +kernel
theorem dX6_canBeSet_21 : decode cX6_canBeSet 21 = .ok (.iload_n 2, 1) := by decide +kernel
theorem dX6_canBeSet_22 : decode cX6_canBeSet 22 = .ok (.iaload, 1) := by decide +kernel
theorem dX6_canBeSet_23 : decode cX6_canBeSet 23 = .ok (.iconst 2, 1) := by decide +kernel
theorem dX6_canBeSet_24 : decode cX6_canBeSet 24 = .ok (.if_icmp .ne 7, 3) := by decide +kernel
theorem dX6_canBeSet_27 : decode cX6_canBeSet 27 = .ok (.iconst 1, 1) := by decide +kernel
theorem dX6_canBeSet_28 : decode cX6_canBeSet 28 = .ok (.goto 4, 3) := by decide +kernel
theorem dX6_canBeSet_31 : decode cX6_canBeSet 31 = .ok (.iconst 0, 1) := by decide +kernel
theorem dX6_canBeSet_32 : decode cX6_canBeSet 32 = .ok (.ireturn, 1) := by decide +kernel
theorem dX6_placeOf_0 : decode cX6_placeOf 0 = .ok (.aload_n 0, 1) := by decide +kernel
theorem dX6_placeOf_1 : decode cX6_placeOf 1 = .ok (.getfield 11, 3) := by decide +kernel
theorem dX6_placeOf_4 : decode cX6_placeOf 4 = .ok (.iload_n 2, 1) := by decide +kernel
theorem dX6_placeOf_5 : decode cX6_placeOf 5 = .ok (.aaload, 1) := by decide +kernel
theorem dX6_placeOf_6 : decode cX6_placeOf 6 = .ok (.getfield 52, 3) := by decide +kernel
theorem dX6_placeOf_9 : decode cX6_placeOf 9 = .ok (.ifCond .eq 10, 3) := by decide +kernel
theorem dX6_placeOf_12 : decode cX6_placeOf 12 = .ok (.aload_n 0, 1) := by decide +kernel
theorem dX6_placeOf_13 : decode cX6_placeOf 13 = .ok (.getfield 24, 3) := by decide +kernel
theorem dX6_placeOf_16 : decode cX6_placeOf 16 = .ok (.goto 12, 3) := by decide +kernel
theorem dX6_placeOf_19 : decode cX6_placeOf 19 = .ok (.aload_n 0, 1) := by decide +kernel
theorem dX6_placeOf_20 : decode cX6_placeOf 20 = .ok (.getfield 17, 3) := by decide +kernel
theorem dX6_placeOf_23 : decode cX6_placeOf 23 = .ok (.iload_n 1, 1) := by decide +kernel
theorem dX6_placeOf_24 : decode cX6_placeOf 24 = .ok (.aaload, 1) := by decide +kernel
theorem dX6_placeOf_25 : decode cX6_placeOf 25 = .ok (.getfield 213, 3) := by decide +kernel
theorem dX6_placeOf_28 : decode cX6_placeOf 28 = .ok (.areturn, 1) := by decide +kernel
theorem dX6_countNotZero_0 : decode cX6_countNotZero 0 = .ok (.aload_n 0, 1) := by decide +kernel
theorem dX6_countNotZero_1 : decode cX6_countNotZero 1 = .ok (.iload_n 1, 1) := by decide +kernel
theorem dX6_countNotZero_2 : decode cX6_countNotZero 2 = .ok (.iload_n 2, 1) := by decide +kernel
theorem dX6_countNotZero_3 : decode cX6_countNotZero 3 = .ok (.invokevirtual 146, 3) := by decide +kernel
theorem dX6_countNotZero_6 : decode cX6_countNotZero 6 = .ok (.astore_n 3, 1) := by decide +kernel
theorem dX6_countNotZero_7 : decode cX6_countNotZero 7 = .ok (.iconst 0, 1) := by decide +kernel
theorem dX6_countNotZero_8 : decode cX6_countNotZero 8 = .ok (.istore 4, 2) := by decide +kernel
theorem dX6_countNotZero_10 : decode cX6_countNotZero 10 = .ok (.iconst 0, 1) := by decide +kernel
theorem dX6_countNotZero_11 : decode cX6_countNotZero 11 = .ok (.istore 5, 2) := by decide +kernel
theorem dX6_countNotZero_13 : decode cX6_countNotZero 13 = .ok (.iload 5, 2) := by decide +kernel
theorem dX6_countNotZero_15 : decode cX6_countNotZero 15 = .ok (.iconst 5, 1) := by decide +kernel
theorem dX6_countNotZero_16 : decode cX6_countNotZero 16 = .ok (.if_icmp .ge 38, 3) := by decide +kernel
theorem dX6_countNotZero_19 : decode cX6_countNotZero 19 = .ok (.aload_n 0, 1) := by decide +kernel
theorem dX6_countNotZero_20 : decode cX6_countNotZero 20 = .ok (.getfield 11, 3) := by decide +kernel
theorem dX6_countNotZero_23 : decode cX6_countNotZero 23 = .ok (.iload_n 2, 1) := by decide +kernel
theorem dX6_countNotZero_24 : decode cX6_countNotZero 24 = .ok (.aaload, 1) := by decide +kernel
theorem dX6_countNotZero_25 : decode cX6_countNotZero 25 = .ok (.getfield 95, 3) := by decide +kernel
theorem dX6_countNotZero_28 : decode cX6_countNotZero 28 = .ok (.iload 5, 2) := by decide +kernel
theorem dX6_countNotZero_30 : decode cX6_countNotZero 30 = .ok (.iaload, 1) := by decide +kernel
theorem dX6_countNotZero_31 : decode cX6_countNotZero 31 = .ok (.iconst 2, 1) := by decide +kernel
theorem dX6_countNotZero_32 : decode cX6_countNotZero 32 = .ok (.if_icmp .ne 16, 3) := by decide +kernel
theorem dX6_countNotZero_35 : decode cX6_countNotZero 35 = .ok (.aload_n 3, 1) := by decide +kernel
theorem dX6_countNotZero_36 : decode cX6_countNotZero 36 = .ok (.iload_n 2, 1) := by decide +kernel
theorem dX6_countNotZero_37 : decode cX6_countNotZero 37 = .ok (.iload 5, 2) := by decide +kernel
theorem dX6_countNotZero_39 : decode cX6_countNotZero 39 = .ok (.invokevirtual 160, 3) := by decide +kernel
theorem dX6_countNotZero_42 : decode cX6_countNotZero 42 = .ok (.ifCond .eq 6, 3) := by decide +kernel
theorem dX6_countNotZero_45 : decode cX6_countNotZero 45 = .ok (.iinc 4 1, 3) := by decide +kernel
theorem dX6_countNotZero_48 : decode cX6_countNotZero 48 = .ok (.iinc 5 1, 3) := by decide +kernel
theorem dX6_countNotZero_51 : decode cX6_countNotZero 51 = .ok (.goto (-38), 3) := by decide +kernel
theorem dX6_countNotZero_54 : decode cX6_countNotZero 54 = .ok (.iload 4, 2) := by decide +kernel
theorem dX6_countNotZero_56 : decode cX6_countNotZero 56 = .ok (.ireturn, 1) := by decide +kernel
theorem dX6_arrange_0 : decode cX6_arrange 0 = .ok (.aload_n 0, 1) := by decide +kernel
theorem dX6_arrange_1 : decode cX6_arrange 1 = .ok (.getfield 11, 3) := by decide +kernel
theorem dX6_arrange_4 : decode cX6_arrange 4 = .ok (.iload_n 1, 1) := by decide +kernel
theorem dX6_arrange_5 : decode cX6_arrange 5 = .ok (.aaload, 1) := by decide +kernel
theorem dX6_arrange_6 : decode cX6_arrange 6 = .ok (.astore_n 2, 1) := by decide +kernel
theorem dX6_arrange_7 : decode cX6_arrange 7 = .ok (.aload_n 2, 1) := by decide +kernel
theorem dX6_arrange_8 : decode cX6_arrange 8 = .ok (.getfield 216, 3) := by decide +kernel
theorem dX6_arrange_11 : decode cX6_arrange 11 = .ok (.invokevirtual 219, 3) := by decide +kernel
theorem dX6_arrange_14 : decode cX6_arrange 14 = .ok (.aload_n 2, 1) := by decide +kernel
theorem dX6_arrange_15 : decode cX6_arrange 15 = .ok (.getfield 222, 3) := by decide +kernel
theorem dX6_arrange_18 : decode cX6_arrange 18 = .ok (.invokevirtual 219, 3) := by decide +kernel
theorem dX6_arrange_21 : decode cX6_arrange 21 = .ok (.aload_n 2, 1) := by decide +kernel
theorem dX6_arrange_22 : decode cX6_arrange 22 = .ok (.getfield 216, 3) := by decide +kernel
theorem dX6_arrange_25 : decode cX6_arrange 25 = .ok (.iload_n 1, 1) := by decide +kernel
theorem dX6_arrange_26 : decode cX6_arrange 26 = .ok (.invokevirtual 86, 3) := by decide +kernel
theorem dX6_arrange_29 : decode cX6_arrange 29 = .ok (.iconst 0, 1) := by decide +kernel
theorem dX6_arrange_30 : decode cX6_arrange 30 = .ok (.istore_n 3, 1) := by decide +kernel
theorem dX6_arrange_31 : decode cX6_arrange 31 = .ok (.iload_n 3, 1) := by decide +kernel
theorem dX6_arrange_32 : decode cX6_arrange 32 = .ok (.aload_n 2, 1) := by decide +kernel
theorem dX6_arrange_33 : decode cX6_arrange 33 = .ok (.getfield 74, 3) := by decide +kernel
theorem dX6_arrange_36 : decode cX6_arrange 36 = .ok (.getfield 83, 3) := by decide +kernel
theorem dX6_arrange_39 : decode cX6_arrange 39 = .ok (.if_icmp .ge 77, 3) := by decide +kernel
theorem dX6_arrange_42 : decode cX6_arrange 42 = .ok (.aload_n 2, 1) := by decide +kernel
theorem dX6_arrange_43 : decode cX6_arrange 43 = .ok (.getfield 74, 3) := by decide +kernel
theorem dX6_arrange_46 : decode cX6_arrange 46 = .ok (.getfield 225, 3) := by decide +kernel
theorem dX6_arrange_49 : decode cX6_arrange 49 = .ok (.iload_n 3, 1) := by decide +kernel
theorem dX6_arrange_50 : decode cX6_arrange 50 = .ok (.iaload, 1) := by decide +kernel
theorem dX6_arrange_51 : decode cX6_arrange 51 = .ok (.istore 4, 2) := by decide +kernel
theorem dX6_arrange_53 : decode cX6_arrange 53 = .ok (.aload_n 2, 1) := by decide +kernel
theorem dX6_arrange_54 : decode cX6_arrange 54 = .ok (.getfield 216, 3) := by decide +kernel
theorem dX6_arrange_57 : decode cX6_arrange 57 = .ok (.aload_n 0, 1) := by decide +kernel
theorem dX6_arrange_58 : decode cX6_arrange 58 = .ok (.getfield 11, 3) := by decide +kernel
theorem dX6_arrange_61 : decode cX6_arrange 61 = .ok (.iload 4, 2) := by decide +kernel
theorem dX6_arrange_63 : decode cX6_arrange 63 = .ok (.aaload, 1) := by decide +kernel
theorem dX6_arrange_64 : decode cX6_arrange 64 = .ok (.getfield 216, 3) := by decide +kernel
theorem dX6_arrange_67 : decode cX6_arrange 67 = .ok (.invokevirtual 228, 3) := by decide +kernel
theorem dX6_arrange_70 : decode cX6_arrange 70 = .ok (.aload_n 2, 1) := by decide +kernel
theorem dX6_arrange_71 : decode cX6_arrange 71 = .ok (.getfield 222, 3) := by decide +kernel
theorem dX6_arrange_74 : decode cX6_arrange 74 = .ok (.aload_n 0, 1) := by decide +kernel
theorem dX6_arrange_75 : decode cX6_arrange 75 = .ok (.getfield 11, 3) := by decide +kernel
theorem dX6_arrange_78 : decode cX6_arrange 78 = .ok (.iload 4, 2) := by decide +kernel
theorem dX6_arrange_80 : decode cX6_arrange 80 = .ok (.aaload, 1) := by decide +kernel
theorem dX6_arrange_81 : decode cX6_arrange 81 = .ok (.getfield 222, 3) := by decide +kernel
theorem dX6_arrange_84 : decode cX6_arrange 84 = .ok (.invokevirtual 228, 3) := by decide +kernel
theorem dX6_arrange_87 : decode cX6_arrange 87 = .ok (.aload_n 0, 1) := by decide +kernel
theorem dX6_arrange_88 : decode cX6_arrange 88 = .ok (.getfield 11, 3) := by decide +kernel
theorem dX6_arrange_91 : decode cX6_arrange 91 = .ok (.iload 4, 2) := by decide +kernel
theorem dX6_arrange_93 : decode cX6_arrange 93 = .ok (.aaload, 1) := by decide +kernel
theorem dX6_arrange_94 : decode cX6_arrange 94 = .ok (.getfield 71, 3) := by decide +kernel
theorem dX6_arrange_97 : decode cX6_arrange 97 = .ok (.iconst 2, 1) := by decide +kernel
theorem dX6_arrange_98 : decode cX6_arrange 98 = .ok (.if_icmp .ne 12, 3) := by decide +kernel
theorem dX6_arrange_101 : decode cX6_arrange 101 = .ok (.aload_n 2, 1) := by decide +kernel
theorem dX6_arrange_102 : decode cX6_arrange 102 = .ok (.getfield 222, 3) := by decide +kernel
theorem dX6_arrange_105 : decode cX6_arrange 105 = .ok (.iload 4, 2) := by decide +kernel
theorem dX6_arrange_107 : decode cX6_arrange 107 = .ok (.invokevirtual 86, 3) := by decide +kernel
theorem dX6_arrange_110 : decode cX6_arrange 110 = .ok (.iinc 3 1, 3) := by decide +kernel
theorem dX6_arrange_113 : decode cX6_arrange 113 = .ok (.goto (-82), 3) := by decide +kernel
theorem dX6_arrange_116 : decode cX6_arrange 116 = .ok (.aload_n 2, 1) := by decide +kernel
theorem dX6_arrange_117 : decode cX6_arrange 117 = .ok (.getfield 232, 3) := by decide +kernel
theorem dX6_arrange_120 : decode cX6_arrange 120 = .ok (.iconst (-1), 1) := by decide +kernel
theorem dX6_arrange_121 : decode cX6_arrange 121 = .ok (.if_icmp .eq 22, 3) := by decide +kernel
theorem dX6_arrange_124 : decode cX6_arrange 124 = .ok (.aload_n 2, 1) := by decide +kernel
theorem dX6_arrange_125 : decode cX6_arrange 125 = .ok (.getfield 216, 3) := by decide +kernel
theorem dX6_arrange_128 : decode cX6_arrange 128 = .ok (.aload_n 0, 1) := by decide +kernel
theorem dX6_arrange_129 : decode cX6_arrange 129 = .ok (.getfield 11, 3) := by decide +kernel
theorem dX6_arrange_132 : decode cX6_arrange 132 = .ok (.aload_n 2, 1) := by decide +kernel
theorem dX6_arrange_133 : decode cX6_arrange 133 = .ok (.getfield 232, 3) := by decide +kernel
theorem dX6_arrange_136 : decode cX6_arrange 136 = .ok (.aaload, 1) := by decide +kernel
theorem dX6_arrange_137 : decode cX6_arrange 137 = .ok (.getfield 216, 3) := by decide +kernel
theorem dX6_arrange_140 : decode cX6_arrange 140 = .ok (.invokevirtual 228, 3) := by decide +kernel
theorem dX6_arrange_143 : decode cX6_arrange 143 = .ok (.return_, 1) := by decide +kernel
theorem dX6_homeOf_0 : decode cX6_homeOf 0 = .ok (.aload_n 0, 1) := by decide +kernel
theorem dX6_homeOf_1 : decode cX6_homeOf 1 = .ok (.getfield 11, 3) := by decide +kernel
theorem dX6_homeOf_4 : decode cX6_homeOf 4 = .ok (.iload_n 1, 1) := by decide +kernel
theorem dX6_homeOf_5 : decode cX6_homeOf 5 = .ok (.aaload, 1) := by decide +kernel
theorem dX6_homeOf_6 : decode cX6_homeOf 6 = .ok (.getfield 216, 3) := by decide +kernel
theorem dX6_homeOf_9 : decode cX6_homeOf 9 = .ok (.astore_n 3, 1) := by decide +kernel
theorem dX6_homeOf_10 : decode cX6_homeOf 10 = .ok (.iconst 0, 1) := by decide +kernel
theorem dX6_homeOf_11 : decode cX6_homeOf 11 = .ok (.istore 4, 2) := by decide +kernel
theorem dX6_homeOf_13 : decode cX6_homeOf 13 = .ok (.iload 4, 2) := by decide +kernel
theorem dX6_homeOf_15 : decode cX6_homeOf 15 = .ok (.aload_n 3, 1) := by decide +kernel
theorem dX6_homeOf_16 : decode cX6_homeOf 16 = .ok (.getfield 83, 3) := by decide +kernel
theorem dX6_homeOf_19 : decode cX6_homeOf 19 = .ok (.if_icmp .ge 37, 3) := by decide +kernel
theorem dX6_homeOf_22 : decode cX6_homeOf 22 = .ok (.aload_n 0, 1) := by decide +kernel
theorem dX6_homeOf_23 : decode cX6_homeOf 23 = .ok (.getfield 11, 3) := by decide +kernel
theorem dX6_homeOf_26 : decode cX6_homeOf 26 = .ok (.aload_n 3, 1) := by decide +kernel
theorem dX6_homeOf_27 : decode cX6_homeOf 27 = .ok (.getfield 225, 3) := by decide +kernel
theorem dX6_homeOf_30 : decode cX6_homeOf 30 = .ok (.iload 4, 2) := by decide +kernel
theorem dX6_homeOf_32 : decode cX6_homeOf 32 = .ok (.iaload, 1) := by decide +kernel
theorem dX6_homeOf_33 : decode cX6_homeOf 33 = .ok (.aaload, 1) := by decide +kernel
theorem dX6_homeOf_34 : decode cX6_homeOf 34 = .ok (.getfield 95, 3) := by decide +kernel
theorem dX6_homeOf_37 : decode cX6_homeOf 37 = .ok (.iload_n 2, 1) := by decide +kernel
theorem dX6_homeOf_38 : decode cX6_homeOf 38 = .ok (.iaload, 1) := by decide +kernel
theorem dX6_homeOf_39 : decode cX6_homeOf 39 = .ok (.ifCond .eq 11, 3) := by decide +kernel
theorem dX6_homeOf_42 : decode cX6_homeOf 42 = .ok (.aload_n 3, 1) := by decide +kernel
theorem dX6_homeOf_43 : decode cX6_homeOf 43 = .ok (.getfield 225, 3) := by decide +kernel
theorem dX6_homeOf_46 : decode cX6_homeOf 46 = .ok (.iload 4, 2) := by decide +kernel
theorem dX6_homeOf_48 : decode cX6_homeOf 48 = .ok (.iaload, 1) := by decide +kernel
theorem dX6_homeOf_49 : decode cX6_homeOf 49 = .ok (.ireturn, 1) := by decide +kernel
theorem dX6_homeOf_50 : decode cX6_homeOf 50 = .ok (.iinc 4 1, 3) := by decide +kernel
theorem dX6_homeOf_53 : decode cX6_homeOf 53 = .ok (.goto (-40), 3) := by decide +kernel
theorem dX6_homeOf_56 : decode cX6_homeOf 56 = .ok (.iconst (-1), 1) := by decide +kernel
theorem dX6_homeOf_57 : decode cX6_homeOf 57 = .ok (.ireturn, 1) := by decide +kernel
theorem dX6_perform_0 : decode cX6_perform 0 = .ok (.iload_n 2, 1) := by decide +kernel
theorem dX6_perform_1 : decode cX6_perform 1 = .ok (.tableswitch 50 0 2 #[27, 33, 41], 27) := by decide +kernel
theorem dX6_perform_28 : decode cX6_perform 28 = .ok (.aload_n 0, 1) := by decide +kernel
theorem dX6_perform_29 : decode cX6_perform 29 = .ok (.iload_n 1, 1) := by decide +kernel
theorem dX6_perform_30 : decode cX6_perform 30 = .ok (.invokevirtual 235, 3) := by decide +kernel
theorem dX6_perform_33 : decode cX6_perform 33 = .ok (.ireturn, 1) := by decide +kernel
theorem dX6_perform_34 : decode cX6_perform 34 = .ok (.aload_n 0, 1) := by decide +kernel
theorem dX6_perform_35 : decode cX6_perform 35 = .ok (.iload_n 1, 1) := by decide +kernel
theorem dX6_perform_36 : decode cX6_perform 36 = .ok (.iload_n 3, 1) := by decide +kernel
theorem dX6_perform_37 : decode cX6_perform 37 = .ok (.iconst 0, 1) := by decide +kernel
theorem dX6_perform_38 : decode cX6_perform 38 = .ok (.invokevirtual 238, 3) := by decide +kernel
theorem dX6_perform_41 : decode cX6_perform 41 = .ok (.ireturn, 1) := by decide +kernel
theorem dX6_perform_42 : decode cX6_perform 42 = .ok (.aload_n 0, 1) := by decide +kernel
theorem dX6_perform_43 : decode cX6_perform 43 = .ok (.iload_n 1, 1) := by decide +kernel
theorem dX6_perform_44 : decode cX6_perform 44 = .ok (.iload_n 3, 1) := by decide +kernel
theorem dX6_perform_45 : decode cX6_perform 45 = .ok (.iload 4, 2) := by decide +kernel
theorem dX6_perform_47 : decode cX6_perform 47 = .ok (.invokevirtual 242, 3) := by decide +kernel
theorem dX6_perform_50 : decode cX6_perform 50 = .ok (.ireturn, 1) := by decide +kernel
theorem dX6_perform_51 : decode cX6_perform 51 = .ok (.iconst 0, 1) := by decide +kernel
theorem dX6_perform_52 : decode cX6_perform 52 = .ok (.ireturn, 1) := by decide +kernel
theorem dX6_makeAndCount_0 : decode cX6_makeAndCount 0 = .ok (.aload_n 0, 1) := by decide +kernel
theorem dX6_makeAndCount_1 : decode cX6_makeAndCount 1 = .ok (.iload_n 1, 1) := by decide +kernel
theorem dX6_makeAndCount_2 : decode cX6_makeAndCount 2 = .ok (.iconst 0, 1) := by decide +kernel
theorem dX6_makeAndCount_3 : decode cX6_makeAndCount 3 = .ok (.invokevirtual 245, 3) := by decide +kernel
theorem dX6_makeAndCount_6 : decode cX6_makeAndCount 6 = .ok (.istore_n 2, 1) := by decide +kernel
theorem dX6_makeAndCount_7 : decode cX6_makeAndCount 7 = .ok (.aload_n 0, 1) := by decide +kernel
theorem dX6_makeAndCount_8 : decode cX6_makeAndCount 8 = .ok (.aload_n 0, 1) := by decide +kernel
theorem dX6_makeAndCount_9 : decode cX6_makeAndCount 9 = .ok (.getfield 17, 3) := by decide +kernel
theorem dX6_makeAndCount_12 : decode cX6_makeAndCount 12 = .ok (.aload_n 0, 1) := by decide +kernel
theorem dX6_makeAndCount_13 : decode cX6_makeAndCount 13 = .ok (.getfield 117, 3) := by decide +kernel
theorem dX6_makeAndCount_16 : decode cX6_makeAndCount 16 = .ok (.aaload, 1) := by decide +kernel
theorem dX6_makeAndCount_17 : decode cX6_makeAndCount 17 = .ok (.getfield 153, 3) := by decide +kernel
theorem dX6_makeAndCount_20 : decode cX6_makeAndCount 20 = .ok (.iload_n 1, 1) := by decide +kernel
theorem dX6_makeAndCount_21 : decode cX6_makeAndCount 21 = .ok (.iaload, 1) := by decide +kernel
theorem dX6_makeAndCount_22 : decode cX6_makeAndCount 22 = .ok (.putfield 123, 3) := by decide +kernel
theorem dX6_makeAndCount_25 : decode cX6_makeAndCount 25 = .ok (.iload_n 2, 1) := by decide +kernel
theorem dX6_makeAndCount_26 : decode cX6_makeAndCount 26 = .ok (.ireturn, 1) := by decide +kernel
theorem dX6_askAndSet_0 : decode cX6_askAndSet 0 = .ok (.aload_n 0, 1) := by decide +kernel
theorem dX6_askAndSet_1 : decode cX6_askAndSet 1 = .ok (.iload_n 1, 1) := by decide +kernel
theorem dX6_askAndSet_2 : decode cX6_askAndSet 2 = .ok (.iload_n 2, 1) := by decide +kernel
theorem dX6_askAndSet_3 : decode cX6_askAndSet 3 = .ok (.iconst 0, 1) := by decide +kernel
theorem dX6_askAndSet_4 : decode cX6_askAndSet 4 = .ok (.invokevirtual 238, 3) := by decide +kernel
theorem dX6_askAndSet_7 : decode cX6_askAndSet 7 = .ok (.istore 4, 2) := by decide +kernel
theorem dX6_askAndSet_9 : decode cX6_askAndSet 9 = .ok (.iload 4, 2) := by decide +kernel
theorem dX6_askAndSet_11 : decode cX6_askAndSet 11 = .ok (.ifCond .ne 18, 3) := by decide +kernel
theorem dX6_askAndSet_14 : decode cX6_askAndSet 14 = .ok (.aload_n 0, 1) := by decide +kernel
theorem dX6_askAndSet_15 : decode cX6_askAndSet 15 = .ok (.aload_n 0, 1) := by decide +kernel
theorem dX6_askAndSet_16 : decode cX6_askAndSet 16 = .ok (.iload_n 1, 1) := by decide +kernel
theorem dX6_askAndSet_17 : decode cX6_askAndSet 17 = .ok (.iload_n 2, 1) := by decide +kernel
theorem dX6_askAndSet_18 : decode cX6_askAndSet 18 = .ok (.invokevirtual 210, 3) := by decide +kernel
theorem dX6_askAndSet_21 : decode cX6_askAndSet 21 = .ok (.iload_n 2, 1) := by decide +kernel
theorem dX6_askAndSet_22 : decode cX6_askAndSet 22 = .ok (.iload_n 3, 1) := by decide +kernel
theorem dX6_askAndSet_23 : decode cX6_askAndSet 23 = .ok (.invokevirtual 248, 3) := by decide +kernel
theorem dX6_askAndSet_26 : decode cX6_askAndSet 26 = .ok (.goto 5, 3) := by decide +kernel
theorem dX6_askAndSet_29 : decode cX6_askAndSet 29 = .ok (.iload 4, 2) := by decide +kernel
theorem dX6_askAndSet_31 : decode cX6_askAndSet 31 = .ok (.ireturn, 1) := by decide +kernel
theorem dX6_makeThing_0 : decode cX6_makeThing 0 = .ok (.aload_n 0, 1) := by decide +kernel
theorem dX6_makeThing_1 : decode cX6_makeThing 1 = .ok (.iload_n 1, 1) := by decide +kernel
theorem dX6_makeThing_2 : decode cX6_makeThing 2 = .ok (.invokevirtual 48, 3) := by decide +kernel
theorem dX6_makeThing_5 : decode cX6_makeThing 5 = .ok (.ifCond .ne 6, 3) := by decide +kernel
theorem dX6_makeThing_8 : decode cX6_makeThing 8 = .ok (.bipush 18, 2) := by decide +kernel
theorem dX6_makeThing_10 : decode cX6_makeThing 10 = .ok (.ireturn, 1) := by decide +kernel
theorem dX6_makeThing_11 : decode cX6_makeThing 11 = .ok (.aload_n 0, 1) := by decide +kernel
theorem dX6_makeThing_12 : decode cX6_makeThing 12 = .ok (.iload_n 1, 1) := by decide +kernel
theorem dX6_makeThing_13 : decode cX6_makeThing 13 = .ok (.iload_n 2, 1) := by decide +kernel
theorem dX6_makeThing_14 : decode cX6_makeThing 14 = .ok (.invokevirtual 251, 3) := by decide +kernel
theorem dX6_makeThing_17 : decode cX6_makeThing 17 = .ok (.istore_n 3, 1) := by decide +kernel
theorem dX6_makeThing_18 : decode cX6_makeThing 18 = .ok (.iload_n 3, 1) := by decide +kernel
theorem dX6_makeThing_19 : decode cX6_makeThing 19 = .ok (.ifCond .ne 21, 3) := by decide +kernel
theorem dX6_makeThing_22 : decode cX6_makeThing 22 = .ok (.aload_n 0, 1) := by decide +kernel
theorem dX6_makeThing_23 : decode cX6_makeThing 23 = .ok (.getfield 17, 3) := by decide +kernel
theorem dX6_makeThing_26 : decode cX6_makeThing 26 = .ok (.aload_n 0, 1) := by decide +kernel
theorem dX6_makeThing_27 : decode cX6_makeThing 27 = .ok (.getfield 117, 3) := by decide +kernel
theorem dX6_makeThing_30 : decode cX6_makeThing 30 = .ok (.aaload, 1) := by decide +kernel
theorem dX6_makeThing_31 : decode cX6_makeThing 31 = .ok (.getfield 153, 3) := by decide +kernel
theorem dX6_makeThing_34 : decode cX6_makeThing 34 = .ok (.iload_n 1, 1) := by decide +kernel
theorem dX6_makeThing_35 : decode cX6_makeThing 35 = .ok (.dup2, 1) := by decide +kernel
theorem dX6_makeThing_36 : decode cX6_makeThing 36 = .ok (.iaload, 1) := by decide +kernel
theorem dX6_makeThing_37 : decode cX6_makeThing 37 = .ok (.iconst 1, 1) := by decide +kernel
theorem dX6_makeThing_38 : decode cX6_makeThing 38 = .ok (.iadd, 1) := by decide +kernel
theorem dX6_makeThing_39 : decode cX6_makeThing 39 = .ok (.iastore, 1) := by decide +kernel
theorem dX6_makeThing_40 : decode cX6_makeThing 40 = .ok (.iload_n 3, 1) := by decide +kernel
theorem dX6_makeThing_41 : decode cX6_makeThing 41 = .ok (.ireturn, 1) := by decide +kernel
theorem dX6_ask_0 : decode cX6_ask 0 = .ok (.aload_n 0, 1) := by decide +kernel
theorem dX6_ask_1 : decode cX6_ask 1 = .ok (.iload_n 1, 1) := by decide +kernel
theorem dX6_ask_2 : decode cX6_ask 2 = .ok (.invokevirtual 68, 3) := by decide +kernel
theorem dX6_ask_5 : decode cX6_ask 5 = .ok (.ifCond .eq 12, 3) := by decide +kernel
theorem dX6_ask_8 : decode cX6_ask 8 = .ok (.aload_n 0, 1) := by decide +kernel
theorem dX6_ask_9 : decode cX6_ask 9 = .ok (.iload_n 1, 1) := by decide +kernel
theorem dX6_ask_10 : decode cX6_ask 10 = .ok (.iload_n 2, 1) := by decide +kernel
theorem dX6_ask_11 : decode cX6_ask 11 = .ok (.invokevirtual 210, 3) := by decide +kernel
theorem dX6_ask_14 : decode cX6_ask 14 = .ok (.goto 4, 3) := by decide +kernel
theorem dX6_ask_17 : decode cX6_ask 17 = .ok (.iconst (-1), 1) := by decide +kernel
theorem dX6_ask_18 : decode cX6_ask 18 = .ok (.istore 4, 2) := by decide +kernel
theorem dX6_ask_20 : decode cX6_ask 20 = .ok (.iload 4, 2) := by decide +kernel
theorem dX6_ask_22 : decode cX6_ask 22 = .ok (.iconst (-1), 1) := by decide +kernel
theorem dX6_ask_23 : decode cX6_ask 23 = .ok (.if_icmp .ne 6, 3) := by decide +kernel
theorem dX6_ask_26 : decode cX6_ask 26 = .ok (.bipush 18, 2) := by decide +kernel
theorem dX6_ask_28 : decode cX6_ask 28 = .ok (.ireturn, 1) := by decide +kernel
theorem dX6_ask_29 : decode cX6_ask 29 = .ok (.aload_n 0, 1) := by decide +kernel
theorem dX6_ask_30 : decode cX6_ask 30 = .ok (.getfield 11, 3) := by decide +kernel
theorem dX6_ask_33 : decode cX6_ask 33 = .ok (.iload 4, 2) := by decide +kernel
theorem dX6_ask_35 : decode cX6_ask 35 = .ok (.aaload, 1) := by decide +kernel
theorem dX6_ask_36 : decode cX6_ask 36 = .ok (.getfield 95, 3) := by decide +kernel
theorem dX6_ask_39 : decode cX6_ask 39 = .ok (.iload_n 2, 1) := by decide +kernel
theorem dX6_ask_40 : decode cX6_ask 40 = .ok (.iaload, 1) := by decide +kernel
theorem dX6_ask_41 : decode cX6_ask 41 = .ok (.iconst 1, 1) := by decide +kernel
theorem dX6_ask_42 : decode cX6_ask 42 = .ok (.if_icmp .ne 21, 3) := by decide +kernel
theorem dX6_ask_45 : decode cX6_ask 45 = .ok (.aload_n 0, 1) := by decide +kernel
theorem dX6_ask_46 : decode cX6_ask 46 = .ok (.aload_n 0, 1) := by decide +kernel
theorem dX6_ask_47 : decode cX6_ask 47 = .ok (.getfield 11, 3) := by decide +kernel
theorem dX6_ask_50 : decode cX6_ask 50 = .ok (.iload 4, 2) := by decide +kernel
theorem dX6_ask_52 : decode cX6_ask 52 = .ok (.aaload, 1) := by decide +kernel
theorem dX6_ask_53 : decode cX6_ask 53 = .ok (.getfield 99, 3) := by decide +kernel
theorem dX6_ask_56 : decode cX6_ask 56 = .ok (.iload_n 2, 1) := by decide +kernel
theorem dX6_ask_57 : decode cX6_ask 57 = .ok (.iaload, 1) := by decide +kernel
theorem dX6_ask_58 : decode cX6_ask 58 = .ok (.putfield 123, 3) := by decide +kernel
theorem dX6_ask_61 : decode cX6_ask 61 = .ok (.iconst 0, 1) := by decide +kernel
theorem dX6_ask_62 : decode cX6_ask 62 = .ok (.ireturn, 1) := by decide +kernel
theorem dX6_ask_63 : decode cX6_ask 63 = .ok (.aload_n 0, 1) := by decide +kernel
theorem dX6_ask_64 : decode cX6_ask 64 = .ok (.iload 4, 2) := by decide +kernel
theorem dX6_ask_66 : decode cX6_ask 66 = .ok (.iload_n 3, 1) := by decide +kernel
theorem dX6_ask_67 : decode cX6_ask 67 = .ok (.invokevirtual 251, 3) := by decide +kernel
theorem dX6_ask_70 : decode cX6_ask 70 = .ok (.istore 5, 2) := by decide +kernel
theorem dX6_ask_72 : decode cX6_ask 72 = .ok (.iload 5, 2) := by decide +kernel
theorem dX6_ask_74 : decode cX6_ask 74 = .ok (.ifCond .ne 23, 3) := by decide +kernel
theorem dX6_ask_77 : decode cX6_ask 77 = .ok (.aload_n 0, 1) := by decide +kernel
theorem dX6_ask_78 : decode cX6_ask 78 = .ok (.aload_n 0, 1) := by decide +kernel
theorem dX6_ask_79 : decode cX6_ask 79 = .ok (.aload_n 0, 1) := by decide +kernel
theorem dX6_ask_80 : decode cX6_ask 80 = .ok (.getfield 117, 3) := by decide +kernel
theorem dX6_ask_83 : decode cX6_ask 83 = .ok (.iload 4, 2) := by decide +kernel
theorem dX6_ask_85 : decode cX6_ask 85 = .ok (.invokevirtual 146, 3) := by decide +kernel
theorem dX6_ask_88 : decode cX6_ask 88 = .ok (.iload 4, 2) := by decide +kernel
theorem dX6_ask_90 : decode cX6_ask 90 = .ok (.iload_n 2, 1) := by decide +kernel
theorem dX6_ask_91 : decode cX6_ask 91 = .ok (.invokevirtual 160, 3) := by decide +kernel
theorem dX6_ask_94 : decode cX6_ask 94 = .ok (.putfield 123, 3) := by decide +kernel
theorem dX6_ask_97 : decode cX6_ask 97 = .ok (.iload 5, 2) := by decide +kernel
theorem dX6_ask_99 : decode cX6_ask 99 = .ok (.ireturn, 1) := by decide +kernel
theorem dX6_write_0 : decode cX6_write 0 = .ok (.aload_n 0, 1) := by decide +kernel
theorem dX6_write_1 : decode cX6_write 1 = .ok (.getfield 11, 3) := by decide +kernel
theorem dX6_write_4 : decode cX6_write 4 = .ok (.iload_n 1, 1) := by decide +kernel
theorem dX6_write_5 : decode cX6_write 5 = .ok (.aaload, 1) := by decide +kernel
theorem dX6_write_6 : decode cX6_write 6 = .ok (.getfield 95, 3) := by decide +kernel
theorem dX6_write_9 : decode cX6_write 9 = .ok (.iload_n 2, 1) := by decide +kernel
theorem dX6_write_10 : decode cX6_write 10 = .ok (.iaload, 1) := by decide +kernel
theorem dX6_write_11 : decode cX6_write 11 = .ok (.iconst 2, 1) := by decide +kernel
theorem dX6_write_12 : decode cX6_write 12 = .ok (.if_icmp .eq 6, 3) := by decide +kernel
theorem dX6_write_15 : decode cX6_write 15 = .ok (.bipush 12, 2) := by decide +kernel
theorem dX6_write_17 : decode cX6_write 17 = .ok (.ireturn, 1) := by decide +kernel
theorem dX6_write_18 : decode cX6_write 18 = .ok (.aload_n 0, 1) := by decide +kernel
theorem dX6_write_19 : decode cX6_write 19 = .ok (.aload_n 0, 1) := by decide +kernel
theorem dX6_write_20 : decode cX6_write 20 = .ok (.getfield 117, 3) := by decide +kernel
theorem dX6_write_23 : decode cX6_write 23 = .ok (.iload_n 1, 1) := by decide +kernel
theorem dX6_write_24 : decode cX6_write 24 = .ok (.invokevirtual 146, 3) := by decide +kernel
theorem dX6_write_27 : decode cX6_write 27 = .ok (.iload_n 1, 1) := by decide +kernel
theorem dX6_write_28 : decode cX6_write 28 = .ok (.iload_n 2, 1) := by decide +kernel
theorem dX6_write_29 : decode cX6_write 29 = .ok (.iload_n 3, 1) := by decide +kernel
theorem dX6_write_30 : decode cX6_write 30 = .ok (.invokevirtual 254, 3) := by decide +kernel
theorem dX6_write_33 : decode cX6_write 33 = .ok (.aload_n 0, 1) := by decide +kernel
theorem dX6_write_34 : decode cX6_write 34 = .ok (.dup, 1) := by decide +kernel
theorem dX6_write_35 : decode cX6_write 35 = .ok (.getfield 120, 3) := by decide +kernel
theorem dX6_write_38 : decode cX6_write 38 = .ok (.iconst 1, 1) := by decide +kernel
theorem dX6_write_39 : decode cX6_write 39 = .ok (.iadd, 1) := by decide +kernel
theorem dX6_write_40 : decode cX6_write 40 = .ok (.putfield 120, 3) := by decide +kernel
theorem dX6_write_43 : decode cX6_write 43 = .ok (.iconst 0, 1) := by decide +kernel
theorem dX6_write_44 : decode cX6_write 44 = .ok (.ireturn, 1) := by decide +kernel
theorem dX6_wake_0 : decode cX6_wake 0 = .ok (.aload_n 0, 1) := by decide +kernel
theorem dX6_wake_1 : decode cX6_wake 1 = .ok (.aload_n 0, 1) := by decide +kernel
theorem dX6_wake_2 : decode cX6_wake 2 = .ok (.getfield 117, 3) := by decide +kernel
theorem dX6_wake_5 : decode cX6_wake 5 = .ok (.iload_n 1, 1) := by decide +kernel
theorem dX6_wake_6 : decode cX6_wake 6 = .ok (.invokevirtual 146, 3) := by decide +kernel
theorem dX6_wake_9 : decode cX6_wake 9 = .ok (.getfield 150, 3) := by decide +kernel
theorem dX6_wake_12 : decode cX6_wake 12 = .ok (.astore_n 3, 1) := by decide +kernel
theorem dX6_wake_13 : decode cX6_wake 13 = .ok (.aload_n 3, 1) := by decide +kernel
theorem dX6_wake_14 : decode cX6_wake 14 = .ok (.iload_n 1, 1) := by decide +kernel
theorem dX6_wake_15 : decode cX6_wake 15 = .ok (.iaload, 1) := by decide +kernel
theorem dX6_wake_16 : decode cX6_wake 16 = .ok (.iconst 2, 1) := by decide +kernel
theorem dX6_wake_17 : decode cX6_wake 17 = .ok (.if_icmp .eq 10, 3) := by decide +kernel
theorem dX6_wake_20 : decode cX6_wake 20 = .ok (.aload_n 3, 1) := by decide +kernel
theorem dX6_wake_21 : decode cX6_wake 21 = .ok (.iload_n 1, 1) := by decide +kernel
theorem dX6_wake_22 : decode cX6_wake 22 = .ok (.iaload, 1) := by decide +kernel
theorem dX6_wake_23 : decode cX6_wake 23 = .ok (.iconst 1, 1) := by decide +kernel
theorem dX6_wake_24 : decode cX6_wake 24 = .ok (.if_icmp .ne 5, 3) := by decide +kernel
theorem dX6_wake_27 : decode cX6_wake 27 = .ok (.iconst 0, 1) := by decide +kernel
theorem dX6_wake_28 : decode cX6_wake 28 = .ok (.ireturn, 1) := by decide +kernel
theorem dX6_wake_29 : decode cX6_wake 29 = .ok (.aload_n 3, 1) := by decide +kernel
theorem dX6_wake_30 : decode cX6_wake 30 = .ok (.iload_n 1, 1) := by decide +kernel
theorem dX6_wake_31 : decode cX6_wake 31 = .ok (.iaload, 1) := by decide +kernel
theorem dX6_wake_32 : decode cX6_wake 32 = .ok (.iconst 3, 1) := by decide +kernel
theorem dX6_wake_33 : decode cX6_wake 33 = .ok (.if_icmp .eq 9, 3) := by decide +kernel
theorem dX6_wake_36 : decode cX6_wake 36 = .ok (.iload_n 2, 1) := by decide +kernel
theorem dX6_wake_37 : decode cX6_wake 37 = .ok (.bipush 16, 2) := by decide +kernel
theorem dX6_wake_39 : decode cX6_wake 39 = .ok (.if_icmp .lt 6, 3) := by decide +kernel
theorem dX6_wake_42 : decode cX6_wake 42 = .ok (.bipush 18, 2) := by decide +kernel
theorem dX6_wake_44 : decode cX6_wake 44 = .ok (.ireturn, 1) := by decide +kernel
theorem dX6_wake_45 : decode cX6_wake 45 = .ok (.aload_n 3, 1) := by decide +kernel
theorem dX6_wake_46 : decode cX6_wake 46 = .ok (.iload_n 1, 1) := by decide +kernel
theorem dX6_wake_47 : decode cX6_wake 47 = .ok (.iconst 1, 1) := by decide +kernel
theorem dX6_wake_48 : decode cX6_wake 48 = .ok (.iastore, 1) := by decide +kernel
theorem dX6_wake_49 : decode cX6_wake 49 = .ok (.aload_n 0, 1) := by decide +kernel
theorem dX6_wake_50 : decode cX6_wake 50 = .ok (.iload_n 1, 1) := by decide +kernel
theorem dX6_wake_51 : decode cX6_wake 51 = .ok (.iload_n 2, 1) := by decide +kernel
theorem dX6_wake_52 : decode cX6_wake 52 = .ok (.invokevirtual 257, 3) := by decide +kernel
theorem dX6_wake_55 : decode cX6_wake 55 = .ok (.istore 4, 2) := by decide +kernel
theorem dX6_wake_57 : decode cX6_wake 57 = .ok (.iload 4, 2) := by decide +kernel
theorem dX6_wake_59 : decode cX6_wake 59 = .ok (.ifCond .ne 11, 3) := by decide +kernel
theorem dX6_wake_62 : decode cX6_wake 62 = .ok (.aload_n 0, 1) := by decide +kernel
theorem dX6_wake_63 : decode cX6_wake 63 = .ok (.iload_n 1, 1) := by decide +kernel
theorem dX6_wake_64 : decode cX6_wake 64 = .ok (.iload_n 2, 1) := by decide +kernel
theorem dX6_wake_65 : decode cX6_wake 65 = .ok (.invokevirtual 260, 3) := by decide +kernel
theorem dX6_wake_68 : decode cX6_wake 68 = .ok (.istore 4, 2) := by decide +kernel
theorem dX6_wake_70 : decode cX6_wake 70 = .ok (.aload_n 3, 1) := by decide +kernel
theorem dX6_wake_71 : decode cX6_wake 71 = .ok (.iload_n 1, 1) := by decide +kernel
theorem dX6_wake_72 : decode cX6_wake 72 = .ok (.iload 4, 2) := by decide +kernel
theorem dX6_wake_74 : decode cX6_wake 74 = .ok (.ifCond .ne 7, 3) := by decide +kernel
theorem dX6_wake_77 : decode cX6_wake 77 = .ok (.iconst 2, 1) := by decide +kernel
theorem dX6_wake_78 : decode cX6_wake 78 = .ok (.goto 4, 3) := by decide +kernel
theorem dX6_wake_81 : decode cX6_wake 81 = .ok (.iconst 3, 1) := by decide +kernel
theorem dX6_wake_82 : decode cX6_wake 82 = .ok (.iastore, 1) := by decide +kernel
theorem dX6_wake_83 : decode cX6_wake 83 = .ok (.aload_n 0, 1) := by decide +kernel
theorem dX6_wake_84 : decode cX6_wake 84 = .ok (.getfield 38, 3) := by decide +kernel
theorem dX6_wake_87 : decode cX6_wake 87 = .ok (.iload_n 1, 1) := by decide +kernel
theorem dX6_wake_88 : decode cX6_wake 88 = .ok (.aload_n 0, 1) := by decide +kernel
theorem dX6_wake_89 : decode cX6_wake 89 = .ok (.getfield 117, 3) := by decide +kernel
theorem dX6_wake_92 : decode cX6_wake 92 = .ok (.iload 4, 2) := by decide +kernel
theorem dX6_wake_94 : decode cX6_wake 94 = .ok (.aload_n 0, 1) := by decide +kernel
theorem dX6_wake_95 : decode cX6_wake 95 = .ok (.getfield 31, 3) := by decide +kernel
theorem dX6_wake_98 : decode cX6_wake 98 = .ok (.getfield 198, 3) := by decide +kernel
theorem dX6_wake_101 : decode cX6_wake 101 = .ok (.invokevirtual 263, 3) := by decide +kernel
theorem dX6_wake_104 : decode cX6_wake 104 = .ok (.iload 4, 2) := by decide +kernel
theorem dX6_wake_106 : decode cX6_wake 106 = .ok (.ireturn, 1) := by decide +kernel
theorem dX6_wakeAbove_0 : decode cX6_wakeAbove 0 = .ok (.aload_n 0, 1) := by decide +kernel
theorem dX6_wakeAbove_1 : decode cX6_wakeAbove 1 = .ok (.getfield 11, 3) := by decide +kernel
theorem dX6_wakeAbove_4 : decode cX6_wakeAbove 4 = .ok (.iload_n 1, 1) := by decide +kernel
theorem dX6_wakeAbove_5 : decode cX6_wakeAbove 5 = .ok (.aaload, 1) := by decide +kernel
theorem dX6_wakeAbove_6 : decode cX6_wakeAbove 6 = .ok (.astore_n 3, 1) := by decide +kernel
theorem dX6_wakeAbove_7 : decode cX6_wakeAbove 7 = .ok (.aload_n 3, 1) := by decide +kernel
theorem dX6_wakeAbove_8 : decode cX6_wakeAbove 8 = .ok (.getfield 71, 3) := by decide +kernel
theorem dX6_wakeAbove_11 : decode cX6_wakeAbove 11 = .ok (.ifCond .eq 5, 3) := by decide +kernel
theorem dX6_wakeAbove_14 : decode cX6_wakeAbove 14 = .ok (.iconst 0, 1) := by decide +kernel
theorem dX6_wakeAbove_15 : decode cX6_wakeAbove 15 = .ok (.ireturn, 1) := by decide +kernel
theorem dX6_wakeAbove_16 : decode cX6_wakeAbove 16 = .ok (.aload_n 3, 1) := by decide +kernel
theorem dX6_wakeAbove_17 : decode cX6_wakeAbove 17 = .ok (.getfield 232, 3) := by decide +kernel
theorem dX6_wakeAbove_20 : decode cX6_wakeAbove 20 = .ok (.iconst (-1), 1) := by decide +kernel
theorem dX6_wakeAbove_21 : decode cX6_wakeAbove 21 = .ok (.if_icmp .ne 7, 3) := by decide +kernel
theorem dX6_wakeAbove_24 : decode cX6_wakeAbove 24 = .ok (.iconst 0, 1) := by decide +kernel
theorem dX6_wakeAbove_25 : decode cX6_wakeAbove 25 = .ok (.goto 14, 3) := by decide +kernel
theorem dX6_wakeAbove_28 : decode cX6_wakeAbove 28 = .ok (.aload_n 0, 1) := by decide +kernel
theorem dX6_wakeAbove_29 : decode cX6_wakeAbove 29 = .ok (.aload_n 3, 1) := by decide +kernel
theorem dX6_wakeAbove_30 : decode cX6_wakeAbove 30 = .ok (.getfield 232, 3) := by decide +kernel
theorem dX6_wakeAbove_33 : decode cX6_wakeAbove 33 = .ok (.iload_n 2, 1) := by decide +kernel
theorem dX6_wakeAbove_34 : decode cX6_wakeAbove 34 = .ok (.iconst 1, 1) := by decide +kernel
theorem dX6_wakeAbove_35 : decode cX6_wakeAbove 35 = .ok (.iadd, 1) := by decide +kernel
theorem dX6_wakeAbove_36 : decode cX6_wakeAbove 36 = .ok (.invokevirtual 251, 3) := by decide +kernel
theorem dX6_wakeAbove_39 : decode cX6_wakeAbove 39 = .ok (.istore 4, 2) := by decide +kernel
theorem dX6_wakeAbove_41 : decode cX6_wakeAbove 41 = .ok (.iconst 0, 1) := by decide +kernel
theorem dX6_wakeAbove_42 : decode cX6_wakeAbove 42 = .ok (.istore 5, 2) := by decide +kernel
theorem dX6_wakeAbove_44 : decode cX6_wakeAbove 44 = .ok (.iload 4, 2) := by decide +kernel
theorem dX6_wakeAbove_46 : decode cX6_wakeAbove 46 = .ok (.ifCond .ne 40, 3) := by decide +kernel
theorem dX6_wakeAbove_49 : decode cX6_wakeAbove 49 = .ok (.iload 5, 2) := by decide +kernel
theorem dX6_wakeAbove_51 : decode cX6_wakeAbove 51 = .ok (.aload_n 3, 1) := by decide +kernel
theorem dX6_wakeAbove_52 : decode cX6_wakeAbove 52 = .ok (.getfield 222, 3) := by decide +kernel
theorem dX6_wakeAbove_55 : decode cX6_wakeAbove 55 = .ok (.getfield 83, 3) := by decide +kernel
theorem dX6_wakeAbove_58 : decode cX6_wakeAbove 58 = .ok (.if_icmp .ge 28, 3) := by decide +kernel
theorem dX6_wakeAbove_61 : decode cX6_wakeAbove 61 = .ok (.aload_n 0, 1) := by decide +kernel
theorem dX6_wakeAbove_62 : decode cX6_wakeAbove 62 = .ok (.aload_n 3, 1) := by decide +kernel
theorem dX6_wakeAbove_63 : decode cX6_wakeAbove 63 = .ok (.getfield 222, 3) := by decide +kernel
theorem dX6_wakeAbove_66 : decode cX6_wakeAbove 66 = .ok (.getfield 225, 3) := by decide +kernel
theorem dX6_wakeAbove_69 : decode cX6_wakeAbove 69 = .ok (.iload 5, 2) := by decide +kernel
theorem dX6_wakeAbove_71 : decode cX6_wakeAbove 71 = .ok (.iaload, 1) := by decide +kernel
theorem dX6_wakeAbove_72 : decode cX6_wakeAbove 72 = .ok (.iload_n 2, 1) := by decide +kernel
theorem dX6_wakeAbove_73 : decode cX6_wakeAbove 73 = .ok (.iconst 1, 1) := by decide +kernel
theorem dX6_wakeAbove_74 : decode cX6_wakeAbove 74 = .ok (.iadd, 1) := by decide +kernel
theorem dX6_wakeAbove_75 : decode cX6_wakeAbove 75 = .ok (.invokevirtual 251, 3) := by decide +kernel
theorem dX6_wakeAbove_78 : decode cX6_wakeAbove 78 = .ok (.istore 4, 2) := by decide +kernel
theorem dX6_wakeAbove_80 : decode cX6_wakeAbove 80 = .ok (.iinc 5 1, 3) := by decide +kernel
theorem dX6_wakeAbove_83 : decode cX6_wakeAbove 83 = .ok (.goto (-39), 3) := by decide +kernel
theorem dX6_wakeAbove_86 : decode cX6_wakeAbove 86 = .ok (.iload 4, 2) := by decide +kernel
theorem dX6_wakeAbove_88 : decode cX6_wakeAbove 88 = .ok (.ireturn, 1) := by decide +kernel
theorem dX6_doLines_0 : decode cX6_doLines 0 = .ok (.iconst 0, 1) := by decide +kernel
theorem dX6_doLines_1 : decode cX6_doLines 1 = .ok (.istore_n 3, 1) := by decide +kernel
theorem dX6_doLines_2 : decode cX6_doLines 2 = .ok (.iconst 0, 1) := by decide +kernel
theorem dX6_doLines_3 : decode cX6_doLines 3 = .ok (.istore 4, 2) := by decide +kernel
theorem dX6_doLines_5 : decode cX6_doLines 5 = .ok (.iload_n 3, 1) := by decide +kernel
theorem dX6_doLines_6 : decode cX6_doLines 6 = .ok (.ifCond .ne 32, 3) := by decide +kernel
theorem dX6_doLines_9 : decode cX6_doLines 9 = .ok (.iload 4, 2) := by decide +kernel
theorem dX6_doLines_11 : decode cX6_doLines 11 = .ok (.aload_n 0, 1) := by decide +kernel
theorem dX6_doLines_12 : decode cX6_doLines 12 = .ok (.getfield 11, 3) := by decide +kernel
theorem dX6_doLines_15 : decode cX6_doLines 15 = .ok (.iload_n 1, 1) := by decide +kernel
theorem dX6_doLines_16 : decode cX6_doLines 16 = .ok (.aaload, 1) := by decide +kernel
theorem dX6_doLines_17 : decode cX6_doLines 17 = .ok (.getfield 106, 3) := by decide +kernel
theorem dX6_doLines_20 : decode cX6_doLines 20 = .ok (.if_icmp .ge 18, 3) := by decide +kernel
theorem dX6_doLines_23 : decode cX6_doLines 23 = .ok (.aload_n 0, 1) := by decide +kernel
theorem dX6_doLines_24 : decode cX6_doLines 24 = .ok (.iload_n 1, 1) := by decide +kernel
theorem dX6_doLines_25 : decode cX6_doLines 25 = .ok (.iload 4, 2) := by decide +kernel
theorem dX6_doLines_27 : decode cX6_doLines 27 = .ok (.iload_n 2, 1) := by decide +kernel
theorem dX6_doLines_28 : decode cX6_doLines 28 = .ok (.invokevirtual 267, 3) := by decide +kernel
theorem dX6_doLines_31 : decode cX6_doLines 31 = .ok (.istore_n 3, 1) := by decide +kernel
theorem dX6_doLines_32 : decode cX6_doLines 32 = .ok (.iinc 4 1, 3) := by decide +kernel
theorem dX6_doLines_35 : decode cX6_doLines 35 = .ok (.goto (-30), 3) := by decide +kernel
theorem dX6_doLines_38 : decode cX6_doLines 38 = .ok (.iload_n 3, 1) := by decide +kernel
theorem dX6_doLines_39 : decode cX6_doLines 39 = .ok (.ireturn, 1) := by decide +kernel
theorem dX6_doLine_0 : decode cX6_doLine 0 = .ok (.aload_n 0, 1) := by decide +kernel
theorem dX6_doLine_1 : decode cX6_doLine 1 = .ok (.getfield 11, 3) := by decide +kernel
theorem dX6_doLine_4 : decode cX6_doLine 4 = .ok (.iload_n 1, 1) := by decide +kernel
theorem dX6_doLine_5 : decode cX6_doLine 5 = .ok (.aaload, 1) := by decide +kernel
theorem dX6_doLine_6 : decode cX6_doLine 6 = .ok (.astore 4, 2) := by decide +kernel
theorem dX6_doLine_8 : decode cX6_doLine 8 = .ok (.aload 4, 2) := by decide +kernel
theorem dX6_doLine_10 : decode cX6_doLine 10 = .ok (.getfield 270, 3) := by decide +kernel
theorem dX6_doLine_13 : decode cX6_doLine 13 = .ok (.iload_n 2, 1) := by decide +kernel
theorem dX6_doLine_14 : decode cX6_doLine 14 = .ok (.iaload, 1) := by decide +kernel
theorem dX6_doLine_15 : decode cX6_doLine 15 = .ok (.istore 5, 2) := by decide +kernel
theorem dX6_doLine_17 : decode cX6_doLine 17 = .ok (.aload 4, 2) := by decide +kernel
theorem dX6_doLine_19 : decode cX6_doLine 19 = .ok (.getfield 273, 3) := by decide +kernel
theorem dX6_doLine_22 : decode cX6_doLine 22 = .ok (.iload_n 2, 1) := by decide +kernel
theorem dX6_doLine_23 : decode cX6_doLine 23 = .ok (.iaload, 1) := by decide +kernel
theorem dX6_doLine_24 : decode cX6_doLine 24 = .ok (.istore 6, 2) := by decide +kernel
theorem dX6_doLine_26 : decode cX6_doLine 26 = .ok (.aload_n 0, 1) := by decide +kernel
theorem dX6_doLine_27 : decode cX6_doLine 27 = .ok (.aload 4, 2) := by decide +kernel
theorem dX6_doLine_29 : decode cX6_doLine 29 = .ok (.getfield 276, 3) := by decide +kernel
theorem dX6_doLine_32 : decode cX6_doLine 32 = .ok (.iload_n 2, 1) := by decide +kernel
theorem dX6_doLine_33 : decode cX6_doLine 33 = .ok (.iaload, 1) := by decide +kernel
theorem dX6_doLine_34 : decode cX6_doLine 34 = .ok (.iconst 4, 1) := by decide +kernel
theorem dX6_doLine_35 : decode cX6_doLine 35 = .ok (.if_icmp .ne 10, 3) := by decide +kernel
theorem dX6_doLine_38 : decode cX6_doLine 38 = .ok (.iconst 1, 1) := by decide +kernel
theorem dX6_doLine_39 : decode cX6_doLine 39 = .ok (.iload 5, 2) := by decide +kernel
theorem dX6_doLine_41 : decode cX6_doLine 41 = .ok (.iadd, 1) := by decide +kernel
theorem dX6_doLine_42 : decode cX6_doLine 42 = .ok (.goto 4, 3) := by decide +kernel
theorem dX6_doLine_45 : decode cX6_doLine 45 = .ok (.iconst 1, 1) := by decide +kernel
theorem dX6_doLine_46 : decode cX6_doLine 46 = .ok (.invokevirtual 279, 3) := by decide +kernel
theorem dX6_doLine_49 : decode cX6_doLine 49 = .ok (.ifCond .ne 6, 3) := by decide +kernel
theorem dX6_doLine_52 : decode cX6_doLine 52 = .ok (.bipush 17, 2) := by decide +kernel
theorem dX6_doLine_54 : decode cX6_doLine 54 = .ok (.ireturn, 1) := by decide +kernel
theorem dX6_doLine_55 : decode cX6_doLine 55 = .ok (.aload 4, 2) := by decide +kernel
theorem dX6_doLine_57 : decode cX6_doLine 57 = .ok (.getfield 276, 3) := by decide +kernel
theorem dX6_doLine_60 : decode cX6_doLine 60 = .ok (.iload_n 2, 1) := by decide +kernel
theorem dX6_doLine_61 : decode cX6_doLine 61 = .ok (.iaload, 1) := by decide +kernel
theorem dX6_doLine_62 : decode cX6_doLine 62 = .ok (.tableswitch 116 0 6 #[42, 52, 72, 82, 116, 88, 99], 42) := by decide +kernel
theorem dX6_doLine_104 : decode cX6_doLine 104 = .ok (.aload_n 0, 1) := by decide +kernel
theorem dX6_doLine_105 : decode cX6_doLine 105 = .ok (.iload_n 1, 1) := by decide +kernel
theorem dX6_doLine_106 : decode cX6_doLine 106 = .ok (.iload 5, 2) := by decide +kernel
theorem dX6_doLine_108 : decode cX6_doLine 108 = .ok (.iload 6, 2) := by decide +kernel
theorem dX6_doLine_110 : decode cX6_doLine 110 = .ok (.invokevirtual 248, 3) := by decide +kernel
theorem dX6_doLine_113 : decode cX6_doLine 113 = .ok (.ireturn, 1) := by decide +kernel
theorem dX6_doLine_114 : decode cX6_doLine 114 = .ok (.aload_n 0, 1) := by decide +kernel
theorem dX6_doLine_115 : decode cX6_doLine 115 = .ok (.iload_n 1, 1) := by decide +kernel
theorem dX6_doLine_116 : decode cX6_doLine 116 = .ok (.iload 5, 2) := by decide +kernel
theorem dX6_doLine_118 : decode cX6_doLine 118 = .ok (.iload 6, 2) := by decide +kernel
theorem dX6_doLine_120 : decode cX6_doLine 120 = .ok (.aload 4, 2) := by decide +kernel
theorem dX6_doLine_122 : decode cX6_doLine 122 = .ok (.getfield 282, 3) := by decide +kernel
theorem dX6_doLine_125 : decode cX6_doLine 125 = .ok (.iload_n 2, 1) := by decide +kernel
theorem dX6_doLine_126 : decode cX6_doLine 126 = .ok (.iaload, 1) := by decide +kernel
theorem dX6_doLine_127 : decode cX6_doLine 127 = .ok (.iload_n 3, 1) := by decide +kernel
theorem dX6_doLine_128 : decode cX6_doLine 128 = .ok (.iconst 1, 1) := by decide +kernel
theorem dX6_doLine_129 : decode cX6_doLine 129 = .ok (.iadd, 1) := by decide +kernel
theorem dX6_doLine_130 : decode cX6_doLine 130 = .ok (.invokevirtual 285, 3) := by decide +kernel
theorem dX6_doLine_133 : decode cX6_doLine 133 = .ok (.ireturn, 1) := by decide +kernel
theorem dX6_doLine_134 : decode cX6_doLine 134 = .ok (.aload_n 0, 1) := by decide +kernel
theorem dX6_doLine_135 : decode cX6_doLine 135 = .ok (.iload 5, 2) := by decide +kernel
theorem dX6_doLine_137 : decode cX6_doLine 137 = .ok (.iload_n 3, 1) := by decide +kernel
theorem dX6_doLine_138 : decode cX6_doLine 138 = .ok (.iconst 1, 1) := by decide +kernel
theorem dX6_doLine_139 : decode cX6_doLine 139 = .ok (.iadd, 1) := by decide +kernel
theorem dX6_doLine_140 : decode cX6_doLine 140 = .ok (.invokevirtual 245, 3) := by decide +kernel
theorem dX6_doLine_143 : decode cX6_doLine 143 = .ok (.ireturn, 1) := by decide +kernel
theorem dX6_doLine_144 : decode cX6_doLine 144 = .ok (.bipush 10, 2) := by decide +kernel
theorem dX6_doLine_146 : decode cX6_doLine 146 = .ok (.iload 5, 2) := by decide +kernel
theorem dX6_doLine_148 : decode cX6_doLine 148 = .ok (.iadd, 1) := by decide +kernel
theorem dX6_doLine_149 : decode cX6_doLine 149 = .ok (.ireturn, 1) := by decide +kernel
theorem dX6_doLine_150 : decode cX6_doLine 150 = .ok (.aload_n 0, 1) := by decide +kernel
theorem dX6_doLine_151 : decode cX6_doLine 151 = .ok (.getfield 38, 3) := by decide +kernel
theorem dX6_doLine_154 : decode cX6_doLine 154 = .ok (.iload 5, 2) := by decide +kernel
theorem dX6_doLine_156 : decode cX6_doLine 156 = .ok (.invokevirtual 288, 3) := by decide +kernel
theorem dX6_doLine_159 : decode cX6_doLine 159 = .ok (.iconst 0, 1) := by decide +kernel
theorem dX6_doLine_160 : decode cX6_doLine 160 = .ok (.ireturn, 1) := by decide +kernel
theorem dX6_doLine_161 : decode cX6_doLine 161 = .ok (.aload_n 0, 1) := by decide +kernel
theorem dX6_doLine_162 : decode cX6_doLine 162 = .ok (.iload_n 1, 1) := by decide +kernel
theorem dX6_doLine_163 : decode cX6_doLine 163 = .ok (.iload 5, 2) := by decide +kernel
theorem dX6_doLine_165 : decode cX6_doLine 165 = .ok (.aload_n 0, 1) := by decide +kernel
theorem dX6_doLine_166 : decode cX6_doLine 166 = .ok (.iload 6, 2) := by decide +kernel
theorem dX6_doLine_168 : decode cX6_doLine 168 = .ok (.iload_n 3, 1) := by decide +kernel
theorem dX6_doLine_169 : decode cX6_doLine 169 = .ok (.iconst 1, 1) := by decide +kernel
theorem dX6_doLine_170 : decode cX6_doLine 170 = .ok (.iadd, 1) := by decide +kernel
theorem dX6_doLine_171 : decode cX6_doLine 171 = .ok (.invokevirtual 245, 3) := by decide +kernel
theorem dX6_doLine_174 : decode cX6_doLine 174 = .ok (.invokevirtual 248, 3) := by decide +kernel
theorem dX6_doLine_177 : decode cX6_doLine 177 = .ok (.ireturn, 1) := by decide +kernel
theorem dX6_doLine_178 : decode cX6_doLine 178 = .ok (.iconst 0, 1) := by decide +kernel
theorem dX6_doLine_179 : decode cX6_doLine 179 = .ok (.ireturn, 1) := by decide +kernel
theorem dX6_askAndAdd_0 : decode cX6_askAndAdd 0 = .ok (.aload_n 0, 1) := by decide +kernel
theorem dX6_askAndAdd_1 : decode cX6_askAndAdd 1 = .ok (.iload_n 3, 1) := by decide +kernel
theorem dX6_askAndAdd_2 : decode cX6_askAndAdd 2 = .ok (.iload 4, 2) := by decide +kernel
theorem dX6_askAndAdd_4 : decode cX6_askAndAdd 4 = .ok (.iload 5, 2) := by decide +kernel
theorem dX6_askAndAdd_6 : decode cX6_askAndAdd 6 = .ok (.invokevirtual 238, 3) := by decide +kernel
theorem dX6_askAndAdd_9 : decode cX6_askAndAdd 9 = .ok (.istore 6, 2) := by decide +kernel
theorem dX6_askAndAdd_11 : decode cX6_askAndAdd 11 = .ok (.iload 6, 2) := by decide +kernel
theorem dX6_askAndAdd_13 : decode cX6_askAndAdd 13 = .ok (.ifCond .ne 31, 3) := by decide +kernel
theorem dX6_askAndAdd_16 : decode cX6_askAndAdd 16 = .ok (.aload_n 0, 1) := by decide +kernel
theorem dX6_askAndAdd_17 : decode cX6_askAndAdd 17 = .ok (.iload_n 1, 1) := by decide +kernel
theorem dX6_askAndAdd_18 : decode cX6_askAndAdd 18 = .ok (.iload_n 2, 1) := by decide +kernel
theorem dX6_askAndAdd_19 : decode cX6_askAndAdd 19 = .ok (.aload_n 0, 1) := by decide +kernel
theorem dX6_askAndAdd_20 : decode cX6_askAndAdd 20 = .ok (.aload_n 0, 1) := by decide +kernel
theorem dX6_askAndAdd_21 : decode cX6_askAndAdd 21 = .ok (.getfield 117, 3) := by decide +kernel
theorem dX6_askAndAdd_24 : decode cX6_askAndAdd 24 = .ok (.iload_n 1, 1) := by decide +kernel
theorem dX6_askAndAdd_25 : decode cX6_askAndAdd 25 = .ok (.invokevirtual 146, 3) := by decide +kernel
theorem dX6_askAndAdd_28 : decode cX6_askAndAdd 28 = .ok (.iload_n 1, 1) := by decide +kernel
theorem dX6_askAndAdd_29 : decode cX6_askAndAdd 29 = .ok (.iload_n 2, 1) := by decide +kernel
theorem dX6_askAndAdd_30 : decode cX6_askAndAdd 30 = .ok (.invokevirtual 160, 3) := by decide +kernel
theorem dX6_askAndAdd_33 : decode cX6_askAndAdd 33 = .ok (.aload_n 0, 1) := by decide +kernel
theorem dX6_askAndAdd_34 : decode cX6_askAndAdd 34 = .ok (.getfield 123, 3) := by decide +kernel
theorem dX6_askAndAdd_37 : decode cX6_askAndAdd 37 = .ok (.iadd, 1) := by decide +kernel
theorem dX6_askAndAdd_38 : decode cX6_askAndAdd 38 = .ok (.invokevirtual 248, 3) := by decide +kernel
theorem dX6_askAndAdd_41 : decode cX6_askAndAdd 41 = .ok (.goto 5, 3) := by decide +kernel
theorem dX6_askAndAdd_44 : decode cX6_askAndAdd 44 = .ok (.iload 6, 2) := by decide +kernel
theorem dX6_askAndAdd_46 : decode cX6_askAndAdd 46 = .ok (.ireturn, 1) := by decide +kernel
theorem dX6_takeSteps_0 : decode cX6_takeSteps 0 = .ok (.aload_n 0, 1) := by decide +kernel
theorem dX6_takeSteps_1 : decode cX6_takeSteps 1 = .ok (.getfield 17, 3) := by decide +kernel
theorem dX6_takeSteps_4 : decode cX6_takeSteps 4 = .ok (.aload_n 0, 1) := by decide +kernel
theorem dX6_takeSteps_5 : decode cX6_takeSteps 5 = .ok (.getfield 117, 3) := by decide +kernel
theorem dX6_takeSteps_8 : decode cX6_takeSteps 8 = .ok (.aaload, 1) := by decide +kernel
theorem dX6_takeSteps_9 : decode cX6_takeSteps 9 = .ok (.getfield 183, 3) := by decide +kernel
theorem dX6_takeSteps_12 : decode cX6_takeSteps 12 = .ok (.iload_n 1, 1) := by decide +kernel
theorem dX6_takeSteps_13 : decode cX6_takeSteps 13 = .ok (.if_icmp .ge 5, 3) := by decide +kernel
theorem dX6_takeSteps_16 : decode cX6_takeSteps 16 = .ok (.iconst 0, 1) := by decide +kernel
theorem dX6_takeSteps_17 : decode cX6_takeSteps 17 = .ok (.ireturn, 1) := by decide +kernel
theorem dX6_takeSteps_18 : decode cX6_takeSteps 18 = .ok (.aload_n 0, 1) := by decide +kernel
theorem dX6_takeSteps_19 : decode cX6_takeSteps 19 = .ok (.getfield 17, 3) := by decide +kernel
theorem dX6_takeSteps_22 : decode cX6_takeSteps 22 = .ok (.aload_n 0, 1) := by decide +kernel
theorem dX6_takeSteps_23 : decode cX6_takeSteps 23 = .ok (.getfield 117, 3) := by decide +kernel
theorem dX6_takeSteps_26 : decode cX6_takeSteps 26 = .ok (.aaload, 1) := by decide +kernel
theorem dX6_takeSteps_27 : decode cX6_takeSteps 27 = .ok (.dup, 1) := by decide +kernel
theorem dX6_takeSteps_28 : decode cX6_takeSteps 28 = .ok (.getfield 183, 3) := by decide +kernel
theorem dX6_takeSteps_31 : decode cX6_takeSteps 31 = .ok (.iload_n 1, 1) := by decide +kernel
theorem dX6_takeSteps_32 : decode cX6_takeSteps 32 = .ok (.isub, 1) := by decide +kernel
theorem dX6_takeSteps_33 : decode cX6_takeSteps 33 = .ok (.putfield 183, 3) := by decide +kernel
theorem dX6_takeSteps_36 : decode cX6_takeSteps 36 = .ok (.aload_n 0, 1) := by decide +kernel
theorem dX6_takeSteps_37 : decode cX6_takeSteps 37 = .ok (.dup, 1) := by decide +kernel
theorem dX6_takeSteps_38 : decode cX6_takeSteps 38 = .ok (.getfield 199, 3) := by decide +kernel
theorem dX6_takeSteps_41 : decode cX6_takeSteps 41 = .ok (.iload_n 1, 1) := by decide +kernel
theorem dX6_takeSteps_42 : decode cX6_takeSteps 42 = .ok (.iadd, 1) := by decide +kernel
theorem dX6_takeSteps_43 : decode cX6_takeSteps 43 = .ok (.putfield 199, 3) := by decide +kernel
theorem dX6_takeSteps_46 : decode cX6_takeSteps 46 = .ok (.iconst 1, 1) := by decide +kernel
theorem dX6_takeSteps_47 : decode cX6_takeSteps 47 = .ok (.ireturn, 1) := by decide +kernel
theorem dJx00060_init_a7421_0 : decode cJx00060_init_a7421 0 = .ok (.aload_n 0, 1) := by decide +kernel
theorem dJx00060_init_a7421_1 : decode cJx00060_init_a7421 1 = .ok (.aload_n 1, 1) := by decide +kernel
theorem dJx00060_init_a7421_2 : decode cJx00060_init_a7421 2 = .ok (.invokespecial 7, 3) := by decide +kernel
theorem dJx00060_init_a7421_5 : decode cJx00060_init_a7421 5 = .ok (.return_, 1) := by decide +kernel
theorem dJ7_fill_53178_0 : decode cJ7_fill_53178 0 = .ok (.iconst 0, 1) := by decide +kernel
theorem dJ7_fill_53178_1 : decode cJ7_fill_53178 1 = .ok (.istore_n 2, 1) := by decide +kernel
theorem dJ7_fill_53178_2 : decode cJ7_fill_53178 2 = .ok (.aload_n 0, 1) := by decide +kernel
theorem dJ7_fill_53178_3 : decode cJ7_fill_53178 3 = .ok (.arraylength, 1) := by decide +kernel
theorem dJ7_fill_53178_4 : decode cJ7_fill_53178 4 = .ok (.istore_n 3, 1) := by decide +kernel
theorem dJ7_fill_53178_5 : decode cJ7_fill_53178 5 = .ok (.iload_n 2, 1) := by decide +kernel
theorem dJ7_fill_53178_6 : decode cJ7_fill_53178 6 = .ok (.iload_n 3, 1) := by decide +kernel
theorem dJ7_fill_53178_7 : decode cJ7_fill_53178 7 = .ok (.if_icmp .ge 13, 3) := by decide +kernel
theorem dJ7_fill_53178_10 : decode cJ7_fill_53178 10 = .ok (.aload_n 0, 1) := by decide +kernel
theorem dJ7_fill_53178_11 : decode cJ7_fill_53178 11 = .ok (.iload_n 2, 1) := by decide +kernel
theorem dJ7_fill_53178_12 : decode cJ7_fill_53178 12 = .ok (.iload_n 1, 1) := by decide +kernel
theorem dJ7_fill_53178_13 : decode cJ7_fill_53178 13 = .ok (.iastore, 1) := by decide +kernel
theorem dJ7_fill_53178_14 : decode cJ7_fill_53178 14 = .ok (.iinc 2 1, 3) := by decide +kernel
theorem dJ7_fill_53178_17 : decode cJ7_fill_53178 17 = .ok (.goto (-12), 3) := by decide +kernel
theorem dJ7_fill_53178_20 : decode cJ7_fill_53178 20 = .ok (.return_, 1) := by decide +kernel
end
section
theorem dX7_init_0 : decode cX7_init 0 = .ok (.aload_n 0, 1) := by decide +kernel
theorem dX7_init_1 : decode cX7_init 1 = .ok (.invokespecial 1, 3) := by decide +kernel
theorem dX7_init_4 : decode cX7_init 4 = .ok (.aload_n 0, 1) := by decide +kernel
theorem dX7_init_5 : decode cX7_init 5 = .ok (.bipush 16, 2) := by decide +kernel
theorem dX7_init_7 : decode cX7_init 7 = .ok (.newarray .int, 2) := by decide +kernel
theorem dX7_init_9 : decode cX7_init 9 = .ok (.putfield 7, 3) := by decide +kernel
theorem dX7_init_12 : decode cX7_init 12 = .ok (.aload_n 0, 1) := by decide +kernel
theorem dX7_init_13 : decode cX7_init 13 = .ok (.bipush 16, 2) := by decide +kernel
theorem dX7_init_15 : decode cX7_init 15 = .ok (.newarray .int, 2) := by decide +kernel
theorem dX7_init_17 : decode cX7_init 17 = .ok (.putfield 13, 3) := by decide +kernel
theorem dX7_init_20 : decode cX7_init 20 = .ok (.aload_n 0, 1) := by decide +kernel
theorem dX7_init_21 : decode cX7_init 21 = .ok (.bipush 16, 2) := by decide +kernel
theorem dX7_init_23 : decode cX7_init 23 = .ok (.newarray .boolean, 2) := by decide +kernel
theorem dX7_init_25 : decode cX7_init 25 = .ok (.putfield 16, 3) := by decide +kernel
theorem dX7_init_28 : decode cX7_init 28 = .ok (.aload_n 0, 1) := by decide +kernel
theorem dX7_init_29 : decode cX7_init 29 = .ok (.bipush 16, 2) := by decide +kernel
theorem dX7_init_31 : decode cX7_init 31 = .ok (.newarray .int, 2) := by decide +kernel
theorem dX7_init_33 : decode cX7_init 33 = .ok (.putfield 20, 3) := by decide +kernel
theorem dX7_init_36 : decode cX7_init 36 = .ok (.aload_n 0, 1) := by decide +kernel
theorem dX7_init_37 : decode cX7_init 37 = .ok (.bipush 48, 2) := by decide +kernel
theorem dX7_init_39 : decode cX7_init 39 = .ok (.newarray .int, 2) := by decide +kernel
theorem dX7_init_41 : decode cX7_init 41 = .ok (.putfield 23, 3) := by decide +kernel
theorem dX7_init_44 : decode cX7_init 44 = .ok (.aload_n 0, 1) := by decide +kernel
theorem dX7_init_45 : decode cX7_init 45 = .ok (.bipush 80, 2) := by decide +kernel
theorem dX7_init_47 : decode cX7_init 47 = .ok (.newarray .int, 2) := by decide +kernel
theorem dX7_init_49 : decode cX7_init 49 = .ok (.putfield 26, 3) := by decide +kernel
theorem dX7_init_52 : decode cX7_init 52 = .ok (.aload_n 0, 1) := by decide +kernel
theorem dX7_init_53 : decode cX7_init 53 = .ok (.bipush 80, 2) := by decide +kernel
theorem dX7_init_55 : decode cX7_init 55 = .ok (.newarray .int, 2) := by decide +kernel
theorem dX7_init_57 : decode cX7_init 57 = .ok (.putfield 29, 3) := by decide +kernel
theorem dX7_init_60 : decode cX7_init 60 = .ok (.aload_n 0, 1) := by decide +kernel
theorem dX7_init_61 : decode cX7_init 61 = .ok (.bipush 16, 2) := by decide +kernel
theorem dX7_init_63 : decode cX7_init 63 = .ok (.newarray .int, 2) := by decide +kernel
theorem dX7_init_65 : decode cX7_init 65 = .ok (.putfield 32, 3) := by decide +kernel
theorem dX7_init_68 : decode cX7_init 68 = .ok (.aload_n 0, 1) := by decide +kernel
theorem dX7_init_69 : decode cX7_init 69 = .ok (.sipush 512, 3) := by decide +kernel
theorem dX7_init_72 : decode cX7_init 72 = .ok (.newarray .int, 2) := by decide +kernel
theorem dX7_init_74 : decode cX7_init 74 = .ok (.putfield 35, 3) := by decide +kernel
theorem dX7_init_77 : decode cX7_init 77 = .ok (.aload_n 0, 1) := by decide +kernel
theorem dX7_init_78 : decode cX7_init 78 = .ok (.bipush 80, 2) := by decide +kernel
theorem dX7_init_80 : decode cX7_init 80 = .ok (.newarray .int, 2) := by decide +kernel
theorem dX7_init_82 : decode cX7_init 82 = .ok (.putfield 38, 3) := by decide +kernel
theorem dX7_init_85 : decode cX7_init 85 = .ok (.aload_n 0, 1) := by decide +kernel
theorem dX7_init_86 : decode cX7_init 86 = .ok (.sipush 400, 3) := by decide +kernel
theorem dX7_init_89 : decode cX7_init 89 = .ok (.newarray .int, 2) := by decide +kernel
theorem dX7_init_91 : decode cX7_init 91 = .ok (.putfield 41, 3) := by decide +kernel
theorem dX7_init_94 : decode cX7_init 94 = .ok (.aload_n 0, 1) := by decide +kernel
theorem dX7_init_95 : decode cX7_init 95 = .ok (.bipush 64, 2) := by decide +kernel
theorem dX7_init_97 : decode cX7_init 97 = .ok (.newarray .int, 2) := by decide +kernel
theorem dX7_init_99 : decode cX7_init 99 = .ok (.putfield 44, 3) := by decide +kernel
theorem dX7_init_102 : decode cX7_init 102 = .ok (.aload_n 0, 1) := by decide +kernel
theorem dX7_init_103 : decode cX7_init 103 = .ok (.iconst 4, 1) := by decide +kernel
theorem dX7_init_104 : decode cX7_init 104 = .ok (.newarray .int, 2) := by decide +kernel
theorem dX7_init_106 : decode cX7_init 106 = .ok (.putfield 47, 3) := by decide +kernel
theorem dX7_init_109 : decode cX7_init 109 = .ok (.aload_n 0, 1) := by decide +kernel
theorem dX7_init_110 : decode cX7_init 110 = .ok (.sipush 600, 3) := by decide +kernel
theorem dX7_init_113 : decode cX7_init 113 = .ok (.newarray .int, 2) := by decide +kernel
theorem dX7_init_115 : decode cX7_init 115 = .ok (.putfield 50, 3) := by decide +kernel
theorem dX7_init_118 : decode cX7_init 118 = .ok (.aload_n 0, 1) := by decide +kernel
theorem dX7_init_119 : decode cX7_init 119 = .ok (.bipush 100, 2) := by decide +kernel
theorem dX7_init_121 : decode cX7_init 121 = .ok (.newarray .int, 2) := by decide +kernel
theorem dX7_init_123 : decode cX7_init 123 = .ok (.putfield 53, 3) := by decide +kernel
theorem dX7_init_126 : decode cX7_init 126 = .ok (.aload_n 0, 1) := by decide +kernel
theorem dX7_init_127 : decode cX7_init 127 = .ok (.iconst 4, 1) := by decide +kernel
theorem dX7_init_128 : decode cX7_init 128 = .ok (.newarray .int, 2) := by decide +kernel
theorem dX7_init_130 : decode cX7_init 130 = .ok (.putfield 56, 3) := by decide +kernel
theorem dX7_init_133 : decode cX7_init 133 = .ok (.aload_n 0, 1) := by decide +kernel
theorem dX7_init_134 : decode cX7_init 134 = .ok (.sipush 2400, 3) := by decide +kernel
theorem dX7_init_137 : decode cX7_init 137 = .ok (.newarray .int, 2) := by decide +kernel
theorem dX7_init_139 : decode cX7_init 139 = .ok (.putfield 59, 3) := by decide +kernel
theorem dX7_init_142 : decode cX7_init 142 = .ok (.aload_n 0, 1) := by decide +kernel
theorem dX7_init_143 : decode cX7_init 143 = .ok (.sipush 2400, 3) := by decide +kernel
theorem dX7_init_146 : decode cX7_init 146 = .ok (.newarray .int, 2) := by decide +kernel
theorem dX7_init_148 : decode cX7_init 148 = .ok (.putfield 62, 3) := by decide +kernel
theorem dX7_init_151 : decode cX7_init 151 = .ok (.aload_n 0, 1) := by decide +kernel
theorem dX7_init_152 : decode cX7_init 152 = .ok (.bipush 16, 2) := by decide +kernel
theorem dX7_init_154 : decode cX7_init 154 = .ok (.newarray .int, 2) := by decide +kernel
theorem dX7_init_156 : decode cX7_init 156 = .ok (.putfield 65, 3) := by decide +kernel
theorem dX7_init_159 : decode cX7_init 159 = .ok (.aload_n 0, 1) := by decide +kernel
theorem dX7_init_160 : decode cX7_init 160 = .ok (.bipush 16, 2) := by decide +kernel
theorem dX7_init_162 : decode cX7_init 162 = .ok (.newarray .int, 2) := by decide +kernel
theorem dX7_init_164 : decode cX7_init 164 = .ok (.putfield 68, 3) := by decide +kernel
theorem dX7_init_167 : decode cX7_init 167 = .ok (.aload_n 0, 1) := by decide +kernel
theorem dX7_init_168 : decode cX7_init 168 = .ok (.bipush 16, 2) := by decide +kernel
theorem dX7_init_170 : decode cX7_init 170 = .ok (.newarray .int, 2) := by decide +kernel
theorem dX7_init_172 : decode cX7_init 172 = .ok (.putfield 71, 3) := by decide +kernel
theorem dX7_init_175 : decode cX7_init 175 = .ok (.aload_n 0, 1) := by decide +kernel
theorem dX7_init_176 : decode cX7_init 176 = .ok (.bipush 16, 2) := by decide +kernel
theorem dX7_init_178 : decode cX7_init 178 = .ok (.newarray .int, 2) := by decide +kernel
theorem dX7_init_180 : decode cX7_init 180 = .ok (.putfield 74, 3) := by decide +kernel
theorem dX7_init_183 : decode cX7_init 183 = .ok (.aload_n 0, 1) := by decide +kernel
theorem dX7_init_184 : decode cX7_init 184 = .ok (.bipush 16, 2) := by decide +kernel
theorem dX7_init_186 : decode cX7_init 186 = .ok (.newarray .int, 2) := by decide +kernel
theorem dX7_init_188 : decode cX7_init 188 = .ok (.putfield 77, 3) := by decide +kernel
theorem dX7_init_191 : decode cX7_init 191 = .ok (.aload_n 0, 1) := by decide +kernel
theorem dX7_init_192 : decode cX7_init 192 = .ok (.sipush 256, 3) := by decide +kernel
theorem dX7_init_195 : decode cX7_init 195 = .ok (.newarray .int, 2) := by decide +kernel
theorem dX7_init_197 : decode cX7_init 197 = .ok (.putfield 80, 3) := by decide +kernel
theorem dX7_init_200 : decode cX7_init 200 = .ok (.aload_n 0, 1) := by decide +kernel
theorem dX7_init_201 : decode cX7_init 201 = .ok (.bipush 16, 2) := by decide +kernel
theorem dX7_init_203 : decode cX7_init 203 = .ok (.newarray .int, 2) := by decide +kernel
theorem dX7_init_205 : decode cX7_init 205 = .ok (.putfield 83, 3) := by decide +kernel
theorem dX7_init_208 : decode cX7_init 208 = .ok (.aload_n 0, 1) := by decide +kernel
theorem dX7_init_209 : decode cX7_init 209 = .ok (.bipush 16, 2) := by decide +kernel
theorem dX7_init_211 : decode cX7_init 211 = .ok (.newarray .boolean, 2) := by decide +kernel
theorem dX7_init_213 : decode cX7_init 213 = .ok (.putfield 86, 3) := by decide +kernel
theorem dX7_init_216 : decode cX7_init 216 = .ok (.aload_n 0, 1) := by decide +kernel
theorem dX7_init_217 : decode cX7_init 217 = .ok (.bipush 17, 2) := by decide +kernel
theorem dX7_init_219 : decode cX7_init 219 = .ok (.newarray .int, 2) := by decide +kernel
theorem dX7_init_221 : decode cX7_init 221 = .ok (.putfield 89, 3) := by decide +kernel
theorem dX7_init_224 : decode cX7_init 224 = .ok (.aload_n 0, 1) := by decide +kernel
theorem dX7_init_225 : decode cX7_init 225 = .ok (.bipush 17, 2) := by decide +kernel
theorem dX7_init_227 : decode cX7_init 227 = .ok (.newarray .int, 2) := by decide +kernel
theorem dX7_init_229 : decode cX7_init 229 = .ok (.putfield 92, 3) := by decide +kernel
theorem dX7_init_232 : decode cX7_init 232 = .ok (.aload_n 0, 1) := by decide +kernel
theorem dX7_init_233 : decode cX7_init 233 = .ok (.bipush 80, 2) := by decide +kernel
theorem dX7_init_235 : decode cX7_init 235 = .ok (.newarray .int, 2) := by decide +kernel
theorem dX7_init_237 : decode cX7_init 237 = .ok (.putfield 95, 3) := by decide +kernel
theorem dX7_init_240 : decode cX7_init 240 = .ok (.aload_n 0, 1) := by decide +kernel
theorem dX7_init_241 : decode cX7_init 241 = .ok (.invokevirtual 98, 3) := by decide +kernel
theorem dX7_init_244 : decode cX7_init 244 = .ok (.return_, 1) := by decide +kernel
theorem dX7_begins_0 : decode cX7_begins 0 = .ok (.aload_n 0, 1) := by decide +kernel
theorem dX7_begins_1 : decode cX7_begins 1 = .ok (.iconst 0, 1) := by decide +kernel
theorem dX7_begins_2 : decode cX7_begins 2 = .ok (.putfield 101, 3) := by decide +kernel
theorem dX7_begins_5 : decode cX7_begins 5 = .ok (.aload_n 0, 1) := by decide +kernel
theorem dX7_begins_6 : decode cX7_begins 6 = .ok (.iconst 0, 1) := by decide +kernel
theorem dX7_begins_7 : decode cX7_begins 7 = .ok (.putfield 105, 3) := by decide +kernel
theorem dX7_begins_10 : decode cX7_begins 10 = .ok (.aload_n 0, 1) := by decide +kernel
theorem dX7_begins_11 : decode cX7_begins 11 = .ok (.iconst 0, 1) := by decide +kernel
theorem dX7_begins_12 : decode cX7_begins 12 = .ok (.putfield 108, 3) := by decide +kernel
theorem dX7_begins_15 : decode cX7_begins 15 = .ok (.aload_n 0, 1) := by decide +kernel
theorem dX7_begins_16 : decode cX7_begins 16 = .ok (.iconst 0, 1) := by decide +kernel
theorem dX7_begins_17 : decode cX7_begins 17 = .ok (.putfield 111, 3) := by decide +kernel
theorem dX7_begins_20 : decode cX7_begins 20 = .ok (.aload_n 0, 1) := by decide +kernel
theorem dX7_begins_21 : decode cX7_begins 21 = .ok (.iconst 0, 1) := by decide +kernel
theorem dX7_begins_22 : decode cX7_begins 22 = .ok (.putfield 114, 3) := by decide +kernel
theorem dX7_begins_25 : decode cX7_begins 25 = .ok (.aload_n 0, 1) := by decide +kernel
theorem dX7_begins_26 : decode cX7_begins 26 = .ok (.iconst 0, 1) := by decide +kernel
theorem dX7_begins_27 : decode cX7_begins 27 = .ok (.putfield 117, 3) := by decide +kernel
theorem dX7_begins_30 : decode cX7_begins 30 = .ok (.iconst 0, 1) := by decide +kernel
theorem dX7_begins_31 : decode cX7_begins 31 = .ok (.istore_n 1, 1) := by decide +kernel
theorem dX7_begins_32 : decode cX7_begins 32 = .ok (.iload_n 1, 1) := by decide +kernel
theorem dX7_begins_33 : decode cX7_begins 33 = .ok (.bipush 16, 2) := by decide +kernel
theorem dX7_begins_35 : decode cX7_begins 35 = .ok (.if_icmp .ge 23, 3) := by decide +kernel
theorem dX7_begins_38 : decode cX7_begins 38 = .ok (.aload_n 0, 1) := by decide +kernel
theorem dX7_begins_39 : decode cX7_begins 39 = .ok (.getfield 20, 3) := by decide +kernel
theorem dX7_begins_42 : decode cX7_begins 42 = .ok (.iload_n 1, 1) := by decide +kernel
theorem dX7_begins_43 : decode cX7_begins 43 = .ok (.iconst 0, 1) := by decide +kernel
theorem dX7_begins_44 : decode cX7_begins 44 = .ok (.iastore, 1) := by decide +kernel
theorem dX7_begins_45 : decode cX7_begins 45 = .ok (.aload_n 0, 1) := by decide +kernel
theorem dX7_begins_46 : decode cX7_begins 46 = .ok (.getfield 32, 3) := by decide +kernel
theorem dX7_begins_49 : decode cX7_begins 49 = .ok (.iload_n 1, 1) := by decide +kernel
theorem dX7_begins_50 : decode cX7_begins 50 = .ok (.iconst 0, 1) := by decide +kernel
theorem dX7_begins_51 : decode cX7_begins 51 = .ok (.iastore, 1) := by decide +kernel
theorem dX7_begins_52 : decode cX7_begins 52 = .ok (.iinc 1 1, 3) := by decide +kernel
theorem dX7_begins_55 : decode cX7_begins 55 = .ok (.goto (-23), 3) := by decide +kernel
theorem dX7_begins_58 : decode cX7_begins 58 = .ok (.iconst 0, 1) := by decide +kernel
theorem dX7_begins_59 : decode cX7_begins 59 = .ok (.istore_n 1, 1) := by decide +kernel
theorem dX7_begins_60 : decode cX7_begins 60 = .ok (.iload_n 1, 1) := by decide +kernel
theorem dX7_begins_61 : decode cX7_begins 61 = .ok (.bipush 80, 2) := by decide +kernel
theorem dX7_begins_63 : decode cX7_begins 63 = .ok (.if_icmp .ge 23, 3) := by decide +kernel
theorem dX7_begins_66 : decode cX7_begins 66 = .ok (.aload_n 0, 1) := by decide +kernel
theorem dX7_begins_67 : decode cX7_begins 67 = .ok (.getfield 26, 3) := by decide +kernel
theorem dX7_begins_70 : decode cX7_begins 70 = .ok (.iload_n 1, 1) := by decide +kernel
theorem dX7_begins_71 : decode cX7_begins 71 = .ok (.iconst 0, 1) := by decide +kernel
theorem dX7_begins_72 : decode cX7_begins 72 = .ok (.iastore, 1) := by decide +kernel
theorem dX7_begins_73 : decode cX7_begins 73 = .ok (.aload_n 0, 1) := by decide +kernel
theorem dX7_begins_74 : decode cX7_begins 74 = .ok (.getfield 38, 3) := by decide +kernel
theorem dX7_begins_77 : decode cX7_begins 77 = .ok (.iload_n 1, 1) := by decide +kernel
theorem dX7_begins_78 : decode cX7_begins 78 = .ok (.iconst 0, 1) := by decide +kernel
theorem dX7_begins_79 : decode cX7_begins 79 = .ok (.iastore, 1) := by decide +kernel
theorem dX7_begins_80 : decode cX7_begins 80 = .ok (.iinc 1 1, 3) := by decide +kernel
theorem dX7_begins_83 : decode cX7_begins 83 = .ok (.goto (-23), 3) := by decide +kernel
theorem dX7_begins_86 : decode cX7_begins 86 = .ok (.iconst 0, 1) := by decide +kernel
theorem dX7_begins_87 : decode cX7_begins 87 = .ok (.istore_n 1, 1) := by decide +kernel
theorem dX7_begins_88 : decode cX7_begins 88 = .ok (.iload_n 1, 1) := by decide +kernel
theorem dX7_begins_89 : decode cX7_begins 89 = .ok (.sipush 400, 3) := by decide +kernel
theorem dX7_begins_92 : decode cX7_begins 92 = .ok (.if_icmp .ge 16, 3) := by decide +kernel
theorem dX7_begins_95 : decode cX7_begins 95 = .ok (.aload_n 0, 1) := by decide +kernel
theorem dX7_begins_96 : decode cX7_begins 96 = .ok (.getfield 41, 3) := by decide +kernel
theorem dX7_begins_99 : decode cX7_begins 99 = .ok (.iload_n 1, 1) := by decide +kernel
theorem dX7_begins_100 : decode cX7_begins 100 = .ok (.iconst 0, 1) := by decide +kernel
theorem dX7_begins_101 : decode cX7_begins 101 = .ok (.iastore, 1) := by decide +kernel
theorem dX7_begins_102 : decode cX7_begins 102 = .ok (.iinc 1 1, 3) := by decide +kernel
theorem dX7_begins_105 : decode cX7_begins 105 = .ok (.goto (-17), 3) := by decide +kernel
theorem dX7_begins_108 : decode cX7_begins 108 = .ok (.iconst 0, 1) := by decide +kernel
theorem dX7_begins_109 : decode cX7_begins 109 = .ok (.istore_n 1, 1) := by decide +kernel
theorem dX7_begins_110 : decode cX7_begins 110 = .ok (.iload_n 1, 1) := by decide +kernel
theorem dX7_begins_111 : decode cX7_begins 111 = .ok (.bipush 64, 2) := by decide +kernel
theorem dX7_begins_113 : decode cX7_begins 113 = .ok (.if_icmp .ge 16, 3) := by decide +kernel
theorem dX7_begins_116 : decode cX7_begins 116 = .ok (.aload_n 0, 1) := by decide +kernel
theorem dX7_begins_117 : decode cX7_begins 117 = .ok (.getfield 44, 3) := by decide +kernel
theorem dX7_begins_120 : decode cX7_begins 120 = .ok (.iload_n 1, 1) := by decide +kernel
theorem dX7_begins_121 : decode cX7_begins 121 = .ok (.iconst 0, 1) := by decide +kernel
theorem dX7_begins_122 : decode cX7_begins 122 = .ok (.iastore, 1) := by decide +kernel
theorem dX7_begins_123 : decode cX7_begins 123 = .ok (.iinc 1 1, 3) := by decide +kernel
theorem dX7_begins_126 : decode cX7_begins 126 = .ok (.goto (-16), 3) := by decide +kernel
theorem dX7_begins_129 : decode cX7_begins 129 = .ok (.iconst 0, 1) := by decide +kernel
theorem dX7_begins_130 : decode cX7_begins 130 = .ok (.istore_n 1, 1) := by decide +kernel
theorem dX7_begins_131 : decode cX7_begins 131 = .ok (.iload_n 1, 1) := by decide +kernel
theorem dX7_begins_132 : decode cX7_begins 132 = .ok (.iconst 4, 1) := by decide +kernel
theorem dX7_begins_133 : decode cX7_begins 133 = .ok (.if_icmp .ge 25, 3) := by decide +kernel
theorem dX7_begins_136 : decode cX7_begins 136 = .ok (.aload_n 0, 1) := by decide +kernel
theorem dX7_begins_137 : decode cX7_begins 137 = .ok (.getfield 47, 3) := by decide +kernel
theorem dX7_begins_140 : decode cX7_begins 140 = .ok (.iload_n 1, 1) := by decide +kernel
theorem dX7_begins_141 : decode cX7_begins 141 = .ok (.sipush 1000, 3) := by decide +kernel
theorem dX7_begins_144 : decode cX7_begins 144 = .ok (.iastore, 1) := by decide +kernel
theorem dX7_begins_145 : decode cX7_begins 145 = .ok (.aload_n 0, 1) := by decide +kernel
theorem dX7_begins_146 : decode cX7_begins 146 = .ok (.getfield 56, 3) := by decide +kernel
theorem dX7_begins_149 : decode cX7_begins 149 = .ok (.iload_n 1, 1) := by decide +kernel
theorem dX7_begins_150 : decode cX7_begins 150 = .ok (.iconst 0, 1) := by decide +kernel
theorem dX7_begins_151 : decode cX7_begins 151 = .ok (.iastore, 1) := by decide +kernel
theorem dX7_begins_152 : decode cX7_begins 152 = .ok (.iinc 1 1, 3) := by decide +kernel
theorem dX7_begins_155 : decode cX7_begins 155 = .ok (.goto (-24), 3) := by decide +kernel
theorem dX7_begins_158 : decode cX7_begins 158 = .ok (.return_, 1) := by decide +kernel
theorem dX7_thrown_0 : decode cX7_thrown 0 = .ok (.aload_n 0, 1) := by decide +kernel
theorem dX7_thrown_1 : decode cX7_thrown 1 = .ok (.getfield 120, 3) := by decide +kernel
theorem dX7_thrown_4 : decode cX7_thrown 4 = .ok (.ireturn, 1) := by decide +kernel
theorem dX7_in_0 : decode cX7_in 0 = .ok (.iload_n 0, 1) := by decide +kernel
theorem dX7_in_1 : decode cX7_in 1 = .ok (.iload_n 1, 1) := by decide +kernel
theorem dX7_in_2 : decode cX7_in 2 = .ok (.if_icmp .lt 12, 3) := by decide +kernel
theorem dX7_in_5 : decode cX7_in 5 = .ok (.iload_n 0, 1) := by decide +kernel
theorem dX7_in_6 : decode cX7_in 6 = .ok (.iload_n 2, 1) := by decide +kernel
theorem dX7_in_7 : decode cX7_in 7 = .ok (.if_icmp .gt 7, 3) := by decide +kernel
theorem dX7_in_10 : decode cX7_in 10 = .ok (.iconst 1, 1) := by decide +kernel
theorem dX7_in_11 : decode cX7_in 11 = .ok (.goto 4, 3) := by decide +kernel
theorem dX7_in_14 : decode cX7_in 14 = .ok (.iconst 0, 1) := by decide +kernel
theorem dX7_in_15 : decode cX7_in 15 = .ok (.ireturn, 1) := by decide +kernel
theorem dX7_isType_0 : decode cX7_isType 0 = .ok (.iload_n 1, 1) := by decide +kernel
theorem dX7_isType_1 : decode cX7_isType 1 = .ok (.iconst 0, 1) := by decide +kernel
theorem dX7_isType_2 : decode cX7_isType 2 = .ok (.aload_n 0, 1) := by decide +kernel
theorem dX7_isType_3 : decode cX7_isType 3 = .ok (.getfield 101, 3) := by decide +kernel
theorem dX7_isType_6 : decode cX7_isType 6 = .ok (.iconst 1, 1) := by decide +kernel
theorem dX7_isType_7 : decode cX7_isType 7 = .ok (.isub, 1) := by decide +kernel
theorem dX7_isType_8 : decode cX7_isType 8 = .ok (.invokestatic 123, 3) := by decide +kernel
theorem dX7_isType_11 : decode cX7_isType 11 = .ok (.ireturn, 1) := by decide +kernel
theorem dX7_isSession_0 : decode cX7_isSession 0 = .ok (.iload_n 0, 1) := by decide +kernel
theorem dX7_isSession_1 : decode cX7_isSession 1 = .ok (.iconst 0, 1) := by decide +kernel
theorem dX7_isSession_2 : decode cX7_isSession 2 = .ok (.iconst 3, 1) := by decide +kernel
theorem dX7_isSession_3 : decode cX7_isSession 3 = .ok (.invokestatic 123, 3) := by decide +kernel
theorem dX7_isSession_6 : decode cX7_isSession 6 = .ok (.ireturn, 1) := by decide +kernel
theorem dX7_type_0 : decode cX7_type 0 = .ok (.aload_n 0, 1) := by decide +kernel
theorem dX7_type_1 : decode cX7_type 1 = .ok (.iconst 0, 1) := by decide +kernel
theorem dX7_type_2 : decode cX7_type 2 = .ok (.putfield 120, 3) := by decide +kernel
theorem dX7_type_5 : decode cX7_type 5 = .ok (.iload_n 1, 1) := by decide +kernel
theorem dX7_type_6 : decode cX7_type 6 = .ok (.iconst 0, 1) := by decide +kernel
theorem dX7_type_7 : decode cX7_type 7 = .ok (.iconst 2, 1) := by decide +kernel
theorem dX7_type_8 : decode cX7_type 8 = .ok (.invokestatic 123, 3) := by decide +kernel
theorem dX7_type_11 : decode cX7_type 11 = .ok (.ifCond .ne 6, 3) := by decide +kernel
theorem dX7_type_14 : decode cX7_type 14 = .ok (.bipush (-102), 2) := by decide +kernel
theorem dX7_type_16 : decode cX7_type 16 = .ok (.ireturn, 1) := by decide +kernel
theorem dX7_type_17 : decode cX7_type 17 = .ok (.iload_n 2, 1) := by decide +kernel
theorem dX7_type_18 : decode cX7_type 18 = .ok (.iconst (-1), 1) := by decide +kernel
theorem dX7_type_19 : decode cX7_type 19 = .ok (.if_icmp .eq 27, 3) := by decide +kernel
theorem dX7_type_22 : decode cX7_type 22 = .ok (.iload_n 1, 1) := by decide +kernel
theorem dX7_type_23 : decode cX7_type 23 = .ok (.ifCond .ne 20, 3) := by decide +kernel
theorem dX7_type_26 : decode cX7_type 26 = .ok (.aload_n 0, 1) := by decide +kernel
theorem dX7_type_27 : decode cX7_type 27 = .ok (.iload_n 2, 1) := by decide +kernel
theorem dX7_type_28 : decode cX7_type 28 = .ok (.invokevirtual 127, 3) := by decide +kernel
theorem dX7_type_31 : decode cX7_type 31 = .ok (.ifCond .eq 12, 3) := by decide +kernel
theorem dX7_type_34 : decode cX7_type 34 = .ok (.aload_n 0, 1) := by decide +kernel
theorem dX7_type_35 : decode cX7_type 35 = .ok (.getfield 7, 3) := by decide +kernel
theorem dX7_type_38 : decode cX7_type 38 = .ok (.iload_n 2, 1) := by decide +kernel
theorem dX7_type_39 : decode cX7_type 39 = .ok (.iaload, 1) := by decide +kernel
theorem dX7_type_40 : decode cX7_type 40 = .ok (.ifCond .eq 6, 3) := by decide +kernel
theorem dX7_type_43 : decode cX7_type 43 = .ok (.bipush (-101), 2) := by decide +kernel
theorem dX7_type_45 : decode cX7_type 45 = .ok (.ireturn, 1) := by decide +kernel
theorem dX7_type_46 : decode cX7_type 46 = .ok (.iload_n 3, 1) := by decide +kernel
theorem dX7_type_47 : decode cX7_type 47 = .ok (.ifCond .eq 20, 3) := by decide +kernel
theorem dX7_type_50 : decode cX7_type 50 = .ok (.iload_n 2, 1) := by decide +kernel
theorem dX7_type_51 : decode cX7_type 51 = .ok (.iconst (-1), 1) := by decide +kernel
theorem dX7_type_52 : decode cX7_type 52 = .ok (.if_icmp .eq 15, 3) := by decide +kernel
theorem dX7_type_55 : decode cX7_type 55 = .ok (.aload_n 0, 1) := by decide +kernel
theorem dX7_type_56 : decode cX7_type 56 = .ok (.getfield 16, 3) := by decide +kernel
theorem dX7_type_59 : decode cX7_type 59 = .ok (.iload_n 2, 1) := by decide +kernel
theorem dX7_type_60 : decode cX7_type 60 = .ok (.baload, 1) := by decide +kernel
theorem dX7_type_61 : decode cX7_type 61 = .ok (.ifCond .ne 6, 3) := by decide +kernel
theorem dX7_type_64 : decode cX7_type 64 = .ok (.bipush (-103), 2) := by decide +kernel
theorem dX7_type_66 : decode cX7_type 66 = .ok (.ireturn, 1) := by decide +kernel
theorem dX7_type_67 : decode cX7_type 67 = .ok (.aload_n 0, 1) := by decide +kernel
theorem dX7_type_68 : decode cX7_type 68 = .ok (.getfield 101, 3) := by decide +kernel
theorem dX7_type_71 : decode cX7_type 71 = .ok (.bipush 16, 2) := by decide +kernel
theorem dX7_type_73 : decode cX7_type 73 = .ok (.if_icmp .ne 6, 3) := by decide +kernel
theorem dX7_type_76 : decode cX7_type 76 = .ok (.bipush (-104), 2) := by decide +kernel
theorem dX7_type_78 : decode cX7_type 78 = .ok (.ireturn, 1) := by decide +kernel
theorem dX7_type_79 : decode cX7_type 79 = .ok (.aload_n 0, 1) := by decide +kernel
theorem dX7_type_80 : decode cX7_type 80 = .ok (.getfield 7, 3) := by decide +kernel
theorem dX7_type_83 : decode cX7_type 83 = .ok (.aload_n 0, 1) := by decide +kernel
theorem dX7_type_84 : decode cX7_type 84 = .ok (.getfield 101, 3) := by decide +kernel
theorem dX7_type_87 : decode cX7_type 87 = .ok (.iload_n 1, 1) := by decide +kernel
theorem dX7_type_88 : decode cX7_type 88 = .ok (.iastore, 1) := by decide +kernel
theorem dX7_type_89 : decode cX7_type 89 = .ok (.aload_n 0, 1) := by decide +kernel
theorem dX7_type_90 : decode cX7_type 90 = .ok (.getfield 13, 3) := by decide +kernel
theorem dX7_type_93 : decode cX7_type 93 = .ok (.aload_n 0, 1) := by decide +kernel
theorem dX7_type_94 : decode cX7_type 94 = .ok (.getfield 101, 3) := by decide +kernel
theorem dX7_type_97 : decode cX7_type 97 = .ok (.iload_n 2, 1) := by decide +kernel
theorem dX7_type_98 : decode cX7_type 98 = .ok (.iastore, 1) := by decide +kernel
theorem dX7_type_99 : decode cX7_type 99 = .ok (.aload_n 0, 1) := by decide +kernel
theorem dX7_type_100 : decode cX7_type 100 = .ok (.getfield 16, 3) := by decide +kernel
theorem dX7_type_103 : decode cX7_type 103 = .ok (.aload_n 0, 1) := by decide +kernel
theorem dX7_type_104 : decode cX7_type 104 = .ok (.getfield 101, 3) := by decide +kernel
theorem dX7_type_107 : decode cX7_type 107 = .ok (.iload_n 3, 1) := by decide +kernel
theorem dX7_type_108 : decode cX7_type 108 = .ok (.bastore, 1) := by decide +kernel
theorem dX7_type_109 : decode cX7_type 109 = .ok (.aload_n 0, 1) := by decide +kernel
theorem dX7_type_110 : decode cX7_type 110 = .ok (.dup, 1) := by decide +kernel
theorem dX7_type_111 : decode cX7_type 111 = .ok (.getfield 101, 3) := by decide +kernel
theorem dX7_type_114 : decode cX7_type 114 = .ok (.iconst 1, 1) := by decide +kernel
theorem dX7_type_115 : decode cX7_type 115 = .ok (.iadd, 1) := by decide +kernel
theorem dX7_type_116 : decode cX7_type 116 = .ok (.putfield 101, 3) := by decide +kernel
theorem dX7_type_119 : decode cX7_type 119 = .ok (.aload_n 0, 1) := by decide +kernel
theorem dX7_type_120 : decode cX7_type 120 = .ok (.getfield 101, 3) := by decide +kernel
theorem dX7_type_123 : decode cX7_type 123 = .ok (.iconst 1, 1) := by decide +kernel
theorem dX7_type_124 : decode cX7_type 124 = .ok (.isub, 1) := by decide +kernel
theorem dX7_type_125 : decode cX7_type 125 = .ok (.ireturn, 1) := by decide +kernel
theorem dX7_face_0 : decode cX7_face 0 = .ok (.aload_n 0, 1) := by decide +kernel
theorem dX7_face_1 : decode cX7_face 1 = .ok (.iconst 0, 1) := by decide +kernel
theorem dX7_face_2 : decode cX7_face 2 = .ok (.putfield 120, 3) := by decide +kernel
theorem dX7_face_5 : decode cX7_face 5 = .ok (.aload_n 0, 1) := by decide +kernel
theorem dX7_face_6 : decode cX7_face 6 = .ok (.iload_n 1, 1) := by decide +kernel
theorem dX7_face_7 : decode cX7_face 7 = .ok (.invokevirtual 127, 3) := by decide +kernel
theorem dX7_face_10 : decode cX7_face 10 = .ok (.ifCond .eq 25, 3) := by decide +kernel
theorem dX7_face_13 : decode cX7_face 13 = .ok (.aload_n 0, 1) := by decide +kernel
theorem dX7_face_14 : decode cX7_face 14 = .ok (.iload_n 2, 1) := by decide +kernel
theorem dX7_face_15 : decode cX7_face 15 = .ok (.invokevirtual 127, 3) := by decide +kernel
theorem dX7_face_18 : decode cX7_face 18 = .ok (.ifCond .eq 17, 3) := by decide +kernel
theorem dX7_face_21 : decode cX7_face 21 = .ok (.aload_n 0, 1) := by decide +kernel
theorem dX7_face_22 : decode cX7_face 22 = .ok (.getfield 7, 3) := by decide +kernel
theorem dX7_face_25 : decode cX7_face 25 = .ok (.iload_n 2, 1) := by decide +kernel
theorem dX7_face_26 : decode cX7_face 26 = .ok (.iaload, 1) := by decide +kernel
theorem dX7_face_27 : decode cX7_face 27 = .ok (.ifCond .eq 8, 3) := by decide +kernel
theorem dX7_face_30 : decode cX7_face 30 = .ok (.iload_n 2, 1) := by decide +kernel
theorem dX7_face_31 : decode cX7_face 31 = .ok (.iload_n 1, 1) := by decide +kernel
theorem dX7_face_32 : decode cX7_face 32 = .ok (.if_icmp .lt 6, 3) := by decide +kernel
theorem dX7_face_35 : decode cX7_face 35 = .ok (.bipush (-101), 2) := by decide +kernel
theorem dX7_face_37 : decode cX7_face 37 = .ok (.ireturn, 1) := by decide +kernel
theorem dX7_face_38 : decode cX7_face 38 = .ok (.aload_n 0, 1) := by decide +kernel
theorem dX7_face_39 : decode cX7_face 39 = .ok (.getfield 16, 3) := by decide +kernel
theorem dX7_face_42 : decode cX7_face 42 = .ok (.iload_n 1, 1) := by decide +kernel
theorem dX7_face_43 : decode cX7_face 43 = .ok (.baload, 1) := by decide +kernel
theorem dX7_face_44 : decode cX7_face 44 = .ok (.ifCond .eq 16, 3) := by decide +kernel
theorem dX7_face_47 : decode cX7_face 47 = .ok (.aload_n 0, 1) := by decide +kernel
theorem dX7_face_48 : decode cX7_face 48 = .ok (.getfield 16, 3) := by decide +kernel
theorem dX7_face_51 : decode cX7_face 51 = .ok (.iload_n 2, 1) := by decide +kernel
theorem dX7_face_52 : decode cX7_face 52 = .ok (.baload, 1) := by decide +kernel
theorem dX7_face_53 : decode cX7_face 53 = .ok (.ifCond .ne 7, 3) := by decide +kernel
theorem dX7_face_56 : decode cX7_face 56 = .ok (.iconst 1, 1) := by decide +kernel
theorem dX7_face_57 : decode cX7_face 57 = .ok (.goto 4, 3) := by decide +kernel
theorem dX7_face_60 : decode cX7_face 60 = .ok (.iconst 0, 1) := by decide +kernel
theorem dX7_face_61 : decode cX7_face 61 = .ok (.istore_n 3, 1) := by decide +kernel
theorem dX7_face_62 : decode cX7_face 62 = .ok (.iconst 0, 1) := by decide +kernel
theorem dX7_face_63 : decode cX7_face 63 = .ok (.istore 4, 2) := by decide +kernel
theorem dX7_face_65 : decode cX7_face 65 = .ok (.iload 4, 2) := by decide +kernel
theorem dX7_face_67 : decode cX7_face 67 = .ok (.aload_n 0, 1) := by decide +kernel
theorem dX7_face_68 : decode cX7_face 68 = .ok (.getfield 20, 3) := by decide +kernel
theorem dX7_face_71 : decode cX7_face 71 = .ok (.iload_n 1, 1) := by decide +kernel
theorem dX7_face_72 : decode cX7_face 72 = .ok (.iaload, 1) := by decide +kernel
theorem dX7_face_73 : decode cX7_face 73 = .ok (.if_icmp .ge 34, 3) := by decide +kernel
theorem dX7_face_76 : decode cX7_face 76 = .ok (.iload_n 3, 1) := by decide +kernel
theorem dX7_face_77 : decode cX7_face 77 = .ok (.ifCond .ne 18, 3) := by decide +kernel
theorem dX7_face_80 : decode cX7_face 80 = .ok (.aload_n 0, 1) := by decide +kernel
theorem dX7_face_81 : decode cX7_face 81 = .ok (.getfield 23, 3) := by decide +kernel
theorem dX7_face_84 : decode cX7_face 84 = .ok (.iconst 3, 1) := by decide +kernel
theorem dX7_face_85 : decode cX7_face 85 = .ok (.iload_n 1, 1) := by decide +kernel
theorem dX7_face_86 : decode cX7_face 86 = .ok (.imul, 1) := by decide +kernel
theorem dX7_face_87 : decode cX7_face 87 = .ok (.iload 4, 2) := by decide +kernel
theorem dX7_face_89 : decode cX7_face 89 = .ok (.iadd, 1) := by decide +kernel
theorem dX7_face_90 : decode cX7_face 90 = .ok (.iaload, 1) := by decide +kernel
theorem dX7_face_91 : decode cX7_face 91 = .ok (.iload_n 2, 1) := by decide +kernel
theorem dX7_face_92 : decode cX7_face 92 = .ok (.if_icmp .ne 7, 3) := by decide +kernel
theorem dX7_face_95 : decode cX7_face 95 = .ok (.iconst 1, 1) := by decide +kernel
theorem dX7_face_96 : decode cX7_face 96 = .ok (.goto 4, 3) := by decide +kernel
theorem dX7_face_99 : decode cX7_face 99 = .ok (.iconst 0, 1) := by decide +kernel
theorem dX7_face_100 : decode cX7_face 100 = .ok (.istore_n 3, 1) := by decide +kernel
theorem dX7_face_101 : decode cX7_face 101 = .ok (.iinc 4 1, 3) := by decide +kernel
theorem dX7_face_104 : decode cX7_face 104 = .ok (.goto (-39), 3) := by decide +kernel
theorem dX7_face_107 : decode cX7_face 107 = .ok (.iload_n 3, 1) := by decide +kernel
theorem dX7_face_108 : decode cX7_face 108 = .ok (.ifCond .eq 6, 3) := by decide +kernel
theorem dX7_face_111 : decode cX7_face 111 = .ok (.bipush (-103), 2) := by decide +kernel
theorem dX7_face_113 : decode cX7_face 113 = .ok (.ireturn, 1) := by decide +kernel
theorem dX7_face_114 : decode cX7_face 114 = .ok (.aload_n 0, 1) := by decide +kernel
theorem dX7_face_115 : decode cX7_face 115 = .ok (.getfield 20, 3) := by decide +kernel
theorem dX7_face_118 : decode cX7_face 118 = .ok (.iload_n 1, 1) := by decide +kernel
theorem dX7_face_119 : decode cX7_face 119 = .ok (.iaload, 1) := by decide +kernel
theorem dX7_face_120 : decode cX7_face 120 = .ok (.iconst 3, 1) := by decide +kernel
theorem dX7_face_121 : decode cX7_face 121 = .ok (.if_icmp .ne 6, 3) := by decide +kernel
theorem dX7_face_124 : decode cX7_face 124 = .ok (.bipush (-104), 2) := by decide +kernel
theorem dX7_face_126 : decode cX7_face 126 = .ok (.ireturn, 1) := by decide +kernel
theorem dX7_face_127 : decode cX7_face 127 = .ok (.aload_n 0, 1) := by decide +kernel
theorem dX7_face_128 : decode cX7_face 128 = .ok (.getfield 23, 3) := by decide +kernel
theorem dX7_face_131 : decode cX7_face 131 = .ok (.iconst 3, 1) := by decide +kernel
theorem dX7_face_132 : decode cX7_face 132 = .ok (.iload_n 1, 1) := by decide +kernel
theorem dX7_face_133 : decode cX7_face 133 = .ok (.imul, 1) := by decide +kernel
theorem dX7_face_134 : decode cX7_face 134 = .ok (.aload_n 0, 1) := by decide +kernel
theorem dX7_face_135 : decode cX7_face 135 = .ok (.getfield 20, 3) := by decide +kernel
theorem dX7_face_138 : decode cX7_face 138 = .ok (.iload_n 1, 1) := by decide +kernel
theorem dX7_face_139 : decode cX7_face 139 = .ok (.iaload, 1) := by decide +kernel
theorem dX7_face_140 : decode cX7_face 140 = .ok (.iadd, 1) := by decide +kernel
theorem dX7_face_141 : decode cX7_face 141 = .ok (.iload_n 2, 1) := by decide +kernel
theorem dX7_face_142 : decode cX7_face 142 = .ok (.iastore, 1) := by decide +kernel
theorem dX7_face_143 : decode cX7_face 143 = .ok (.aload_n 0, 1) := by decide +kernel
theorem dX7_face_144 : decode cX7_face 144 = .ok (.getfield 20, 3) := by decide +kernel
theorem dX7_face_147 : decode cX7_face 147 = .ok (.iload_n 1, 1) := by decide +kernel
theorem dX7_face_148 : decode cX7_face 148 = .ok (.dup2, 1) := by decide +kernel
theorem dX7_face_149 : decode cX7_face 149 = .ok (.iaload, 1) := by decide +kernel
theorem dX7_face_150 : decode cX7_face 150 = .ok (.iconst 1, 1) := by decide +kernel
theorem dX7_face_151 : decode cX7_face 151 = .ok (.iadd, 1) := by decide +kernel
theorem dX7_face_152 : decode cX7_face 152 = .ok (.iastore, 1) := by decide +kernel
theorem dX7_face_153 : decode cX7_face 153 = .ok (.aload_n 0, 1) := by decide +kernel
theorem dX7_face_154 : decode cX7_face 154 = .ok (.getfield 20, 3) := by decide +kernel
theorem dX7_face_157 : decode cX7_face 157 = .ok (.iload_n 1, 1) := by decide +kernel
theorem dX7_face_158 : decode cX7_face 158 = .ok (.iaload, 1) := by decide +kernel
theorem dX7_face_159 : decode cX7_face 159 = .ok (.ireturn, 1) := by decide +kernel
theorem dX7_field_0 : decode cX7_field 0 = .ok (.aload_n 0, 1) := by decide +kernel
theorem dX7_field_1 : decode cX7_field 1 = .ok (.iconst 0, 1) := by decide +kernel
theorem dX7_field_2 : decode cX7_field 2 = .ok (.putfield 120, 3) := by decide +kernel
theorem dX7_field_5 : decode cX7_field 5 = .ok (.aload_n 0, 1) := by decide +kernel
theorem dX7_field_6 : decode cX7_field 6 = .ok (.iload_n 1, 1) := by decide +kernel
theorem dX7_field_7 : decode cX7_field 7 = .ok (.invokevirtual 127, 3) := by decide +kernel
theorem dX7_field_10 : decode cX7_field 10 = .ok (.ifCond .ne 6, 3) := by decide +kernel
theorem dX7_field_13 : decode cX7_field 13 = .ok (.bipush (-101), 2) := by decide +kernel
theorem dX7_field_15 : decode cX7_field 15 = .ok (.ireturn, 1) := by decide +kernel
theorem dX7_field_16 : decode cX7_field 16 = .ok (.iload_n 2, 1) := by decide +kernel
theorem dX7_field_17 : decode cX7_field 17 = .ok (.iconst 0, 1) := by decide +kernel
theorem dX7_field_18 : decode cX7_field 18 = .ok (.iconst 4, 1) := by decide +kernel
theorem dX7_field_19 : decode cX7_field 19 = .ok (.invokestatic 123, 3) := by decide +kernel
theorem dX7_field_22 : decode cX7_field 22 = .ok (.ifCond .eq 21, 3) := by decide +kernel
theorem dX7_field_25 : decode cX7_field 25 = .ok (.iload_n 3, 1) := by decide +kernel
theorem dX7_field_26 : decode cX7_field 26 = .ok (.ifCond .eq 20, 3) := by decide +kernel
theorem dX7_field_29 : decode cX7_field 29 = .ok (.iload 4, 2) := by decide +kernel
theorem dX7_field_31 : decode cX7_field 31 = .ok (.sipush (-999), 3) := by decide +kernel
theorem dX7_field_34 : decode cX7_field 34 = .ok (.sipush 999, 3) := by decide +kernel
theorem dX7_field_37 : decode cX7_field 37 = .ok (.invokestatic 123, 3) := by decide +kernel
theorem dX7_field_40 : decode cX7_field 40 = .ok (.ifCond .ne 6, 3) := by decide +kernel
theorem dX7_field_43 : decode cX7_field 43 = .ok (.bipush (-102), 2) := by decide +kernel
theorem dX7_field_45 : decode cX7_field 45 = .ok (.ireturn, 1) := by decide +kernel
theorem dX7_field_46 : decode cX7_field 46 = .ok (.aload_n 0, 1) := by decide +kernel
theorem dX7_field_47 : decode cX7_field 47 = .ok (.getfield 26, 3) := by decide +kernel
theorem dX7_field_50 : decode cX7_field 50 = .ok (.iconst 5, 1) := by decide +kernel
theorem dX7_field_51 : decode cX7_field 51 = .ok (.iload_n 1, 1) := by decide +kernel
theorem dX7_field_52 : decode cX7_field 52 = .ok (.imul, 1) := by decide +kernel
theorem dX7_field_53 : decode cX7_field 53 = .ok (.iload_n 2, 1) := by decide +kernel
theorem dX7_field_54 : decode cX7_field 54 = .ok (.iadd, 1) := by decide +kernel
theorem dX7_field_55 : decode cX7_field 55 = .ok (.iload_n 3, 1) := by decide +kernel
theorem dX7_field_56 : decode cX7_field 56 = .ok (.ifCond .eq 7, 3) := by decide +kernel
theorem dX7_field_59 : decode cX7_field 59 = .ok (.iconst 1, 1) := by decide +kernel
theorem dX7_field_60 : decode cX7_field 60 = .ok (.goto 4, 3) := by decide +kernel
theorem dX7_field_63 : decode cX7_field 63 = .ok (.iconst 2, 1) := by decide +kernel
theorem dX7_field_64 : decode cX7_field 64 = .ok (.iastore, 1) := by decide +kernel
theorem dX7_field_65 : decode cX7_field 65 = .ok (.aload_n 0, 1) := by decide +kernel
theorem dX7_field_66 : decode cX7_field 66 = .ok (.getfield 29, 3) := by decide +kernel
theorem dX7_field_69 : decode cX7_field 69 = .ok (.iconst 5, 1) := by decide +kernel
theorem dX7_field_70 : decode cX7_field 70 = .ok (.iload_n 1, 1) := by decide +kernel
theorem dX7_field_71 : decode cX7_field 71 = .ok (.imul, 1) := by decide +kernel
theorem dX7_field_72 : decode cX7_field 72 = .ok (.iload_n 2, 1) := by decide +kernel
theorem dX7_field_73 : decode cX7_field 73 = .ok (.iadd, 1) := by decide +kernel
theorem dX7_field_74 : decode cX7_field 74 = .ok (.iload_n 3, 1) := by decide +kernel
theorem dX7_field_75 : decode cX7_field 75 = .ok (.ifCond .eq 8, 3) := by decide +kernel
theorem dX7_field_78 : decode cX7_field 78 = .ok (.iload 4, 2) := by decide +kernel
theorem dX7_field_80 : decode cX7_field 80 = .ok (.goto 4, 3) := by decide +kernel
theorem dX7_field_83 : decode cX7_field 83 = .ok (.iconst 0, 1) := by decide +kernel
theorem dX7_field_84 : decode cX7_field 84 = .ok (.iastore, 1) := by decide +kernel
theorem dX7_field_85 : decode cX7_field 85 = .ok (.iload_n 3, 1) := by decide +kernel
theorem dX7_field_86 : decode cX7_field 86 = .ok (.ifCond .eq 7, 3) := by decide +kernel
theorem dX7_field_89 : decode cX7_field 89 = .ok (.iconst 1, 1) := by decide +kernel
theorem dX7_field_90 : decode cX7_field 90 = .ok (.goto 4, 3) := by decide +kernel
theorem dX7_field_93 : decode cX7_field 93 = .ok (.iconst 0, 1) := by decide +kernel
theorem dX7_field_94 : decode cX7_field 94 = .ok (.ireturn, 1) := by decide +kernel
theorem dX7_isLine_0 : decode cX7_isLine 0 = .ok (.iload_n 0, 1) := by decide +kernel
theorem dX7_isLine_1 : decode cX7_isLine 1 = .ok (.tableswitch 166 0 6 #[43, 71, 105, 113, 121, 130, 141], 43) := by decide +kernel
theorem dX7_isLine_44 : decode cX7_isLine 44 = .ok (.iload_n 1, 1) := by decide +kernel
theorem dX7_isLine_45 : decode cX7_isLine 45 = .ok (.iconst 0, 1) := by decide +kernel
theorem dX7_isLine_46 : decode cX7_isLine 46 = .ok (.iconst 4, 1) := by decide +kernel
theorem dX7_isLine_47 : decode cX7_isLine 47 = .ok (.invokestatic 123, 3) := by decide +kernel
theorem dX7_isLine_50 : decode cX7_isLine 50 = .ok (.ifCond .eq 20, 3) := by decide +kernel
theorem dX7_isLine_53 : decode cX7_isLine 53 = .ok (.iload_n 2, 1) := by decide +kernel
theorem dX7_isLine_54 : decode cX7_isLine 54 = .ok (.sipush (-999), 3) := by decide +kernel
theorem dX7_isLine_57 : decode cX7_isLine 57 = .ok (.sipush 999, 3) := by decide +kernel
theorem dX7_isLine_60 : decode cX7_isLine 60 = .ok (.invokestatic 123, 3) := by decide +kernel
theorem dX7_isLine_63 : decode cX7_isLine 63 = .ok (.ifCond .eq 7, 3) := by decide +kernel
theorem dX7_isLine_66 : decode cX7_isLine 66 = .ok (.iconst 1, 1) := by decide +kernel
theorem dX7_isLine_67 : decode cX7_isLine 67 = .ok (.goto 4, 3) := by decide +kernel
theorem dX7_isLine_70 : decode cX7_isLine 70 = .ok (.iconst 0, 1) := by decide +kernel
theorem dX7_isLine_71 : decode cX7_isLine 71 = .ok (.ireturn, 1) := by decide +kernel
theorem dX7_isLine_72 : decode cX7_isLine 72 = .ok (.iload_n 1, 1) := by decide +kernel
theorem dX7_isLine_73 : decode cX7_isLine 73 = .ok (.iconst 0, 1) := by decide +kernel
theorem dX7_isLine_74 : decode cX7_isLine 74 = .ok (.iconst 4, 1) := by decide +kernel
theorem dX7_isLine_75 : decode cX7_isLine 75 = .ok (.invokestatic 123, 3) := by decide +kernel
theorem dX7_isLine_78 : decode cX7_isLine 78 = .ok (.ifCond .eq 26, 3) := by decide +kernel
theorem dX7_isLine_81 : decode cX7_isLine 81 = .ok (.iload_n 2, 1) := by decide +kernel
theorem dX7_isLine_82 : decode cX7_isLine 82 = .ok (.iconst 0, 1) := by decide +kernel
theorem dX7_isLine_83 : decode cX7_isLine 83 = .ok (.bipush 15, 2) := by decide +kernel
theorem dX7_isLine_85 : decode cX7_isLine 85 = .ok (.invokestatic 123, 3) := by decide +kernel
theorem dX7_isLine_88 : decode cX7_isLine 88 = .ok (.ifCond .eq 16, 3) := by decide +kernel
theorem dX7_isLine_91 : decode cX7_isLine 91 = .ok (.iload_n 3, 1) := by decide +kernel
theorem dX7_isLine_92 : decode cX7_isLine 92 = .ok (.iconst 0, 1) := by decide +kernel
theorem dX7_isLine_93 : decode cX7_isLine 93 = .ok (.iconst 4, 1) := by decide +kernel
theorem dX7_isLine_94 : decode cX7_isLine 94 = .ok (.invokestatic 123, 3) := by decide +kernel
theorem dX7_isLine_97 : decode cX7_isLine 97 = .ok (.ifCond .eq 7, 3) := by decide +kernel
theorem dX7_isLine_100 : decode cX7_isLine 100 = .ok (.iconst 1, 1) := by decide +kernel
theorem dX7_isLine_101 : decode cX7_isLine 101 = .ok (.goto 4, 3) := by decide +kernel
theorem dX7_isLine_104 : decode cX7_isLine 104 = .ok (.iconst 0, 1) := by decide +kernel
theorem dX7_isLine_105 : decode cX7_isLine 105 = .ok (.ireturn, 1) := by decide +kernel
theorem dX7_isLine_106 : decode cX7_isLine 106 = .ok (.iload_n 1, 1) := by decide +kernel
theorem dX7_isLine_107 : decode cX7_isLine 107 = .ok (.iconst 0, 1) := by decide +kernel
theorem dX7_isLine_108 : decode cX7_isLine 108 = .ok (.bipush 15, 2) := by decide +kernel
theorem dX7_isLine_110 : decode cX7_isLine 110 = .ok (.invokestatic 123, 3) := by decide +kernel
theorem dX7_isLine_113 : decode cX7_isLine 113 = .ok (.ireturn, 1) := by decide +kernel
theorem dX7_isLine_114 : decode cX7_isLine 114 = .ok (.iload_n 1, 1) := by decide +kernel
theorem dX7_isLine_115 : decode cX7_isLine 115 = .ok (.iconst 0, 1) := by decide +kernel
theorem dX7_isLine_116 : decode cX7_isLine 116 = .ok (.bipush 6, 2) := by decide +kernel
theorem dX7_isLine_118 : decode cX7_isLine 118 = .ok (.invokestatic 123, 3) := by decide +kernel
theorem dX7_isLine_121 : decode cX7_isLine 121 = .ok (.ireturn, 1) := by decide +kernel
theorem dX7_isLine_122 : decode cX7_isLine 122 = .ok (.iload_n 1, 1) := by decide +kernel
theorem dX7_isLine_123 : decode cX7_isLine 123 = .ok (.iconst 0, 1) := by decide +kernel
theorem dX7_isLine_124 : decode cX7_isLine 124 = .ok (.sipush 1000, 3) := by decide +kernel
theorem dX7_isLine_127 : decode cX7_isLine 127 = .ok (.invokestatic 123, 3) := by decide +kernel
theorem dX7_isLine_130 : decode cX7_isLine 130 = .ok (.ireturn, 1) := by decide +kernel
theorem dX7_isLine_131 : decode cX7_isLine 131 = .ok (.iload_n 1, 1) := by decide +kernel
theorem dX7_isLine_132 : decode cX7_isLine 132 = .ok (.sipush (-999), 3) := by decide +kernel
theorem dX7_isLine_135 : decode cX7_isLine 135 = .ok (.sipush 999, 3) := by decide +kernel
theorem dX7_isLine_138 : decode cX7_isLine 138 = .ok (.invokestatic 123, 3) := by decide +kernel
theorem dX7_isLine_141 : decode cX7_isLine 141 = .ok (.ireturn, 1) := by decide +kernel
theorem dX7_isLine_142 : decode cX7_isLine 142 = .ok (.iload_n 1, 1) := by decide +kernel
theorem dX7_isLine_143 : decode cX7_isLine 143 = .ok (.iconst 0, 1) := by decide +kernel
theorem dX7_isLine_144 : decode cX7_isLine 144 = .ok (.iconst 4, 1) := by decide +kernel
theorem dX7_isLine_145 : decode cX7_isLine 145 = .ok (.invokestatic 123, 3) := by decide +kernel
theorem dX7_isLine_148 : decode cX7_isLine 148 = .ok (.ifCond .eq 17, 3) := by decide +kernel
theorem dX7_isLine_151 : decode cX7_isLine 151 = .ok (.iload_n 2, 1) := by decide +kernel
theorem dX7_isLine_152 : decode cX7_isLine 152 = .ok (.iconst 0, 1) := by decide +kernel
theorem dX7_isLine_153 : decode cX7_isLine 153 = .ok (.bipush 15, 2) := by decide +kernel
theorem dX7_isLine_155 : decode cX7_isLine 155 = .ok (.invokestatic 123, 3) := by decide +kernel
theorem dX7_isLine_158 : decode cX7_isLine 158 = .ok (.ifCond .eq 7, 3) := by decide +kernel
theorem dX7_isLine_161 : decode cX7_isLine 161 = .ok (.iconst 1, 1) := by decide +kernel
theorem dX7_isLine_162 : decode cX7_isLine 162 = .ok (.goto 4, 3) := by decide +kernel
theorem dX7_isLine_165 : decode cX7_isLine 165 = .ok (.iconst 0, 1) := by decide +kernel
theorem dX7_isLine_166 : decode cX7_isLine 166 = .ok (.ireturn, 1) := by decide +kernel
theorem dX7_isLine_167 : decode cX7_isLine 167 = .ok (.iconst 0, 1) := by decide +kernel
theorem dX7_isLine_168 : decode cX7_isLine 168 = .ok (.ireturn, 1) := by decide +kernel
theorem dX7_line_0 : decode cX7_line 0 = .ok (.aload_n 0, 1) := by decide +kernel
theorem dX7_line_1 : decode cX7_line 1 = .ok (.iconst 0, 1) := by decide +kernel
theorem dX7_line_2 : decode cX7_line 2 = .ok (.putfield 120, 3) := by decide +kernel
theorem dX7_line_5 : decode cX7_line 5 = .ok (.aload_n 0, 1) := by decide +kernel
theorem dX7_line_6 : decode cX7_line 6 = .ok (.iload_n 1, 1) := by decide +kernel
theorem dX7_line_7 : decode cX7_line 7 = .ok (.invokevirtual 127, 3) := by decide +kernel
theorem dX7_line_10 : decode cX7_line 10 = .ok (.ifCond .ne 6, 3) := by decide +kernel
theorem dX7_line_13 : decode cX7_line 13 = .ok (.bipush (-101), 2) := by decide +kernel
theorem dX7_line_15 : decode cX7_line 15 = .ok (.ireturn, 1) := by decide +kernel
theorem dX7_line_16 : decode cX7_line 16 = .ok (.iload_n 2, 1) := by decide +kernel
theorem dX7_line_17 : decode cX7_line 17 = .ok (.iload_n 3, 1) := by decide +kernel
theorem dX7_line_18 : decode cX7_line 18 = .ok (.iload 4, 2) := by decide +kernel
theorem dX7_line_20 : decode cX7_line 20 = .ok (.iload 5, 2) := by decide +kernel
theorem dX7_line_22 : decode cX7_line 22 = .ok (.invokestatic 131, 3) := by decide +kernel
theorem dX7_line_25 : decode cX7_line 25 = .ok (.ifCond .ne 6, 3) := by decide +kernel
theorem dX7_line_28 : decode cX7_line 28 = .ok (.bipush (-102), 2) := by decide +kernel
theorem dX7_line_30 : decode cX7_line 30 = .ok (.ireturn, 1) := by decide +kernel
theorem dX7_line_31 : decode cX7_line 31 = .ok (.aload_n 0, 1) := by decide +kernel
theorem dX7_line_32 : decode cX7_line 32 = .ok (.getfield 32, 3) := by decide +kernel
theorem dX7_line_35 : decode cX7_line 35 = .ok (.iload_n 1, 1) := by decide +kernel
theorem dX7_line_36 : decode cX7_line 36 = .ok (.iaload, 1) := by decide +kernel
theorem dX7_line_37 : decode cX7_line 37 = .ok (.bipush 8, 2) := by decide +kernel
theorem dX7_line_39 : decode cX7_line 39 = .ok (.if_icmp .ne 6, 3) := by decide +kernel
theorem dX7_line_42 : decode cX7_line 42 = .ok (.bipush (-104), 2) := by decide +kernel
theorem dX7_line_44 : decode cX7_line 44 = .ok (.ireturn, 1) := by decide +kernel
theorem dX7_line_45 : decode cX7_line 45 = .ok (.bipush 32, 2) := by decide +kernel
theorem dX7_line_47 : decode cX7_line 47 = .ok (.iload_n 1, 1) := by decide +kernel
theorem dX7_line_48 : decode cX7_line 48 = .ok (.imul, 1) := by decide +kernel
theorem dX7_line_49 : decode cX7_line 49 = .ok (.iconst 4, 1) := by decide +kernel
theorem dX7_line_50 : decode cX7_line 50 = .ok (.aload_n 0, 1) := by decide +kernel
theorem dX7_line_51 : decode cX7_line 51 = .ok (.getfield 32, 3) := by decide +kernel
theorem dX7_line_54 : decode cX7_line 54 = .ok (.iload_n 1, 1) := by decide +kernel
theorem dX7_line_55 : decode cX7_line 55 = .ok (.iaload, 1) := by decide +kernel
theorem dX7_line_56 : decode cX7_line 56 = .ok (.imul, 1) := by decide +kernel
theorem dX7_line_57 : decode cX7_line 57 = .ok (.iadd, 1) := by decide +kernel
theorem dX7_line_58 : decode cX7_line 58 = .ok (.istore 6, 2) := by decide +kernel
theorem dX7_line_60 : decode cX7_line 60 = .ok (.aload_n 0, 1) := by decide +kernel
theorem dX7_line_61 : decode cX7_line 61 = .ok (.getfield 35, 3) := by decide +kernel
theorem dX7_line_64 : decode cX7_line 64 = .ok (.iload 6, 2) := by decide +kernel
theorem dX7_line_66 : decode cX7_line 66 = .ok (.iload_n 2, 1) := by decide +kernel
theorem dX7_line_67 : decode cX7_line 67 = .ok (.iastore, 1) := by decide +kernel
theorem dX7_line_68 : decode cX7_line 68 = .ok (.aload_n 0, 1) := by decide +kernel
theorem dX7_line_69 : decode cX7_line 69 = .ok (.getfield 35, 3) := by decide +kernel
theorem dX7_line_72 : decode cX7_line 72 = .ok (.iload 6, 2) := by decide +kernel
theorem dX7_line_74 : decode cX7_line 74 = .ok (.iconst 1, 1) := by decide +kernel
theorem dX7_line_75 : decode cX7_line 75 = .ok (.iadd, 1) := by decide +kernel
theorem dX7_line_76 : decode cX7_line 76 = .ok (.iload_n 3, 1) := by decide +kernel
theorem dX7_line_77 : decode cX7_line 77 = .ok (.iastore, 1) := by decide +kernel
theorem dX7_line_78 : decode cX7_line 78 = .ok (.aload_n 0, 1) := by decide +kernel
theorem dX7_line_79 : decode cX7_line 79 = .ok (.getfield 35, 3) := by decide +kernel
theorem dX7_line_82 : decode cX7_line 82 = .ok (.iload 6, 2) := by decide +kernel
theorem dX7_line_84 : decode cX7_line 84 = .ok (.iconst 2, 1) := by decide +kernel
theorem dX7_line_85 : decode cX7_line 85 = .ok (.iadd, 1) := by decide +kernel
theorem dX7_line_86 : decode cX7_line 86 = .ok (.iload 4, 2) := by decide +kernel
theorem dX7_line_88 : decode cX7_line 88 = .ok (.iastore, 1) := by decide +kernel
theorem dX7_line_89 : decode cX7_line 89 = .ok (.aload_n 0, 1) := by decide +kernel
theorem dX7_line_90 : decode cX7_line 90 = .ok (.getfield 35, 3) := by decide +kernel
theorem dX7_line_93 : decode cX7_line 93 = .ok (.iload 6, 2) := by decide +kernel
theorem dX7_line_95 : decode cX7_line 95 = .ok (.iconst 3, 1) := by decide +kernel
theorem dX7_line_96 : decode cX7_line 96 = .ok (.iadd, 1) := by decide +kernel
theorem dX7_line_97 : decode cX7_line 97 = .ok (.iload 5, 2) := by decide +kernel
theorem dX7_line_99 : decode cX7_line 99 = .ok (.iastore, 1) := by decide +kernel
theorem dX7_line_100 : decode cX7_line 100 = .ok (.aload_n 0, 1) := by decide +kernel
theorem dX7_line_101 : decode cX7_line 101 = .ok (.getfield 32, 3) := by decide +kernel
theorem dX7_line_104 : decode cX7_line 104 = .ok (.iload_n 1, 1) := by decide +kernel
theorem dX7_line_105 : decode cX7_line 105 = .ok (.dup2, 1) := by decide +kernel
theorem dX7_line_106 : decode cX7_line 106 = .ok (.iaload, 1) := by decide +kernel
theorem dX7_line_107 : decode cX7_line 107 = .ok (.iconst 1, 1) := by decide +kernel
theorem dX7_line_108 : decode cX7_line 108 = .ok (.iadd, 1) := by decide +kernel
theorem dX7_line_109 : decode cX7_line 109 = .ok (.iastore, 1) := by decide +kernel
theorem dX7_line_110 : decode cX7_line 110 = .ok (.aload_n 0, 1) := by decide +kernel
theorem dX7_line_111 : decode cX7_line 111 = .ok (.getfield 32, 3) := by decide +kernel
theorem dX7_line_114 : decode cX7_line 114 = .ok (.iload_n 1, 1) := by decide +kernel
theorem dX7_line_115 : decode cX7_line 115 = .ok (.iaload, 1) := by decide +kernel
theorem dX7_line_116 : decode cX7_line 116 = .ok (.ireturn, 1) := by decide +kernel
theorem dX7_at_0 : decode cX7_at 0 = .ok (.aload_n 0, 1) := by decide +kernel
theorem dX7_at_1 : decode cX7_at 1 = .ok (.getfield 16, 3) := by decide +kernel
theorem dX7_at_4 : decode cX7_at 4 = .ok (.iload_n 2, 1) := by decide +kernel
theorem dX7_at_5 : decode cX7_at 5 = .ok (.baload, 1) := by decide +kernel
theorem dX7_at_6 : decode cX7_at 6 = .ok (.ifCond .eq 10, 3) := by decide +kernel
theorem dX7_at_9 : decode cX7_at 9 = .ok (.bipush 64, 2) := by decide +kernel
theorem dX7_at_11 : decode cX7_at 11 = .ok (.iload_n 2, 1) := by decide +kernel
theorem dX7_at_12 : decode cX7_at 12 = .ok (.iadd, 1) := by decide +kernel
theorem dX7_at_13 : decode cX7_at 13 = .ok (.goto 9, 3) := by decide +kernel
theorem dX7_at_16 : decode cX7_at 16 = .ok (.bipush 16, 2) := by decide +kernel
theorem dX7_at_18 : decode cX7_at 18 = .ok (.iload_n 1, 1) := by decide +kernel
theorem dX7_at_19 : decode cX7_at 19 = .ok (.imul, 1) := by decide +kernel
theorem dX7_at_20 : decode cX7_at 20 = .ok (.iload_n 2, 1) := by decide +kernel
theorem dX7_at_21 : decode cX7_at 21 = .ok (.iadd, 1) := by decide +kernel
theorem dX7_at_22 : decode cX7_at 22 = .ok (.ireturn, 1) := by decide +kernel
theorem dX7_wakes_0 : decode cX7_wakes 0 = .ok (.aload_n 0, 1) := by decide +kernel
theorem dX7_wakes_1 : decode cX7_wakes 1 = .ok (.iconst 0, 1) := by decide +kernel
theorem dX7_wakes_2 : decode cX7_wakes 2 = .ok (.putfield 135, 3) := by decide +kernel
theorem dX7_wakes_5 : decode cX7_wakes 5 = .ok (.aload_n 0, 1) := by decide +kernel
theorem dX7_wakes_6 : decode cX7_wakes 6 = .ok (.iload_n 1, 1) := by decide +kernel
theorem dX7_wakes_7 : decode cX7_wakes 7 = .ok (.iload_n 2, 1) := by decide +kernel
theorem dX7_wakes_8 : decode cX7_wakes 8 = .ok (.invokevirtual 138, 3) := by decide +kernel
theorem dX7_wakes_11 : decode cX7_wakes 11 = .ok (.aload_n 0, 1) := by decide +kernel
theorem dX7_wakes_12 : decode cX7_wakes 12 = .ok (.getfield 135, 3) := by decide +kernel
theorem dX7_wakes_15 : decode cX7_wakes 15 = .ok (.ifCond .le 26, 3) := by decide +kernel
theorem dX7_wakes_18 : decode cX7_wakes 18 = .ok (.aload_n 0, 1) := by decide +kernel
theorem dX7_wakes_19 : decode cX7_wakes 19 = .ok (.getfield 142, 3) := by decide +kernel
theorem dX7_wakes_22 : decode cX7_wakes 22 = .ok (.ifCond .eq 11, 3) := by decide +kernel
theorem dX7_wakes_25 : decode cX7_wakes 25 = .ok (.aload_n 0, 1) := by decide +kernel
theorem dX7_wakes_26 : decode cX7_wakes 26 = .ok (.iload_n 1, 1) := by decide +kernel
theorem dX7_wakes_27 : decode cX7_wakes 27 = .ok (.invokevirtual 146, 3) := by decide +kernel
theorem dX7_wakes_30 : decode cX7_wakes 30 = .ok (.goto (-19), 3) := by decide +kernel
theorem dX7_wakes_33 : decode cX7_wakes 33 = .ok (.aload_n 0, 1) := by decide +kernel
theorem dX7_wakes_34 : decode cX7_wakes 34 = .ok (.iload_n 1, 1) := by decide +kernel
theorem dX7_wakes_35 : decode cX7_wakes 35 = .ok (.invokevirtual 150, 3) := by decide +kernel
theorem dX7_wakes_38 : decode cX7_wakes 38 = .ok (.goto (-27), 3) := by decide +kernel
theorem dX7_wakes_41 : decode cX7_wakes 41 = .ok (.aload_n 0, 1) := by decide +kernel
theorem dX7_wakes_42 : decode cX7_wakes 42 = .ok (.getfield 153, 3) := by decide +kernel
theorem dX7_wakes_45 : decode cX7_wakes 45 = .ok (.ireturn, 1) := by decide +kernel
theorem dX7_ask_0 : decode cX7_ask 0 = .ok (.aload_n 0, 1) := by decide +kernel
theorem dX7_ask_1 : decode cX7_ask 1 = .ok (.getfield 38, 3) := by decide +kernel
theorem dX7_ask_4 : decode cX7_ask 4 = .ok (.aload_n 0, 1) := by decide +kernel
theorem dX7_ask_5 : decode cX7_ask 5 = .ok (.iload_n 1, 1) := by decide +kernel
theorem dX7_ask_6 : decode cX7_ask 6 = .ok (.iload_n 2, 1) := by decide +kernel
theorem dX7_ask_7 : decode cX7_ask 7 = .ok (.invokevirtual 156, 3) := by decide +kernel
theorem dX7_ask_10 : decode cX7_ask 10 = .ok (.iaload, 1) := by decide +kernel
theorem dX7_ask_11 : decode cX7_ask 11 = .ok (.istore_n 3, 1) := by decide +kernel
theorem dX7_ask_12 : decode cX7_ask 12 = .ok (.aload_n 0, 1) := by decide +kernel
theorem dX7_ask_13 : decode cX7_ask 13 = .ok (.iload_n 3, 1) := by decide +kernel
theorem dX7_ask_14 : decode cX7_ask 14 = .ok (.ifCond .eq 7, 3) := by decide +kernel
theorem dX7_ask_17 : decode cX7_ask 17 = .ok (.iconst 1, 1) := by decide +kernel
theorem dX7_ask_18 : decode cX7_ask 18 = .ok (.goto 4, 3) := by decide +kernel
theorem dX7_ask_21 : decode cX7_ask 21 = .ok (.iconst 0, 1) := by decide +kernel
theorem dX7_ask_22 : decode cX7_ask 22 = .ok (.putfield 142, 3) := by decide +kernel
theorem dX7_ask_25 : decode cX7_ask 25 = .ok (.aload_n 0, 1) := by decide +kernel
theorem dX7_ask_26 : decode cX7_ask 26 = .ok (.iload_n 3, 1) := by decide +kernel
theorem dX7_ask_27 : decode cX7_ask 27 = .ok (.iconst 3, 1) := by decide +kernel
theorem dX7_ask_28 : decode cX7_ask 28 = .ok (.if_icmp .ne 8, 3) := by decide +kernel
theorem dX7_ask_31 : decode cX7_ask 31 = .ok (.bipush 18, 2) := by decide +kernel
theorem dX7_ask_33 : decode cX7_ask 33 = .ok (.goto 4, 3) := by decide +kernel
theorem dX7_ask_36 : decode cX7_ask 36 = .ok (.iconst 0, 1) := by decide +kernel
theorem dX7_ask_37 : decode cX7_ask 37 = .ok (.putfield 153, 3) := by decide +kernel
theorem dX7_ask_40 : decode cX7_ask 40 = .ok (.iload_n 3, 1) := by decide +kernel
theorem dX7_ask_41 : decode cX7_ask 41 = .ok (.ifCond .ne 69, 3) := by decide +kernel
theorem dX7_ask_44 : decode cX7_ask 44 = .ok (.aload_n 0, 1) := by decide +kernel
theorem dX7_ask_45 : decode cX7_ask 45 = .ok (.getfield 38, 3) := by decide +kernel
theorem dX7_ask_48 : decode cX7_ask 48 = .ok (.aload_n 0, 1) := by decide +kernel
theorem dX7_ask_49 : decode cX7_ask 49 = .ok (.iload_n 1, 1) := by decide +kernel
theorem dX7_ask_50 : decode cX7_ask 50 = .ok (.iload_n 2, 1) := by decide +kernel
theorem dX7_ask_51 : decode cX7_ask 51 = .ok (.invokevirtual 156, 3) := by decide +kernel
theorem dX7_ask_54 : decode cX7_ask 54 = .ok (.iconst 1, 1) := by decide +kernel
theorem dX7_ask_55 : decode cX7_ask 55 = .ok (.iastore, 1) := by decide +kernel
theorem dX7_ask_56 : decode cX7_ask 56 = .ok (.aload_n 0, 1) := by decide +kernel
theorem dX7_ask_57 : decode cX7_ask 57 = .ok (.getfield 65, 3) := by decide +kernel
theorem dX7_ask_60 : decode cX7_ask 60 = .ok (.aload_n 0, 1) := by decide +kernel
theorem dX7_ask_61 : decode cX7_ask 61 = .ok (.getfield 135, 3) := by decide +kernel
theorem dX7_ask_64 : decode cX7_ask 64 = .ok (.iload_n 2, 1) := by decide +kernel
theorem dX7_ask_65 : decode cX7_ask 65 = .ok (.iastore, 1) := by decide +kernel
theorem dX7_ask_66 : decode cX7_ask 66 = .ok (.aload_n 0, 1) := by decide +kernel
theorem dX7_ask_67 : decode cX7_ask 67 = .ok (.getfield 68, 3) := by decide +kernel
theorem dX7_ask_70 : decode cX7_ask 70 = .ok (.aload_n 0, 1) := by decide +kernel
theorem dX7_ask_71 : decode cX7_ask 71 = .ok (.getfield 135, 3) := by decide +kernel
theorem dX7_ask_74 : decode cX7_ask 74 = .ok (.iconst 0, 1) := by decide +kernel
theorem dX7_ask_75 : decode cX7_ask 75 = .ok (.iastore, 1) := by decide +kernel
theorem dX7_ask_76 : decode cX7_ask 76 = .ok (.aload_n 0, 1) := by decide +kernel
theorem dX7_ask_77 : decode cX7_ask 77 = .ok (.getfield 83, 3) := by decide +kernel
theorem dX7_ask_80 : decode cX7_ask 80 = .ok (.aload_n 0, 1) := by decide +kernel
theorem dX7_ask_81 : decode cX7_ask 81 = .ok (.getfield 135, 3) := by decide +kernel
theorem dX7_ask_84 : decode cX7_ask 84 = .ok (.iconst 0, 1) := by decide +kernel
theorem dX7_ask_85 : decode cX7_ask 85 = .ok (.iastore, 1) := by decide +kernel
theorem dX7_ask_86 : decode cX7_ask 86 = .ok (.aload_n 0, 1) := by decide +kernel
theorem dX7_ask_87 : decode cX7_ask 87 = .ok (.getfield 7, 3) := by decide +kernel
theorem dX7_ask_90 : decode cX7_ask 90 = .ok (.iload_n 2, 1) := by decide +kernel
theorem dX7_ask_91 : decode cX7_ask 91 = .ok (.iaload, 1) := by decide +kernel
theorem dX7_ask_92 : decode cX7_ask 92 = .ok (.ifCond .ne 8, 3) := by decide +kernel
theorem dX7_ask_95 : decode cX7_ask 95 = .ok (.aload_n 0, 1) := by decide +kernel
theorem dX7_ask_96 : decode cX7_ask 96 = .ok (.iload_n 2, 1) := by decide +kernel
theorem dX7_ask_97 : decode cX7_ask 97 = .ok (.invokevirtual 160, 3) := by decide +kernel
theorem dX7_ask_100 : decode cX7_ask 100 = .ok (.aload_n 0, 1) := by decide +kernel
theorem dX7_ask_101 : decode cX7_ask 101 = .ok (.dup, 1) := by decide +kernel
theorem dX7_ask_102 : decode cX7_ask 102 = .ok (.getfield 135, 3) := by decide +kernel
theorem dX7_ask_105 : decode cX7_ask 105 = .ok (.iconst 1, 1) := by decide +kernel
theorem dX7_ask_106 : decode cX7_ask 106 = .ok (.iadd, 1) := by decide +kernel
theorem dX7_ask_107 : decode cX7_ask 107 = .ok (.putfield 135, 3) := by decide +kernel
theorem dX7_ask_110 : decode cX7_ask 110 = .ok (.return_, 1) := by decide +kernel
theorem dX7_listFulls_0 : decode cX7_listFulls 0 = .ok (.iconst 0, 1) := by decide +kernel
theorem dX7_listFulls_1 : decode cX7_listFulls 1 = .ok (.istore_n 2, 1) := by decide +kernel
theorem dX7_listFulls_2 : decode cX7_listFulls 2 = .ok (.iload_n 2, 1) := by decide +kernel
theorem dX7_listFulls_3 : decode cX7_listFulls 3 = .ok (.bipush 16, 2) := by decide +kernel
theorem dX7_listFulls_5 : decode cX7_listFulls 5 = .ok (.if_icmp .ge 16, 3) := by decide +kernel
theorem dX7_listFulls_8 : decode cX7_listFulls 8 = .ok (.aload_n 0, 1) := by decide +kernel
theorem dX7_listFulls_9 : decode cX7_listFulls 9 = .ok (.getfield 86, 3) := by decide +kernel
theorem dX7_listFulls_12 : decode cX7_listFulls 12 = .ok (.iload_n 2, 1) := by decide +kernel
theorem dX7_listFulls_13 : decode cX7_listFulls 13 = .ok (.iconst 0, 1) := by decide +kernel
theorem dX7_listFulls_14 : decode cX7_listFulls 14 = .ok (.bastore, 1) := by decide +kernel
theorem dX7_listFulls_15 : decode cX7_listFulls 15 = .ok (.iinc 2 1, 3) := by decide +kernel
theorem dX7_listFulls_18 : decode cX7_listFulls 18 = .ok (.goto (-16), 3) := by decide +kernel
theorem dX7_listFulls_21 : decode cX7_listFulls 21 = .ok (.iconst 1, 1) := by decide +kernel
theorem dX7_listFulls_22 : decode cX7_listFulls 22 = .ok (.istore_n 2, 1) := by decide +kernel
theorem dX7_listFulls_23 : decode cX7_listFulls 23 = .ok (.aload_n 0, 1) := by decide +kernel
theorem dX7_listFulls_24 : decode cX7_listFulls 24 = .ok (.getfield 89, 3) := by decide +kernel
theorem dX7_listFulls_27 : decode cX7_listFulls 27 = .ok (.iconst 0, 1) := by decide +kernel
theorem dX7_listFulls_28 : decode cX7_listFulls 28 = .ok (.iload_n 1, 1) := by decide +kernel
theorem dX7_listFulls_29 : decode cX7_listFulls 29 = .ok (.iastore, 1) := by decide +kernel
theorem dX7_listFulls_30 : decode cX7_listFulls 30 = .ok (.aload_n 0, 1) := by decide +kernel
theorem dX7_listFulls_31 : decode cX7_listFulls 31 = .ok (.getfield 92, 3) := by decide +kernel
theorem dX7_listFulls_34 : decode cX7_listFulls 34 = .ok (.iconst 0, 1) := by decide +kernel
theorem dX7_listFulls_35 : decode cX7_listFulls 35 = .ok (.iconst 0, 1) := by decide +kernel
theorem dX7_listFulls_36 : decode cX7_listFulls 36 = .ok (.iastore, 1) := by decide +kernel
theorem dX7_listFulls_37 : decode cX7_listFulls 37 = .ok (.iload_n 2, 1) := by decide +kernel
theorem dX7_listFulls_38 : decode cX7_listFulls 38 = .ok (.ifCond .le 155, 3) := by decide +kernel
theorem dX7_listFulls_41 : decode cX7_listFulls 41 = .ok (.aload_n 0, 1) := by decide +kernel
theorem dX7_listFulls_42 : decode cX7_listFulls 42 = .ok (.getfield 89, 3) := by decide +kernel
theorem dX7_listFulls_45 : decode cX7_listFulls 45 = .ok (.iload_n 2, 1) := by decide +kernel
theorem dX7_listFulls_46 : decode cX7_listFulls 46 = .ok (.iconst 1, 1) := by decide +kernel
theorem dX7_listFulls_47 : decode cX7_listFulls 47 = .ok (.isub, 1) := by decide +kernel
theorem dX7_listFulls_48 : decode cX7_listFulls 48 = .ok (.iaload, 1) := by decide +kernel
theorem dX7_listFulls_49 : decode cX7_listFulls 49 = .ok (.istore_n 3, 1) := by decide +kernel
theorem dX7_listFulls_50 : decode cX7_listFulls 50 = .ok (.aload_n 0, 1) := by decide +kernel
theorem dX7_listFulls_51 : decode cX7_listFulls 51 = .ok (.getfield 92, 3) := by decide +kernel
theorem dX7_listFulls_54 : decode cX7_listFulls 54 = .ok (.iload_n 2, 1) := by decide +kernel
theorem dX7_listFulls_55 : decode cX7_listFulls 55 = .ok (.iconst 1, 1) := by decide +kernel
theorem dX7_listFulls_56 : decode cX7_listFulls 56 = .ok (.isub, 1) := by decide +kernel
theorem dX7_listFulls_57 : decode cX7_listFulls 57 = .ok (.iaload, 1) := by decide +kernel
theorem dX7_listFulls_58 : decode cX7_listFulls 58 = .ok (.aload_n 0, 1) := by decide +kernel
theorem dX7_listFulls_59 : decode cX7_listFulls 59 = .ok (.getfield 20, 3) := by decide +kernel
theorem dX7_listFulls_62 : decode cX7_listFulls 62 = .ok (.iload_n 3, 1) := by decide +kernel
theorem dX7_listFulls_63 : decode cX7_listFulls 63 = .ok (.iaload, 1) := by decide +kernel
theorem dX7_listFulls_64 : decode cX7_listFulls 64 = .ok (.if_icmp .ge 73, 3) := by decide +kernel
theorem dX7_listFulls_67 : decode cX7_listFulls 67 = .ok (.aload_n 0, 1) := by decide +kernel
theorem dX7_listFulls_68 : decode cX7_listFulls 68 = .ok (.getfield 23, 3) := by decide +kernel
theorem dX7_listFulls_71 : decode cX7_listFulls 71 = .ok (.iconst 3, 1) := by decide +kernel
theorem dX7_listFulls_72 : decode cX7_listFulls 72 = .ok (.iload_n 3, 1) := by decide +kernel
theorem dX7_listFulls_73 : decode cX7_listFulls 73 = .ok (.imul, 1) := by decide +kernel
theorem dX7_listFulls_74 : decode cX7_listFulls 74 = .ok (.aload_n 0, 1) := by decide +kernel
theorem dX7_listFulls_75 : decode cX7_listFulls 75 = .ok (.getfield 92, 3) := by decide +kernel
theorem dX7_listFulls_78 : decode cX7_listFulls 78 = .ok (.iload_n 2, 1) := by decide +kernel
theorem dX7_listFulls_79 : decode cX7_listFulls 79 = .ok (.iconst 1, 1) := by decide +kernel
theorem dX7_listFulls_80 : decode cX7_listFulls 80 = .ok (.isub, 1) := by decide +kernel
theorem dX7_listFulls_81 : decode cX7_listFulls 81 = .ok (.iaload, 1) := by decide +kernel
theorem dX7_listFulls_82 : decode cX7_listFulls 82 = .ok (.iadd, 1) := by decide +kernel
theorem dX7_listFulls_83 : decode cX7_listFulls 83 = .ok (.iaload, 1) := by decide +kernel
theorem dX7_listFulls_84 : decode cX7_listFulls 84 = .ok (.istore 4, 2) := by decide +kernel
theorem dX7_listFulls_86 : decode cX7_listFulls 86 = .ok (.aload_n 0, 1) := by decide +kernel
theorem dX7_listFulls_87 : decode cX7_listFulls 87 = .ok (.getfield 92, 3) := by decide +kernel
theorem dX7_listFulls_90 : decode cX7_listFulls 90 = .ok (.iload_n 2, 1) := by decide +kernel
theorem dX7_listFulls_91 : decode cX7_listFulls 91 = .ok (.iconst 1, 1) := by decide +kernel
theorem dX7_listFulls_92 : decode cX7_listFulls 92 = .ok (.isub, 1) := by decide +kernel
theorem dX7_listFulls_93 : decode cX7_listFulls 93 = .ok (.dup2, 1) := by decide +kernel
theorem dX7_listFulls_94 : decode cX7_listFulls 94 = .ok (.iaload, 1) := by decide +kernel
theorem dX7_listFulls_95 : decode cX7_listFulls 95 = .ok (.iconst 1, 1) := by decide +kernel
theorem dX7_listFulls_96 : decode cX7_listFulls 96 = .ok (.iadd, 1) := by decide +kernel
theorem dX7_listFulls_97 : decode cX7_listFulls 97 = .ok (.iastore, 1) := by decide +kernel
theorem dX7_listFulls_98 : decode cX7_listFulls 98 = .ok (.aload_n 0, 1) := by decide +kernel
theorem dX7_listFulls_99 : decode cX7_listFulls 99 = .ok (.getfield 86, 3) := by decide +kernel
theorem dX7_listFulls_102 : decode cX7_listFulls 102 = .ok (.iload 4, 2) := by decide +kernel
theorem dX7_listFulls_104 : decode cX7_listFulls 104 = .ok (.baload, 1) := by decide +kernel
theorem dX7_listFulls_105 : decode cX7_listFulls 105 = .ok (.ifCond .ne 29, 3) := by decide +kernel
theorem dX7_listFulls_108 : decode cX7_listFulls 108 = .ok (.aload_n 0, 1) := by decide +kernel
theorem dX7_listFulls_109 : decode cX7_listFulls 109 = .ok (.getfield 86, 3) := by decide +kernel
theorem dX7_listFulls_112 : decode cX7_listFulls 112 = .ok (.iload 4, 2) := by decide +kernel
theorem dX7_listFulls_114 : decode cX7_listFulls 114 = .ok (.iconst 1, 1) := by decide +kernel
theorem dX7_listFulls_115 : decode cX7_listFulls 115 = .ok (.bastore, 1) := by decide +kernel
theorem dX7_listFulls_116 : decode cX7_listFulls 116 = .ok (.aload_n 0, 1) := by decide +kernel
theorem dX7_listFulls_117 : decode cX7_listFulls 117 = .ok (.getfield 89, 3) := by decide +kernel
theorem dX7_listFulls_120 : decode cX7_listFulls 120 = .ok (.iload_n 2, 1) := by decide +kernel
theorem dX7_listFulls_121 : decode cX7_listFulls 121 = .ok (.iload 4, 2) := by decide +kernel
theorem dX7_listFulls_123 : decode cX7_listFulls 123 = .ok (.iastore, 1) := by decide +kernel
theorem dX7_listFulls_124 : decode cX7_listFulls 124 = .ok (.aload_n 0, 1) := by decide +kernel
theorem dX7_listFulls_125 : decode cX7_listFulls 125 = .ok (.getfield 92, 3) := by decide +kernel
theorem dX7_listFulls_128 : decode cX7_listFulls 128 = .ok (.iload_n 2, 1) := by decide +kernel
theorem dX7_listFulls_129 : decode cX7_listFulls 129 = .ok (.iconst 0, 1) := by decide +kernel
theorem dX7_listFulls_130 : decode cX7_listFulls 130 = .ok (.iastore, 1) := by decide +kernel
theorem dX7_listFulls_131 : decode cX7_listFulls 131 = .ok (.iinc 2 1, 3) := by decide +kernel
theorem dX7_listFulls_134 : decode cX7_listFulls 134 = .ok (.goto 56, 3) := by decide +kernel
theorem dX7_listFulls_137 : decode cX7_listFulls 137 = .ok (.iinc 2 (-1), 3) := by decide +kernel
theorem dX7_listFulls_140 : decode cX7_listFulls 140 = .ok (.iload_n 2, 1) := by decide +kernel
theorem dX7_listFulls_141 : decode cX7_listFulls 141 = .ok (.ifCond .le 49, 3) := by decide +kernel
theorem dX7_listFulls_144 : decode cX7_listFulls 144 = .ok (.aload_n 0, 1) := by decide +kernel
theorem dX7_listFulls_145 : decode cX7_listFulls 145 = .ok (.getfield 7, 3) := by decide +kernel
theorem dX7_listFulls_148 : decode cX7_listFulls 148 = .ok (.iload_n 3, 1) := by decide +kernel
theorem dX7_listFulls_149 : decode cX7_listFulls 149 = .ok (.iaload, 1) := by decide +kernel
theorem dX7_listFulls_150 : decode cX7_listFulls 150 = .ok (.iconst 2, 1) := by decide +kernel
theorem dX7_listFulls_151 : decode cX7_listFulls 151 = .ok (.if_icmp .ne 39, 3) := by decide +kernel
theorem dX7_listFulls_154 : decode cX7_listFulls 154 = .ok (.aload_n 0, 1) := by decide +kernel
theorem dX7_listFulls_155 : decode cX7_listFulls 155 = .ok (.getfield 80, 3) := by decide +kernel
theorem dX7_listFulls_158 : decode cX7_listFulls 158 = .ok (.bipush 16, 2) := by decide +kernel
theorem dX7_listFulls_160 : decode cX7_listFulls 160 = .ok (.aload_n 0, 1) := by decide +kernel
theorem dX7_listFulls_161 : decode cX7_listFulls 161 = .ok (.getfield 135, 3) := by decide +kernel
theorem dX7_listFulls_164 : decode cX7_listFulls 164 = .ok (.imul, 1) := by decide +kernel
theorem dX7_listFulls_165 : decode cX7_listFulls 165 = .ok (.aload_n 0, 1) := by decide +kernel
theorem dX7_listFulls_166 : decode cX7_listFulls 166 = .ok (.getfield 83, 3) := by decide +kernel
theorem dX7_listFulls_169 : decode cX7_listFulls 169 = .ok (.aload_n 0, 1) := by decide +kernel
theorem dX7_listFulls_170 : decode cX7_listFulls 170 = .ok (.getfield 135, 3) := by decide +kernel
theorem dX7_listFulls_173 : decode cX7_listFulls 173 = .ok (.iaload, 1) := by decide +kernel
theorem dX7_listFulls_174 : decode cX7_listFulls 174 = .ok (.iadd, 1) := by decide +kernel
theorem dX7_listFulls_175 : decode cX7_listFulls 175 = .ok (.iload_n 3, 1) := by decide +kernel
theorem dX7_listFulls_176 : decode cX7_listFulls 176 = .ok (.iastore, 1) := by decide +kernel
theorem dX7_listFulls_177 : decode cX7_listFulls 177 = .ok (.aload_n 0, 1) := by decide +kernel
theorem dX7_listFulls_178 : decode cX7_listFulls 178 = .ok (.getfield 83, 3) := by decide +kernel
theorem dX7_listFulls_181 : decode cX7_listFulls 181 = .ok (.aload_n 0, 1) := by decide +kernel
theorem dX7_listFulls_182 : decode cX7_listFulls 182 = .ok (.getfield 135, 3) := by decide +kernel
theorem dX7_listFulls_185 : decode cX7_listFulls 185 = .ok (.dup2, 1) := by decide +kernel
theorem dX7_listFulls_186 : decode cX7_listFulls 186 = .ok (.iaload, 1) := by decide +kernel
theorem dX7_listFulls_187 : decode cX7_listFulls 187 = .ok (.iconst 1, 1) := by decide +kernel
theorem dX7_listFulls_188 : decode cX7_listFulls 188 = .ok (.iadd, 1) := by decide +kernel
theorem dX7_listFulls_189 : decode cX7_listFulls 189 = .ok (.iastore, 1) := by decide +kernel
theorem dX7_listFulls_190 : decode cX7_listFulls 190 = .ok (.goto (-153), 3) := by decide +kernel
theorem dX7_listFulls_193 : decode cX7_listFulls 193 = .ok (.return_, 1) := by decide +kernel
theorem dX7_end_0 : decode cX7_end 0 = .ok (.aload_n 0, 1) := by decide +kernel
theorem dX7_end_1 : decode cX7_end 1 = .ok (.dup, 1) := by decide +kernel
theorem dX7_end_2 : decode cX7_end 2 = .ok (.getfield 135, 3) := by decide +kernel
theorem dX7_end_5 : decode cX7_end 5 = .ok (.iconst 1, 1) := by decide +kernel
theorem dX7_end_6 : decode cX7_end 6 = .ok (.isub, 1) := by decide +kernel
theorem dX7_end_7 : decode cX7_end 7 = .ok (.putfield 135, 3) := by decide +kernel
theorem dX7_end_10 : decode cX7_end 10 = .ok (.aload_n 0, 1) := by decide +kernel
theorem dX7_end_11 : decode cX7_end 11 = .ok (.getfield 65, 3) := by decide +kernel
theorem dX7_end_14 : decode cX7_end 14 = .ok (.aload_n 0, 1) := by decide +kernel
theorem dX7_end_15 : decode cX7_end 15 = .ok (.getfield 135, 3) := by decide +kernel
theorem dX7_end_18 : decode cX7_end 18 = .ok (.iaload, 1) := by decide +kernel
theorem dX7_end_19 : decode cX7_end 19 = .ok (.istore_n 3, 1) := by decide +kernel
theorem dX7_end_20 : decode cX7_end 20 = .ok (.aload_n 0, 1) := by decide +kernel
theorem dX7_end_21 : decode cX7_end 21 = .ok (.getfield 38, 3) := by decide +kernel
theorem dX7_end_24 : decode cX7_end 24 = .ok (.aload_n 0, 1) := by decide +kernel
theorem dX7_end_25 : decode cX7_end 25 = .ok (.iload_n 1, 1) := by decide +kernel
theorem dX7_end_26 : decode cX7_end 26 = .ok (.iload_n 3, 1) := by decide +kernel
theorem dX7_end_27 : decode cX7_end 27 = .ok (.invokevirtual 156, 3) := by decide +kernel
theorem dX7_end_30 : decode cX7_end 30 = .ok (.iload_n 2, 1) := by decide +kernel
theorem dX7_end_31 : decode cX7_end 31 = .ok (.ifCond .ne 7, 3) := by decide +kernel
theorem dX7_end_34 : decode cX7_end 34 = .ok (.iconst 2, 1) := by decide +kernel
theorem dX7_end_35 : decode cX7_end 35 = .ok (.goto 4, 3) := by decide +kernel
theorem dX7_end_38 : decode cX7_end 38 = .ok (.iconst 3, 1) := by decide +kernel
theorem dX7_end_39 : decode cX7_end 39 = .ok (.iastore, 1) := by decide +kernel
theorem dX7_end_40 : decode cX7_end 40 = .ok (.aload_n 0, 1) := by decide +kernel
theorem dX7_end_41 : decode cX7_end 41 = .ok (.getfield 111, 3) := by decide +kernel
theorem dX7_end_44 : decode cX7_end 44 = .ok (.sipush 150, 3) := by decide +kernel
theorem dX7_end_47 : decode cX7_end 47 = .ok (.if_icmp .ge 70, 3) := by decide +kernel
theorem dX7_end_50 : decode cX7_end 50 = .ok (.aload_n 0, 1) := by decide +kernel
theorem dX7_end_51 : decode cX7_end 51 = .ok (.getfield 50, 3) := by decide +kernel
theorem dX7_end_54 : decode cX7_end 54 = .ok (.iconst 4, 1) := by decide +kernel
theorem dX7_end_55 : decode cX7_end 55 = .ok (.aload_n 0, 1) := by decide +kernel
theorem dX7_end_56 : decode cX7_end 56 = .ok (.getfield 111, 3) := by decide +kernel
theorem dX7_end_59 : decode cX7_end 59 = .ok (.imul, 1) := by decide +kernel
theorem dX7_end_60 : decode cX7_end 60 = .ok (.iload_n 3, 1) := by decide +kernel
theorem dX7_end_61 : decode cX7_end 61 = .ok (.iastore, 1) := by decide +kernel
theorem dX7_end_62 : decode cX7_end 62 = .ok (.aload_n 0, 1) := by decide +kernel
theorem dX7_end_63 : decode cX7_end 63 = .ok (.getfield 50, 3) := by decide +kernel
theorem dX7_end_66 : decode cX7_end 66 = .ok (.iconst 4, 1) := by decide +kernel
theorem dX7_end_67 : decode cX7_end 67 = .ok (.aload_n 0, 1) := by decide +kernel
theorem dX7_end_68 : decode cX7_end 68 = .ok (.getfield 111, 3) := by decide +kernel
theorem dX7_end_71 : decode cX7_end 71 = .ok (.imul, 1) := by decide +kernel
theorem dX7_end_72 : decode cX7_end 72 = .ok (.iconst 1, 1) := by decide +kernel
theorem dX7_end_73 : decode cX7_end 73 = .ok (.iadd, 1) := by decide +kernel
theorem dX7_end_74 : decode cX7_end 74 = .ok (.iload_n 1, 1) := by decide +kernel
theorem dX7_end_75 : decode cX7_end 75 = .ok (.iastore, 1) := by decide +kernel
theorem dX7_end_76 : decode cX7_end 76 = .ok (.aload_n 0, 1) := by decide +kernel
theorem dX7_end_77 : decode cX7_end 77 = .ok (.getfield 50, 3) := by decide +kernel
theorem dX7_end_80 : decode cX7_end 80 = .ok (.iconst 4, 1) := by decide +kernel
theorem dX7_end_81 : decode cX7_end 81 = .ok (.aload_n 0, 1) := by decide +kernel
theorem dX7_end_82 : decode cX7_end 82 = .ok (.getfield 111, 3) := by decide +kernel
theorem dX7_end_85 : decode cX7_end 85 = .ok (.imul, 1) := by decide +kernel
theorem dX7_end_86 : decode cX7_end 86 = .ok (.iconst 2, 1) := by decide +kernel
theorem dX7_end_87 : decode cX7_end 87 = .ok (.iadd, 1) := by decide +kernel
theorem dX7_end_88 : decode cX7_end 88 = .ok (.iload_n 2, 1) := by decide +kernel
theorem dX7_end_89 : decode cX7_end 89 = .ok (.iastore, 1) := by decide +kernel
theorem dX7_end_90 : decode cX7_end 90 = .ok (.aload_n 0, 1) := by decide +kernel
theorem dX7_end_91 : decode cX7_end 91 = .ok (.getfield 50, 3) := by decide +kernel
theorem dX7_end_94 : decode cX7_end 94 = .ok (.iconst 4, 1) := by decide +kernel
theorem dX7_end_95 : decode cX7_end 95 = .ok (.aload_n 0, 1) := by decide +kernel
theorem dX7_end_96 : decode cX7_end 96 = .ok (.getfield 111, 3) := by decide +kernel
theorem dX7_end_99 : decode cX7_end 99 = .ok (.imul, 1) := by decide +kernel
theorem dX7_end_100 : decode cX7_end 100 = .ok (.iconst 3, 1) := by decide +kernel
theorem dX7_end_101 : decode cX7_end 101 = .ok (.iadd, 1) := by decide +kernel
theorem dX7_end_102 : decode cX7_end 102 = .ok (.aload_n 0, 1) := by decide +kernel
theorem dX7_end_103 : decode cX7_end 103 = .ok (.getfield 108, 3) := by decide +kernel
theorem dX7_end_106 : decode cX7_end 106 = .ok (.iastore, 1) := by decide +kernel
theorem dX7_end_107 : decode cX7_end 107 = .ok (.aload_n 0, 1) := by decide +kernel
theorem dX7_end_108 : decode cX7_end 108 = .ok (.dup, 1) := by decide +kernel
theorem dX7_end_109 : decode cX7_end 109 = .ok (.getfield 111, 3) := by decide +kernel
theorem dX7_end_112 : decode cX7_end 112 = .ok (.iconst 1, 1) := by decide +kernel
theorem dX7_end_113 : decode cX7_end 113 = .ok (.iadd, 1) := by decide +kernel
theorem dX7_end_114 : decode cX7_end 114 = .ok (.putfield 111, 3) := by decide +kernel
theorem dX7_end_117 : decode cX7_end 117 = .ok (.aload_n 0, 1) := by decide +kernel
theorem dX7_end_118 : decode cX7_end 118 = .ok (.iconst 1, 1) := by decide +kernel
theorem dX7_end_119 : decode cX7_end 119 = .ok (.putfield 142, 3) := by decide +kernel
theorem dX7_end_122 : decode cX7_end 122 = .ok (.aload_n 0, 1) := by decide +kernel
theorem dX7_end_123 : decode cX7_end 123 = .ok (.iload_n 2, 1) := by decide +kernel
theorem dX7_end_124 : decode cX7_end 124 = .ok (.putfield 153, 3) := by decide +kernel
theorem dX7_end_127 : decode cX7_end 127 = .ok (.return_, 1) := by decide +kernel
theorem dX7_heard_0 : decode cX7_heard 0 = .ok (.aload_n 0, 1) := by decide +kernel
theorem dX7_heard_1 : decode cX7_heard 1 = .ok (.getfield 135, 3) := by decide +kernel
theorem dX7_heard_4 : decode cX7_heard 4 = .ok (.iconst 1, 1) := by decide +kernel
theorem dX7_heard_5 : decode cX7_heard 5 = .ok (.isub, 1) := by decide +kernel
theorem dX7_heard_6 : decode cX7_heard 6 = .ok (.istore_n 2, 1) := by decide +kernel
theorem dX7_heard_7 : decode cX7_heard 7 = .ok (.aload_n 0, 1) := by decide +kernel
theorem dX7_heard_8 : decode cX7_heard 8 = .ok (.getfield 65, 3) := by decide +kernel
theorem dX7_heard_11 : decode cX7_heard 11 = .ok (.iload_n 2, 1) := by decide +kernel
theorem dX7_heard_12 : decode cX7_heard 12 = .ok (.iaload, 1) := by decide +kernel
theorem dX7_heard_13 : decode cX7_heard 13 = .ok (.istore_n 3, 1) := by decide +kernel
theorem dX7_heard_14 : decode cX7_heard 14 = .ok (.aload_n 0, 1) := by decide +kernel
theorem dX7_heard_15 : decode cX7_heard 15 = .ok (.getfield 74, 3) := by decide +kernel
theorem dX7_heard_18 : decode cX7_heard 18 = .ok (.iload_n 2, 1) := by decide +kernel
theorem dX7_heard_19 : decode cX7_heard 19 = .ok (.iaload, 1) := by decide +kernel
theorem dX7_heard_20 : decode cX7_heard 20 = .ok (.istore 4, 2) := by decide +kernel
theorem dX7_heard_22 : decode cX7_heard 22 = .ok (.aload_n 0, 1) := by decide +kernel
theorem dX7_heard_23 : decode cX7_heard 23 = .ok (.getfield 35, 3) := by decide +kernel
theorem dX7_heard_26 : decode cX7_heard 26 = .ok (.iload 4, 2) := by decide +kernel
theorem dX7_heard_28 : decode cX7_heard 28 = .ok (.iconst 1, 1) := by decide +kernel
theorem dX7_heard_29 : decode cX7_heard 29 = .ok (.iadd, 1) := by decide +kernel
theorem dX7_heard_30 : decode cX7_heard 30 = .ok (.iaload, 1) := by decide +kernel
theorem dX7_heard_31 : decode cX7_heard 31 = .ok (.istore 5, 2) := by decide +kernel
theorem dX7_heard_33 : decode cX7_heard 33 = .ok (.aload_n 0, 1) := by decide +kernel
theorem dX7_heard_34 : decode cX7_heard 34 = .ok (.getfield 153, 3) := by decide +kernel
theorem dX7_heard_37 : decode cX7_heard 37 = .ok (.istore 6, 2) := by decide +kernel
theorem dX7_heard_39 : decode cX7_heard 39 = .ok (.aload_n 0, 1) := by decide +kernel
theorem dX7_heard_40 : decode cX7_heard 40 = .ok (.iconst 0, 1) := by decide +kernel
theorem dX7_heard_41 : decode cX7_heard 41 = .ok (.putfield 142, 3) := by decide +kernel
theorem dX7_heard_44 : decode cX7_heard 44 = .ok (.aload_n 0, 1) := by decide +kernel
theorem dX7_heard_45 : decode cX7_heard 45 = .ok (.getfield 71, 3) := by decide +kernel
theorem dX7_heard_48 : decode cX7_heard 48 = .ok (.iload_n 2, 1) := by decide +kernel
theorem dX7_heard_49 : decode cX7_heard 49 = .ok (.iaload, 1) := by decide +kernel
theorem dX7_heard_50 : decode cX7_heard 50 = .ok (.iconst 1, 1) := by decide +kernel
theorem dX7_heard_51 : decode cX7_heard 51 = .ok (.if_icmp .eq 13, 3) := by decide +kernel
theorem dX7_heard_54 : decode cX7_heard 54 = .ok (.aload_n 0, 1) := by decide +kernel
theorem dX7_heard_55 : decode cX7_heard 55 = .ok (.getfield 71, 3) := by decide +kernel
theorem dX7_heard_58 : decode cX7_heard 58 = .ok (.iload_n 2, 1) := by decide +kernel
theorem dX7_heard_59 : decode cX7_heard 59 = .ok (.iaload, 1) := by decide +kernel
theorem dX7_heard_60 : decode cX7_heard 60 = .ok (.iconst 2, 1) := by decide +kernel
theorem dX7_heard_61 : decode cX7_heard 61 = .ok (.if_icmp .ne 80, 3) := by decide +kernel
theorem dX7_heard_64 : decode cX7_heard 64 = .ok (.aload_n 0, 1) := by decide +kernel
theorem dX7_heard_65 : decode cX7_heard 65 = .ok (.getfield 71, 3) := by decide +kernel
theorem dX7_heard_68 : decode cX7_heard 68 = .ok (.iload_n 2, 1) := by decide +kernel
theorem dX7_heard_69 : decode cX7_heard 69 = .ok (.iaload, 1) := by decide +kernel
theorem dX7_heard_70 : decode cX7_heard 70 = .ok (.iconst 1, 1) := by decide +kernel
theorem dX7_heard_71 : decode cX7_heard 71 = .ok (.if_icmp .ne 8, 3) := by decide +kernel
theorem dX7_heard_74 : decode cX7_heard 74 = .ok (.iload 5, 2) := by decide +kernel
theorem dX7_heard_76 : decode cX7_heard 76 = .ok (.goto 12, 3) := by decide +kernel
theorem dX7_heard_79 : decode cX7_heard 79 = .ok (.aload_n 0, 1) := by decide +kernel
theorem dX7_heard_80 : decode cX7_heard 80 = .ok (.getfield 35, 3) := by decide +kernel
theorem dX7_heard_83 : decode cX7_heard 83 = .ok (.iload 4, 2) := by decide +kernel
theorem dX7_heard_85 : decode cX7_heard 85 = .ok (.iconst 2, 1) := by decide +kernel
theorem dX7_heard_86 : decode cX7_heard 86 = .ok (.iadd, 1) := by decide +kernel
theorem dX7_heard_87 : decode cX7_heard 87 = .ok (.iaload, 1) := by decide +kernel
theorem dX7_heard_88 : decode cX7_heard 88 = .ok (.istore 7, 2) := by decide +kernel
theorem dX7_heard_90 : decode cX7_heard 90 = .ok (.iload 6, 2) := by decide +kernel
theorem dX7_heard_92 : decode cX7_heard 92 = .ok (.ifCond .ne 19, 3) := by decide +kernel
theorem dX7_heard_95 : decode cX7_heard 95 = .ok (.aload_n 0, 1) := by decide +kernel
theorem dX7_heard_96 : decode cX7_heard 96 = .ok (.getfield 44, 3) := by decide +kernel
theorem dX7_heard_99 : decode cX7_heard 99 = .ok (.bipush 16, 2) := by decide +kernel
theorem dX7_heard_101 : decode cX7_heard 101 = .ok (.iload_n 1, 1) := by decide +kernel
theorem dX7_heard_102 : decode cX7_heard 102 = .ok (.imul, 1) := by decide +kernel
theorem dX7_heard_103 : decode cX7_heard 103 = .ok (.iload 7, 2) := by decide +kernel
theorem dX7_heard_105 : decode cX7_heard 105 = .ok (.iadd, 1) := by decide +kernel
theorem dX7_heard_106 : decode cX7_heard 106 = .ok (.dup2, 1) := by decide +kernel
theorem dX7_heard_107 : decode cX7_heard 107 = .ok (.iaload, 1) := by decide +kernel
theorem dX7_heard_108 : decode cX7_heard 108 = .ok (.iconst 1, 1) := by decide +kernel
theorem dX7_heard_109 : decode cX7_heard 109 = .ok (.iadd, 1) := by decide +kernel
theorem dX7_heard_110 : decode cX7_heard 110 = .ok (.iastore, 1) := by decide +kernel
theorem dX7_heard_111 : decode cX7_heard 111 = .ok (.aload_n 0, 1) := by decide +kernel
theorem dX7_heard_112 : decode cX7_heard 112 = .ok (.getfield 71, 3) := by decide +kernel
theorem dX7_heard_115 : decode cX7_heard 115 = .ok (.iload_n 2, 1) := by decide +kernel
theorem dX7_heard_116 : decode cX7_heard 116 = .ok (.iaload, 1) := by decide +kernel
theorem dX7_heard_117 : decode cX7_heard 117 = .ok (.iconst 1, 1) := by decide +kernel
theorem dX7_heard_118 : decode cX7_heard 118 = .ok (.if_icmp .ne 8, 3) := by decide +kernel
theorem dX7_heard_121 : decode cX7_heard 121 = .ok (.iload 6, 2) := by decide +kernel
theorem dX7_heard_123 : decode cX7_heard 123 = .ok (.goto 13, 3) := by decide +kernel
theorem dX7_heard_126 : decode cX7_heard 126 = .ok (.aload_n 0, 1) := by decide +kernel
theorem dX7_heard_127 : decode cX7_heard 127 = .ok (.iload_n 1, 1) := by decide +kernel
theorem dX7_heard_128 : decode cX7_heard 128 = .ok (.iload_n 3, 1) := by decide +kernel
theorem dX7_heard_129 : decode cX7_heard 129 = .ok (.iload 5, 2) := by decide +kernel
theorem dX7_heard_131 : decode cX7_heard 131 = .ok (.iload 6, 2) := by decide +kernel
theorem dX7_heard_133 : decode cX7_heard 133 = .ok (.invokevirtual 163, 3) := by decide +kernel
theorem dX7_heard_136 : decode cX7_heard 136 = .ok (.istore 6, 2) := by decide +kernel
theorem dX7_heard_138 : decode cX7_heard 138 = .ok (.goto 57, 3) := by decide +kernel
theorem dX7_heard_141 : decode cX7_heard 141 = .ok (.aload_n 0, 1) := by decide +kernel
theorem dX7_heard_142 : decode cX7_heard 142 = .ok (.getfield 71, 3) := by decide +kernel
theorem dX7_heard_145 : decode cX7_heard 145 = .ok (.iload_n 2, 1) := by decide +kernel
theorem dX7_heard_146 : decode cX7_heard 146 = .ok (.iaload, 1) := by decide +kernel
theorem dX7_heard_147 : decode cX7_heard 147 = .ok (.iconst 3, 1) := by decide +kernel
theorem dX7_heard_148 : decode cX7_heard 148 = .ok (.if_icmp .ne 47, 3) := by decide +kernel
theorem dX7_heard_151 : decode cX7_heard 151 = .ok (.iload 6, 2) := by decide +kernel
theorem dX7_heard_153 : decode cX7_heard 153 = .ok (.ifCond .ne 42, 3) := by decide +kernel
theorem dX7_heard_156 : decode cX7_heard 156 = .ok (.aload_n 0, 1) := by decide +kernel
theorem dX7_heard_157 : decode cX7_heard 157 = .ok (.iload_n 1, 1) := by decide +kernel
theorem dX7_heard_158 : decode cX7_heard 158 = .ok (.iload_n 3, 1) := by decide +kernel
theorem dX7_heard_159 : decode cX7_heard 159 = .ok (.iload 5, 2) := by decide +kernel
theorem dX7_heard_161 : decode cX7_heard 161 = .ok (.aload_n 0, 1) := by decide +kernel
theorem dX7_heard_162 : decode cX7_heard 162 = .ok (.iload_n 1, 1) := by decide +kernel
theorem dX7_heard_163 : decode cX7_heard 163 = .ok (.iload_n 3, 1) := by decide +kernel
theorem dX7_heard_164 : decode cX7_heard 164 = .ok (.iload 5, 2) := by decide +kernel
theorem dX7_heard_166 : decode cX7_heard 166 = .ok (.invokevirtual 167, 3) := by decide +kernel
theorem dX7_heard_169 : decode cX7_heard 169 = .ok (.aload_n 0, 1) := by decide +kernel
theorem dX7_heard_170 : decode cX7_heard 170 = .ok (.iload_n 1, 1) := by decide +kernel
theorem dX7_heard_171 : decode cX7_heard 171 = .ok (.aload_n 0, 1) := by decide +kernel
theorem dX7_heard_172 : decode cX7_heard 172 = .ok (.getfield 77, 3) := by decide +kernel
theorem dX7_heard_175 : decode cX7_heard 175 = .ok (.iload_n 2, 1) := by decide +kernel
theorem dX7_heard_176 : decode cX7_heard 176 = .ok (.iaload, 1) := by decide +kernel
theorem dX7_heard_177 : decode cX7_heard 177 = .ok (.aload_n 0, 1) := by decide +kernel
theorem dX7_heard_178 : decode cX7_heard 178 = .ok (.getfield 35, 3) := by decide +kernel
theorem dX7_heard_181 : decode cX7_heard 181 = .ok (.iload 4, 2) := by decide +kernel
theorem dX7_heard_183 : decode cX7_heard 183 = .ok (.iconst 3, 1) := by decide +kernel
theorem dX7_heard_184 : decode cX7_heard 184 = .ok (.iadd, 1) := by decide +kernel
theorem dX7_heard_185 : decode cX7_heard 185 = .ok (.iaload, 1) := by decide +kernel
theorem dX7_heard_186 : decode cX7_heard 186 = .ok (.invokevirtual 167, 3) := by decide +kernel
theorem dX7_heard_189 : decode cX7_heard 189 = .ok (.iadd, 1) := by decide +kernel
theorem dX7_heard_190 : decode cX7_heard 190 = .ok (.invokevirtual 163, 3) := by decide +kernel
theorem dX7_heard_193 : decode cX7_heard 193 = .ok (.istore 6, 2) := by decide +kernel
theorem dX7_heard_195 : decode cX7_heard 195 = .ok (.iload 6, 2) := by decide +kernel
theorem dX7_heard_197 : decode cX7_heard 197 = .ok (.ifCond .eq 10, 3) := by decide +kernel
theorem dX7_heard_200 : decode cX7_heard 200 = .ok (.aload_n 0, 1) := by decide +kernel
theorem dX7_heard_201 : decode cX7_heard 201 = .ok (.iload_n 1, 1) := by decide +kernel
theorem dX7_heard_202 : decode cX7_heard 202 = .ok (.iload 6, 2) := by decide +kernel
theorem dX7_heard_204 : decode cX7_heard 204 = .ok (.invokevirtual 171, 3) := by decide +kernel
theorem dX7_heard_207 : decode cX7_heard 207 = .ok (.return_, 1) := by decide +kernel
theorem dX7_goes_0 : decode cX7_goes 0 = .ok (.aload_n 0, 1) := by decide +kernel
theorem dX7_goes_1 : decode cX7_goes 1 = .ok (.getfield 135, 3) := by decide +kernel
theorem dX7_goes_4 : decode cX7_goes 4 = .ok (.iconst 1, 1) := by decide +kernel
theorem dX7_goes_5 : decode cX7_goes 5 = .ok (.isub, 1) := by decide +kernel
theorem dX7_goes_6 : decode cX7_goes 6 = .ok (.istore_n 2, 1) := by decide +kernel
theorem dX7_goes_7 : decode cX7_goes 7 = .ok (.aload_n 0, 1) := by decide +kernel
theorem dX7_goes_8 : decode cX7_goes 8 = .ok (.getfield 65, 3) := by decide +kernel
theorem dX7_goes_11 : decode cX7_goes 11 = .ok (.iload_n 2, 1) := by decide +kernel
theorem dX7_goes_12 : decode cX7_goes 12 = .ok (.iaload, 1) := by decide +kernel
theorem dX7_goes_13 : decode cX7_goes 13 = .ok (.istore_n 3, 1) := by decide +kernel
theorem dX7_goes_14 : decode cX7_goes 14 = .ok (.aload_n 0, 1) := by decide +kernel
theorem dX7_goes_15 : decode cX7_goes 15 = .ok (.getfield 68, 3) := by decide +kernel
theorem dX7_goes_18 : decode cX7_goes 18 = .ok (.iload_n 2, 1) := by decide +kernel
theorem dX7_goes_19 : decode cX7_goes 19 = .ok (.iaload, 1) := by decide +kernel
theorem dX7_goes_20 : decode cX7_goes 20 = .ok (.istore 4, 2) := by decide +kernel
theorem dX7_goes_22 : decode cX7_goes 22 = .ok (.aload_n 0, 1) := by decide +kernel
theorem dX7_goes_23 : decode cX7_goes 23 = .ok (.getfield 68, 3) := by decide +kernel
theorem dX7_goes_26 : decode cX7_goes 26 = .ok (.iload_n 2, 1) := by decide +kernel
theorem dX7_goes_27 : decode cX7_goes 27 = .ok (.dup2, 1) := by decide +kernel
theorem dX7_goes_28 : decode cX7_goes 28 = .ok (.iaload, 1) := by decide +kernel
theorem dX7_goes_29 : decode cX7_goes 29 = .ok (.iconst 1, 1) := by decide +kernel
theorem dX7_goes_30 : decode cX7_goes 30 = .ok (.iadd, 1) := by decide +kernel
theorem dX7_goes_31 : decode cX7_goes 31 = .ok (.iastore, 1) := by decide +kernel
theorem dX7_goes_32 : decode cX7_goes 32 = .ok (.iload 4, 2) := by decide +kernel
theorem dX7_goes_34 : decode cX7_goes 34 = .ok (.ifCond .ne 34, 3) := by decide +kernel
theorem dX7_goes_37 : decode cX7_goes 37 = .ok (.aload_n 0, 1) := by decide +kernel
theorem dX7_goes_38 : decode cX7_goes 38 = .ok (.getfield 13, 3) := by decide +kernel
theorem dX7_goes_41 : decode cX7_goes 41 = .ok (.iload_n 3, 1) := by decide +kernel
theorem dX7_goes_42 : decode cX7_goes 42 = .ok (.iaload, 1) := by decide +kernel
theorem dX7_goes_43 : decode cX7_goes 43 = .ok (.iconst (-1), 1) := by decide +kernel
theorem dX7_goes_44 : decode cX7_goes 44 = .ok (.if_icmp .eq 123, 3) := by decide +kernel
theorem dX7_goes_47 : decode cX7_goes 47 = .ok (.aload_n 0, 1) := by decide +kernel
theorem dX7_goes_48 : decode cX7_goes 48 = .ok (.getfield 71, 3) := by decide +kernel
theorem dX7_goes_51 : decode cX7_goes 51 = .ok (.iload_n 2, 1) := by decide +kernel
theorem dX7_goes_52 : decode cX7_goes 52 = .ok (.iconst 0, 1) := by decide +kernel
theorem dX7_goes_53 : decode cX7_goes 53 = .ok (.iastore, 1) := by decide +kernel
theorem dX7_goes_54 : decode cX7_goes 54 = .ok (.aload_n 0, 1) := by decide +kernel
theorem dX7_goes_55 : decode cX7_goes 55 = .ok (.iload_n 1, 1) := by decide +kernel
theorem dX7_goes_56 : decode cX7_goes 56 = .ok (.aload_n 0, 1) := by decide +kernel
theorem dX7_goes_57 : decode cX7_goes 57 = .ok (.getfield 13, 3) := by decide +kernel
theorem dX7_goes_60 : decode cX7_goes 60 = .ok (.iload_n 3, 1) := by decide +kernel
theorem dX7_goes_61 : decode cX7_goes 61 = .ok (.iaload, 1) := by decide +kernel
theorem dX7_goes_62 : decode cX7_goes 62 = .ok (.invokevirtual 138, 3) := by decide +kernel
theorem dX7_goes_65 : decode cX7_goes 65 = .ok (.goto 102, 3) := by decide +kernel
theorem dX7_goes_68 : decode cX7_goes 68 = .ok (.iload 4, 2) := by decide +kernel
theorem dX7_goes_70 : decode cX7_goes 70 = .ok (.aload_n 0, 1) := by decide +kernel
theorem dX7_goes_71 : decode cX7_goes 71 = .ok (.getfield 83, 3) := by decide +kernel
theorem dX7_goes_74 : decode cX7_goes 74 = .ok (.iload_n 2, 1) := by decide +kernel
theorem dX7_goes_75 : decode cX7_goes 75 = .ok (.iaload, 1) := by decide +kernel
theorem dX7_goes_76 : decode cX7_goes 76 = .ok (.if_icmp .gt 32, 3) := by decide +kernel
theorem dX7_goes_79 : decode cX7_goes 79 = .ok (.aload_n 0, 1) := by decide +kernel
theorem dX7_goes_80 : decode cX7_goes 80 = .ok (.getfield 71, 3) := by decide +kernel
theorem dX7_goes_83 : decode cX7_goes 83 = .ok (.iload_n 2, 1) := by decide +kernel
theorem dX7_goes_84 : decode cX7_goes 84 = .ok (.iconst 0, 1) := by decide +kernel
theorem dX7_goes_85 : decode cX7_goes 85 = .ok (.iastore, 1) := by decide +kernel
theorem dX7_goes_86 : decode cX7_goes 86 = .ok (.aload_n 0, 1) := by decide +kernel
theorem dX7_goes_87 : decode cX7_goes 87 = .ok (.iload_n 1, 1) := by decide +kernel
theorem dX7_goes_88 : decode cX7_goes 88 = .ok (.aload_n 0, 1) := by decide +kernel
theorem dX7_goes_89 : decode cX7_goes 89 = .ok (.getfield 80, 3) := by decide +kernel
theorem dX7_goes_92 : decode cX7_goes 92 = .ok (.bipush 16, 2) := by decide +kernel
theorem dX7_goes_94 : decode cX7_goes 94 = .ok (.iload_n 2, 1) := by decide +kernel
theorem dX7_goes_95 : decode cX7_goes 95 = .ok (.imul, 1) := by decide +kernel
theorem dX7_goes_96 : decode cX7_goes 96 = .ok (.iload 4, 2) := by decide +kernel
theorem dX7_goes_98 : decode cX7_goes 98 = .ok (.iadd, 1) := by decide +kernel
theorem dX7_goes_99 : decode cX7_goes 99 = .ok (.iconst 1, 1) := by decide +kernel
theorem dX7_goes_100 : decode cX7_goes 100 = .ok (.isub, 1) := by decide +kernel
theorem dX7_goes_101 : decode cX7_goes 101 = .ok (.iaload, 1) := by decide +kernel
theorem dX7_goes_102 : decode cX7_goes 102 = .ok (.invokevirtual 138, 3) := by decide +kernel
theorem dX7_goes_105 : decode cX7_goes 105 = .ok (.goto 62, 3) := by decide +kernel
theorem dX7_goes_108 : decode cX7_goes 108 = .ok (.iload 4, 2) := by decide +kernel
theorem dX7_goes_110 : decode cX7_goes 110 = .ok (.iconst 1, 1) := by decide +kernel
theorem dX7_goes_111 : decode cX7_goes 111 = .ok (.isub, 1) := by decide +kernel
theorem dX7_goes_112 : decode cX7_goes 112 = .ok (.aload_n 0, 1) := by decide +kernel
theorem dX7_goes_113 : decode cX7_goes 113 = .ok (.getfield 83, 3) := by decide +kernel
theorem dX7_goes_116 : decode cX7_goes 116 = .ok (.iload_n 2, 1) := by decide +kernel
theorem dX7_goes_117 : decode cX7_goes 117 = .ok (.iaload, 1) := by decide +kernel
theorem dX7_goes_118 : decode cX7_goes 118 = .ok (.isub, 1) := by decide +kernel
theorem dX7_goes_119 : decode cX7_goes 119 = .ok (.aload_n 0, 1) := by decide +kernel
theorem dX7_goes_120 : decode cX7_goes 120 = .ok (.getfield 32, 3) := by decide +kernel
theorem dX7_goes_123 : decode cX7_goes 123 = .ok (.iload_n 3, 1) := by decide +kernel
theorem dX7_goes_124 : decode cX7_goes 124 = .ok (.iaload, 1) := by decide +kernel
theorem dX7_goes_125 : decode cX7_goes 125 = .ok (.if_icmp .ge 36, 3) := by decide +kernel
theorem dX7_goes_128 : decode cX7_goes 128 = .ok (.aload_n 0, 1) := by decide +kernel
theorem dX7_goes_129 : decode cX7_goes 129 = .ok (.getfield 74, 3) := by decide +kernel
theorem dX7_goes_132 : decode cX7_goes 132 = .ok (.iload_n 2, 1) := by decide +kernel
theorem dX7_goes_133 : decode cX7_goes 133 = .ok (.bipush 32, 2) := by decide +kernel
theorem dX7_goes_135 : decode cX7_goes 135 = .ok (.iload_n 3, 1) := by decide +kernel
theorem dX7_goes_136 : decode cX7_goes 136 = .ok (.imul, 1) := by decide +kernel
theorem dX7_goes_137 : decode cX7_goes 137 = .ok (.iconst 4, 1) := by decide +kernel
theorem dX7_goes_138 : decode cX7_goes 138 = .ok (.iload 4, 2) := by decide +kernel
theorem dX7_goes_140 : decode cX7_goes 140 = .ok (.iconst 1, 1) := by decide +kernel
theorem dX7_goes_141 : decode cX7_goes 141 = .ok (.isub, 1) := by decide +kernel
theorem dX7_goes_142 : decode cX7_goes 142 = .ok (.aload_n 0, 1) := by decide +kernel
theorem dX7_goes_143 : decode cX7_goes 143 = .ok (.getfield 83, 3) := by decide +kernel
theorem dX7_goes_146 : decode cX7_goes 146 = .ok (.iload_n 2, 1) := by decide +kernel
theorem dX7_goes_147 : decode cX7_goes 147 = .ok (.iaload, 1) := by decide +kernel
theorem dX7_goes_148 : decode cX7_goes 148 = .ok (.isub, 1) := by decide +kernel
theorem dX7_goes_149 : decode cX7_goes 149 = .ok (.imul, 1) := by decide +kernel
theorem dX7_goes_150 : decode cX7_goes 150 = .ok (.iadd, 1) := by decide +kernel
theorem dX7_goes_151 : decode cX7_goes 151 = .ok (.iastore, 1) := by decide +kernel
theorem dX7_goes_152 : decode cX7_goes 152 = .ok (.aload_n 0, 1) := by decide +kernel
theorem dX7_goes_153 : decode cX7_goes 153 = .ok (.iload_n 1, 1) := by decide +kernel
theorem dX7_goes_154 : decode cX7_goes 154 = .ok (.iload_n 2, 1) := by decide +kernel
theorem dX7_goes_155 : decode cX7_goes 155 = .ok (.invokevirtual 174, 3) := by decide +kernel
theorem dX7_goes_158 : decode cX7_goes 158 = .ok (.goto 9, 3) := by decide +kernel
theorem dX7_goes_161 : decode cX7_goes 161 = .ok (.aload_n 0, 1) := by decide +kernel
theorem dX7_goes_162 : decode cX7_goes 162 = .ok (.iload_n 1, 1) := by decide +kernel
theorem dX7_goes_163 : decode cX7_goes 163 = .ok (.iconst 0, 1) := by decide +kernel
theorem dX7_goes_164 : decode cX7_goes 164 = .ok (.invokevirtual 171, 3) := by decide +kernel
theorem dX7_goes_167 : decode cX7_goes 167 = .ok (.return_, 1) := by decide +kernel
theorem dX7_does_0 : decode cX7_does 0 = .ok (.aload_n 0, 1) := by decide +kernel
theorem dX7_does_1 : decode cX7_does 1 = .ok (.getfield 74, 3) := by decide +kernel
theorem dX7_does_4 : decode cX7_does 4 = .ok (.iload_n 2, 1) := by decide +kernel
theorem dX7_does_5 : decode cX7_does 5 = .ok (.iaload, 1) := by decide +kernel
theorem dX7_does_6 : decode cX7_does 6 = .ok (.istore_n 3, 1) := by decide +kernel
theorem dX7_does_7 : decode cX7_does 7 = .ok (.aload_n 0, 1) := by decide +kernel
theorem dX7_does_8 : decode cX7_does 8 = .ok (.getfield 65, 3) := by decide +kernel
theorem dX7_does_11 : decode cX7_does 11 = .ok (.iload_n 2, 1) := by decide +kernel
theorem dX7_does_12 : decode cX7_does 12 = .ok (.iaload, 1) := by decide +kernel
theorem dX7_does_13 : decode cX7_does 13 = .ok (.istore 4, 2) := by decide +kernel
theorem dX7_does_15 : decode cX7_does 15 = .ok (.aload_n 0, 1) := by decide +kernel
theorem dX7_does_16 : decode cX7_does 16 = .ok (.getfield 35, 3) := by decide +kernel
theorem dX7_does_19 : decode cX7_does 19 = .ok (.iload_n 3, 1) := by decide +kernel
theorem dX7_does_20 : decode cX7_does 20 = .ok (.iaload, 1) := by decide +kernel
theorem dX7_does_21 : decode cX7_does 21 = .ok (.istore 5, 2) := by decide +kernel
theorem dX7_does_23 : decode cX7_does 23 = .ok (.aload_n 0, 1) := by decide +kernel
theorem dX7_does_24 : decode cX7_does 24 = .ok (.getfield 35, 3) := by decide +kernel
theorem dX7_does_27 : decode cX7_does 27 = .ok (.iload_n 3, 1) := by decide +kernel
theorem dX7_does_28 : decode cX7_does 28 = .ok (.iconst 1, 1) := by decide +kernel
theorem dX7_does_29 : decode cX7_does 29 = .ok (.iadd, 1) := by decide +kernel
theorem dX7_does_30 : decode cX7_does 30 = .ok (.iaload, 1) := by decide +kernel
theorem dX7_does_31 : decode cX7_does 31 = .ok (.istore 6, 2) := by decide +kernel
theorem dX7_does_33 : decode cX7_does 33 = .ok (.iload 5, 2) := by decide +kernel
theorem dX7_does_35 : decode cX7_does 35 = .ok (.iconst 4, 1) := by decide +kernel
theorem dX7_does_36 : decode cX7_does 36 = .ok (.if_icmp .ne 10, 3) := by decide +kernel
theorem dX7_does_39 : decode cX7_does 39 = .ok (.iconst 1, 1) := by decide +kernel
theorem dX7_does_40 : decode cX7_does 40 = .ok (.iload 6, 2) := by decide +kernel
theorem dX7_does_42 : decode cX7_does 42 = .ok (.iadd, 1) := by decide +kernel
theorem dX7_does_43 : decode cX7_does 43 = .ok (.goto 4, 3) := by decide +kernel
theorem dX7_does_46 : decode cX7_does 46 = .ok (.iconst 1, 1) := by decide +kernel
theorem dX7_does_47 : decode cX7_does 47 = .ok (.istore 7, 2) := by decide +kernel
theorem dX7_does_49 : decode cX7_does 49 = .ok (.aload_n 0, 1) := by decide +kernel
theorem dX7_does_50 : decode cX7_does 50 = .ok (.getfield 47, 3) := by decide +kernel
theorem dX7_does_53 : decode cX7_does 53 = .ok (.iload_n 1, 1) := by decide +kernel
theorem dX7_does_54 : decode cX7_does 54 = .ok (.iaload, 1) := by decide +kernel
theorem dX7_does_55 : decode cX7_does 55 = .ok (.iload 7, 2) := by decide +kernel
theorem dX7_does_57 : decode cX7_does 57 = .ok (.if_icmp .ge 8, 3) := by decide +kernel
theorem dX7_does_60 : decode cX7_does 60 = .ok (.bipush 17, 2) := by decide +kernel
theorem dX7_does_62 : decode cX7_does 62 = .ok (.goto 4, 3) := by decide +kernel
theorem dX7_does_65 : decode cX7_does 65 = .ok (.iconst 0, 1) := by decide +kernel
theorem dX7_does_66 : decode cX7_does 66 = .ok (.istore 8, 2) := by decide +kernel
theorem dX7_does_68 : decode cX7_does 68 = .ok (.iload 8, 2) := by decide +kernel
theorem dX7_does_70 : decode cX7_does 70 = .ok (.ifCond .ne 178, 3) := by decide +kernel
theorem dX7_does_73 : decode cX7_does 73 = .ok (.aload_n 0, 1) := by decide +kernel
theorem dX7_does_74 : decode cX7_does 74 = .ok (.getfield 47, 3) := by decide +kernel
theorem dX7_does_77 : decode cX7_does 77 = .ok (.iload_n 1, 1) := by decide +kernel
theorem dX7_does_78 : decode cX7_does 78 = .ok (.dup2, 1) := by decide +kernel
theorem dX7_does_79 : decode cX7_does 79 = .ok (.iaload, 1) := by decide +kernel
theorem dX7_does_80 : decode cX7_does 80 = .ok (.iload 7, 2) := by decide +kernel
theorem dX7_does_82 : decode cX7_does 82 = .ok (.isub, 1) := by decide +kernel
theorem dX7_does_83 : decode cX7_does 83 = .ok (.iastore, 1) := by decide +kernel
theorem dX7_does_84 : decode cX7_does 84 = .ok (.aload_n 0, 1) := by decide +kernel
theorem dX7_does_85 : decode cX7_does 85 = .ok (.dup, 1) := by decide +kernel
theorem dX7_does_86 : decode cX7_does 86 = .ok (.getfield 117, 3) := by decide +kernel
theorem dX7_does_89 : decode cX7_does 89 = .ok (.iload 7, 2) := by decide +kernel
theorem dX7_does_91 : decode cX7_does 91 = .ok (.iadd, 1) := by decide +kernel
theorem dX7_does_92 : decode cX7_does 92 = .ok (.putfield 117, 3) := by decide +kernel
theorem dX7_does_95 : decode cX7_does 95 = .ok (.iload 5, 2) := by decide +kernel
theorem dX7_does_97 : decode cX7_does 97 = .ok (.ifCond .ne 25, 3) := by decide +kernel
theorem dX7_does_100 : decode cX7_does 100 = .ok (.aload_n 0, 1) := by decide +kernel
theorem dX7_does_101 : decode cX7_does 101 = .ok (.iload_n 1, 1) := by decide +kernel
theorem dX7_does_102 : decode cX7_does 102 = .ok (.iload 4, 2) := by decide +kernel
theorem dX7_does_104 : decode cX7_does 104 = .ok (.iload 6, 2) := by decide +kernel
theorem dX7_does_106 : decode cX7_does 106 = .ok (.aload_n 0, 1) := by decide +kernel
theorem dX7_does_107 : decode cX7_does 107 = .ok (.getfield 35, 3) := by decide +kernel
theorem dX7_does_110 : decode cX7_does 110 = .ok (.iload_n 3, 1) := by decide +kernel
theorem dX7_does_111 : decode cX7_does 111 = .ok (.iconst 2, 1) := by decide +kernel
theorem dX7_does_112 : decode cX7_does 112 = .ok (.iadd, 1) := by decide +kernel
theorem dX7_does_113 : decode cX7_does 113 = .ok (.iaload, 1) := by decide +kernel
theorem dX7_does_114 : decode cX7_does 114 = .ok (.invokevirtual 163, 3) := by decide +kernel
theorem dX7_does_117 : decode cX7_does 117 = .ok (.istore 8, 2) := by decide +kernel
theorem dX7_does_119 : decode cX7_does 119 = .ok (.goto 129, 3) := by decide +kernel
theorem dX7_does_122 : decode cX7_does 122 = .ok (.iload 5, 2) := by decide +kernel
theorem dX7_does_124 : decode cX7_does 124 = .ok (.iconst 1, 1) := by decide +kernel
theorem dX7_does_125 : decode cX7_does 125 = .ok (.if_icmp .ne 14, 3) := by decide +kernel
theorem dX7_does_128 : decode cX7_does 128 = .ok (.aload_n 0, 1) := by decide +kernel
theorem dX7_does_129 : decode cX7_does 129 = .ok (.iload_n 1, 1) := by decide +kernel
theorem dX7_does_130 : decode cX7_does 130 = .ok (.iload_n 2, 1) := by decide +kernel
theorem dX7_does_131 : decode cX7_does 131 = .ok (.invokevirtual 177, 3) := by decide +kernel
theorem dX7_does_134 : decode cX7_does 134 = .ok (.istore 8, 2) := by decide +kernel
theorem dX7_does_136 : decode cX7_does 136 = .ok (.goto 112, 3) := by decide +kernel
theorem dX7_does_139 : decode cX7_does 139 = .ok (.iload 5, 2) := by decide +kernel
theorem dX7_does_141 : decode cX7_does 141 = .ok (.iconst 2, 1) := by decide +kernel
theorem dX7_does_142 : decode cX7_does 142 = .ok (.if_icmp .eq 10, 3) := by decide +kernel
theorem dX7_does_145 : decode cX7_does 145 = .ok (.iload 5, 2) := by decide +kernel
theorem dX7_does_147 : decode cX7_does 147 = .ok (.bipush 6, 2) := by decide +kernel
theorem dX7_does_149 : decode cX7_does 149 = .ok (.if_icmp .ne 47, 3) := by decide +kernel
theorem dX7_does_152 : decode cX7_does 152 = .ok (.aload_n 0, 1) := by decide +kernel
theorem dX7_does_153 : decode cX7_does 153 = .ok (.getfield 71, 3) := by decide +kernel
theorem dX7_does_156 : decode cX7_does 156 = .ok (.iload_n 2, 1) := by decide +kernel
theorem dX7_does_157 : decode cX7_does 157 = .ok (.iload 5, 2) := by decide +kernel
theorem dX7_does_159 : decode cX7_does 159 = .ok (.iconst 2, 1) := by decide +kernel
theorem dX7_does_160 : decode cX7_does 160 = .ok (.if_icmp .ne 7, 3) := by decide +kernel
theorem dX7_does_163 : decode cX7_does 163 = .ok (.iconst 1, 1) := by decide +kernel
theorem dX7_does_164 : decode cX7_does 164 = .ok (.goto 4, 3) := by decide +kernel
theorem dX7_does_167 : decode cX7_does 167 = .ok (.iconst 2, 1) := by decide +kernel
theorem dX7_does_168 : decode cX7_does 168 = .ok (.iastore, 1) := by decide +kernel
theorem dX7_does_169 : decode cX7_does 169 = .ok (.aload_n 0, 1) := by decide +kernel
theorem dX7_does_170 : decode cX7_does 170 = .ok (.iload_n 1, 1) := by decide +kernel
theorem dX7_does_171 : decode cX7_does 171 = .ok (.iload 5, 2) := by decide +kernel
theorem dX7_does_173 : decode cX7_does 173 = .ok (.iconst 2, 1) := by decide +kernel
theorem dX7_does_174 : decode cX7_does 174 = .ok (.if_icmp .ne 8, 3) := by decide +kernel
theorem dX7_does_177 : decode cX7_does 177 = .ok (.iload 6, 2) := by decide +kernel
theorem dX7_does_179 : decode cX7_does 179 = .ok (.goto 11, 3) := by decide +kernel
theorem dX7_does_182 : decode cX7_does 182 = .ok (.aload_n 0, 1) := by decide +kernel
theorem dX7_does_183 : decode cX7_does 183 = .ok (.getfield 35, 3) := by decide +kernel
theorem dX7_does_186 : decode cX7_does 186 = .ok (.iload_n 3, 1) := by decide +kernel
theorem dX7_does_187 : decode cX7_does 187 = .ok (.iconst 2, 1) := by decide +kernel
theorem dX7_does_188 : decode cX7_does 188 = .ok (.iadd, 1) := by decide +kernel
theorem dX7_does_189 : decode cX7_does 189 = .ok (.iaload, 1) := by decide +kernel
theorem dX7_does_190 : decode cX7_does 190 = .ok (.invokevirtual 180, 3) := by decide +kernel
theorem dX7_does_193 : decode cX7_does 193 = .ok (.goto 55, 3) := by decide +kernel
theorem dX7_does_196 : decode cX7_does 196 = .ok (.iload 5, 2) := by decide +kernel
theorem dX7_does_198 : decode cX7_does 198 = .ok (.iconst 3, 1) := by decide +kernel
theorem dX7_does_199 : decode cX7_does 199 = .ok (.if_icmp .ne 13, 3) := by decide +kernel
theorem dX7_does_202 : decode cX7_does 202 = .ok (.bipush 10, 2) := by decide +kernel
theorem dX7_does_204 : decode cX7_does 204 = .ok (.iload 6, 2) := by decide +kernel
theorem dX7_does_206 : decode cX7_does 206 = .ok (.iadd, 1) := by decide +kernel
theorem dX7_does_207 : decode cX7_does 207 = .ok (.istore 8, 2) := by decide +kernel
theorem dX7_does_209 : decode cX7_does 209 = .ok (.goto 39, 3) := by decide +kernel
theorem dX7_does_212 : decode cX7_does 212 = .ok (.iload 5, 2) := by decide +kernel
theorem dX7_does_214 : decode cX7_does 214 = .ok (.iconst 5, 1) := by decide +kernel
theorem dX7_does_215 : decode cX7_does 215 = .ok (.if_icmp .ne 33, 3) := by decide +kernel
theorem dX7_does_218 : decode cX7_does 218 = .ok (.aload_n 0, 1) := by decide +kernel
theorem dX7_does_219 : decode cX7_does 219 = .ok (.getfield 114, 3) := by decide +kernel
theorem dX7_does_222 : decode cX7_does 222 = .ok (.bipush 100, 2) := by decide +kernel
theorem dX7_does_224 : decode cX7_does 224 = .ok (.if_icmp .ge 24, 3) := by decide +kernel
theorem dX7_does_227 : decode cX7_does 227 = .ok (.aload_n 0, 1) := by decide +kernel
theorem dX7_does_228 : decode cX7_does 228 = .ok (.getfield 53, 3) := by decide +kernel
theorem dX7_does_231 : decode cX7_does 231 = .ok (.aload_n 0, 1) := by decide +kernel
theorem dX7_does_232 : decode cX7_does 232 = .ok (.getfield 114, 3) := by decide +kernel
theorem dX7_does_235 : decode cX7_does 235 = .ok (.iload 6, 2) := by decide +kernel
theorem dX7_does_237 : decode cX7_does 237 = .ok (.iastore, 1) := by decide +kernel
theorem dX7_does_238 : decode cX7_does 238 = .ok (.aload_n 0, 1) := by decide +kernel
theorem dX7_does_239 : decode cX7_does 239 = .ok (.dup, 1) := by decide +kernel
theorem dX7_does_240 : decode cX7_does 240 = .ok (.getfield 114, 3) := by decide +kernel
theorem dX7_does_243 : decode cX7_does 243 = .ok (.iconst 1, 1) := by decide +kernel
theorem dX7_does_244 : decode cX7_does 244 = .ok (.iadd, 1) := by decide +kernel
theorem dX7_does_245 : decode cX7_does 245 = .ok (.putfield 114, 3) := by decide +kernel
theorem dX7_does_248 : decode cX7_does 248 = .ok (.iload 8, 2) := by decide +kernel
theorem dX7_does_250 : decode cX7_does 250 = .ok (.ifCond .eq 10, 3) := by decide +kernel
theorem dX7_does_253 : decode cX7_does 253 = .ok (.aload_n 0, 1) := by decide +kernel
theorem dX7_does_254 : decode cX7_does 254 = .ok (.iload_n 1, 1) := by decide +kernel
theorem dX7_does_255 : decode cX7_does 255 = .ok (.iload 8, 2) := by decide +kernel
theorem dX7_does_257 : decode cX7_does 257 = .ok (.invokevirtual 171, 3) := by decide +kernel
theorem dX7_does_260 : decode cX7_does 260 = .ok (.return_, 1) := by decide +kernel
theorem dX7_make_0 : decode cX7_make 0 = .ok (.aload_n 0, 1) := by decide +kernel
theorem dX7_make_1 : decode cX7_make 1 = .ok (.iload_n 2, 1) := by decide +kernel
theorem dX7_make_2 : decode cX7_make 2 = .ok (.invokevirtual 127, 3) := by decide +kernel
theorem dX7_make_5 : decode cX7_make 5 = .ok (.ifCond .eq 21, 3) := by decide +kernel
theorem dX7_make_8 : decode cX7_make 8 = .ok (.aload_n 0, 1) := by decide +kernel
theorem dX7_make_9 : decode cX7_make 9 = .ok (.getfield 7, 3) := by decide +kernel
theorem dX7_make_12 : decode cX7_make 12 = .ok (.iload_n 2, 1) := by decide +kernel
theorem dX7_make_13 : decode cX7_make 13 = .ok (.iaload, 1) := by decide +kernel
theorem dX7_make_14 : decode cX7_make 14 = .ok (.ifCond .ne 12, 3) := by decide +kernel
theorem dX7_make_17 : decode cX7_make 17 = .ok (.aload_n 0, 1) := by decide +kernel
theorem dX7_make_18 : decode cX7_make 18 = .ok (.iload_n 1, 1) := by decide +kernel
theorem dX7_make_19 : decode cX7_make 19 = .ok (.iload_n 2, 1) := by decide +kernel
theorem dX7_make_20 : decode cX7_make 20 = .ok (.invokevirtual 138, 3) := by decide +kernel
theorem dX7_make_23 : decode cX7_make 23 = .ok (.goto 14, 3) := by decide +kernel
theorem dX7_make_26 : decode cX7_make 26 = .ok (.aload_n 0, 1) := by decide +kernel
theorem dX7_make_27 : decode cX7_make 27 = .ok (.iconst 1, 1) := by decide +kernel
theorem dX7_make_28 : decode cX7_make 28 = .ok (.putfield 142, 3) := by decide +kernel
theorem dX7_make_31 : decode cX7_make 31 = .ok (.aload_n 0, 1) := by decide +kernel
theorem dX7_make_32 : decode cX7_make 32 = .ok (.bipush 18, 2) := by decide +kernel
theorem dX7_make_34 : decode cX7_make 34 = .ok (.putfield 153, 3) := by decide +kernel
theorem dX7_make_37 : decode cX7_make 37 = .ok (.return_, 1) := by decide +kernel
theorem dX7_asksFor_0 : decode cX7_asksFor 0 = .ok (.aload_n 0, 1) := by decide +kernel
theorem dX7_asksFor_1 : decode cX7_asksFor 1 = .ok (.getfield 74, 3) := by decide +kernel
theorem dX7_asksFor_4 : decode cX7_asksFor 4 = .ok (.iload_n 2, 1) := by decide +kernel
theorem dX7_asksFor_5 : decode cX7_asksFor 5 = .ok (.iaload, 1) := by decide +kernel
theorem dX7_asksFor_6 : decode cX7_asksFor 6 = .ok (.istore_n 3, 1) := by decide +kernel
theorem dX7_asksFor_7 : decode cX7_asksFor 7 = .ok (.aload_n 0, 1) := by decide +kernel
theorem dX7_asksFor_8 : decode cX7_asksFor 8 = .ok (.getfield 35, 3) := by decide +kernel
theorem dX7_asksFor_11 : decode cX7_asksFor 11 = .ok (.iload_n 3, 1) := by decide +kernel
theorem dX7_asksFor_12 : decode cX7_asksFor 12 = .ok (.iconst 2, 1) := by decide +kernel
theorem dX7_asksFor_13 : decode cX7_asksFor 13 = .ok (.iadd, 1) := by decide +kernel
theorem dX7_asksFor_14 : decode cX7_asksFor 14 = .ok (.iaload, 1) := by decide +kernel
theorem dX7_asksFor_15 : decode cX7_asksFor 15 = .ok (.istore 4, 2) := by decide +kernel
theorem dX7_asksFor_17 : decode cX7_asksFor 17 = .ok (.aload_n 0, 1) := by decide +kernel
theorem dX7_asksFor_18 : decode cX7_asksFor 18 = .ok (.getfield 35, 3) := by decide +kernel
theorem dX7_asksFor_21 : decode cX7_asksFor 21 = .ok (.iload_n 3, 1) := by decide +kernel
theorem dX7_asksFor_22 : decode cX7_asksFor 22 = .ok (.iconst 3, 1) := by decide +kernel
theorem dX7_asksFor_23 : decode cX7_asksFor 23 = .ok (.iadd, 1) := by decide +kernel
theorem dX7_asksFor_24 : decode cX7_asksFor 24 = .ok (.iaload, 1) := by decide +kernel
theorem dX7_asksFor_25 : decode cX7_asksFor 25 = .ok (.istore 5, 2) := by decide +kernel
theorem dX7_asksFor_27 : decode cX7_asksFor 27 = .ok (.aload_n 0, 1) := by decide +kernel
theorem dX7_asksFor_28 : decode cX7_asksFor 28 = .ok (.iload 4, 2) := by decide +kernel
theorem dX7_asksFor_30 : decode cX7_asksFor 30 = .ok (.invokevirtual 127, 3) := by decide +kernel
theorem dX7_asksFor_33 : decode cX7_asksFor 33 = .ok (.ifCond .eq 14, 3) := by decide +kernel
theorem dX7_asksFor_36 : decode cX7_asksFor 36 = .ok (.aload_n 0, 1) := by decide +kernel
theorem dX7_asksFor_37 : decode cX7_asksFor 37 = .ok (.iload 4, 2) := by decide +kernel
theorem dX7_asksFor_39 : decode cX7_asksFor 39 = .ok (.iload 5, 2) := by decide +kernel
theorem dX7_asksFor_41 : decode cX7_asksFor 41 = .ok (.invokevirtual 183, 3) := by decide +kernel
theorem dX7_asksFor_44 : decode cX7_asksFor 44 = .ok (.goto 4, 3) := by decide +kernel
theorem dX7_asksFor_47 : decode cX7_asksFor 47 = .ok (.iconst (-1), 1) := by decide +kernel
theorem dX7_asksFor_48 : decode cX7_asksFor 48 = .ok (.istore 6, 2) := by decide +kernel
theorem dX7_asksFor_50 : decode cX7_asksFor 50 = .ok (.iload 6, 2) := by decide +kernel
theorem dX7_asksFor_52 : decode cX7_asksFor 52 = .ok (.iconst (-1), 1) := by decide +kernel
theorem dX7_asksFor_53 : decode cX7_asksFor 53 = .ok (.if_icmp .ne 6, 3) := by decide +kernel
theorem dX7_asksFor_56 : decode cX7_asksFor 56 = .ok (.bipush 18, 2) := by decide +kernel
theorem dX7_asksFor_58 : decode cX7_asksFor 58 = .ok (.ireturn, 1) := by decide +kernel
theorem dX7_asksFor_59 : decode cX7_asksFor 59 = .ok (.aload_n 0, 1) := by decide +kernel
theorem dX7_asksFor_60 : decode cX7_asksFor 60 = .ok (.getfield 26, 3) := by decide +kernel
theorem dX7_asksFor_63 : decode cX7_asksFor 63 = .ok (.iconst 5, 1) := by decide +kernel
theorem dX7_asksFor_64 : decode cX7_asksFor 64 = .ok (.iload 6, 2) := by decide +kernel
theorem dX7_asksFor_66 : decode cX7_asksFor 66 = .ok (.imul, 1) := by decide +kernel
theorem dX7_asksFor_67 : decode cX7_asksFor 67 = .ok (.iload 5, 2) := by decide +kernel
theorem dX7_asksFor_69 : decode cX7_asksFor 69 = .ok (.iadd, 1) := by decide +kernel
theorem dX7_asksFor_70 : decode cX7_asksFor 70 = .ok (.iaload, 1) := by decide +kernel
theorem dX7_asksFor_71 : decode cX7_asksFor 71 = .ok (.iconst 1, 1) := by decide +kernel
theorem dX7_asksFor_72 : decode cX7_asksFor 72 = .ok (.if_icmp .ne 55, 3) := by decide +kernel
theorem dX7_asksFor_75 : decode cX7_asksFor 75 = .ok (.aload_n 0, 1) := by decide +kernel
theorem dX7_asksFor_76 : decode cX7_asksFor 76 = .ok (.iload_n 1, 1) := by decide +kernel
theorem dX7_asksFor_77 : decode cX7_asksFor 77 = .ok (.aload_n 0, 1) := by decide +kernel
theorem dX7_asksFor_78 : decode cX7_asksFor 78 = .ok (.getfield 65, 3) := by decide +kernel
theorem dX7_asksFor_81 : decode cX7_asksFor 81 = .ok (.iload_n 2, 1) := by decide +kernel
theorem dX7_asksFor_82 : decode cX7_asksFor 82 = .ok (.iaload, 1) := by decide +kernel
theorem dX7_asksFor_83 : decode cX7_asksFor 83 = .ok (.aload_n 0, 1) := by decide +kernel
theorem dX7_asksFor_84 : decode cX7_asksFor 84 = .ok (.getfield 35, 3) := by decide +kernel
theorem dX7_asksFor_87 : decode cX7_asksFor 87 = .ok (.iload_n 3, 1) := by decide +kernel
theorem dX7_asksFor_88 : decode cX7_asksFor 88 = .ok (.iconst 1, 1) := by decide +kernel
theorem dX7_asksFor_89 : decode cX7_asksFor 89 = .ok (.iadd, 1) := by decide +kernel
theorem dX7_asksFor_90 : decode cX7_asksFor 90 = .ok (.iaload, 1) := by decide +kernel
theorem dX7_asksFor_91 : decode cX7_asksFor 91 = .ok (.aload_n 0, 1) := by decide +kernel
theorem dX7_asksFor_92 : decode cX7_asksFor 92 = .ok (.iload_n 1, 1) := by decide +kernel
theorem dX7_asksFor_93 : decode cX7_asksFor 93 = .ok (.aload_n 0, 1) := by decide +kernel
theorem dX7_asksFor_94 : decode cX7_asksFor 94 = .ok (.getfield 65, 3) := by decide +kernel
theorem dX7_asksFor_97 : decode cX7_asksFor 97 = .ok (.iload_n 2, 1) := by decide +kernel
theorem dX7_asksFor_98 : decode cX7_asksFor 98 = .ok (.iaload, 1) := by decide +kernel
theorem dX7_asksFor_99 : decode cX7_asksFor 99 = .ok (.aload_n 0, 1) := by decide +kernel
theorem dX7_asksFor_100 : decode cX7_asksFor 100 = .ok (.getfield 35, 3) := by decide +kernel
theorem dX7_asksFor_103 : decode cX7_asksFor 103 = .ok (.iload_n 3, 1) := by decide +kernel
theorem dX7_asksFor_104 : decode cX7_asksFor 104 = .ok (.iconst 1, 1) := by decide +kernel
theorem dX7_asksFor_105 : decode cX7_asksFor 105 = .ok (.iadd, 1) := by decide +kernel
theorem dX7_asksFor_106 : decode cX7_asksFor 106 = .ok (.iaload, 1) := by decide +kernel
theorem dX7_asksFor_107 : decode cX7_asksFor 107 = .ok (.invokevirtual 167, 3) := by decide +kernel
theorem dX7_asksFor_110 : decode cX7_asksFor 110 = .ok (.aload_n 0, 1) := by decide +kernel
theorem dX7_asksFor_111 : decode cX7_asksFor 111 = .ok (.getfield 29, 3) := by decide +kernel
theorem dX7_asksFor_114 : decode cX7_asksFor 114 = .ok (.iconst 5, 1) := by decide +kernel
theorem dX7_asksFor_115 : decode cX7_asksFor 115 = .ok (.iload 6, 2) := by decide +kernel
theorem dX7_asksFor_117 : decode cX7_asksFor 117 = .ok (.imul, 1) := by decide +kernel
theorem dX7_asksFor_118 : decode cX7_asksFor 118 = .ok (.iload 5, 2) := by decide +kernel
theorem dX7_asksFor_120 : decode cX7_asksFor 120 = .ok (.iadd, 1) := by decide +kernel
theorem dX7_asksFor_121 : decode cX7_asksFor 121 = .ok (.iaload, 1) := by decide +kernel
theorem dX7_asksFor_122 : decode cX7_asksFor 122 = .ok (.iadd, 1) := by decide +kernel
theorem dX7_asksFor_123 : decode cX7_asksFor 123 = .ok (.invokevirtual 163, 3) := by decide +kernel
theorem dX7_asksFor_126 : decode cX7_asksFor 126 = .ok (.ireturn, 1) := by decide +kernel
theorem dX7_asksFor_127 : decode cX7_asksFor 127 = .ok (.aload_n 0, 1) := by decide +kernel
theorem dX7_asksFor_128 : decode cX7_asksFor 128 = .ok (.getfield 71, 3) := by decide +kernel
theorem dX7_asksFor_131 : decode cX7_asksFor 131 = .ok (.iload_n 2, 1) := by decide +kernel
theorem dX7_asksFor_132 : decode cX7_asksFor 132 = .ok (.iconst 3, 1) := by decide +kernel
theorem dX7_asksFor_133 : decode cX7_asksFor 133 = .ok (.iastore, 1) := by decide +kernel
theorem dX7_asksFor_134 : decode cX7_asksFor 134 = .ok (.aload_n 0, 1) := by decide +kernel
theorem dX7_asksFor_135 : decode cX7_asksFor 135 = .ok (.getfield 77, 3) := by decide +kernel
theorem dX7_asksFor_138 : decode cX7_asksFor 138 = .ok (.iload_n 2, 1) := by decide +kernel
theorem dX7_asksFor_139 : decode cX7_asksFor 139 = .ok (.iload 6, 2) := by decide +kernel
theorem dX7_asksFor_141 : decode cX7_asksFor 141 = .ok (.iastore, 1) := by decide +kernel
theorem dX7_asksFor_142 : decode cX7_asksFor 142 = .ok (.aload_n 0, 1) := by decide +kernel
theorem dX7_asksFor_143 : decode cX7_asksFor 143 = .ok (.iload_n 1, 1) := by decide +kernel
theorem dX7_asksFor_144 : decode cX7_asksFor 144 = .ok (.iload 6, 2) := by decide +kernel
theorem dX7_asksFor_146 : decode cX7_asksFor 146 = .ok (.invokevirtual 138, 3) := by decide +kernel
theorem dX7_asksFor_149 : decode cX7_asksFor 149 = .ok (.iconst 0, 1) := by decide +kernel
theorem dX7_asksFor_150 : decode cX7_asksFor 150 = .ok (.ireturn, 1) := by decide +kernel
theorem dX7_plain_0 : decode cX7_plain 0 = .ok (.aload_n 0, 1) := by decide +kernel
theorem dX7_plain_1 : decode cX7_plain 1 = .ok (.getfield 41, 3) := by decide +kernel
theorem dX7_plain_4 : decode cX7_plain 4 = .ok (.iconst 5, 1) := by decide +kernel
theorem dX7_plain_5 : decode cX7_plain 5 = .ok (.aload_n 0, 1) := by decide +kernel
theorem dX7_plain_6 : decode cX7_plain 6 = .ok (.iload_n 1, 1) := by decide +kernel
theorem dX7_plain_7 : decode cX7_plain 7 = .ok (.iload_n 2, 1) := by decide +kernel
theorem dX7_plain_8 : decode cX7_plain 8 = .ok (.invokevirtual 156, 3) := by decide +kernel
theorem dX7_plain_11 : decode cX7_plain 11 = .ok (.imul, 1) := by decide +kernel
theorem dX7_plain_12 : decode cX7_plain 12 = .ok (.iload_n 3, 1) := by decide +kernel
theorem dX7_plain_13 : decode cX7_plain 13 = .ok (.iadd, 1) := by decide +kernel
theorem dX7_plain_14 : decode cX7_plain 14 = .ok (.iaload, 1) := by decide +kernel
theorem dX7_plain_15 : decode cX7_plain 15 = .ok (.ireturn, 1) := by decide +kernel
theorem dX7_write_0 : decode cX7_write 0 = .ok (.aload_n 0, 1) := by decide +kernel
theorem dX7_write_1 : decode cX7_write 1 = .ok (.getfield 26, 3) := by decide +kernel
theorem dX7_write_4 : decode cX7_write 4 = .ok (.iconst 5, 1) := by decide +kernel
theorem dX7_write_5 : decode cX7_write 5 = .ok (.iload_n 2, 1) := by decide +kernel
theorem dX7_write_6 : decode cX7_write 6 = .ok (.imul, 1) := by decide +kernel
theorem dX7_write_7 : decode cX7_write 7 = .ok (.iload_n 3, 1) := by decide +kernel
theorem dX7_write_8 : decode cX7_write 8 = .ok (.iadd, 1) := by decide +kernel
theorem dX7_write_9 : decode cX7_write 9 = .ok (.iaload, 1) := by decide +kernel
theorem dX7_write_10 : decode cX7_write 10 = .ok (.iconst 2, 1) := by decide +kernel
theorem dX7_write_11 : decode cX7_write 11 = .ok (.if_icmp .eq 6, 3) := by decide +kernel
theorem dX7_write_14 : decode cX7_write 14 = .ok (.bipush 12, 2) := by decide +kernel
theorem dX7_write_16 : decode cX7_write 16 = .ok (.ireturn, 1) := by decide +kernel
theorem dX7_write_17 : decode cX7_write 17 = .ok (.aload_n 0, 1) := by decide +kernel
theorem dX7_write_18 : decode cX7_write 18 = .ok (.getfield 41, 3) := by decide +kernel
theorem dX7_write_21 : decode cX7_write 21 = .ok (.iconst 5, 1) := by decide +kernel
theorem dX7_write_22 : decode cX7_write 22 = .ok (.aload_n 0, 1) := by decide +kernel
theorem dX7_write_23 : decode cX7_write 23 = .ok (.iload_n 1, 1) := by decide +kernel
theorem dX7_write_24 : decode cX7_write 24 = .ok (.iload_n 2, 1) := by decide +kernel
theorem dX7_write_25 : decode cX7_write 25 = .ok (.invokevirtual 156, 3) := by decide +kernel
theorem dX7_write_28 : decode cX7_write 28 = .ok (.imul, 1) := by decide +kernel
theorem dX7_write_29 : decode cX7_write 29 = .ok (.iload_n 3, 1) := by decide +kernel
theorem dX7_write_30 : decode cX7_write 30 = .ok (.iadd, 1) := by decide +kernel
theorem dX7_write_31 : decode cX7_write 31 = .ok (.iload 4, 2) := by decide +kernel
theorem dX7_write_33 : decode cX7_write 33 = .ok (.iastore, 1) := by decide +kernel
theorem dX7_write_34 : decode cX7_write 34 = .ok (.aload_n 0, 1) := by decide +kernel
theorem dX7_write_35 : decode cX7_write 35 = .ok (.dup, 1) := by decide +kernel
theorem dX7_write_36 : decode cX7_write 36 = .ok (.getfield 186, 3) := by decide +kernel
theorem dX7_write_39 : decode cX7_write 39 = .ok (.iconst 1, 1) := by decide +kernel
theorem dX7_write_40 : decode cX7_write 40 = .ok (.iadd, 1) := by decide +kernel
theorem dX7_write_41 : decode cX7_write 41 = .ok (.putfield 186, 3) := by decide +kernel
theorem dX7_write_44 : decode cX7_write 44 = .ok (.iconst 0, 1) := by decide +kernel
theorem dX7_write_45 : decode cX7_write 45 = .ok (.ireturn, 1) := by decide +kernel
theorem dX7_makes_0 : decode cX7_makes 0 = .ok (.aload_n 0, 1) := by decide +kernel
theorem dX7_makes_1 : decode cX7_makes 1 = .ok (.iload_n 2, 1) := by decide +kernel
theorem dX7_makes_2 : decode cX7_makes 2 = .ok (.invokevirtual 127, 3) := by decide +kernel
theorem dX7_makes_5 : decode cX7_makes 5 = .ok (.ifCond .eq 12, 3) := by decide +kernel
theorem dX7_makes_8 : decode cX7_makes 8 = .ok (.aload_n 0, 1) := by decide +kernel
theorem dX7_makes_9 : decode cX7_makes 9 = .ok (.getfield 7, 3) := by decide +kernel
theorem dX7_makes_12 : decode cX7_makes 12 = .ok (.iload_n 2, 1) := by decide +kernel
theorem dX7_makes_13 : decode cX7_makes 13 = .ok (.iaload, 1) := by decide +kernel
theorem dX7_makes_14 : decode cX7_makes 14 = .ok (.ifCond .eq 6, 3) := by decide +kernel
theorem dX7_makes_17 : decode cX7_makes 17 = .ok (.bipush 18, 2) := by decide +kernel
theorem dX7_makes_19 : decode cX7_makes 19 = .ok (.ireturn, 1) := by decide +kernel
theorem dX7_makes_20 : decode cX7_makes 20 = .ok (.aload_n 0, 1) := by decide +kernel
theorem dX7_makes_21 : decode cX7_makes 21 = .ok (.iload_n 1, 1) := by decide +kernel
theorem dX7_makes_22 : decode cX7_makes 22 = .ok (.iload_n 2, 1) := by decide +kernel
theorem dX7_makes_23 : decode cX7_makes 23 = .ok (.invokevirtual 189, 3) := by decide +kernel
theorem dX7_makes_26 : decode cX7_makes 26 = .ok (.istore_n 3, 1) := by decide +kernel
theorem dX7_makes_27 : decode cX7_makes 27 = .ok (.aload_n 0, 1) := by decide +kernel
theorem dX7_makes_28 : decode cX7_makes 28 = .ok (.getfield 44, 3) := by decide +kernel
theorem dX7_makes_31 : decode cX7_makes 31 = .ok (.bipush 16, 2) := by decide +kernel
theorem dX7_makes_33 : decode cX7_makes 33 = .ok (.iload_n 1, 1) := by decide +kernel
theorem dX7_makes_34 : decode cX7_makes 34 = .ok (.imul, 1) := by decide +kernel
theorem dX7_makes_35 : decode cX7_makes 35 = .ok (.iload_n 2, 1) := by decide +kernel
theorem dX7_makes_36 : decode cX7_makes 36 = .ok (.iadd, 1) := by decide +kernel
theorem dX7_makes_37 : decode cX7_makes 37 = .ok (.dup2, 1) := by decide +kernel
theorem dX7_makes_38 : decode cX7_makes 38 = .ok (.iaload, 1) := by decide +kernel
theorem dX7_makes_39 : decode cX7_makes 39 = .ok (.iload_n 3, 1) := by decide +kernel
theorem dX7_makes_40 : decode cX7_makes 40 = .ok (.ifCond .ne 7, 3) := by decide +kernel
theorem dX7_makes_43 : decode cX7_makes 43 = .ok (.iconst 1, 1) := by decide +kernel
theorem dX7_makes_44 : decode cX7_makes 44 = .ok (.goto 4, 3) := by decide +kernel
theorem dX7_makes_47 : decode cX7_makes 47 = .ok (.iconst 0, 1) := by decide +kernel
theorem dX7_makes_48 : decode cX7_makes 48 = .ok (.iadd, 1) := by decide +kernel
theorem dX7_makes_49 : decode cX7_makes 49 = .ok (.iastore, 1) := by decide +kernel
theorem dX7_makes_50 : decode cX7_makes 50 = .ok (.iload_n 3, 1) := by decide +kernel
theorem dX7_makes_51 : decode cX7_makes 51 = .ok (.ireturn, 1) := by decide +kernel
theorem dX7_asks_0 : decode cX7_asks 0 = .ok (.aload_n 0, 1) := by decide +kernel
theorem dX7_asks_1 : decode cX7_asks 1 = .ok (.iload_n 2, 1) := by decide +kernel
theorem dX7_asks_2 : decode cX7_asks 2 = .ok (.invokevirtual 127, 3) := by decide +kernel
theorem dX7_asks_5 : decode cX7_asks 5 = .ok (.ifCond .eq 12, 3) := by decide +kernel
theorem dX7_asks_8 : decode cX7_asks 8 = .ok (.aload_n 0, 1) := by decide +kernel
theorem dX7_asks_9 : decode cX7_asks 9 = .ok (.iload_n 2, 1) := by decide +kernel
theorem dX7_asks_10 : decode cX7_asks 10 = .ok (.iload_n 3, 1) := by decide +kernel
theorem dX7_asks_11 : decode cX7_asks 11 = .ok (.invokevirtual 183, 3) := by decide +kernel
theorem dX7_asks_14 : decode cX7_asks 14 = .ok (.goto 4, 3) := by decide +kernel
theorem dX7_asks_17 : decode cX7_asks 17 = .ok (.iconst (-1), 1) := by decide +kernel
theorem dX7_asks_18 : decode cX7_asks 18 = .ok (.istore 4, 2) := by decide +kernel
theorem dX7_asks_20 : decode cX7_asks 20 = .ok (.iload 4, 2) := by decide +kernel
theorem dX7_asks_22 : decode cX7_asks 22 = .ok (.iconst (-1), 1) := by decide +kernel
theorem dX7_asks_23 : decode cX7_asks 23 = .ok (.if_icmp .ne 6, 3) := by decide +kernel
theorem dX7_asks_26 : decode cX7_asks 26 = .ok (.bipush 18, 2) := by decide +kernel
theorem dX7_asks_28 : decode cX7_asks 28 = .ok (.ireturn, 1) := by decide +kernel
theorem dX7_asks_29 : decode cX7_asks 29 = .ok (.aload_n 0, 1) := by decide +kernel
theorem dX7_asks_30 : decode cX7_asks 30 = .ok (.getfield 26, 3) := by decide +kernel
theorem dX7_asks_33 : decode cX7_asks 33 = .ok (.iconst 5, 1) := by decide +kernel
theorem dX7_asks_34 : decode cX7_asks 34 = .ok (.iload 4, 2) := by decide +kernel
theorem dX7_asks_36 : decode cX7_asks 36 = .ok (.imul, 1) := by decide +kernel
theorem dX7_asks_37 : decode cX7_asks 37 = .ok (.iload_n 3, 1) := by decide +kernel
theorem dX7_asks_38 : decode cX7_asks 38 = .ok (.iadd, 1) := by decide +kernel
theorem dX7_asks_39 : decode cX7_asks 39 = .ok (.iaload, 1) := by decide +kernel
theorem dX7_asks_40 : decode cX7_asks 40 = .ok (.iconst 1, 1) := by decide +kernel
theorem dX7_asks_41 : decode cX7_asks 41 = .ok (.if_icmp .ne 20, 3) := by decide +kernel
theorem dX7_asks_44 : decode cX7_asks 44 = .ok (.aload_n 0, 1) := by decide +kernel
theorem dX7_asks_45 : decode cX7_asks 45 = .ok (.aload_n 0, 1) := by decide +kernel
theorem dX7_asks_46 : decode cX7_asks 46 = .ok (.getfield 29, 3) := by decide +kernel
theorem dX7_asks_49 : decode cX7_asks 49 = .ok (.iconst 5, 1) := by decide +kernel
theorem dX7_asks_50 : decode cX7_asks 50 = .ok (.iload 4, 2) := by decide +kernel
theorem dX7_asks_52 : decode cX7_asks 52 = .ok (.imul, 1) := by decide +kernel
theorem dX7_asks_53 : decode cX7_asks 53 = .ok (.iload_n 3, 1) := by decide +kernel
theorem dX7_asks_54 : decode cX7_asks 54 = .ok (.iadd, 1) := by decide +kernel
theorem dX7_asks_55 : decode cX7_asks 55 = .ok (.iaload, 1) := by decide +kernel
theorem dX7_asks_56 : decode cX7_asks 56 = .ok (.putfield 192, 3) := by decide +kernel
theorem dX7_asks_59 : decode cX7_asks 59 = .ok (.iconst 0, 1) := by decide +kernel
theorem dX7_asks_60 : decode cX7_asks 60 = .ok (.ireturn, 1) := by decide +kernel
theorem dX7_asks_61 : decode cX7_asks 61 = .ok (.aload_n 0, 1) := by decide +kernel
theorem dX7_asks_62 : decode cX7_asks 62 = .ok (.iload_n 1, 1) := by decide +kernel
theorem dX7_asks_63 : decode cX7_asks 63 = .ok (.iload 4, 2) := by decide +kernel
theorem dX7_asks_65 : decode cX7_asks 65 = .ok (.invokevirtual 189, 3) := by decide +kernel
theorem dX7_asks_68 : decode cX7_asks 68 = .ok (.istore 5, 2) := by decide +kernel
theorem dX7_asks_70 : decode cX7_asks 70 = .ok (.aload_n 0, 1) := by decide +kernel
theorem dX7_asks_71 : decode cX7_asks 71 = .ok (.aload_n 0, 1) := by decide +kernel
theorem dX7_asks_72 : decode cX7_asks 72 = .ok (.iload_n 1, 1) := by decide +kernel
theorem dX7_asks_73 : decode cX7_asks 73 = .ok (.iload 4, 2) := by decide +kernel
theorem dX7_asks_75 : decode cX7_asks 75 = .ok (.iload_n 3, 1) := by decide +kernel
theorem dX7_asks_76 : decode cX7_asks 76 = .ok (.invokevirtual 167, 3) := by decide +kernel
theorem dX7_asks_79 : decode cX7_asks 79 = .ok (.putfield 192, 3) := by decide +kernel
theorem dX7_asks_82 : decode cX7_asks 82 = .ok (.iload 5, 2) := by decide +kernel
theorem dX7_asks_84 : decode cX7_asks 84 = .ok (.ireturn, 1) := by decide +kernel
theorem dX7_homeOf_0 : decode cX7_homeOf 0 = .ok (.iconst 0, 1) := by decide +kernel
theorem dX7_homeOf_1 : decode cX7_homeOf 1 = .ok (.istore_n 3, 1) := by decide +kernel
theorem dX7_homeOf_2 : decode cX7_homeOf 2 = .ok (.iload_n 3, 1) := by decide +kernel
theorem dX7_homeOf_3 : decode cX7_homeOf 3 = .ok (.bipush 16, 2) := by decide +kernel
theorem dX7_homeOf_5 : decode cX7_homeOf 5 = .ok (.if_icmp .ge 16, 3) := by decide +kernel
theorem dX7_homeOf_8 : decode cX7_homeOf 8 = .ok (.aload_n 0, 1) := by decide +kernel
theorem dX7_homeOf_9 : decode cX7_homeOf 9 = .ok (.getfield 86, 3) := by decide +kernel
theorem dX7_homeOf_12 : decode cX7_homeOf 12 = .ok (.iload_n 3, 1) := by decide +kernel
theorem dX7_homeOf_13 : decode cX7_homeOf 13 = .ok (.iconst 0, 1) := by decide +kernel
theorem dX7_homeOf_14 : decode cX7_homeOf 14 = .ok (.bastore, 1) := by decide +kernel
theorem dX7_homeOf_15 : decode cX7_homeOf 15 = .ok (.iinc 3 1, 3) := by decide +kernel
theorem dX7_homeOf_18 : decode cX7_homeOf 18 = .ok (.goto (-16), 3) := by decide +kernel
theorem dX7_homeOf_21 : decode cX7_homeOf 21 = .ok (.iconst 1, 1) := by decide +kernel
theorem dX7_homeOf_22 : decode cX7_homeOf 22 = .ok (.istore_n 3, 1) := by decide +kernel
theorem dX7_homeOf_23 : decode cX7_homeOf 23 = .ok (.aload_n 0, 1) := by decide +kernel
theorem dX7_homeOf_24 : decode cX7_homeOf 24 = .ok (.getfield 95, 3) := by decide +kernel
theorem dX7_homeOf_27 : decode cX7_homeOf 27 = .ok (.iconst 0, 1) := by decide +kernel
theorem dX7_homeOf_28 : decode cX7_homeOf 28 = .ok (.iload_n 1, 1) := by decide +kernel
theorem dX7_homeOf_29 : decode cX7_homeOf 29 = .ok (.iastore, 1) := by decide +kernel
theorem dX7_homeOf_30 : decode cX7_homeOf 30 = .ok (.iload_n 3, 1) := by decide +kernel
theorem dX7_homeOf_31 : decode cX7_homeOf 31 = .ok (.ifCond .le 122, 3) := by decide +kernel
theorem dX7_homeOf_34 : decode cX7_homeOf 34 = .ok (.iinc 3 (-1), 3) := by decide +kernel
theorem dX7_homeOf_37 : decode cX7_homeOf 37 = .ok (.aload_n 0, 1) := by decide +kernel
theorem dX7_homeOf_38 : decode cX7_homeOf 38 = .ok (.getfield 95, 3) := by decide +kernel
theorem dX7_homeOf_41 : decode cX7_homeOf 41 = .ok (.iload_n 3, 1) := by decide +kernel
theorem dX7_homeOf_42 : decode cX7_homeOf 42 = .ok (.iaload, 1) := by decide +kernel
theorem dX7_homeOf_43 : decode cX7_homeOf 43 = .ok (.istore 4, 2) := by decide +kernel
theorem dX7_homeOf_45 : decode cX7_homeOf 45 = .ok (.aload_n 0, 1) := by decide +kernel
theorem dX7_homeOf_46 : decode cX7_homeOf 46 = .ok (.getfield 86, 3) := by decide +kernel
theorem dX7_homeOf_49 : decode cX7_homeOf 49 = .ok (.iload 4, 2) := by decide +kernel
theorem dX7_homeOf_51 : decode cX7_homeOf 51 = .ok (.baload, 1) := by decide +kernel
theorem dX7_homeOf_52 : decode cX7_homeOf 52 = .ok (.ifCond .ne 98, 3) := by decide +kernel
theorem dX7_homeOf_55 : decode cX7_homeOf 55 = .ok (.aload_n 0, 1) := by decide +kernel
theorem dX7_homeOf_56 : decode cX7_homeOf 56 = .ok (.getfield 86, 3) := by decide +kernel
theorem dX7_homeOf_59 : decode cX7_homeOf 59 = .ok (.iload 4, 2) := by decide +kernel
theorem dX7_homeOf_61 : decode cX7_homeOf 61 = .ok (.iconst 1, 1) := by decide +kernel
theorem dX7_homeOf_62 : decode cX7_homeOf 62 = .ok (.bastore, 1) := by decide +kernel
theorem dX7_homeOf_63 : decode cX7_homeOf 63 = .ok (.aload_n 0, 1) := by decide +kernel
theorem dX7_homeOf_64 : decode cX7_homeOf 64 = .ok (.getfield 26, 3) := by decide +kernel
theorem dX7_homeOf_67 : decode cX7_homeOf 67 = .ok (.iconst 5, 1) := by decide +kernel
theorem dX7_homeOf_68 : decode cX7_homeOf 68 = .ok (.iload 4, 2) := by decide +kernel
theorem dX7_homeOf_70 : decode cX7_homeOf 70 = .ok (.imul, 1) := by decide +kernel
theorem dX7_homeOf_71 : decode cX7_homeOf 71 = .ok (.iload_n 2, 1) := by decide +kernel
theorem dX7_homeOf_72 : decode cX7_homeOf 72 = .ok (.iadd, 1) := by decide +kernel
theorem dX7_homeOf_73 : decode cX7_homeOf 73 = .ok (.iaload, 1) := by decide +kernel
theorem dX7_homeOf_74 : decode cX7_homeOf 74 = .ok (.ifCond .le 6, 3) := by decide +kernel
theorem dX7_homeOf_77 : decode cX7_homeOf 77 = .ok (.iload 4, 2) := by decide +kernel
theorem dX7_homeOf_79 : decode cX7_homeOf 79 = .ok (.ireturn, 1) := by decide +kernel
theorem dX7_homeOf_80 : decode cX7_homeOf 80 = .ok (.aload_n 0, 1) := by decide +kernel
theorem dX7_homeOf_81 : decode cX7_homeOf 81 = .ok (.getfield 13, 3) := by decide +kernel
theorem dX7_homeOf_84 : decode cX7_homeOf 84 = .ok (.iload 4, 2) := by decide +kernel
theorem dX7_homeOf_86 : decode cX7_homeOf 86 = .ok (.iaload, 1) := by decide +kernel
theorem dX7_homeOf_87 : decode cX7_homeOf 87 = .ok (.iconst (-1), 1) := by decide +kernel
theorem dX7_homeOf_88 : decode cX7_homeOf 88 = .ok (.if_icmp .eq 19, 3) := by decide +kernel
theorem dX7_homeOf_91 : decode cX7_homeOf 91 = .ok (.aload_n 0, 1) := by decide +kernel
theorem dX7_homeOf_92 : decode cX7_homeOf 92 = .ok (.getfield 95, 3) := by decide +kernel
theorem dX7_homeOf_95 : decode cX7_homeOf 95 = .ok (.iload_n 3, 1) := by decide +kernel
theorem dX7_homeOf_96 : decode cX7_homeOf 96 = .ok (.aload_n 0, 1) := by decide +kernel
theorem dX7_homeOf_97 : decode cX7_homeOf 97 = .ok (.getfield 13, 3) := by decide +kernel
theorem dX7_homeOf_100 : decode cX7_homeOf 100 = .ok (.iload 4, 2) := by decide +kernel
theorem dX7_homeOf_102 : decode cX7_homeOf 102 = .ok (.iaload, 1) := by decide +kernel
theorem dX7_homeOf_103 : decode cX7_homeOf 103 = .ok (.iastore, 1) := by decide +kernel
theorem dX7_homeOf_104 : decode cX7_homeOf 104 = .ok (.iinc 3 1, 3) := by decide +kernel
theorem dX7_homeOf_107 : decode cX7_homeOf 107 = .ok (.aload_n 0, 1) := by decide +kernel
theorem dX7_homeOf_108 : decode cX7_homeOf 108 = .ok (.getfield 20, 3) := by decide +kernel
theorem dX7_homeOf_111 : decode cX7_homeOf 111 = .ok (.iload 4, 2) := by decide +kernel
theorem dX7_homeOf_113 : decode cX7_homeOf 113 = .ok (.iaload, 1) := by decide +kernel
theorem dX7_homeOf_114 : decode cX7_homeOf 114 = .ok (.iconst 1, 1) := by decide +kernel
theorem dX7_homeOf_115 : decode cX7_homeOf 115 = .ok (.isub, 1) := by decide +kernel
theorem dX7_homeOf_116 : decode cX7_homeOf 116 = .ok (.istore 5, 2) := by decide +kernel
theorem dX7_homeOf_118 : decode cX7_homeOf 118 = .ok (.iload 5, 2) := by decide +kernel
theorem dX7_homeOf_120 : decode cX7_homeOf 120 = .ok (.ifCond .lt 30, 3) := by decide +kernel
theorem dX7_homeOf_123 : decode cX7_homeOf 123 = .ok (.aload_n 0, 1) := by decide +kernel
theorem dX7_homeOf_124 : decode cX7_homeOf 124 = .ok (.getfield 95, 3) := by decide +kernel
theorem dX7_homeOf_127 : decode cX7_homeOf 127 = .ok (.iload_n 3, 1) := by decide +kernel
theorem dX7_homeOf_128 : decode cX7_homeOf 128 = .ok (.aload_n 0, 1) := by decide +kernel
theorem dX7_homeOf_129 : decode cX7_homeOf 129 = .ok (.getfield 23, 3) := by decide +kernel
theorem dX7_homeOf_132 : decode cX7_homeOf 132 = .ok (.iconst 3, 1) := by decide +kernel
theorem dX7_homeOf_133 : decode cX7_homeOf 133 = .ok (.iload 4, 2) := by decide +kernel
theorem dX7_homeOf_135 : decode cX7_homeOf 135 = .ok (.imul, 1) := by decide +kernel
theorem dX7_homeOf_136 : decode cX7_homeOf 136 = .ok (.iload 5, 2) := by decide +kernel
theorem dX7_homeOf_138 : decode cX7_homeOf 138 = .ok (.iadd, 1) := by decide +kernel
theorem dX7_homeOf_139 : decode cX7_homeOf 139 = .ok (.iaload, 1) := by decide +kernel
theorem dX7_homeOf_140 : decode cX7_homeOf 140 = .ok (.iastore, 1) := by decide +kernel
theorem dX7_homeOf_141 : decode cX7_homeOf 141 = .ok (.iinc 3 1, 3) := by decide +kernel
theorem dX7_homeOf_144 : decode cX7_homeOf 144 = .ok (.iinc 5 (-1), 3) := by decide +kernel
theorem dX7_homeOf_147 : decode cX7_homeOf 147 = .ok (.goto (-29), 3) := by decide +kernel
theorem dX7_homeOf_150 : decode cX7_homeOf 150 = .ok (.goto (-120), 3) := by decide +kernel
theorem dX7_homeOf_153 : decode cX7_homeOf 153 = .ok (.iconst (-1), 1) := by decide +kernel
theorem dX7_homeOf_154 : decode cX7_homeOf 154 = .ok (.ireturn, 1) := by decide +kernel
theorem dX7_use_0 : decode cX7_use 0 = .ok (.aload_n 0, 1) := by decide +kernel
theorem dX7_use_1 : decode cX7_use 1 = .ok (.iconst 0, 1) := by decide +kernel
theorem dX7_use_2 : decode cX7_use 2 = .ok (.putfield 120, 3) := by decide +kernel
theorem dX7_use_5 : decode cX7_use 5 = .ok (.iload_n 1, 1) := by decide +kernel
theorem dX7_use_6 : decode cX7_use 6 = .ok (.invokestatic 195, 3) := by decide +kernel
theorem dX7_use_9 : decode cX7_use 9 = .ok (.ifCond .eq 11, 3) := by decide +kernel
theorem dX7_use_12 : decode cX7_use 12 = .ok (.aload_n 0, 1) := by decide +kernel
theorem dX7_use_13 : decode cX7_use 13 = .ok (.iload_n 2, 1) := by decide +kernel
theorem dX7_use_14 : decode cX7_use 14 = .ok (.invokevirtual 127, 3) := by decide +kernel
theorem dX7_use_17 : decode cX7_use 17 = .ok (.ifCond .ne 6, 3) := by decide +kernel
theorem dX7_use_20 : decode cX7_use 20 = .ok (.bipush (-101), 2) := by decide +kernel
theorem dX7_use_22 : decode cX7_use 22 = .ok (.ireturn, 1) := by decide +kernel
theorem dX7_use_23 : decode cX7_use 23 = .ok (.iload_n 3, 1) := by decide +kernel
theorem dX7_use_24 : decode cX7_use 24 = .ok (.iconst 1, 1) := by decide +kernel
theorem dX7_use_25 : decode cX7_use 25 = .ok (.if_icmp .eq 8, 3) := by decide +kernel
theorem dX7_use_28 : decode cX7_use 28 = .ok (.iload_n 3, 1) := by decide +kernel
theorem dX7_use_29 : decode cX7_use 29 = .ok (.iconst 2, 1) := by decide +kernel
theorem dX7_use_30 : decode cX7_use 30 = .ok (.if_icmp .ne 7, 3) := by decide +kernel
theorem dX7_use_33 : decode cX7_use 33 = .ok (.iconst 1, 1) := by decide +kernel
theorem dX7_use_34 : decode cX7_use 34 = .ok (.goto 4, 3) := by decide +kernel
theorem dX7_use_37 : decode cX7_use 37 = .ok (.iconst 0, 1) := by decide +kernel
theorem dX7_use_38 : decode cX7_use 38 = .ok (.istore 6, 2) := by decide +kernel
theorem dX7_use_40 : decode cX7_use 40 = .ok (.iload_n 3, 1) := by decide +kernel
theorem dX7_use_41 : decode cX7_use 41 = .ok (.iconst 0, 1) := by decide +kernel
theorem dX7_use_42 : decode cX7_use 42 = .ok (.iconst 3, 1) := by decide +kernel
theorem dX7_use_43 : decode cX7_use 43 = .ok (.invokestatic 123, 3) := by decide +kernel
theorem dX7_use_46 : decode cX7_use 46 = .ok (.ifCond .eq 37, 3) := by decide +kernel
theorem dX7_use_49 : decode cX7_use 49 = .ok (.iload 6, 2) := by decide +kernel
theorem dX7_use_51 : decode cX7_use 51 = .ok (.ifCond .eq 13, 3) := by decide +kernel
theorem dX7_use_54 : decode cX7_use 54 = .ok (.iload 4, 2) := by decide +kernel
theorem dX7_use_56 : decode cX7_use 56 = .ok (.iconst 0, 1) := by decide +kernel
theorem dX7_use_57 : decode cX7_use 57 = .ok (.iconst 4, 1) := by decide +kernel
theorem dX7_use_58 : decode cX7_use 58 = .ok (.invokestatic 123, 3) := by decide +kernel
theorem dX7_use_61 : decode cX7_use 61 = .ok (.ifCond .eq 22, 3) := by decide +kernel
theorem dX7_use_64 : decode cX7_use 64 = .ok (.iload_n 3, 1) := by decide +kernel
theorem dX7_use_65 : decode cX7_use 65 = .ok (.iconst 2, 1) := by decide +kernel
theorem dX7_use_66 : decode cX7_use 66 = .ok (.if_icmp .ne 20, 3) := by decide +kernel
theorem dX7_use_69 : decode cX7_use 69 = .ok (.iload 5, 2) := by decide +kernel
theorem dX7_use_71 : decode cX7_use 71 = .ok (.sipush (-999), 3) := by decide +kernel
theorem dX7_use_74 : decode cX7_use 74 = .ok (.sipush 999, 3) := by decide +kernel
theorem dX7_use_77 : decode cX7_use 77 = .ok (.invokestatic 123, 3) := by decide +kernel
theorem dX7_use_80 : decode cX7_use 80 = .ok (.ifCond .ne 6, 3) := by decide +kernel
theorem dX7_use_83 : decode cX7_use 83 = .ok (.bipush (-102), 2) := by decide +kernel
theorem dX7_use_85 : decode cX7_use 85 = .ok (.ireturn, 1) := by decide +kernel
theorem dX7_use_86 : decode cX7_use 86 = .ok (.iload_n 3, 1) := by decide +kernel
theorem dX7_use_87 : decode cX7_use 87 = .ok (.iconst 2, 1) := by decide +kernel
theorem dX7_use_88 : decode cX7_use 88 = .ok (.if_icmp .ne 13, 3) := by decide +kernel
theorem dX7_use_91 : decode cX7_use 91 = .ok (.aload_n 0, 1) := by decide +kernel
theorem dX7_use_92 : decode cX7_use 92 = .ok (.iload_n 2, 1) := by decide +kernel
theorem dX7_use_93 : decode cX7_use 93 = .ok (.iload 4, 2) := by decide +kernel
theorem dX7_use_95 : decode cX7_use 95 = .ok (.invokevirtual 183, 3) := by decide +kernel
theorem dX7_use_98 : decode cX7_use 98 = .ok (.goto 4, 3) := by decide +kernel
theorem dX7_use_101 : decode cX7_use 101 = .ok (.iconst (-1), 1) := by decide +kernel
theorem dX7_use_102 : decode cX7_use 102 = .ok (.istore 7, 2) := by decide +kernel
theorem dX7_use_104 : decode cX7_use 104 = .ok (.iload_n 3, 1) := by decide +kernel
theorem dX7_use_105 : decode cX7_use 105 = .ok (.ifCond .ne 12, 3) := by decide +kernel
theorem dX7_use_108 : decode cX7_use 108 = .ok (.aload_n 0, 1) := by decide +kernel
theorem dX7_use_109 : decode cX7_use 109 = .ok (.getfield 7, 3) := by decide +kernel
theorem dX7_use_112 : decode cX7_use 112 = .ok (.iload_n 2, 1) := by decide +kernel
theorem dX7_use_113 : decode cX7_use 113 = .ok (.iaload, 1) := by decide +kernel
theorem dX7_use_114 : decode cX7_use 114 = .ok (.ifCond .ne 30, 3) := by decide +kernel
theorem dX7_use_117 : decode cX7_use 117 = .ok (.iload_n 3, 1) := by decide +kernel
theorem dX7_use_118 : decode cX7_use 118 = .ok (.iconst 2, 1) := by decide +kernel
theorem dX7_use_119 : decode cX7_use 119 = .ok (.if_icmp .ne 28, 3) := by decide +kernel
theorem dX7_use_122 : decode cX7_use 122 = .ok (.iload 7, 2) := by decide +kernel
theorem dX7_use_124 : decode cX7_use 124 = .ok (.iconst (-1), 1) := by decide +kernel
theorem dX7_use_125 : decode cX7_use 125 = .ok (.if_icmp .eq 19, 3) := by decide +kernel
theorem dX7_use_128 : decode cX7_use 128 = .ok (.aload_n 0, 1) := by decide +kernel
theorem dX7_use_129 : decode cX7_use 129 = .ok (.getfield 26, 3) := by decide +kernel
theorem dX7_use_132 : decode cX7_use 132 = .ok (.iconst 5, 1) := by decide +kernel
theorem dX7_use_133 : decode cX7_use 133 = .ok (.iload 7, 2) := by decide +kernel
theorem dX7_use_135 : decode cX7_use 135 = .ok (.imul, 1) := by decide +kernel
theorem dX7_use_136 : decode cX7_use 136 = .ok (.iload 4, 2) := by decide +kernel
theorem dX7_use_138 : decode cX7_use 138 = .ok (.iadd, 1) := by decide +kernel
theorem dX7_use_139 : decode cX7_use 139 = .ok (.iaload, 1) := by decide +kernel
theorem dX7_use_140 : decode cX7_use 140 = .ok (.iconst 1, 1) := by decide +kernel
theorem dX7_use_141 : decode cX7_use 141 = .ok (.if_icmp .ne 6, 3) := by decide +kernel
theorem dX7_use_144 : decode cX7_use 144 = .ok (.bipush (-103), 2) := by decide +kernel
theorem dX7_use_146 : decode cX7_use 146 = .ok (.ireturn, 1) := by decide +kernel
theorem dX7_use_147 : decode cX7_use 147 = .ok (.aload_n 0, 1) := by decide +kernel
theorem dX7_use_148 : decode cX7_use 148 = .ok (.dup, 1) := by decide +kernel
theorem dX7_use_149 : decode cX7_use 149 = .ok (.getfield 108, 3) := by decide +kernel
theorem dX7_use_152 : decode cX7_use 152 = .ok (.iconst 1, 1) := by decide +kernel
theorem dX7_use_153 : decode cX7_use 153 = .ok (.iadd, 1) := by decide +kernel
theorem dX7_use_154 : decode cX7_use 154 = .ok (.putfield 108, 3) := by decide +kernel
theorem dX7_use_157 : decode cX7_use 157 = .ok (.aload_n 0, 1) := by decide +kernel
theorem dX7_use_158 : decode cX7_use 158 = .ok (.iconst 0, 1) := by decide +kernel
theorem dX7_use_159 : decode cX7_use 159 = .ok (.putfield 186, 3) := by decide +kernel
theorem dX7_use_162 : decode cX7_use 162 = .ok (.iconst 0, 1) := by decide +kernel
theorem dX7_use_163 : decode cX7_use 163 = .ok (.istore 8, 2) := by decide +kernel
theorem dX7_use_165 : decode cX7_use 165 = .ok (.iload_n 3, 1) := by decide +kernel
theorem dX7_use_166 : decode cX7_use 166 = .ok (.tableswitch 120 0 2 #[26, 52, 73], 26) := by decide +kernel
theorem dX7_use_192 : decode cX7_use 192 = .ok (.aload_n 0, 1) := by decide +kernel
theorem dX7_use_193 : decode cX7_use 193 = .ok (.aload_n 0, 1) := by decide +kernel
theorem dX7_use_194 : decode cX7_use 194 = .ok (.iload_n 1, 1) := by decide +kernel
theorem dX7_use_195 : decode cX7_use 195 = .ok (.iload_n 2, 1) := by decide +kernel
theorem dX7_use_196 : decode cX7_use 196 = .ok (.invokevirtual 198, 3) := by decide +kernel
theorem dX7_use_199 : decode cX7_use 199 = .ok (.putfield 105, 3) := by decide +kernel
theorem dX7_use_202 : decode cX7_use 202 = .ok (.aload_n 0, 1) := by decide +kernel
theorem dX7_use_203 : decode cX7_use 203 = .ok (.getfield 44, 3) := by decide +kernel
theorem dX7_use_206 : decode cX7_use 206 = .ok (.bipush 16, 2) := by decide +kernel
theorem dX7_use_208 : decode cX7_use 208 = .ok (.iload_n 1, 1) := by decide +kernel
theorem dX7_use_209 : decode cX7_use 209 = .ok (.imul, 1) := by decide +kernel
theorem dX7_use_210 : decode cX7_use 210 = .ok (.iload_n 2, 1) := by decide +kernel
theorem dX7_use_211 : decode cX7_use 211 = .ok (.iadd, 1) := by decide +kernel
theorem dX7_use_212 : decode cX7_use 212 = .ok (.iaload, 1) := by decide +kernel
theorem dX7_use_213 : decode cX7_use 213 = .ok (.istore 8, 2) := by decide +kernel
theorem dX7_use_215 : decode cX7_use 215 = .ok (.goto 76, 3) := by decide +kernel
theorem dX7_use_218 : decode cX7_use 218 = .ok (.aload_n 0, 1) := by decide +kernel
theorem dX7_use_219 : decode cX7_use 219 = .ok (.aload_n 0, 1) := by decide +kernel
theorem dX7_use_220 : decode cX7_use 220 = .ok (.iload_n 1, 1) := by decide +kernel
theorem dX7_use_221 : decode cX7_use 221 = .ok (.iload_n 2, 1) := by decide +kernel
theorem dX7_use_222 : decode cX7_use 222 = .ok (.iload 4, 2) := by decide +kernel
theorem dX7_use_224 : decode cX7_use 224 = .ok (.invokevirtual 201, 3) := by decide +kernel
theorem dX7_use_227 : decode cX7_use 227 = .ok (.putfield 105, 3) := by decide +kernel
theorem dX7_use_230 : decode cX7_use 230 = .ok (.aload_n 0, 1) := by decide +kernel
theorem dX7_use_231 : decode cX7_use 231 = .ok (.getfield 192, 3) := by decide +kernel
theorem dX7_use_234 : decode cX7_use 234 = .ok (.istore 8, 2) := by decide +kernel
theorem dX7_use_236 : decode cX7_use 236 = .ok (.goto 55, 3) := by decide +kernel
theorem dX7_use_239 : decode cX7_use 239 = .ok (.aload_n 0, 1) := by decide +kernel
theorem dX7_use_240 : decode cX7_use 240 = .ok (.aload_n 0, 1) := by decide +kernel
theorem dX7_use_241 : decode cX7_use 241 = .ok (.iload_n 1, 1) := by decide +kernel
theorem dX7_use_242 : decode cX7_use 242 = .ok (.iload 7, 2) := by decide +kernel
theorem dX7_use_244 : decode cX7_use 244 = .ok (.invokevirtual 189, 3) := by decide +kernel
theorem dX7_use_247 : decode cX7_use 247 = .ok (.putfield 105, 3) := by decide +kernel
theorem dX7_use_250 : decode cX7_use 250 = .ok (.aload_n 0, 1) := by decide +kernel
theorem dX7_use_251 : decode cX7_use 251 = .ok (.iload_n 1, 1) := by decide +kernel
theorem dX7_use_252 : decode cX7_use 252 = .ok (.iload 7, 2) := by decide +kernel
theorem dX7_use_254 : decode cX7_use 254 = .ok (.iload 4, 2) := by decide +kernel
theorem dX7_use_256 : decode cX7_use 256 = .ok (.invokevirtual 167, 3) := by decide +kernel
theorem dX7_use_259 : decode cX7_use 259 = .ok (.istore 8, 2) := by decide +kernel
theorem dX7_use_261 : decode cX7_use 261 = .ok (.aload_n 0, 1) := by decide +kernel
theorem dX7_use_262 : decode cX7_use 262 = .ok (.getfield 105, 3) := by decide +kernel
theorem dX7_use_265 : decode cX7_use 265 = .ok (.ifCond .ne 26, 3) := by decide +kernel
theorem dX7_use_268 : decode cX7_use 268 = .ok (.aload_n 0, 1) := by decide +kernel
theorem dX7_use_269 : decode cX7_use 269 = .ok (.aload_n 0, 1) := by decide +kernel
theorem dX7_use_270 : decode cX7_use 270 = .ok (.iload_n 1, 1) := by decide +kernel
theorem dX7_use_271 : decode cX7_use 271 = .ok (.iload 7, 2) := by decide +kernel
theorem dX7_use_273 : decode cX7_use 273 = .ok (.iload 4, 2) := by decide +kernel
theorem dX7_use_275 : decode cX7_use 275 = .ok (.iload 5, 2) := by decide +kernel
theorem dX7_use_277 : decode cX7_use 277 = .ok (.invokevirtual 163, 3) := by decide +kernel
theorem dX7_use_280 : decode cX7_use 280 = .ok (.putfield 105, 3) := by decide +kernel
theorem dX7_use_283 : decode cX7_use 283 = .ok (.goto 8, 3) := by decide +kernel
theorem dX7_use_286 : decode cX7_use 286 = .ok (.aload_n 0, 1) := by decide +kernel
theorem dX7_use_287 : decode cX7_use 287 = .ok (.iconst 0, 1) := by decide +kernel
theorem dX7_use_288 : decode cX7_use 288 = .ok (.putfield 105, 3) := by decide +kernel
theorem dX7_use_291 : decode cX7_use 291 = .ok (.aload_n 0, 1) := by decide +kernel
theorem dX7_use_292 : decode cX7_use 292 = .ok (.getfield 59, 3) := by decide +kernel
theorem dX7_use_295 : decode cX7_use 295 = .ok (.sipush 600, 3) := by decide +kernel
theorem dX7_use_298 : decode cX7_use 298 = .ok (.iload_n 1, 1) := by decide +kernel
theorem dX7_use_299 : decode cX7_use 299 = .ok (.imul, 1) := by decide +kernel
theorem dX7_use_300 : decode cX7_use 300 = .ok (.aload_n 0, 1) := by decide +kernel
theorem dX7_use_301 : decode cX7_use 301 = .ok (.getfield 56, 3) := by decide +kernel
theorem dX7_use_304 : decode cX7_use 304 = .ok (.iload_n 1, 1) := by decide +kernel
theorem dX7_use_305 : decode cX7_use 305 = .ok (.iaload, 1) := by decide +kernel
theorem dX7_use_306 : decode cX7_use 306 = .ok (.iadd, 1) := by decide +kernel
theorem dX7_use_307 : decode cX7_use 307 = .ok (.iload_n 3, 1) := by decide +kernel
theorem dX7_use_308 : decode cX7_use 308 = .ok (.ifCond .ne 14, 3) := by decide +kernel
theorem dX7_use_311 : decode cX7_use 311 = .ok (.aload_n 0, 1) := by decide +kernel
theorem dX7_use_312 : decode cX7_use 312 = .ok (.getfield 105, 3) := by decide +kernel
theorem dX7_use_315 : decode cX7_use 315 = .ok (.ifCond .ne 7, 3) := by decide +kernel
theorem dX7_use_318 : decode cX7_use 318 = .ok (.iload_n 2, 1) := by decide +kernel
theorem dX7_use_319 : decode cX7_use 319 = .ok (.goto 4, 3) := by decide +kernel
theorem dX7_use_322 : decode cX7_use 322 = .ok (.iconst (-1), 1) := by decide +kernel
theorem dX7_use_323 : decode cX7_use 323 = .ok (.iastore, 1) := by decide +kernel
theorem dX7_use_324 : decode cX7_use 324 = .ok (.aload_n 0, 1) := by decide +kernel
theorem dX7_use_325 : decode cX7_use 325 = .ok (.getfield 62, 3) := by decide +kernel
theorem dX7_use_328 : decode cX7_use 328 = .ok (.sipush 600, 3) := by decide +kernel
theorem dX7_use_331 : decode cX7_use 331 = .ok (.iload_n 1, 1) := by decide +kernel
theorem dX7_use_332 : decode cX7_use 332 = .ok (.imul, 1) := by decide +kernel
theorem dX7_use_333 : decode cX7_use 333 = .ok (.aload_n 0, 1) := by decide +kernel
theorem dX7_use_334 : decode cX7_use 334 = .ok (.getfield 56, 3) := by decide +kernel
theorem dX7_use_337 : decode cX7_use 337 = .ok (.iload_n 1, 1) := by decide +kernel
theorem dX7_use_338 : decode cX7_use 338 = .ok (.iaload, 1) := by decide +kernel
theorem dX7_use_339 : decode cX7_use 339 = .ok (.iadd, 1) := by decide +kernel
theorem dX7_use_340 : decode cX7_use 340 = .ok (.aload_n 0, 1) := by decide +kernel
theorem dX7_use_341 : decode cX7_use 341 = .ok (.getfield 186, 3) := by decide +kernel
theorem dX7_use_344 : decode cX7_use 344 = .ok (.iastore, 1) := by decide +kernel
theorem dX7_use_345 : decode cX7_use 345 = .ok (.aload_n 0, 1) := by decide +kernel
theorem dX7_use_346 : decode cX7_use 346 = .ok (.getfield 56, 3) := by decide +kernel
theorem dX7_use_349 : decode cX7_use 349 = .ok (.iload_n 1, 1) := by decide +kernel
theorem dX7_use_350 : decode cX7_use 350 = .ok (.dup2, 1) := by decide +kernel
theorem dX7_use_351 : decode cX7_use 351 = .ok (.iaload, 1) := by decide +kernel
theorem dX7_use_352 : decode cX7_use 352 = .ok (.iconst 1, 1) := by decide +kernel
theorem dX7_use_353 : decode cX7_use 353 = .ok (.iadd, 1) := by decide +kernel
theorem dX7_use_354 : decode cX7_use 354 = .ok (.iastore, 1) := by decide +kernel
theorem dX7_use_355 : decode cX7_use 355 = .ok (.aload_n 0, 1) := by decide +kernel
theorem dX7_use_356 : decode cX7_use 356 = .ok (.getfield 105, 3) := by decide +kernel
theorem dX7_use_359 : decode cX7_use 359 = .ok (.ifCond .ne 8, 3) := by decide +kernel
theorem dX7_use_362 : decode cX7_use 362 = .ok (.iload 8, 2) := by decide +kernel
theorem dX7_use_364 : decode cX7_use 364 = .ok (.goto 4, 3) := by decide +kernel
theorem dX7_use_367 : decode cX7_use 367 = .ok (.iconst 0, 1) := by decide +kernel
theorem dX7_use_368 : decode cX7_use 368 = .ok (.ireturn, 1) := by decide +kernel
theorem dX7_failure_0 : decode cX7_failure 0 = .ok (.aload_n 0, 1) := by decide +kernel
theorem dX7_failure_1 : decode cX7_failure 1 = .ok (.iconst 0, 1) := by decide +kernel
theorem dX7_failure_2 : decode cX7_failure 2 = .ok (.putfield 120, 3) := by decide +kernel
theorem dX7_failure_5 : decode cX7_failure 5 = .ok (.aload_n 0, 1) := by decide +kernel
theorem dX7_failure_6 : decode cX7_failure 6 = .ok (.getfield 105, 3) := by decide +kernel
theorem dX7_failure_9 : decode cX7_failure 9 = .ok (.ireturn, 1) := by decide +kernel
theorem dX7_told_0 : decode cX7_told 0 = .ok (.aload_n 0, 1) := by decide +kernel
theorem dX7_told_1 : decode cX7_told 1 = .ok (.iconst 0, 1) := by decide +kernel
theorem dX7_told_2 : decode cX7_told 2 = .ok (.putfield 120, 3) := by decide +kernel
theorem dX7_told_5 : decode cX7_told 5 = .ok (.iload_n 1, 1) := by decide +kernel
theorem dX7_told_6 : decode cX7_told 6 = .ok (.invokestatic 195, 3) := by decide +kernel
theorem dX7_told_9 : decode cX7_told 9 = .ok (.ifCond .eq 11, 3) := by decide +kernel
theorem dX7_told_12 : decode cX7_told 12 = .ok (.aload_n 0, 1) := by decide +kernel
theorem dX7_told_13 : decode cX7_told 13 = .ok (.iload_n 2, 1) := by decide +kernel
theorem dX7_told_14 : decode cX7_told 14 = .ok (.invokevirtual 127, 3) := by decide +kernel
theorem dX7_told_17 : decode cX7_told 17 = .ok (.ifCond .ne 6, 3) := by decide +kernel
theorem dX7_told_20 : decode cX7_told 20 = .ok (.bipush (-101), 2) := by decide +kernel
theorem dX7_told_22 : decode cX7_told 22 = .ok (.ireturn, 1) := by decide +kernel
theorem dX7_told_23 : decode cX7_told 23 = .ok (.iload_n 3, 1) := by decide +kernel
theorem dX7_told_24 : decode cX7_told 24 = .ok (.ifCond .ne 15, 3) := by decide +kernel
theorem dX7_told_27 : decode cX7_told 27 = .ok (.aload_n 0, 1) := by decide +kernel
theorem dX7_told_28 : decode cX7_told 28 = .ok (.getfield 38, 3) := by decide +kernel
theorem dX7_told_31 : decode cX7_told 31 = .ok (.aload_n 0, 1) := by decide +kernel
theorem dX7_told_32 : decode cX7_told 32 = .ok (.iload_n 1, 1) := by decide +kernel
theorem dX7_told_33 : decode cX7_told 33 = .ok (.iload_n 2, 1) := by decide +kernel
theorem dX7_told_34 : decode cX7_told 34 = .ok (.invokevirtual 156, 3) := by decide +kernel
theorem dX7_told_37 : decode cX7_told 37 = .ok (.iaload, 1) := by decide +kernel
theorem dX7_told_38 : decode cX7_told 38 = .ok (.ireturn, 1) := by decide +kernel
theorem dX7_told_39 : decode cX7_told 39 = .ok (.iload_n 3, 1) := by decide +kernel
theorem dX7_told_40 : decode cX7_told 40 = .ok (.iconst 1, 1) := by decide +kernel
theorem dX7_told_41 : decode cX7_told 41 = .ok (.if_icmp .ne 15, 3) := by decide +kernel
theorem dX7_told_44 : decode cX7_told 44 = .ok (.aload_n 0, 1) := by decide +kernel
theorem dX7_told_45 : decode cX7_told 45 = .ok (.getfield 44, 3) := by decide +kernel
theorem dX7_told_48 : decode cX7_told 48 = .ok (.bipush 16, 2) := by decide +kernel
theorem dX7_told_50 : decode cX7_told 50 = .ok (.iload_n 1, 1) := by decide +kernel
theorem dX7_told_51 : decode cX7_told 51 = .ok (.imul, 1) := by decide +kernel
theorem dX7_told_52 : decode cX7_told 52 = .ok (.iload_n 2, 1) := by decide +kernel
theorem dX7_told_53 : decode cX7_told 53 = .ok (.iadd, 1) := by decide +kernel
theorem dX7_told_54 : decode cX7_told 54 = .ok (.iaload, 1) := by decide +kernel
theorem dX7_told_55 : decode cX7_told 55 = .ok (.ireturn, 1) := by decide +kernel
theorem dX7_told_56 : decode cX7_told 56 = .ok (.iconst 0, 1) := by decide +kernel
theorem dX7_told_57 : decode cX7_told 57 = .ok (.istore 4, 2) := by decide +kernel
theorem dX7_told_59 : decode cX7_told 59 = .ok (.iconst 0, 1) := by decide +kernel
theorem dX7_told_60 : decode cX7_told 60 = .ok (.istore 5, 2) := by decide +kernel
theorem dX7_told_62 : decode cX7_told 62 = .ok (.iload 5, 2) := by decide +kernel
theorem dX7_told_64 : decode cX7_told 64 = .ok (.iconst 5, 1) := by decide +kernel
theorem dX7_told_65 : decode cX7_told 65 = .ok (.if_icmp .ge 45, 3) := by decide +kernel
theorem dX7_told_68 : decode cX7_told 68 = .ok (.iload 4, 2) := by decide +kernel
theorem dX7_told_70 : decode cX7_told 70 = .ok (.aload_n 0, 1) := by decide +kernel
theorem dX7_told_71 : decode cX7_told 71 = .ok (.getfield 26, 3) := by decide +kernel
theorem dX7_told_74 : decode cX7_told 74 = .ok (.iconst 5, 1) := by decide +kernel
theorem dX7_told_75 : decode cX7_told 75 = .ok (.iload_n 2, 1) := by decide +kernel
theorem dX7_told_76 : decode cX7_told 76 = .ok (.imul, 1) := by decide +kernel
theorem dX7_told_77 : decode cX7_told 77 = .ok (.iload 5, 2) := by decide +kernel
theorem dX7_told_79 : decode cX7_told 79 = .ok (.iadd, 1) := by decide +kernel
theorem dX7_told_80 : decode cX7_told 80 = .ok (.iaload, 1) := by decide +kernel
theorem dX7_told_81 : decode cX7_told 81 = .ok (.iconst 2, 1) := by decide +kernel
theorem dX7_told_82 : decode cX7_told 82 = .ok (.if_icmp .ne 18, 3) := by decide +kernel
theorem dX7_told_85 : decode cX7_told 85 = .ok (.aload_n 0, 1) := by decide +kernel
theorem dX7_told_86 : decode cX7_told 86 = .ok (.iload_n 1, 1) := by decide +kernel
theorem dX7_told_87 : decode cX7_told 87 = .ok (.iload_n 2, 1) := by decide +kernel
theorem dX7_told_88 : decode cX7_told 88 = .ok (.iload 5, 2) := by decide +kernel
theorem dX7_told_90 : decode cX7_told 90 = .ok (.invokevirtual 167, 3) := by decide +kernel
theorem dX7_told_93 : decode cX7_told 93 = .ok (.ifCond .eq 7, 3) := by decide +kernel
theorem dX7_told_96 : decode cX7_told 96 = .ok (.iconst 1, 1) := by decide +kernel
theorem dX7_told_97 : decode cX7_told 97 = .ok (.goto 4, 3) := by decide +kernel
theorem dX7_told_100 : decode cX7_told 100 = .ok (.iconst 0, 1) := by decide +kernel
theorem dX7_told_101 : decode cX7_told 101 = .ok (.iadd, 1) := by decide +kernel
theorem dX7_told_102 : decode cX7_told 102 = .ok (.istore 4, 2) := by decide +kernel
theorem dX7_told_104 : decode cX7_told 104 = .ok (.iinc 5 1, 3) := by decide +kernel
theorem dX7_told_107 : decode cX7_told 107 = .ok (.goto (-45), 3) := by decide +kernel
theorem dX7_told_110 : decode cX7_told 110 = .ok (.iload_n 3, 1) := by decide +kernel
theorem dX7_told_111 : decode cX7_told 111 = .ok (.iconst 2, 1) := by decide +kernel
theorem dX7_told_112 : decode cX7_told 112 = .ok (.if_icmp .ne 8, 3) := by decide +kernel
theorem dX7_told_115 : decode cX7_told 115 = .ok (.iload 4, 2) := by decide +kernel
theorem dX7_told_117 : decode cX7_told 117 = .ok (.goto 5, 3) := by decide +kernel
theorem dX7_told_120 : decode cX7_told 120 = .ok (.bipush (-102), 2) := by decide +kernel
theorem dX7_told_122 : decode cX7_told 122 = .ok (.ireturn, 1) := by decide +kernel
theorem dX7_peek_0 : decode cX7_peek 0 = .ok (.aload_n 0, 1) := by decide +kernel
theorem dX7_peek_1 : decode cX7_peek 1 = .ok (.iconst 0, 1) := by decide +kernel
theorem dX7_peek_2 : decode cX7_peek 2 = .ok (.putfield 120, 3) := by decide +kernel
theorem dX7_peek_5 : decode cX7_peek 5 = .ok (.iload_n 1, 1) := by decide +kernel
theorem dX7_peek_6 : decode cX7_peek 6 = .ok (.invokestatic 195, 3) := by decide +kernel
theorem dX7_peek_9 : decode cX7_peek 9 = .ok (.ifCond .eq 11, 3) := by decide +kernel
theorem dX7_peek_12 : decode cX7_peek 12 = .ok (.aload_n 0, 1) := by decide +kernel
theorem dX7_peek_13 : decode cX7_peek 13 = .ok (.iload_n 2, 1) := by decide +kernel
theorem dX7_peek_14 : decode cX7_peek 14 = .ok (.invokevirtual 127, 3) := by decide +kernel
theorem dX7_peek_17 : decode cX7_peek 17 = .ok (.ifCond .ne 6, 3) := by decide +kernel
theorem dX7_peek_20 : decode cX7_peek 20 = .ok (.bipush (-101), 2) := by decide +kernel
theorem dX7_peek_22 : decode cX7_peek 22 = .ok (.ireturn, 1) := by decide +kernel
theorem dX7_peek_23 : decode cX7_peek 23 = .ok (.iload_n 3, 1) := by decide +kernel
theorem dX7_peek_24 : decode cX7_peek 24 = .ok (.iconst 0, 1) := by decide +kernel
theorem dX7_peek_25 : decode cX7_peek 25 = .ok (.iconst 4, 1) := by decide +kernel
theorem dX7_peek_26 : decode cX7_peek 26 = .ok (.invokestatic 123, 3) := by decide +kernel
theorem dX7_peek_29 : decode cX7_peek 29 = .ok (.ifCond .eq 27, 3) := by decide +kernel
theorem dX7_peek_32 : decode cX7_peek 32 = .ok (.aload_n 0, 1) := by decide +kernel
theorem dX7_peek_33 : decode cX7_peek 33 = .ok (.getfield 26, 3) := by decide +kernel
theorem dX7_peek_36 : decode cX7_peek 36 = .ok (.iconst 5, 1) := by decide +kernel
theorem dX7_peek_37 : decode cX7_peek 37 = .ok (.iload_n 2, 1) := by decide +kernel
theorem dX7_peek_38 : decode cX7_peek 38 = .ok (.imul, 1) := by decide +kernel
theorem dX7_peek_39 : decode cX7_peek 39 = .ok (.iload_n 3, 1) := by decide +kernel
theorem dX7_peek_40 : decode cX7_peek 40 = .ok (.iadd, 1) := by decide +kernel
theorem dX7_peek_41 : decode cX7_peek 41 = .ok (.iaload, 1) := by decide +kernel
theorem dX7_peek_42 : decode cX7_peek 42 = .ok (.iconst 2, 1) := by decide +kernel
theorem dX7_peek_43 : decode cX7_peek 43 = .ok (.if_icmp .ne 13, 3) := by decide +kernel
theorem dX7_peek_46 : decode cX7_peek 46 = .ok (.aload_n 0, 1) := by decide +kernel
theorem dX7_peek_47 : decode cX7_peek 47 = .ok (.iload_n 1, 1) := by decide +kernel
theorem dX7_peek_48 : decode cX7_peek 48 = .ok (.iload_n 2, 1) := by decide +kernel
theorem dX7_peek_49 : decode cX7_peek 49 = .ok (.iload_n 3, 1) := by decide +kernel
theorem dX7_peek_50 : decode cX7_peek 50 = .ok (.invokevirtual 167, 3) := by decide +kernel
theorem dX7_peek_53 : decode cX7_peek 53 = .ok (.goto 5, 3) := by decide +kernel
theorem dX7_peek_56 : decode cX7_peek 56 = .ok (.bipush (-103), 2) := by decide +kernel
theorem dX7_peek_58 : decode cX7_peek 58 = .ok (.ireturn, 1) := by decide +kernel
theorem dX7_start_0 : decode cX7_start 0 = .ok (.aload_n 0, 1) := by decide +kernel
theorem dX7_start_1 : decode cX7_start 1 = .ok (.iconst 0, 1) := by decide +kernel
theorem dX7_start_2 : decode cX7_start 2 = .ok (.putfield 120, 3) := by decide +kernel
theorem dX7_start_5 : decode cX7_start 5 = .ok (.iload_n 1, 1) := by decide +kernel
theorem dX7_start_6 : decode cX7_start 6 = .ok (.iconst 0, 1) := by decide +kernel
theorem dX7_start_7 : decode cX7_start 7 = .ok (.aload_n 0, 1) := by decide +kernel
theorem dX7_start_8 : decode cX7_start 8 = .ok (.getfield 111, 3) := by decide +kernel
theorem dX7_start_11 : decode cX7_start 11 = .ok (.iconst 1, 1) := by decide +kernel
theorem dX7_start_12 : decode cX7_start 12 = .ok (.isub, 1) := by decide +kernel
theorem dX7_start_13 : decode cX7_start 13 = .ok (.invokestatic 123, 3) := by decide +kernel
theorem dX7_start_16 : decode cX7_start 16 = .ok (.ifCond .ne 5, 3) := by decide +kernel
theorem dX7_start_19 : decode cX7_start 19 = .ok (.iconst (-1), 1) := by decide +kernel
theorem dX7_start_20 : decode cX7_start 20 = .ok (.ireturn, 1) := by decide +kernel
theorem dX7_start_21 : decode cX7_start 21 = .ok (.iload_n 2, 1) := by decide +kernel
theorem dX7_start_22 : decode cX7_start 22 = .ok (.iconst 0, 1) := by decide +kernel
theorem dX7_start_23 : decode cX7_start 23 = .ok (.iconst 3, 1) := by decide +kernel
theorem dX7_start_24 : decode cX7_start 24 = .ok (.invokestatic 123, 3) := by decide +kernel
theorem dX7_start_27 : decode cX7_start 27 = .ok (.ifCond .eq 16, 3) := by decide +kernel
theorem dX7_start_30 : decode cX7_start 30 = .ok (.aload_n 0, 1) := by decide +kernel
theorem dX7_start_31 : decode cX7_start 31 = .ok (.getfield 50, 3) := by decide +kernel
theorem dX7_start_34 : decode cX7_start 34 = .ok (.iconst 4, 1) := by decide +kernel
theorem dX7_start_35 : decode cX7_start 35 = .ok (.iload_n 1, 1) := by decide +kernel
theorem dX7_start_36 : decode cX7_start 36 = .ok (.imul, 1) := by decide +kernel
theorem dX7_start_37 : decode cX7_start 37 = .ok (.iload_n 2, 1) := by decide +kernel
theorem dX7_start_38 : decode cX7_start 38 = .ok (.iadd, 1) := by decide +kernel
theorem dX7_start_39 : decode cX7_start 39 = .ok (.iaload, 1) := by decide +kernel
theorem dX7_start_40 : decode cX7_start 40 = .ok (.goto 5, 3) := by decide +kernel
theorem dX7_start_43 : decode cX7_start 43 = .ok (.bipush (-102), 2) := by decide +kernel
theorem dX7_start_45 : decode cX7_start 45 = .ok (.ireturn, 1) := by decide +kernel
theorem dX7_message_0 : decode cX7_message 0 = .ok (.aload_n 0, 1) := by decide +kernel
theorem dX7_message_1 : decode cX7_message 1 = .ok (.iload_n 1, 1) := by decide +kernel
theorem dX7_message_2 : decode cX7_message 2 = .ok (.iconst 0, 1) := by decide +kernel
theorem dX7_message_3 : decode cX7_message 3 = .ok (.aload_n 0, 1) := by decide +kernel
theorem dX7_message_4 : decode cX7_message 4 = .ok (.getfield 114, 3) := by decide +kernel
theorem dX7_message_7 : decode cX7_message 7 = .ok (.iconst 1, 1) := by decide +kernel
theorem dX7_message_8 : decode cX7_message 8 = .ok (.isub, 1) := by decide +kernel
theorem dX7_message_9 : decode cX7_message 9 = .ok (.invokestatic 123, 3) := by decide +kernel
theorem dX7_message_12 : decode cX7_message 12 = .ok (.ifCond .eq 7, 3) := by decide +kernel
theorem dX7_message_15 : decode cX7_message 15 = .ok (.iconst 0, 1) := by decide +kernel
theorem dX7_message_16 : decode cX7_message 16 = .ok (.goto 4, 3) := by decide +kernel
theorem dX7_message_19 : decode cX7_message 19 = .ok (.iconst 1, 1) := by decide +kernel
theorem dX7_message_20 : decode cX7_message 20 = .ok (.putfield 120, 3) := by decide +kernel
theorem dX7_message_23 : decode cX7_message 23 = .ok (.aload_n 0, 1) := by decide +kernel
theorem dX7_message_24 : decode cX7_message 24 = .ok (.getfield 120, 3) := by decide +kernel
theorem dX7_message_27 : decode cX7_message 27 = .ok (.ifCond .le 7, 3) := by decide +kernel
theorem dX7_message_30 : decode cX7_message 30 = .ok (.iconst 0, 1) := by decide +kernel
theorem dX7_message_31 : decode cX7_message 31 = .ok (.goto 9, 3) := by decide +kernel
theorem dX7_message_34 : decode cX7_message 34 = .ok (.aload_n 0, 1) := by decide +kernel
theorem dX7_message_35 : decode cX7_message 35 = .ok (.getfield 53, 3) := by decide +kernel
theorem dX7_message_38 : decode cX7_message 38 = .ok (.iload_n 1, 1) := by decide +kernel
theorem dX7_message_39 : decode cX7_message 39 = .ok (.iaload, 1) := by decide +kernel
theorem dX7_message_40 : decode cX7_message 40 = .ok (.ireturn, 1) := by decide +kernel
theorem dX7_steps_0 : decode cX7_steps 0 = .ok (.aload_n 0, 1) := by decide +kernel
theorem dX7_steps_1 : decode cX7_steps 1 = .ok (.iconst 0, 1) := by decide +kernel
theorem dX7_steps_2 : decode cX7_steps 2 = .ok (.putfield 120, 3) := by decide +kernel
theorem dX7_steps_5 : decode cX7_steps 5 = .ok (.iload_n 1, 1) := by decide +kernel
theorem dX7_steps_6 : decode cX7_steps 6 = .ok (.invokestatic 195, 3) := by decide +kernel
theorem dX7_steps_9 : decode cX7_steps 9 = .ok (.ifCond .ne 6, 3) := by decide +kernel
theorem dX7_steps_12 : decode cX7_steps 12 = .ok (.bipush (-101), 2) := by decide +kernel
theorem dX7_steps_14 : decode cX7_steps 14 = .ok (.ireturn, 1) := by decide +kernel
theorem dX7_steps_15 : decode cX7_steps 15 = .ok (.iload_n 2, 1) := by decide +kernel
theorem dX7_steps_16 : decode cX7_steps 16 = .ok (.iconst 0, 1) := by decide +kernel
theorem dX7_steps_17 : decode cX7_steps 17 = .ok (.ldc 204, 2) := by decide +kernel
theorem dX7_steps_19 : decode cX7_steps 19 = .ok (.invokestatic 123, 3) := by decide +kernel
theorem dX7_steps_22 : decode cX7_steps 22 = .ok (.ifCond .ne 6, 3) := by decide +kernel
theorem dX7_steps_25 : decode cX7_steps 25 = .ok (.bipush (-102), 2) := by decide +kernel
theorem dX7_steps_27 : decode cX7_steps 27 = .ok (.ireturn, 1) := by decide +kernel
theorem dX7_steps_28 : decode cX7_steps 28 = .ok (.aload_n 0, 1) := by decide +kernel
theorem dX7_steps_29 : decode cX7_steps 29 = .ok (.getfield 47, 3) := by decide +kernel
theorem dX7_steps_32 : decode cX7_steps 32 = .ok (.iload_n 1, 1) := by decide +kernel
theorem dX7_steps_33 : decode cX7_steps 33 = .ok (.iaload, 1) := by decide +kernel
theorem dX7_steps_34 : decode cX7_steps 34 = .ok (.istore_n 3, 1) := by decide +kernel
theorem dX7_steps_35 : decode cX7_steps 35 = .ok (.aload_n 0, 1) := by decide +kernel
theorem dX7_steps_36 : decode cX7_steps 36 = .ok (.getfield 47, 3) := by decide +kernel
theorem dX7_steps_39 : decode cX7_steps 39 = .ok (.iload_n 1, 1) := by decide +kernel
theorem dX7_steps_40 : decode cX7_steps 40 = .ok (.iload_n 2, 1) := by decide +kernel
theorem dX7_steps_41 : decode cX7_steps 41 = .ok (.iastore, 1) := by decide +kernel
theorem dX7_steps_42 : decode cX7_steps 42 = .ok (.iload_n 3, 1) := by decide +kernel
theorem dX7_steps_43 : decode cX7_steps 43 = .ok (.ireturn, 1) := by decide +kernel
theorem dX7_undo_0 : decode cX7_undo 0 = .ok (.aload_n 0, 1) := by decide +kernel
theorem dX7_undo_1 : decode cX7_undo 1 = .ok (.iconst 0, 1) := by decide +kernel
theorem dX7_undo_2 : decode cX7_undo 2 = .ok (.putfield 120, 3) := by decide +kernel
theorem dX7_undo_5 : decode cX7_undo 5 = .ok (.iload_n 1, 1) := by decide +kernel
theorem dX7_undo_6 : decode cX7_undo 6 = .ok (.invokestatic 195, 3) := by decide +kernel
theorem dX7_undo_9 : decode cX7_undo 9 = .ok (.ifCond .ne 6, 3) := by decide +kernel
theorem dX7_undo_12 : decode cX7_undo 12 = .ok (.bipush (-101), 2) := by decide +kernel
theorem dX7_undo_14 : decode cX7_undo 14 = .ok (.ireturn, 1) := by decide +kernel
theorem dX7_undo_15 : decode cX7_undo 15 = .ok (.aload_n 0, 1) := by decide +kernel
theorem dX7_undo_16 : decode cX7_undo 16 = .ok (.getfield 56, 3) := by decide +kernel
theorem dX7_undo_19 : decode cX7_undo 19 = .ok (.iload_n 1, 1) := by decide +kernel
theorem dX7_undo_20 : decode cX7_undo 20 = .ok (.iaload, 1) := by decide +kernel
theorem dX7_undo_21 : decode cX7_undo 21 = .ok (.ifCond .ne 5, 3) := by decide +kernel
theorem dX7_undo_24 : decode cX7_undo 24 = .ok (.iconst (-1), 1) := by decide +kernel
theorem dX7_undo_25 : decode cX7_undo 25 = .ok (.ireturn, 1) := by decide +kernel
theorem dX7_undo_26 : decode cX7_undo 26 = .ok (.aload_n 0, 1) := by decide +kernel
theorem dX7_undo_27 : decode cX7_undo 27 = .ok (.getfield 56, 3) := by decide +kernel
theorem dX7_undo_30 : decode cX7_undo 30 = .ok (.iload_n 1, 1) := by decide +kernel
theorem dX7_undo_31 : decode cX7_undo 31 = .ok (.dup2, 1) := by decide +kernel
theorem dX7_undo_32 : decode cX7_undo 32 = .ok (.iaload, 1) := by decide +kernel
theorem dX7_undo_33 : decode cX7_undo 33 = .ok (.iconst 1, 1) := by decide +kernel
theorem dX7_undo_34 : decode cX7_undo 34 = .ok (.isub, 1) := by decide +kernel
theorem dX7_undo_35 : decode cX7_undo 35 = .ok (.iastore, 1) := by decide +kernel
theorem dX7_undo_36 : decode cX7_undo 36 = .ok (.sipush 600, 3) := by decide +kernel
theorem dX7_undo_39 : decode cX7_undo 39 = .ok (.iload_n 1, 1) := by decide +kernel
theorem dX7_undo_40 : decode cX7_undo 40 = .ok (.imul, 1) := by decide +kernel
theorem dX7_undo_41 : decode cX7_undo 41 = .ok (.aload_n 0, 1) := by decide +kernel
theorem dX7_undo_42 : decode cX7_undo 42 = .ok (.getfield 56, 3) := by decide +kernel
theorem dX7_undo_45 : decode cX7_undo 45 = .ok (.iload_n 1, 1) := by decide +kernel
theorem dX7_undo_46 : decode cX7_undo 46 = .ok (.iaload, 1) := by decide +kernel
theorem dX7_undo_47 : decode cX7_undo 47 = .ok (.iadd, 1) := by decide +kernel
theorem dX7_undo_48 : decode cX7_undo 48 = .ok (.istore_n 2, 1) := by decide +kernel
theorem dX7_undo_49 : decode cX7_undo 49 = .ok (.aload_n 0, 1) := by decide +kernel
theorem dX7_undo_50 : decode cX7_undo 50 = .ok (.getfield 59, 3) := by decide +kernel
theorem dX7_undo_53 : decode cX7_undo 53 = .ok (.iload_n 2, 1) := by decide +kernel
theorem dX7_undo_54 : decode cX7_undo 54 = .ok (.iaload, 1) := by decide +kernel
theorem dX7_undo_55 : decode cX7_undo 55 = .ok (.iconst (-1), 1) := by decide +kernel
theorem dX7_undo_56 : decode cX7_undo 56 = .ok (.if_icmp .eq 23, 3) := by decide +kernel
theorem dX7_undo_59 : decode cX7_undo 59 = .ok (.aload_n 0, 1) := by decide +kernel
theorem dX7_undo_60 : decode cX7_undo 60 = .ok (.getfield 44, 3) := by decide +kernel
theorem dX7_undo_63 : decode cX7_undo 63 = .ok (.bipush 16, 2) := by decide +kernel
theorem dX7_undo_65 : decode cX7_undo 65 = .ok (.iload_n 1, 1) := by decide +kernel
theorem dX7_undo_66 : decode cX7_undo 66 = .ok (.imul, 1) := by decide +kernel
theorem dX7_undo_67 : decode cX7_undo 67 = .ok (.aload_n 0, 1) := by decide +kernel
theorem dX7_undo_68 : decode cX7_undo 68 = .ok (.getfield 59, 3) := by decide +kernel
theorem dX7_undo_71 : decode cX7_undo 71 = .ok (.iload_n 2, 1) := by decide +kernel
theorem dX7_undo_72 : decode cX7_undo 72 = .ok (.iaload, 1) := by decide +kernel
theorem dX7_undo_73 : decode cX7_undo 73 = .ok (.iadd, 1) := by decide +kernel
theorem dX7_undo_74 : decode cX7_undo 74 = .ok (.dup2, 1) := by decide +kernel
theorem dX7_undo_75 : decode cX7_undo 75 = .ok (.iaload, 1) := by decide +kernel
theorem dX7_undo_76 : decode cX7_undo 76 = .ok (.iconst 1, 1) := by decide +kernel
theorem dX7_undo_77 : decode cX7_undo 77 = .ok (.isub, 1) := by decide +kernel
theorem dX7_undo_78 : decode cX7_undo 78 = .ok (.iastore, 1) := by decide +kernel
theorem dX7_undo_79 : decode cX7_undo 79 = .ok (.aload_n 0, 1) := by decide +kernel
theorem dX7_undo_80 : decode cX7_undo 80 = .ok (.getfield 62, 3) := by decide +kernel
theorem dX7_undo_83 : decode cX7_undo 83 = .ok (.iload_n 2, 1) := by decide +kernel
theorem dX7_undo_84 : decode cX7_undo 84 = .ok (.iaload, 1) := by decide +kernel
theorem dX7_undo_85 : decode cX7_undo 85 = .ok (.ireturn, 1) := by decide +kernel
theorem dX7_restart_0 : decode cX7_restart 0 = .ok (.aload_n 0, 1) := by decide +kernel
theorem dX7_restart_1 : decode cX7_restart 1 = .ok (.iconst 0, 1) := by decide +kernel
theorem dX7_restart_2 : decode cX7_restart 2 = .ok (.putfield 120, 3) := by decide +kernel
theorem dX7_restart_5 : decode cX7_restart 5 = .ok (.iload_n 1, 1) := by decide +kernel
theorem dX7_restart_6 : decode cX7_restart 6 = .ok (.invokestatic 195, 3) := by decide +kernel
theorem dX7_restart_9 : decode cX7_restart 9 = .ok (.ifCond .ne 6, 3) := by decide +kernel
theorem dX7_restart_12 : decode cX7_restart 12 = .ok (.bipush (-101), 2) := by decide +kernel
theorem dX7_restart_14 : decode cX7_restart 14 = .ok (.ireturn, 1) := by decide +kernel
theorem dX7_restart_15 : decode cX7_restart 15 = .ok (.iconst 0, 1) := by decide +kernel
theorem dX7_restart_16 : decode cX7_restart 16 = .ok (.istore_n 2, 1) := by decide +kernel
theorem dX7_restart_17 : decode cX7_restart 17 = .ok (.iconst 0, 1) := by decide +kernel
theorem dX7_restart_18 : decode cX7_restart 18 = .ok (.istore_n 3, 1) := by decide +kernel
theorem dX7_restart_19 : decode cX7_restart 19 = .ok (.iload_n 3, 1) := by decide +kernel
theorem dX7_restart_20 : decode cX7_restart 20 = .ok (.aload_n 0, 1) := by decide +kernel
theorem dX7_restart_21 : decode cX7_restart 21 = .ok (.getfield 101, 3) := by decide +kernel
theorem dX7_restart_24 : decode cX7_restart 24 = .ok (.if_icmp .ge 88, 3) := by decide +kernel
theorem dX7_restart_27 : decode cX7_restart 27 = .ok (.bipush 16, 2) := by decide +kernel
theorem dX7_restart_29 : decode cX7_restart 29 = .ok (.iload_n 1, 1) := by decide +kernel
theorem dX7_restart_30 : decode cX7_restart 30 = .ok (.imul, 1) := by decide +kernel
theorem dX7_restart_31 : decode cX7_restart 31 = .ok (.iload_n 3, 1) := by decide +kernel
theorem dX7_restart_32 : decode cX7_restart 32 = .ok (.iadd, 1) := by decide +kernel
theorem dX7_restart_33 : decode cX7_restart 33 = .ok (.istore 4, 2) := by decide +kernel
theorem dX7_restart_35 : decode cX7_restart 35 = .ok (.aload_n 0, 1) := by decide +kernel
theorem dX7_restart_36 : decode cX7_restart 36 = .ok (.getfield 44, 3) := by decide +kernel
theorem dX7_restart_39 : decode cX7_restart 39 = .ok (.iload 4, 2) := by decide +kernel
theorem dX7_restart_41 : decode cX7_restart 41 = .ok (.iconst 0, 1) := by decide +kernel
theorem dX7_restart_42 : decode cX7_restart 42 = .ok (.iastore, 1) := by decide +kernel
theorem dX7_restart_43 : decode cX7_restart 43 = .ok (.aload_n 0, 1) := by decide +kernel
theorem dX7_restart_44 : decode cX7_restart 44 = .ok (.getfield 16, 3) := by decide +kernel
theorem dX7_restart_47 : decode cX7_restart 47 = .ok (.iload_n 3, 1) := by decide +kernel
theorem dX7_restart_48 : decode cX7_restart 48 = .ok (.baload, 1) := by decide +kernel
theorem dX7_restart_49 : decode cX7_restart 49 = .ok (.ifCond .ne 57, 3) := by decide +kernel
theorem dX7_restart_52 : decode cX7_restart 52 = .ok (.iload_n 2, 1) := by decide +kernel
theorem dX7_restart_53 : decode cX7_restart 53 = .ok (.aload_n 0, 1) := by decide +kernel
theorem dX7_restart_54 : decode cX7_restart 54 = .ok (.getfield 38, 3) := by decide +kernel
theorem dX7_restart_57 : decode cX7_restart 57 = .ok (.iload 4, 2) := by decide +kernel
theorem dX7_restart_59 : decode cX7_restart 59 = .ok (.iaload, 1) := by decide +kernel
theorem dX7_restart_60 : decode cX7_restart 60 = .ok (.ifCond .ne 7, 3) := by decide +kernel
theorem dX7_restart_63 : decode cX7_restart 63 = .ok (.iconst 0, 1) := by decide +kernel
theorem dX7_restart_64 : decode cX7_restart 64 = .ok (.goto 4, 3) := by decide +kernel
theorem dX7_restart_67 : decode cX7_restart 67 = .ok (.iconst 1, 1) := by decide +kernel
theorem dX7_restart_68 : decode cX7_restart 68 = .ok (.iadd, 1) := by decide +kernel
theorem dX7_restart_69 : decode cX7_restart 69 = .ok (.istore_n 2, 1) := by decide +kernel
theorem dX7_restart_70 : decode cX7_restart 70 = .ok (.aload_n 0, 1) := by decide +kernel
theorem dX7_restart_71 : decode cX7_restart 71 = .ok (.getfield 38, 3) := by decide +kernel
theorem dX7_restart_74 : decode cX7_restart 74 = .ok (.iload 4, 2) := by decide +kernel
theorem dX7_restart_76 : decode cX7_restart 76 = .ok (.iconst 0, 1) := by decide +kernel
theorem dX7_restart_77 : decode cX7_restart 77 = .ok (.iastore, 1) := by decide +kernel
theorem dX7_restart_78 : decode cX7_restart 78 = .ok (.iconst 0, 1) := by decide +kernel
theorem dX7_restart_79 : decode cX7_restart 79 = .ok (.istore 5, 2) := by decide +kernel
theorem dX7_restart_81 : decode cX7_restart 81 = .ok (.iload 5, 2) := by decide +kernel
theorem dX7_restart_83 : decode cX7_restart 83 = .ok (.iconst 5, 1) := by decide +kernel
theorem dX7_restart_84 : decode cX7_restart 84 = .ok (.if_icmp .ge 22, 3) := by decide +kernel
theorem dX7_restart_87 : decode cX7_restart 87 = .ok (.aload_n 0, 1) := by decide +kernel
theorem dX7_restart_88 : decode cX7_restart 88 = .ok (.getfield 41, 3) := by decide +kernel
theorem dX7_restart_91 : decode cX7_restart 91 = .ok (.iconst 5, 1) := by decide +kernel
theorem dX7_restart_92 : decode cX7_restart 92 = .ok (.iload 4, 2) := by decide +kernel
theorem dX7_restart_94 : decode cX7_restart 94 = .ok (.imul, 1) := by decide +kernel
theorem dX7_restart_95 : decode cX7_restart 95 = .ok (.iload 5, 2) := by decide +kernel
theorem dX7_restart_97 : decode cX7_restart 97 = .ok (.iadd, 1) := by decide +kernel
theorem dX7_restart_98 : decode cX7_restart 98 = .ok (.iconst 0, 1) := by decide +kernel
theorem dX7_restart_99 : decode cX7_restart 99 = .ok (.iastore, 1) := by decide +kernel
theorem dX7_restart_100 : decode cX7_restart 100 = .ok (.iinc 5 1, 3) := by decide +kernel
theorem dX7_restart_103 : decode cX7_restart 103 = .ok (.goto (-22), 3) := by decide +kernel
theorem dX7_restart_106 : decode cX7_restart 106 = .ok (.iinc 3 1, 3) := by decide +kernel
theorem dX7_restart_109 : decode cX7_restart 109 = .ok (.goto (-90), 3) := by decide +kernel
theorem dX7_restart_112 : decode cX7_restart 112 = .ok (.aload_n 0, 1) := by decide +kernel
theorem dX7_restart_113 : decode cX7_restart 113 = .ok (.getfield 56, 3) := by decide +kernel
theorem dX7_restart_116 : decode cX7_restart 116 = .ok (.iload_n 1, 1) := by decide +kernel
theorem dX7_restart_117 : decode cX7_restart 117 = .ok (.iconst 0, 1) := by decide +kernel
theorem dX7_restart_118 : decode cX7_restart 118 = .ok (.iastore, 1) := by decide +kernel
theorem dX7_restart_119 : decode cX7_restart 119 = .ok (.iload_n 2, 1) := by decide +kernel
theorem dX7_restart_120 : decode cX7_restart 120 = .ok (.ireturn, 1) := by decide +kernel
theorem dX7_about_0 : decode cX7_about 0 = .ok (.aload_n 0, 1) := by decide +kernel
theorem dX7_about_1 : decode cX7_about 1 = .ok (.iconst 0, 1) := by decide +kernel
theorem dX7_about_2 : decode cX7_about 2 = .ok (.putfield 120, 3) := by decide +kernel
theorem dX7_about_5 : decode cX7_about 5 = .ok (.iload_n 1, 1) := by decide +kernel
theorem dX7_about_6 : decode cX7_about 6 = .ok (.ifCond .ne 10, 3) := by decide +kernel
theorem dX7_about_9 : decode cX7_about 9 = .ok (.aload_n 0, 1) := by decide +kernel
theorem dX7_about_10 : decode cX7_about 10 = .ok (.getfield 101, 3) := by decide +kernel
theorem dX7_about_13 : decode cX7_about 13 = .ok (.goto 53, 3) := by decide +kernel
theorem dX7_about_16 : decode cX7_about 16 = .ok (.iload_n 1, 1) := by decide +kernel
theorem dX7_about_17 : decode cX7_about 17 = .ok (.iconst 1, 1) := by decide +kernel
theorem dX7_about_18 : decode cX7_about 18 = .ok (.if_icmp .ne 10, 3) := by decide +kernel
theorem dX7_about_21 : decode cX7_about 21 = .ok (.aload_n 0, 1) := by decide +kernel
theorem dX7_about_22 : decode cX7_about 22 = .ok (.getfield 108, 3) := by decide +kernel
theorem dX7_about_25 : decode cX7_about 25 = .ok (.goto 41, 3) := by decide +kernel
theorem dX7_about_28 : decode cX7_about 28 = .ok (.iload_n 1, 1) := by decide +kernel
theorem dX7_about_29 : decode cX7_about 29 = .ok (.iconst 2, 1) := by decide +kernel
theorem dX7_about_30 : decode cX7_about 30 = .ok (.if_icmp .ne 10, 3) := by decide +kernel
theorem dX7_about_33 : decode cX7_about 33 = .ok (.aload_n 0, 1) := by decide +kernel
theorem dX7_about_34 : decode cX7_about 34 = .ok (.getfield 111, 3) := by decide +kernel
theorem dX7_about_37 : decode cX7_about 37 = .ok (.goto 29, 3) := by decide +kernel
theorem dX7_about_40 : decode cX7_about 40 = .ok (.iload_n 1, 1) := by decide +kernel
theorem dX7_about_41 : decode cX7_about 41 = .ok (.iconst 3, 1) := by decide +kernel
theorem dX7_about_42 : decode cX7_about 42 = .ok (.if_icmp .ne 10, 3) := by decide +kernel
theorem dX7_about_45 : decode cX7_about 45 = .ok (.aload_n 0, 1) := by decide +kernel
theorem dX7_about_46 : decode cX7_about 46 = .ok (.getfield 114, 3) := by decide +kernel
theorem dX7_about_49 : decode cX7_about 49 = .ok (.goto 17, 3) := by decide +kernel
theorem dX7_about_52 : decode cX7_about 52 = .ok (.iload_n 1, 1) := by decide +kernel
theorem dX7_about_53 : decode cX7_about 53 = .ok (.iconst 4, 1) := by decide +kernel
theorem dX7_about_54 : decode cX7_about 54 = .ok (.if_icmp .ne 10, 3) := by decide +kernel
theorem dX7_about_57 : decode cX7_about 57 = .ok (.aload_n 0, 1) := by decide +kernel
theorem dX7_about_58 : decode cX7_about 58 = .ok (.getfield 117, 3) := by decide +kernel
theorem dX7_about_61 : decode cX7_about 61 = .ok (.goto 5, 3) := by decide +kernel
theorem dX7_about_64 : decode cX7_about 64 = .ok (.bipush (-102), 2) := by decide +kernel
theorem dX7_about_66 : decode cX7_about 66 = .ok (.ireturn, 1) := by decide +kernel
theorem dX7_clear_0 : decode cX7_clear 0 = .ok (.aload_n 0, 1) := by decide +kernel
theorem dX7_clear_1 : decode cX7_clear 1 = .ok (.iconst 0, 1) := by decide +kernel
theorem dX7_clear_2 : decode cX7_clear 2 = .ok (.putfield 120, 3) := by decide +kernel
theorem dX7_clear_5 : decode cX7_clear 5 = .ok (.aload_n 0, 1) := by decide +kernel
theorem dX7_clear_6 : decode cX7_clear 6 = .ok (.getfield 101, 3) := by decide +kernel
theorem dX7_clear_9 : decode cX7_clear 9 = .ok (.istore_n 1, 1) := by decide +kernel
theorem dX7_clear_10 : decode cX7_clear 10 = .ok (.aload_n 0, 1) := by decide +kernel
theorem dX7_clear_11 : decode cX7_clear 11 = .ok (.invokevirtual 98, 3) := by decide +kernel
theorem dX7_clear_14 : decode cX7_clear 14 = .ok (.iload_n 1, 1) := by decide +kernel
theorem dX7_clear_15 : decode cX7_clear 15 = .ok (.ireturn, 1) := by decide +kernel
end
section
theorem dL_message_0 : decode cL_message 0 = .ok (.aload_n 2, 1) := by decide +kernel
theorem dL_message_1 : decode cL_message 1 = .ok (.iconst 0, 1) := by decide +kernel
theorem dL_message_2 : decode cL_message 2 = .ok (.aload_n 0, 1) := by decide +kernel
theorem dL_message_3 : decode cL_message 3 = .ok (.iload_n 1, 1) := by decide +kernel
theorem dL_message_4 : decode cL_message 4 = .ok (.invokevirtual 7, 3) := by decide +kernel
theorem dL_message_7 : decode cL_message 7 = .ok (.i2l, 1) := by decide +kernel
theorem dL_message_8 : decode cL_message 8 = .ok (.lastore, 1) := by decide +kernel
theorem dL_message_9 : decode cL_message 9 = .ok (.goto 6, 3) := by decide +kernel
theorem dL_message_12 : decode cL_message 12 = .ok (.astore_n 3, 1) := by decide +kernel
theorem dL_message_13 : decode cL_message 13 = .ok (.iconst 1, 1) := by decide +kernel
theorem dL_message_14 : decode cL_message 14 = .ok (.ireturn, 1) := by decide +kernel
theorem dL_message_15 : decode cL_message 15 = .ok (.iconst 0, 1) := by decide +kernel
theorem dL_message_16 : decode cL_message 16 = .ok (.ireturn, 1) := by decide +kernel
theorem dL_law_0 : decode cL_law 0 = .ok (.new 8, 3) := by decide +kernel
theorem dL_law_3 : decode cL_law 3 = .ok (.dup, 1) := by decide +kernel
theorem dL_law_4 : decode cL_law 4 = .ok (.invokespecial 15, 3) := by decide +kernel
theorem dL_law_7 : decode cL_law 7 = .ok (.astore_n 1, 1) := by decide +kernel
theorem dL_law_8 : decode cL_law 8 = .ok (.new 16, 3) := by decide +kernel
theorem dL_law_11 : decode cL_law 11 = .ok (.dup, 1) := by decide +kernel
theorem dL_law_12 : decode cL_law 12 = .ok (.invokespecial 18, 3) := by decide +kernel
theorem dL_law_15 : decode cL_law 15 = .ok (.astore_n 2, 1) := by decide +kernel
theorem dL_law_16 : decode cL_law 16 = .ok (.iconst 1, 1) := by decide +kernel
theorem dL_law_17 : decode cL_law 17 = .ok (.newarray .long, 2) := by decide +kernel
theorem dL_law_19 : decode cL_law 19 = .ok (.astore_n 3, 1) := by decide +kernel
theorem dL_law_20 : decode cL_law 20 = .ok (.iconst 0, 1) := by decide +kernel
theorem dL_law_21 : decode cL_law 21 = .ok (.istore 4, 2) := by decide +kernel
theorem dL_law_23 : decode cL_law 23 = .ok (.iload 4, 2) := by decide +kernel
theorem dL_law_25 : decode cL_law 25 = .ok (.aload_n 0, 1) := by decide +kernel
theorem dL_law_26 : decode cL_law 26 = .ok (.arraylength, 1) := by decide +kernel
theorem dL_law_27 : decode cL_law 27 = .ok (.bipush 6, 2) := by decide +kernel
theorem dL_law_29 : decode cL_law 29 = .ok (.isub, 1) := by decide +kernel
theorem dL_law_30 : decode cL_law 30 = .ok (.if_icmp .gt 746, 3) := by decide +kernel
theorem dL_law_33 : decode cL_law 33 = .ok (.aload_n 0, 1) := by decide +kernel
theorem dL_law_34 : decode cL_law 34 = .ok (.iload 4, 2) := by decide +kernel
theorem dL_law_36 : decode cL_law 36 = .ok (.iaload, 1) := by decide +kernel
theorem dL_law_37 : decode cL_law 37 = .ok (.bipush 15, 2) := by decide +kernel
theorem dL_law_39 : decode cL_law 39 = .ok (.iand, 1) := by decide +kernel
theorem dL_law_40 : decode cL_law 40 = .ok (.tableswitch 730 0 14 #[76, 141, 178, 255, 328, 401, 414, 463, 512, 549, 605, 642, 667, 692, 717], 76) := by decide +kernel
theorem dL_law_116 : decode cL_law 116 = .ok (.aload_n 1, 1) := by decide +kernel
theorem dL_law_117 : decode cL_law 117 = .ok (.aload_n 0, 1) := by decide +kernel
theorem dL_law_118 : decode cL_law 118 = .ok (.iload 4, 2) := by decide +kernel
theorem dL_law_120 : decode cL_law 120 = .ok (.iconst 1, 1) := by decide +kernel
theorem dL_law_121 : decode cL_law 121 = .ok (.iadd, 1) := by decide +kernel
theorem dL_law_122 : decode cL_law 122 = .ok (.iaload, 1) := by decide +kernel
theorem dL_law_123 : decode cL_law 123 = .ok (.aload_n 0, 1) := by decide +kernel
theorem dL_law_124 : decode cL_law 124 = .ok (.iload 4, 2) := by decide +kernel
theorem dL_law_126 : decode cL_law 126 = .ok (.iconst 2, 1) := by decide +kernel
theorem dL_law_127 : decode cL_law 127 = .ok (.iadd, 1) := by decide +kernel
theorem dL_law_128 : decode cL_law 128 = .ok (.iaload, 1) := by decide +kernel
theorem dL_law_129 : decode cL_law 129 = .ok (.aload_n 0, 1) := by decide +kernel
theorem dL_law_130 : decode cL_law 130 = .ok (.iload 4, 2) := by decide +kernel
theorem dL_law_132 : decode cL_law 132 = .ok (.iconst 3, 1) := by decide +kernel
theorem dL_law_133 : decode cL_law 133 = .ok (.iadd, 1) := by decide +kernel
theorem dL_law_134 : decode cL_law 134 = .ok (.iaload, 1) := by decide +kernel
theorem dL_law_135 : decode cL_law 135 = .ok (.ifCond .eq 7, 3) := by decide +kernel
theorem dL_law_138 : decode cL_law 138 = .ok (.iconst 1, 1) := by decide +kernel
theorem dL_law_139 : decode cL_law 139 = .ok (.goto 4, 3) := by decide +kernel
theorem dL_law_142 : decode cL_law 142 = .ok (.iconst 0, 1) := by decide +kernel
theorem dL_law_143 : decode cL_law 143 = .ok (.invokevirtual 19, 3) := by decide +kernel
theorem dL_law_146 : decode cL_law 146 = .ok (.aload_n 2, 1) := by decide +kernel
theorem dL_law_147 : decode cL_law 147 = .ok (.aload_n 0, 1) := by decide +kernel
theorem dL_law_148 : decode cL_law 148 = .ok (.iload 4, 2) := by decide +kernel
theorem dL_law_150 : decode cL_law 150 = .ok (.iconst 1, 1) := by decide +kernel
theorem dL_law_151 : decode cL_law 151 = .ok (.iadd, 1) := by decide +kernel
theorem dL_law_152 : decode cL_law 152 = .ok (.iaload, 1) := by decide +kernel
theorem dL_law_153 : decode cL_law 153 = .ok (.aload_n 0, 1) := by decide +kernel
theorem dL_law_154 : decode cL_law 154 = .ok (.iload 4, 2) := by decide +kernel
theorem dL_law_156 : decode cL_law 156 = .ok (.iconst 2, 1) := by decide +kernel
theorem dL_law_157 : decode cL_law 157 = .ok (.iadd, 1) := by decide +kernel
theorem dL_law_158 : decode cL_law 158 = .ok (.iaload, 1) := by decide +kernel
theorem dL_law_159 : decode cL_law 159 = .ok (.aload_n 0, 1) := by decide +kernel
theorem dL_law_160 : decode cL_law 160 = .ok (.iload 4, 2) := by decide +kernel
theorem dL_law_162 : decode cL_law 162 = .ok (.iconst 3, 1) := by decide +kernel
theorem dL_law_163 : decode cL_law 163 = .ok (.iadd, 1) := by decide +kernel
theorem dL_law_164 : decode cL_law 164 = .ok (.iaload, 1) := by decide +kernel
theorem dL_law_165 : decode cL_law 165 = .ok (.ifCond .eq 7, 3) := by decide +kernel
theorem dL_law_168 : decode cL_law 168 = .ok (.iconst 1, 1) := by decide +kernel
theorem dL_law_169 : decode cL_law 169 = .ok (.goto 4, 3) := by decide +kernel
theorem dL_law_172 : decode cL_law 172 = .ok (.iconst 0, 1) := by decide +kernel
theorem dL_law_173 : decode cL_law 173 = .ok (.invokevirtual 23, 3) := by decide +kernel
theorem dL_law_176 : decode cL_law 176 = .ok (.if_icmp .eq 594, 3) := by decide +kernel
theorem dL_law_179 : decode cL_law 179 = .ok (.iconst 0, 1) := by decide +kernel
theorem dL_law_180 : decode cL_law 180 = .ok (.ireturn, 1) := by decide +kernel
theorem dL_law_181 : decode cL_law 181 = .ok (.aload_n 1, 1) := by decide +kernel
theorem dL_law_182 : decode cL_law 182 = .ok (.aload_n 0, 1) := by decide +kernel
theorem dL_law_183 : decode cL_law 183 = .ok (.iload 4, 2) := by decide +kernel
theorem dL_law_185 : decode cL_law 185 = .ok (.iconst 1, 1) := by decide +kernel
theorem dL_law_186 : decode cL_law 186 = .ok (.iadd, 1) := by decide +kernel
theorem dL_law_187 : decode cL_law 187 = .ok (.iaload, 1) := by decide +kernel
theorem dL_law_188 : decode cL_law 188 = .ok (.aload_n 0, 1) := by decide +kernel
theorem dL_law_189 : decode cL_law 189 = .ok (.iload 4, 2) := by decide +kernel
theorem dL_law_191 : decode cL_law 191 = .ok (.iconst 2, 1) := by decide +kernel
theorem dL_law_192 : decode cL_law 192 = .ok (.iadd, 1) := by decide +kernel
theorem dL_law_193 : decode cL_law 193 = .ok (.iaload, 1) := by decide +kernel
theorem dL_law_194 : decode cL_law 194 = .ok (.invokevirtual 24, 3) := by decide +kernel
theorem dL_law_197 : decode cL_law 197 = .ok (.aload_n 2, 1) := by decide +kernel
theorem dL_law_198 : decode cL_law 198 = .ok (.aload_n 0, 1) := by decide +kernel
theorem dL_law_199 : decode cL_law 199 = .ok (.iload 4, 2) := by decide +kernel
theorem dL_law_201 : decode cL_law 201 = .ok (.iconst 1, 1) := by decide +kernel
theorem dL_law_202 : decode cL_law 202 = .ok (.iadd, 1) := by decide +kernel
theorem dL_law_203 : decode cL_law 203 = .ok (.iaload, 1) := by decide +kernel
theorem dL_law_204 : decode cL_law 204 = .ok (.aload_n 0, 1) := by decide +kernel
theorem dL_law_205 : decode cL_law 205 = .ok (.iload 4, 2) := by decide +kernel
theorem dL_law_207 : decode cL_law 207 = .ok (.iconst 2, 1) := by decide +kernel
theorem dL_law_208 : decode cL_law 208 = .ok (.iadd, 1) := by decide +kernel
theorem dL_law_209 : decode cL_law 209 = .ok (.iaload, 1) := by decide +kernel
theorem dL_law_210 : decode cL_law 210 = .ok (.invokevirtual 28, 3) := by decide +kernel
theorem dL_law_213 : decode cL_law 213 = .ok (.if_icmp .eq 557, 3) := by decide +kernel
theorem dL_law_216 : decode cL_law 216 = .ok (.iconst 0, 1) := by decide +kernel
theorem dL_law_217 : decode cL_law 217 = .ok (.ireturn, 1) := by decide +kernel
theorem dL_law_218 : decode cL_law 218 = .ok (.aload_n 1, 1) := by decide +kernel
theorem dL_law_219 : decode cL_law 219 = .ok (.aload_n 0, 1) := by decide +kernel
theorem dL_law_220 : decode cL_law 220 = .ok (.iload 4, 2) := by decide +kernel
theorem dL_law_222 : decode cL_law 222 = .ok (.iconst 1, 1) := by decide +kernel
theorem dL_law_223 : decode cL_law 223 = .ok (.iadd, 1) := by decide +kernel
theorem dL_law_224 : decode cL_law 224 = .ok (.iaload, 1) := by decide +kernel
theorem dL_law_225 : decode cL_law 225 = .ok (.aload_n 0, 1) := by decide +kernel
theorem dL_law_226 : decode cL_law 226 = .ok (.iload 4, 2) := by decide +kernel
theorem dL_law_228 : decode cL_law 228 = .ok (.iconst 2, 1) := by decide +kernel
theorem dL_law_229 : decode cL_law 229 = .ok (.iadd, 1) := by decide +kernel
theorem dL_law_230 : decode cL_law 230 = .ok (.iaload, 1) := by decide +kernel
theorem dL_law_231 : decode cL_law 231 = .ok (.aload_n 0, 1) := by decide +kernel
theorem dL_law_232 : decode cL_law 232 = .ok (.iload 4, 2) := by decide +kernel
theorem dL_law_234 : decode cL_law 234 = .ok (.iconst 3, 1) := by decide +kernel
theorem dL_law_235 : decode cL_law 235 = .ok (.iadd, 1) := by decide +kernel
theorem dL_law_236 : decode cL_law 236 = .ok (.iaload, 1) := by decide +kernel
theorem dL_law_237 : decode cL_law 237 = .ok (.ifCond .eq 7, 3) := by decide +kernel
theorem dL_law_240 : decode cL_law 240 = .ok (.iconst 1, 1) := by decide +kernel
theorem dL_law_241 : decode cL_law 241 = .ok (.goto 4, 3) := by decide +kernel
theorem dL_law_244 : decode cL_law 244 = .ok (.iconst 0, 1) := by decide +kernel
theorem dL_law_245 : decode cL_law 245 = .ok (.aload_n 0, 1) := by decide +kernel
theorem dL_law_246 : decode cL_law 246 = .ok (.iload 4, 2) := by decide +kernel
theorem dL_law_248 : decode cL_law 248 = .ok (.iconst 4, 1) := by decide +kernel
theorem dL_law_249 : decode cL_law 249 = .ok (.iadd, 1) := by decide +kernel
theorem dL_law_250 : decode cL_law 250 = .ok (.iaload, 1) := by decide +kernel
theorem dL_law_251 : decode cL_law 251 = .ok (.invokevirtual 29, 3) := by decide +kernel
theorem dL_law_254 : decode cL_law 254 = .ok (.aload_n 2, 1) := by decide +kernel
theorem dL_law_255 : decode cL_law 255 = .ok (.aload_n 0, 1) := by decide +kernel
theorem dL_law_256 : decode cL_law 256 = .ok (.iload 4, 2) := by decide +kernel
theorem dL_law_258 : decode cL_law 258 = .ok (.iconst 1, 1) := by decide +kernel
theorem dL_law_259 : decode cL_law 259 = .ok (.iadd, 1) := by decide +kernel
theorem dL_law_260 : decode cL_law 260 = .ok (.iaload, 1) := by decide +kernel
theorem dL_law_261 : decode cL_law 261 = .ok (.aload_n 0, 1) := by decide +kernel
theorem dL_law_262 : decode cL_law 262 = .ok (.iload 4, 2) := by decide +kernel
theorem dL_law_264 : decode cL_law 264 = .ok (.iconst 2, 1) := by decide +kernel
theorem dL_law_265 : decode cL_law 265 = .ok (.iadd, 1) := by decide +kernel
theorem dL_law_266 : decode cL_law 266 = .ok (.iaload, 1) := by decide +kernel
theorem dL_law_267 : decode cL_law 267 = .ok (.aload_n 0, 1) := by decide +kernel
theorem dL_law_268 : decode cL_law 268 = .ok (.iload 4, 2) := by decide +kernel
theorem dL_law_270 : decode cL_law 270 = .ok (.iconst 3, 1) := by decide +kernel
theorem dL_law_271 : decode cL_law 271 = .ok (.iadd, 1) := by decide +kernel
theorem dL_law_272 : decode cL_law 272 = .ok (.iaload, 1) := by decide +kernel
theorem dL_law_273 : decode cL_law 273 = .ok (.ifCond .eq 7, 3) := by decide +kernel
theorem dL_law_276 : decode cL_law 276 = .ok (.iconst 1, 1) := by decide +kernel
theorem dL_law_277 : decode cL_law 277 = .ok (.goto 4, 3) := by decide +kernel
theorem dL_law_280 : decode cL_law 280 = .ok (.iconst 0, 1) := by decide +kernel
theorem dL_law_281 : decode cL_law 281 = .ok (.aload_n 0, 1) := by decide +kernel
theorem dL_law_282 : decode cL_law 282 = .ok (.iload 4, 2) := by decide +kernel
theorem dL_law_284 : decode cL_law 284 = .ok (.iconst 4, 1) := by decide +kernel
theorem dL_law_285 : decode cL_law 285 = .ok (.iadd, 1) := by decide +kernel
theorem dL_law_286 : decode cL_law 286 = .ok (.iaload, 1) := by decide +kernel
theorem dL_law_287 : decode cL_law 287 = .ok (.invokevirtual 33, 3) := by decide +kernel
theorem dL_law_290 : decode cL_law 290 = .ok (.if_icmp .eq 480, 3) := by decide +kernel
theorem dL_law_293 : decode cL_law 293 = .ok (.iconst 0, 1) := by decide +kernel
theorem dL_law_294 : decode cL_law 294 = .ok (.ireturn, 1) := by decide +kernel
theorem dL_law_295 : decode cL_law 295 = .ok (.aload_n 1, 1) := by decide +kernel
theorem dL_law_296 : decode cL_law 296 = .ok (.aload_n 0, 1) := by decide +kernel
theorem dL_law_297 : decode cL_law 297 = .ok (.iload 4, 2) := by decide +kernel
theorem dL_law_299 : decode cL_law 299 = .ok (.iconst 1, 1) := by decide +kernel
theorem dL_law_300 : decode cL_law 300 = .ok (.iadd, 1) := by decide +kernel
theorem dL_law_301 : decode cL_law 301 = .ok (.iaload, 1) := by decide +kernel
theorem dL_law_302 : decode cL_law 302 = .ok (.aload_n 0, 1) := by decide +kernel
theorem dL_law_303 : decode cL_law 303 = .ok (.iload 4, 2) := by decide +kernel
theorem dL_law_305 : decode cL_law 305 = .ok (.iconst 2, 1) := by decide +kernel
theorem dL_law_306 : decode cL_law 306 = .ok (.iadd, 1) := by decide +kernel
theorem dL_law_307 : decode cL_law 307 = .ok (.iaload, 1) := by decide +kernel
theorem dL_law_308 : decode cL_law 308 = .ok (.aload_n 0, 1) := by decide +kernel
theorem dL_law_309 : decode cL_law 309 = .ok (.iload 4, 2) := by decide +kernel
theorem dL_law_311 : decode cL_law 311 = .ok (.iconst 3, 1) := by decide +kernel
theorem dL_law_312 : decode cL_law 312 = .ok (.iadd, 1) := by decide +kernel
theorem dL_law_313 : decode cL_law 313 = .ok (.iaload, 1) := by decide +kernel
theorem dL_law_314 : decode cL_law 314 = .ok (.aload_n 0, 1) := by decide +kernel
theorem dL_law_315 : decode cL_law 315 = .ok (.iload 4, 2) := by decide +kernel
theorem dL_law_317 : decode cL_law 317 = .ok (.iconst 4, 1) := by decide +kernel
theorem dL_law_318 : decode cL_law 318 = .ok (.iadd, 1) := by decide +kernel
theorem dL_law_319 : decode cL_law 319 = .ok (.iaload, 1) := by decide +kernel
theorem dL_law_320 : decode cL_law 320 = .ok (.aload_n 0, 1) := by decide +kernel
theorem dL_law_321 : decode cL_law 321 = .ok (.iload 4, 2) := by decide +kernel
theorem dL_law_323 : decode cL_law 323 = .ok (.iconst 5, 1) := by decide +kernel
theorem dL_law_324 : decode cL_law 324 = .ok (.iadd, 1) := by decide +kernel
theorem dL_law_325 : decode cL_law 325 = .ok (.iaload, 1) := by decide +kernel
theorem dL_law_326 : decode cL_law 326 = .ok (.invokevirtual 34, 3) := by decide +kernel
theorem dL_law_329 : decode cL_law 329 = .ok (.aload_n 2, 1) := by decide +kernel
theorem dL_law_330 : decode cL_law 330 = .ok (.aload_n 0, 1) := by decide +kernel
theorem dL_law_331 : decode cL_law 331 = .ok (.iload 4, 2) := by decide +kernel
theorem dL_law_333 : decode cL_law 333 = .ok (.iconst 1, 1) := by decide +kernel
theorem dL_law_334 : decode cL_law 334 = .ok (.iadd, 1) := by decide +kernel
theorem dL_law_335 : decode cL_law 335 = .ok (.iaload, 1) := by decide +kernel
theorem dL_law_336 : decode cL_law 336 = .ok (.aload_n 0, 1) := by decide +kernel
theorem dL_law_337 : decode cL_law 337 = .ok (.iload 4, 2) := by decide +kernel
theorem dL_law_339 : decode cL_law 339 = .ok (.iconst 2, 1) := by decide +kernel
theorem dL_law_340 : decode cL_law 340 = .ok (.iadd, 1) := by decide +kernel
theorem dL_law_341 : decode cL_law 341 = .ok (.iaload, 1) := by decide +kernel
theorem dL_law_342 : decode cL_law 342 = .ok (.aload_n 0, 1) := by decide +kernel
theorem dL_law_343 : decode cL_law 343 = .ok (.iload 4, 2) := by decide +kernel
theorem dL_law_345 : decode cL_law 345 = .ok (.iconst 3, 1) := by decide +kernel
theorem dL_law_346 : decode cL_law 346 = .ok (.iadd, 1) := by decide +kernel
theorem dL_law_347 : decode cL_law 347 = .ok (.iaload, 1) := by decide +kernel
theorem dL_law_348 : decode cL_law 348 = .ok (.aload_n 0, 1) := by decide +kernel
theorem dL_law_349 : decode cL_law 349 = .ok (.iload 4, 2) := by decide +kernel
theorem dL_law_351 : decode cL_law 351 = .ok (.iconst 4, 1) := by decide +kernel
theorem dL_law_352 : decode cL_law 352 = .ok (.iadd, 1) := by decide +kernel
theorem dL_law_353 : decode cL_law 353 = .ok (.iaload, 1) := by decide +kernel
theorem dL_law_354 : decode cL_law 354 = .ok (.aload_n 0, 1) := by decide +kernel
theorem dL_law_355 : decode cL_law 355 = .ok (.iload 4, 2) := by decide +kernel
theorem dL_law_357 : decode cL_law 357 = .ok (.iconst 5, 1) := by decide +kernel
theorem dL_law_358 : decode cL_law 358 = .ok (.iadd, 1) := by decide +kernel
theorem dL_law_359 : decode cL_law 359 = .ok (.iaload, 1) := by decide +kernel
theorem dL_law_360 : decode cL_law 360 = .ok (.invokevirtual 38, 3) := by decide +kernel
theorem dL_law_363 : decode cL_law 363 = .ok (.if_icmp .eq 407, 3) := by decide +kernel
theorem dL_law_366 : decode cL_law 366 = .ok (.iconst 0, 1) := by decide +kernel
theorem dL_law_367 : decode cL_law 367 = .ok (.ireturn, 1) := by decide +kernel
theorem dL_law_368 : decode cL_law 368 = .ok (.aload_n 1, 1) := by decide +kernel
theorem dL_law_369 : decode cL_law 369 = .ok (.aload_n 0, 1) := by decide +kernel
theorem dL_law_370 : decode cL_law 370 = .ok (.iload 4, 2) := by decide +kernel
theorem dL_law_372 : decode cL_law 372 = .ok (.iconst 1, 1) := by decide +kernel
theorem dL_law_373 : decode cL_law 373 = .ok (.iadd, 1) := by decide +kernel
theorem dL_law_374 : decode cL_law 374 = .ok (.iaload, 1) := by decide +kernel
theorem dL_law_375 : decode cL_law 375 = .ok (.aload_n 0, 1) := by decide +kernel
theorem dL_law_376 : decode cL_law 376 = .ok (.iload 4, 2) := by decide +kernel
theorem dL_law_378 : decode cL_law 378 = .ok (.iconst 2, 1) := by decide +kernel
theorem dL_law_379 : decode cL_law 379 = .ok (.iadd, 1) := by decide +kernel
theorem dL_law_380 : decode cL_law 380 = .ok (.iaload, 1) := by decide +kernel
theorem dL_law_381 : decode cL_law 381 = .ok (.aload_n 0, 1) := by decide +kernel
theorem dL_law_382 : decode cL_law 382 = .ok (.iload 4, 2) := by decide +kernel
theorem dL_law_384 : decode cL_law 384 = .ok (.iconst 3, 1) := by decide +kernel
theorem dL_law_385 : decode cL_law 385 = .ok (.iadd, 1) := by decide +kernel
theorem dL_law_386 : decode cL_law 386 = .ok (.iaload, 1) := by decide +kernel
theorem dL_law_387 : decode cL_law 387 = .ok (.aload_n 0, 1) := by decide +kernel
theorem dL_law_388 : decode cL_law 388 = .ok (.iload 4, 2) := by decide +kernel
theorem dL_law_390 : decode cL_law 390 = .ok (.iconst 4, 1) := by decide +kernel
theorem dL_law_391 : decode cL_law 391 = .ok (.iadd, 1) := by decide +kernel
theorem dL_law_392 : decode cL_law 392 = .ok (.iaload, 1) := by decide +kernel
theorem dL_law_393 : decode cL_law 393 = .ok (.aload_n 0, 1) := by decide +kernel
theorem dL_law_394 : decode cL_law 394 = .ok (.iload 4, 2) := by decide +kernel
theorem dL_law_396 : decode cL_law 396 = .ok (.iconst 5, 1) := by decide +kernel
theorem dL_law_397 : decode cL_law 397 = .ok (.iadd, 1) := by decide +kernel
theorem dL_law_398 : decode cL_law 398 = .ok (.iaload, 1) := by decide +kernel
theorem dL_law_399 : decode cL_law 399 = .ok (.invokevirtual 39, 3) := by decide +kernel
theorem dL_law_402 : decode cL_law 402 = .ok (.aload_n 2, 1) := by decide +kernel
theorem dL_law_403 : decode cL_law 403 = .ok (.aload_n 0, 1) := by decide +kernel
theorem dL_law_404 : decode cL_law 404 = .ok (.iload 4, 2) := by decide +kernel
theorem dL_law_406 : decode cL_law 406 = .ok (.iconst 1, 1) := by decide +kernel
theorem dL_law_407 : decode cL_law 407 = .ok (.iadd, 1) := by decide +kernel
theorem dL_law_408 : decode cL_law 408 = .ok (.iaload, 1) := by decide +kernel
theorem dL_law_409 : decode cL_law 409 = .ok (.aload_n 0, 1) := by decide +kernel
theorem dL_law_410 : decode cL_law 410 = .ok (.iload 4, 2) := by decide +kernel
theorem dL_law_412 : decode cL_law 412 = .ok (.iconst 2, 1) := by decide +kernel
theorem dL_law_413 : decode cL_law 413 = .ok (.iadd, 1) := by decide +kernel
theorem dL_law_414 : decode cL_law 414 = .ok (.iaload, 1) := by decide +kernel
theorem dL_law_415 : decode cL_law 415 = .ok (.aload_n 0, 1) := by decide +kernel
theorem dL_law_416 : decode cL_law 416 = .ok (.iload 4, 2) := by decide +kernel
theorem dL_law_418 : decode cL_law 418 = .ok (.iconst 3, 1) := by decide +kernel
theorem dL_law_419 : decode cL_law 419 = .ok (.iadd, 1) := by decide +kernel
theorem dL_law_420 : decode cL_law 420 = .ok (.iaload, 1) := by decide +kernel
theorem dL_law_421 : decode cL_law 421 = .ok (.aload_n 0, 1) := by decide +kernel
theorem dL_law_422 : decode cL_law 422 = .ok (.iload 4, 2) := by decide +kernel
theorem dL_law_424 : decode cL_law 424 = .ok (.iconst 4, 1) := by decide +kernel
theorem dL_law_425 : decode cL_law 425 = .ok (.iadd, 1) := by decide +kernel
theorem dL_law_426 : decode cL_law 426 = .ok (.iaload, 1) := by decide +kernel
theorem dL_law_427 : decode cL_law 427 = .ok (.aload_n 0, 1) := by decide +kernel
theorem dL_law_428 : decode cL_law 428 = .ok (.iload 4, 2) := by decide +kernel
theorem dL_law_430 : decode cL_law 430 = .ok (.iconst 5, 1) := by decide +kernel
theorem dL_law_431 : decode cL_law 431 = .ok (.iadd, 1) := by decide +kernel
theorem dL_law_432 : decode cL_law 432 = .ok (.iaload, 1) := by decide +kernel
theorem dL_law_433 : decode cL_law 433 = .ok (.invokevirtual 42, 3) := by decide +kernel
theorem dL_law_436 : decode cL_law 436 = .ok (.if_icmp .eq 334, 3) := by decide +kernel
theorem dL_law_439 : decode cL_law 439 = .ok (.iconst 0, 1) := by decide +kernel
theorem dL_law_440 : decode cL_law 440 = .ok (.ireturn, 1) := by decide +kernel
theorem dL_law_441 : decode cL_law 441 = .ok (.aload_n 1, 1) := by decide +kernel
theorem dL_law_442 : decode cL_law 442 = .ok (.invokevirtual 43, 3) := by decide +kernel
theorem dL_law_445 : decode cL_law 445 = .ok (.aload_n 2, 1) := by decide +kernel
theorem dL_law_446 : decode cL_law 446 = .ok (.invokevirtual 47, 3) := by decide +kernel
theorem dL_law_449 : decode cL_law 449 = .ok (.if_icmp .eq 321, 3) := by decide +kernel
theorem dL_law_452 : decode cL_law 452 = .ok (.iconst 0, 1) := by decide +kernel
theorem dL_law_453 : decode cL_law 453 = .ok (.ireturn, 1) := by decide +kernel
theorem dL_law_454 : decode cL_law 454 = .ok (.aload_n 1, 1) := by decide +kernel
theorem dL_law_455 : decode cL_law 455 = .ok (.aload_n 0, 1) := by decide +kernel
theorem dL_law_456 : decode cL_law 456 = .ok (.iload 4, 2) := by decide +kernel
theorem dL_law_458 : decode cL_law 458 = .ok (.iconst 1, 1) := by decide +kernel
theorem dL_law_459 : decode cL_law 459 = .ok (.iadd, 1) := by decide +kernel
theorem dL_law_460 : decode cL_law 460 = .ok (.iaload, 1) := by decide +kernel
theorem dL_law_461 : decode cL_law 461 = .ok (.aload_n 0, 1) := by decide +kernel
theorem dL_law_462 : decode cL_law 462 = .ok (.iload 4, 2) := by decide +kernel
theorem dL_law_464 : decode cL_law 464 = .ok (.iconst 2, 1) := by decide +kernel
theorem dL_law_465 : decode cL_law 465 = .ok (.iadd, 1) := by decide +kernel
theorem dL_law_466 : decode cL_law 466 = .ok (.iaload, 1) := by decide +kernel
theorem dL_law_467 : decode cL_law 467 = .ok (.aload_n 0, 1) := by decide +kernel
theorem dL_law_468 : decode cL_law 468 = .ok (.iload 4, 2) := by decide +kernel
theorem dL_law_470 : decode cL_law 470 = .ok (.iconst 3, 1) := by decide +kernel
theorem dL_law_471 : decode cL_law 471 = .ok (.iadd, 1) := by decide +kernel
theorem dL_law_472 : decode cL_law 472 = .ok (.iaload, 1) := by decide +kernel
theorem dL_law_473 : decode cL_law 473 = .ok (.invokevirtual 48, 3) := by decide +kernel
theorem dL_law_476 : decode cL_law 476 = .ok (.aload_n 2, 1) := by decide +kernel
theorem dL_law_477 : decode cL_law 477 = .ok (.aload_n 0, 1) := by decide +kernel
theorem dL_law_478 : decode cL_law 478 = .ok (.iload 4, 2) := by decide +kernel
theorem dL_law_480 : decode cL_law 480 = .ok (.iconst 1, 1) := by decide +kernel
theorem dL_law_481 : decode cL_law 481 = .ok (.iadd, 1) := by decide +kernel
theorem dL_law_482 : decode cL_law 482 = .ok (.iaload, 1) := by decide +kernel
theorem dL_law_483 : decode cL_law 483 = .ok (.aload_n 0, 1) := by decide +kernel
theorem dL_law_484 : decode cL_law 484 = .ok (.iload 4, 2) := by decide +kernel
theorem dL_law_486 : decode cL_law 486 = .ok (.iconst 2, 1) := by decide +kernel
theorem dL_law_487 : decode cL_law 487 = .ok (.iadd, 1) := by decide +kernel
theorem dL_law_488 : decode cL_law 488 = .ok (.iaload, 1) := by decide +kernel
theorem dL_law_489 : decode cL_law 489 = .ok (.aload_n 0, 1) := by decide +kernel
theorem dL_law_490 : decode cL_law 490 = .ok (.iload 4, 2) := by decide +kernel
theorem dL_law_492 : decode cL_law 492 = .ok (.iconst 3, 1) := by decide +kernel
theorem dL_law_493 : decode cL_law 493 = .ok (.iadd, 1) := by decide +kernel
theorem dL_law_494 : decode cL_law 494 = .ok (.iaload, 1) := by decide +kernel
theorem dL_law_495 : decode cL_law 495 = .ok (.invokevirtual 52, 3) := by decide +kernel
theorem dL_law_498 : decode cL_law 498 = .ok (.if_icmp .eq 272, 3) := by decide +kernel
theorem dL_law_501 : decode cL_law 501 = .ok (.iconst 0, 1) := by decide +kernel
theorem dL_law_502 : decode cL_law 502 = .ok (.ireturn, 1) := by decide +kernel
theorem dL_law_503 : decode cL_law 503 = .ok (.aload_n 1, 1) := by decide +kernel
theorem dL_law_504 : decode cL_law 504 = .ok (.aload_n 0, 1) := by decide +kernel
theorem dL_law_505 : decode cL_law 505 = .ok (.iload 4, 2) := by decide +kernel
theorem dL_law_507 : decode cL_law 507 = .ok (.iconst 1, 1) := by decide +kernel
theorem dL_law_508 : decode cL_law 508 = .ok (.iadd, 1) := by decide +kernel
theorem dL_law_509 : decode cL_law 509 = .ok (.iaload, 1) := by decide +kernel
theorem dL_law_510 : decode cL_law 510 = .ok (.aload_n 0, 1) := by decide +kernel
theorem dL_law_511 : decode cL_law 511 = .ok (.iload 4, 2) := by decide +kernel
theorem dL_law_513 : decode cL_law 513 = .ok (.iconst 2, 1) := by decide +kernel
theorem dL_law_514 : decode cL_law 514 = .ok (.iadd, 1) := by decide +kernel
theorem dL_law_515 : decode cL_law 515 = .ok (.iaload, 1) := by decide +kernel
theorem dL_law_516 : decode cL_law 516 = .ok (.aload_n 0, 1) := by decide +kernel
theorem dL_law_517 : decode cL_law 517 = .ok (.iload 4, 2) := by decide +kernel
theorem dL_law_519 : decode cL_law 519 = .ok (.iconst 3, 1) := by decide +kernel
theorem dL_law_520 : decode cL_law 520 = .ok (.iadd, 1) := by decide +kernel
theorem dL_law_521 : decode cL_law 521 = .ok (.iaload, 1) := by decide +kernel
theorem dL_law_522 : decode cL_law 522 = .ok (.invokevirtual 53, 3) := by decide +kernel
theorem dL_law_525 : decode cL_law 525 = .ok (.aload_n 2, 1) := by decide +kernel
theorem dL_law_526 : decode cL_law 526 = .ok (.aload_n 0, 1) := by decide +kernel
theorem dL_law_527 : decode cL_law 527 = .ok (.iload 4, 2) := by decide +kernel
theorem dL_law_529 : decode cL_law 529 = .ok (.iconst 1, 1) := by decide +kernel
theorem dL_law_530 : decode cL_law 530 = .ok (.iadd, 1) := by decide +kernel
theorem dL_law_531 : decode cL_law 531 = .ok (.iaload, 1) := by decide +kernel
theorem dL_law_532 : decode cL_law 532 = .ok (.aload_n 0, 1) := by decide +kernel
theorem dL_law_533 : decode cL_law 533 = .ok (.iload 4, 2) := by decide +kernel
theorem dL_law_535 : decode cL_law 535 = .ok (.iconst 2, 1) := by decide +kernel
theorem dL_law_536 : decode cL_law 536 = .ok (.iadd, 1) := by decide +kernel
theorem dL_law_537 : decode cL_law 537 = .ok (.iaload, 1) := by decide +kernel
theorem dL_law_538 : decode cL_law 538 = .ok (.aload_n 0, 1) := by decide +kernel
theorem dL_law_539 : decode cL_law 539 = .ok (.iload 4, 2) := by decide +kernel
theorem dL_law_541 : decode cL_law 541 = .ok (.iconst 3, 1) := by decide +kernel
theorem dL_law_542 : decode cL_law 542 = .ok (.iadd, 1) := by decide +kernel
theorem dL_law_543 : decode cL_law 543 = .ok (.iaload, 1) := by decide +kernel
theorem dL_law_544 : decode cL_law 544 = .ok (.invokevirtual 56, 3) := by decide +kernel
theorem dL_law_547 : decode cL_law 547 = .ok (.if_icmp .eq 223, 3) := by decide +kernel
theorem dL_law_550 : decode cL_law 550 = .ok (.iconst 0, 1) := by decide +kernel
theorem dL_law_551 : decode cL_law 551 = .ok (.ireturn, 1) := by decide +kernel
theorem dL_law_552 : decode cL_law 552 = .ok (.aload_n 1, 1) := by decide +kernel
theorem dL_law_553 : decode cL_law 553 = .ok (.aload_n 0, 1) := by decide +kernel
theorem dL_law_554 : decode cL_law 554 = .ok (.iload 4, 2) := by decide +kernel
theorem dL_law_556 : decode cL_law 556 = .ok (.iconst 1, 1) := by decide +kernel
theorem dL_law_557 : decode cL_law 557 = .ok (.iadd, 1) := by decide +kernel
theorem dL_law_558 : decode cL_law 558 = .ok (.iaload, 1) := by decide +kernel
theorem dL_law_559 : decode cL_law 559 = .ok (.aload_n 0, 1) := by decide +kernel
theorem dL_law_560 : decode cL_law 560 = .ok (.iload 4, 2) := by decide +kernel
theorem dL_law_562 : decode cL_law 562 = .ok (.iconst 2, 1) := by decide +kernel
theorem dL_law_563 : decode cL_law 563 = .ok (.iadd, 1) := by decide +kernel
theorem dL_law_564 : decode cL_law 564 = .ok (.iaload, 1) := by decide +kernel
theorem dL_law_565 : decode cL_law 565 = .ok (.invokevirtual 57, 3) := by decide +kernel
theorem dL_law_568 : decode cL_law 568 = .ok (.aload_n 2, 1) := by decide +kernel
theorem dL_law_569 : decode cL_law 569 = .ok (.aload_n 0, 1) := by decide +kernel
theorem dL_law_570 : decode cL_law 570 = .ok (.iload 4, 2) := by decide +kernel
theorem dL_law_572 : decode cL_law 572 = .ok (.iconst 1, 1) := by decide +kernel
theorem dL_law_573 : decode cL_law 573 = .ok (.iadd, 1) := by decide +kernel
theorem dL_law_574 : decode cL_law 574 = .ok (.iaload, 1) := by decide +kernel
theorem dL_law_575 : decode cL_law 575 = .ok (.aload_n 0, 1) := by decide +kernel
theorem dL_law_576 : decode cL_law 576 = .ok (.iload 4, 2) := by decide +kernel
theorem dL_law_578 : decode cL_law 578 = .ok (.iconst 2, 1) := by decide +kernel
theorem dL_law_579 : decode cL_law 579 = .ok (.iadd, 1) := by decide +kernel
theorem dL_law_580 : decode cL_law 580 = .ok (.iaload, 1) := by decide +kernel
theorem dL_law_581 : decode cL_law 581 = .ok (.invokevirtual 60, 3) := by decide +kernel
theorem dL_law_584 : decode cL_law 584 = .ok (.if_icmp .eq 186, 3) := by decide +kernel
theorem dL_law_587 : decode cL_law 587 = .ok (.iconst 0, 1) := by decide +kernel
theorem dL_law_588 : decode cL_law 588 = .ok (.ireturn, 1) := by decide +kernel
theorem dL_law_589 : decode cL_law 589 = .ok (.aload_n 1, 1) := by decide +kernel
theorem dL_law_590 : decode cL_law 590 = .ok (.aload_n 0, 1) := by decide +kernel
theorem dL_law_591 : decode cL_law 591 = .ok (.iload 4, 2) := by decide +kernel
theorem dL_law_593 : decode cL_law 593 = .ok (.iconst 1, 1) := by decide +kernel
theorem dL_law_594 : decode cL_law 594 = .ok (.iadd, 1) := by decide +kernel
theorem dL_law_595 : decode cL_law 595 = .ok (.iaload, 1) := by decide +kernel
theorem dL_law_596 : decode cL_law 596 = .ok (.aload_n 3, 1) := by decide +kernel
theorem dL_law_597 : decode cL_law 597 = .ok (.invokestatic 61, 3) := by decide +kernel
theorem dL_law_600 : decode cL_law 600 = .ok (.istore 5, 2) := by decide +kernel
theorem dL_law_602 : decode cL_law 602 = .ok (.aload_n 2, 1) := by decide +kernel
theorem dL_law_603 : decode cL_law 603 = .ok (.aload_n 0, 1) := by decide +kernel
theorem dL_law_604 : decode cL_law 604 = .ok (.iload 4, 2) := by decide +kernel
theorem dL_law_606 : decode cL_law 606 = .ok (.iconst 1, 1) := by decide +kernel
theorem dL_law_607 : decode cL_law 607 = .ok (.iadd, 1) := by decide +kernel
theorem dL_law_608 : decode cL_law 608 = .ok (.iaload, 1) := by decide +kernel
theorem dL_law_609 : decode cL_law 609 = .ok (.invokevirtual 66, 3) := by decide +kernel
theorem dL_law_612 : decode cL_law 612 = .ok (.istore 6, 2) := by decide +kernel
theorem dL_law_614 : decode cL_law 614 = .ok (.aload_n 2, 1) := by decide +kernel
theorem dL_law_615 : decode cL_law 615 = .ok (.invokevirtual 67, 3) := by decide +kernel
theorem dL_law_618 : decode cL_law 618 = .ok (.iload 5, 2) := by decide +kernel
theorem dL_law_620 : decode cL_law 620 = .ok (.if_icmp .eq 5, 3) := by decide +kernel
theorem dL_law_623 : decode cL_law 623 = .ok (.iconst 0, 1) := by decide +kernel
theorem dL_law_624 : decode cL_law 624 = .ok (.ireturn, 1) := by decide +kernel
theorem dL_law_625 : decode cL_law 625 = .ok (.iload 5, 2) := by decide +kernel
theorem dL_law_627 : decode cL_law 627 = .ok (.ifCond .ne 15, 3) := by decide +kernel
theorem dL_law_630 : decode cL_law 630 = .ok (.aload_n 3, 1) := by decide +kernel
theorem dL_law_631 : decode cL_law 631 = .ok (.iconst 0, 1) := by decide +kernel
theorem dL_law_632 : decode cL_law 632 = .ok (.laload, 1) := by decide +kernel
theorem dL_law_633 : decode cL_law 633 = .ok (.iload 6, 2) := by decide +kernel
theorem dL_law_635 : decode cL_law 635 = .ok (.i2l, 1) := by decide +kernel
theorem dL_law_636 : decode cL_law 636 = .ok (.lcmp, 1) := by decide +kernel
theorem dL_law_637 : decode cL_law 637 = .ok (.ifCond .eq 5, 3) := by decide +kernel
theorem dL_law_640 : decode cL_law 640 = .ok (.iconst 0, 1) := by decide +kernel
theorem dL_law_641 : decode cL_law 641 = .ok (.ireturn, 1) := by decide +kernel
theorem dL_law_642 : decode cL_law 642 = .ok (.goto 128, 3) := by decide +kernel
theorem dL_law_645 : decode cL_law 645 = .ok (.aload_n 1, 1) := by decide +kernel
theorem dL_law_646 : decode cL_law 646 = .ok (.aload_n 0, 1) := by decide +kernel
theorem dL_law_647 : decode cL_law 647 = .ok (.iload 4, 2) := by decide +kernel
theorem dL_law_649 : decode cL_law 649 = .ok (.iconst 1, 1) := by decide +kernel
theorem dL_law_650 : decode cL_law 650 = .ok (.iadd, 1) := by decide +kernel
theorem dL_law_651 : decode cL_law 651 = .ok (.iaload, 1) := by decide +kernel
theorem dL_law_652 : decode cL_law 652 = .ok (.aload_n 0, 1) := by decide +kernel
theorem dL_law_653 : decode cL_law 653 = .ok (.iload 4, 2) := by decide +kernel
theorem dL_law_655 : decode cL_law 655 = .ok (.iconst 2, 1) := by decide +kernel
theorem dL_law_656 : decode cL_law 656 = .ok (.iadd, 1) := by decide +kernel
theorem dL_law_657 : decode cL_law 657 = .ok (.iaload, 1) := by decide +kernel
theorem dL_law_658 : decode cL_law 658 = .ok (.invokevirtual 70, 3) := by decide +kernel
theorem dL_law_661 : decode cL_law 661 = .ok (.aload_n 2, 1) := by decide +kernel
theorem dL_law_662 : decode cL_law 662 = .ok (.aload_n 0, 1) := by decide +kernel
theorem dL_law_663 : decode cL_law 663 = .ok (.iload 4, 2) := by decide +kernel
theorem dL_law_665 : decode cL_law 665 = .ok (.iconst 1, 1) := by decide +kernel
theorem dL_law_666 : decode cL_law 666 = .ok (.iadd, 1) := by decide +kernel
theorem dL_law_667 : decode cL_law 667 = .ok (.iaload, 1) := by decide +kernel
theorem dL_law_668 : decode cL_law 668 = .ok (.aload_n 0, 1) := by decide +kernel
theorem dL_law_669 : decode cL_law 669 = .ok (.iload 4, 2) := by decide +kernel
theorem dL_law_671 : decode cL_law 671 = .ok (.iconst 2, 1) := by decide +kernel
theorem dL_law_672 : decode cL_law 672 = .ok (.iadd, 1) := by decide +kernel
theorem dL_law_673 : decode cL_law 673 = .ok (.iaload, 1) := by decide +kernel
theorem dL_law_674 : decode cL_law 674 = .ok (.invokevirtual 73, 3) := by decide +kernel
theorem dL_law_677 : decode cL_law 677 = .ok (.if_icmp .eq 93, 3) := by decide +kernel
theorem dL_law_680 : decode cL_law 680 = .ok (.iconst 0, 1) := by decide +kernel
theorem dL_law_681 : decode cL_law 681 = .ok (.ireturn, 1) := by decide +kernel
theorem dL_law_682 : decode cL_law 682 = .ok (.aload_n 1, 1) := by decide +kernel
theorem dL_law_683 : decode cL_law 683 = .ok (.aload_n 0, 1) := by decide +kernel
theorem dL_law_684 : decode cL_law 684 = .ok (.iload 4, 2) := by decide +kernel
theorem dL_law_686 : decode cL_law 686 = .ok (.iconst 1, 1) := by decide +kernel
theorem dL_law_687 : decode cL_law 687 = .ok (.iadd, 1) := by decide +kernel
theorem dL_law_688 : decode cL_law 688 = .ok (.iaload, 1) := by decide +kernel
theorem dL_law_689 : decode cL_law 689 = .ok (.invokevirtual 74, 3) := by decide +kernel
theorem dL_law_692 : decode cL_law 692 = .ok (.aload_n 2, 1) := by decide +kernel
theorem dL_law_693 : decode cL_law 693 = .ok (.aload_n 0, 1) := by decide +kernel
theorem dL_law_694 : decode cL_law 694 = .ok (.iload 4, 2) := by decide +kernel
theorem dL_law_696 : decode cL_law 696 = .ok (.iconst 1, 1) := by decide +kernel
theorem dL_law_697 : decode cL_law 697 = .ok (.iadd, 1) := by decide +kernel
theorem dL_law_698 : decode cL_law 698 = .ok (.iaload, 1) := by decide +kernel
theorem dL_law_699 : decode cL_law 699 = .ok (.invokevirtual 77, 3) := by decide +kernel
theorem dL_law_702 : decode cL_law 702 = .ok (.if_icmp .eq 68, 3) := by decide +kernel
theorem dL_law_705 : decode cL_law 705 = .ok (.iconst 0, 1) := by decide +kernel
theorem dL_law_706 : decode cL_law 706 = .ok (.ireturn, 1) := by decide +kernel
theorem dL_law_707 : decode cL_law 707 = .ok (.aload_n 1, 1) := by decide +kernel
theorem dL_law_708 : decode cL_law 708 = .ok (.aload_n 0, 1) := by decide +kernel
theorem dL_law_709 : decode cL_law 709 = .ok (.iload 4, 2) := by decide +kernel
theorem dL_law_711 : decode cL_law 711 = .ok (.iconst 1, 1) := by decide +kernel
theorem dL_law_712 : decode cL_law 712 = .ok (.iadd, 1) := by decide +kernel
theorem dL_law_713 : decode cL_law 713 = .ok (.iaload, 1) := by decide +kernel
theorem dL_law_714 : decode cL_law 714 = .ok (.invokevirtual 78, 3) := by decide +kernel
theorem dL_law_717 : decode cL_law 717 = .ok (.aload_n 2, 1) := by decide +kernel
theorem dL_law_718 : decode cL_law 718 = .ok (.aload_n 0, 1) := by decide +kernel
theorem dL_law_719 : decode cL_law 719 = .ok (.iload 4, 2) := by decide +kernel
theorem dL_law_721 : decode cL_law 721 = .ok (.iconst 1, 1) := by decide +kernel
theorem dL_law_722 : decode cL_law 722 = .ok (.iadd, 1) := by decide +kernel
theorem dL_law_723 : decode cL_law 723 = .ok (.iaload, 1) := by decide +kernel
theorem dL_law_724 : decode cL_law 724 = .ok (.invokevirtual 81, 3) := by decide +kernel
theorem dL_law_727 : decode cL_law 727 = .ok (.if_icmp .eq 43, 3) := by decide +kernel
theorem dL_law_730 : decode cL_law 730 = .ok (.iconst 0, 1) := by decide +kernel
theorem dL_law_731 : decode cL_law 731 = .ok (.ireturn, 1) := by decide +kernel
theorem dL_law_732 : decode cL_law 732 = .ok (.aload_n 1, 1) := by decide +kernel
theorem dL_law_733 : decode cL_law 733 = .ok (.aload_n 0, 1) := by decide +kernel
theorem dL_law_734 : decode cL_law 734 = .ok (.iload 4, 2) := by decide +kernel
theorem dL_law_736 : decode cL_law 736 = .ok (.iconst 1, 1) := by decide +kernel
theorem dL_law_737 : decode cL_law 737 = .ok (.iadd, 1) := by decide +kernel
theorem dL_law_738 : decode cL_law 738 = .ok (.iaload, 1) := by decide +kernel
theorem dL_law_739 : decode cL_law 739 = .ok (.invokevirtual 82, 3) := by decide +kernel
theorem dL_law_742 : decode cL_law 742 = .ok (.aload_n 2, 1) := by decide +kernel
theorem dL_law_743 : decode cL_law 743 = .ok (.aload_n 0, 1) := by decide +kernel
theorem dL_law_744 : decode cL_law 744 = .ok (.iload 4, 2) := by decide +kernel
theorem dL_law_746 : decode cL_law 746 = .ok (.iconst 1, 1) := by decide +kernel
theorem dL_law_747 : decode cL_law 747 = .ok (.iadd, 1) := by decide +kernel
theorem dL_law_748 : decode cL_law 748 = .ok (.iaload, 1) := by decide +kernel
theorem dL_law_749 : decode cL_law 749 = .ok (.invokevirtual 85, 3) := by decide +kernel
theorem dL_law_752 : decode cL_law 752 = .ok (.if_icmp .eq 18, 3) := by decide +kernel
theorem dL_law_755 : decode cL_law 755 = .ok (.iconst 0, 1) := by decide +kernel
theorem dL_law_756 : decode cL_law 756 = .ok (.ireturn, 1) := by decide +kernel
theorem dL_law_757 : decode cL_law 757 = .ok (.aload_n 1, 1) := by decide +kernel
theorem dL_law_758 : decode cL_law 758 = .ok (.invokevirtual 86, 3) := by decide +kernel
theorem dL_law_761 : decode cL_law 761 = .ok (.aload_n 2, 1) := by decide +kernel
theorem dL_law_762 : decode cL_law 762 = .ok (.invokevirtual 89, 3) := by decide +kernel
theorem dL_law_765 : decode cL_law 765 = .ok (.if_icmp .eq 5, 3) := by decide +kernel
theorem dL_law_768 : decode cL_law 768 = .ok (.iconst 0, 1) := by decide +kernel
theorem dL_law_769 : decode cL_law 769 = .ok (.ireturn, 1) := by decide +kernel
theorem dL_law_770 : decode cL_law 770 = .ok (.iinc 4 6, 3) := by decide +kernel
theorem dL_law_773 : decode cL_law 773 = .ok (.goto (-750), 3) := by decide +kernel
theorem dL_law_776 : decode cL_law 776 = .ok (.iconst 1, 1) := by decide +kernel
theorem dL_law_777 : decode cL_law 777 = .ok (.ireturn, 1) := by decide +kernel
end
section
/-! The memory: cell, slot -> int. References stand still: they are the layout's. -/
abbrev Mem : Type := Nat → Nat → Int32
abbrev Lay : Type := (Nat → Nat) → Mem → Nat → va_E
def mset (M : Mem) (k j : Nat) (v : Int32) : Mem := fun a => if a = k then upd (M k) j v else M a
theorem mset_same (M : Mem) (k j : Nat) (v : Int32) : mset M k j v k = upd (M k) j v := by simp [mset]
theorem mset_ne (M : Mem) {a k : Nat} (j : Nat) (v : Int32) (h : a ≠ k) : mset M k j v a = M a := by simp [mset, h]
def inb (i : Int32) (n : Nat) : Bool := !(decide (i < 0) || decide (n ≤ i.toNatClampNeg))
theorem inb_in {i : Int32} {n : Nat} (h : inb i n = true) : vp_in i n := by
  simp [inb] at h
  intro q
  rcases q with q | q
  · exact absurd q (by simpa using h.1)
  · omega
theorem inb_lt {i : Int32} {n : Nat} (h : inb i n = true) : i.toNatClampNeg < n := by
  simp [inb] at h
  exact h.2
def isb (x : Int32) : Bool := decide (x = 0) || decide (x = 1)
theorem isb_nar {x : Int32} (h : isb x = true) : narrow .boolean (.int x) = .int x := by
  simp [isb] at h
  rcases h with rfl | rfl <;> rfl
theorem isb_fit {x : Int32} (h : isb x = true) : fits .boolean (.int x) = true := by
  simp [isb] at h
  rcases h with rfl | rfl <;> rfl
theorem isb_vp {x : Int32} (h : isb x = true) : vp_nar .boolean x = x := by
  simp [isb] at h
  rcases h with rfl | rfl <;> rfl
def ldI (M : Mem) (k n : Nat) (i : Int32) : Option Int32 := if inb i n = true then some (M k i.toNatClampNeg) else none
def stI (M : Mem) (k n : Nat) (i x : Int32) : Option Mem := if inb i n = true then some (mset M k i.toNatClampNeg x) else none
def stZ (M : Mem) (k n : Nat) (i x : Int32) : Option Mem := if (inb i n && isb x) = true then some (mset M k i.toNatClampNeg x) else none
def stF (M : Mem) (k j : Nat) (x : Int32) : Option Mem := some (mset M k j x)
def stFZ (M : Mem) (k j : Nat) (x : Int32) : Option Mem := if isb x = true then some (mset M k j x) else none
def rtZ (x : Int32) (M : Mem) : Option (Int32 × Mem) := if isb x = true then some (x, M) else none
def ixQ (n : Nat) (i : Int32) : Option Nat := if inb i n = true then some i.toNatClampNeg else none
def ckP (b : Bool) : Option Unit := if b = true then some () else none
theorem bindS {α β : Type} {a : Option α} {f : α → Option β} {r : β} (h : a.bind f = some r) : ∃ x, a = some x ∧ f x = some r := by
  cases a with
  | none => cases h
  | some x => exact ⟨x, rfl, h⟩
theorem ifS {c : Prop} [Decidable c] {α : Type} {a b : Option α} {r : α} (h : (if c then a else b) = some r) : (c ∧ a = some r) ∨ (¬ c ∧ b = some r) := by
  by_cases hc : c
  · rw [if_pos hc] at h
    exact Or.inl ⟨hc, h⟩
  · rw [if_neg hc] at h
    exact Or.inr ⟨hc, h⟩
theorem ixQ_lt {n : Nat} {i : Int32} {t : Nat} (h : ixQ n i = some t) : t < n := by
  unfold ixQ at h
  split at h
  · next hi =>
    cases h
    exact inb_lt hi
  · cases h
/-! The world of N cells at the addresses ad -/
def gw (N : Nat) (z : Lay) (ad : Nat → Nat) (M : Mem) : va_W := (List.range N).map (fun k => (ad k, z ad M k))
def gA (N : Nat) (ad : Nat → Nat) : Nat → Prop := fun q => ∃ k, k < N ∧ q = ad k
def gInj (N : Nat) (ad : Nat → Nat) : Prop := ∀ i j, i < N → j < N → ad i = ad j → i = j
def gLoc (z : Lay) : Prop := ∀ (ad : Nat → Nat) (M M' : Mem) (k : Nat), M k = M' k → z ad M k = z ad M' k
def gWd (D : va_G) (N : Nat) (z : Lay) (ad : Nat → Nat) (M : Mem) (s : State) (H : Heap) (locs : List Loc) : Prop := va_P D vwCl (gw N z ad M) H ∧ va_S (gA N ad) s.heap H locs
def nW : Cond := Cond.methodLinkNest RX5 25 yX6_within RX6
def gC (p : Program) (s : State) (m : MethodId) (args : Array Value) (c : Code) (own : String) (cc : ByteArray) (nL : Nat) (D : va_G) (tys : List (ClassId × FieldType)) (N : Nat) (z : Lay) (ad : Nat → Nat) : Prop :=
  CallFix p m c cc nL s args gW own ∧ va_K D vwCl tys s ∧ va_Nw nW s ∧ gInj N ad ∧ gLoc z
def gPre (D : va_G) (tys : List (ClassId × FieldType)) (N : Nat) (z : Lay) (ad : Nat → Nat) (M : Mem) (U : State) : Prop := va_P D vwCl (gw N z ad M) U.heap ∧ va_K D vwCl tys U ∧ va_Nw nW U
def gAr (N : Nat) (z : Lay) (ad : Nat → Nat) (cA : ClassId) (k n : Nat) : Prop := k < N ∧ ∀ M : Mem, z ad M k = .inl (cA, n, .inl (M k))
def gOb (N : Nat) (z : Lay) (ad : Nat → Nat) (ci : Nat) (k : Nat) (fs : Mem → List Value) : Prop := k < N ∧ ∀ M : Mem, z ad M k = .inr (ci, fs M)
def gRf (N : Nat) (z : Lay) (ad : Nat → Nat) (cA : ClassId) (k n : Nat) (f : Nat → Nat) : Prop := k < N ∧ ∀ M : Mem, z ad M k = .inl (cA, n, .inr (.inr (.inr (.inr (fun j => some (ad (f j)))))))
def rmH (h : Nat) : Room := { frames := h, cells := 0, slots := 0, locals := 40 * h }
theorem gw_at {N : Nat} {z : Lay} {ad : Nat → Nat} {M : Mem} {k : Nat} (hk : k < N) : (gw N z ad M)[k]? = some (ad k, z ad M k) := by
  simp [gw, hk]
theorem gw_set {N : Nat} {z : Lay} {ad : Nat → Nat} {M M' : Mem} {k : Nat} {E : va_E} (hk : k < N) (hE : z ad M' k = E) (hloc : ∀ a, a ≠ k → z ad M' a = z ad M a) : (gw N z ad M).set k (ad k, E) = gw N z ad M' := by
  subst hE
  apply List.ext_getElem?
  intro i
  by_cases hi : i = k
  · subst hi
    rw [List.getElem?_set_self (by simpa [gw] using hk), gw_at hk]
  · rw [List.getElem?_set_ne (Ne.symm hi)]
    by_cases hN : i < N
    · rw [gw_at hN, gw_at hN, hloc i hi]
    · rw [List.getElem?_eq_none (by simpa [gw] using hN), List.getElem?_eq_none (by simpa [gw] using hN)]
theorem gw_D {N : Nat} {z : Lay} {ad : Nat → Nat} {M : Mem} (hi : gInj N ad) : va_D (gA N ad) (gw N z ad M) := by
  have key : ∀ (k : Nat) (q : Nat × va_E), (gw N z ad M)[k]? = some q → k < N ∧ q.1 = ad k := by
    intro k q hk
    have hl : k < N := by simpa [gw] using (List.getElem?_eq_some_iff.mp hk).1
    rw [gw_at hl] at hk
    cases hk
    exact ⟨hl, rfl⟩
  refine ⟨fun i j x y h1 h2 hxy => ?_, fun k q hk => ?_⟩
  · obtain ⟨a1, a2⟩ := key i x h1
    obtain ⟨b1, b2⟩ := key j y h2
    exact hi i j a1 b1 (by rw [← a2, ← b2, hxy])
  · obtain ⟨a1, a2⟩ := key k q hk
    exact ⟨k, a1, a2⟩
theorem gPre_blind {D : va_G} {tys : List (ClassId × FieldType)} {N : Nat} {z : Lay} {ad : Nat → Nat} {M : Mem} {As : List Value} : FrameBlind (va_Pc As (gPre D tys N z ad M)) := by
  intro a U g mk q
  obtain ⟨q0, qP, qK, qN⟩ := q
  exact ⟨q0, qP, va_K.moved (u := U) (U := U.calling g mk a) (Vm.Alike.refl U.vm) qK, va_Nw.same (u := U) (U := U.calling g mk a) rfl rfl qN⟩
section GR
variable {p : Program} {l : Launch} {e : Env} {h : Nat} {R : Room} {s : State} {m : MethodId} {args : Array Value} {below : List Frame} {meth : Method} {c : Code} {H : Heap} {locs : List Loc} {cells slots : Nat} {Q : State → Prop} {cc : ByteArray} {nL pc : Nat} {own : String} {ls : Array Slot} {rest : List Value} {D : va_G} {tl : List (ClassId × FieldType)} {N : Nat} {z : Lay} {ad : Nat → Nat} {M M1 : Mem} {cI : ClassId}
theorem g_iald (C : gC p s m args c own cc nL D ((cI, .int) :: tl) N z ad) (w : gWd D N z ad M s H locs) {k n : Nat} {i x : Int32} (hA : gAr N z ad cI k n) (e1 : ldI M k n i = some x) (hdg : decode cc pc = .ok (.iaload, 1))
    (kk : W p l e R s m args below meth c H locs cells slots Q (F0 m (pc + 1) ls (.int x :: rest))) : W p l e R s m args below meth c H locs cells slots Q (F0 m pc ls (.int i :: .ref (ad k) :: rest)) := by
  obtain ⟨⟨hx, hb, hml, hown, hts⟩, hK, hN, hi, hloc⟩ := C
  unfold ldI at e1
  split at e1
  · next hin =>
    cases e1
    exact va_iald (tys := (cI, .int) :: tl) hx hb hK w.1 k 0 (by rw [gw_at hA.1, hA.2]) rfl (inb_in hin) hdg kk
  · cases e1
theorem g_zald {cZ : ClassId} (C : gC p s m args c own cc nL D ((cI, .int) :: (cZ, .boolean) :: tl) N z ad) (w : gWd D N z ad M s H locs) {k n : Nat} {i x : Int32} (hA : gAr N z ad cZ k n) (e1 : ldI M k n i = some x) (hdg : decode cc pc = .ok (.baload, 1))
    (kk : W p l e R s m args below meth c H locs cells slots Q (F0 m (pc + 1) ls (.int x :: rest))) : W p l e R s m args below meth c H locs cells slots Q (F0 m pc ls (.int i :: .ref (ad k) :: rest)) := by
  obtain ⟨⟨hx, hb, hml, hown, hts⟩, hK, hN, hi, hloc⟩ := C
  unfold ldI at e1
  split at e1
  · next hin =>
    cases e1
    exact va_zald (tys := (cI, .int) :: (cZ, .boolean) :: tl) hx hb hK w.1 k 1 (by rw [gw_at hA.1, hA.2]) rfl (inb_in hin) hdg kk
  · cases e1
theorem g_iast (C : gC p s m args c own cc nL D ((cI, .int) :: tl) N z ad) (w : gWd D N z ad M s H locs) {k n : Nat} {i x : Int32} (hA : gAr N z ad cI k n) (e1 : stI M k n i x = some M1) (hdg : decode cc pc = .ok (.iastore, 1))
    (kk : ∀ (H1 : Heap) (locs1 : List Loc), gWd D N z ad M1 s H1 locs1 → W p l e R s m args below meth c H1 locs1 cells slots Q (F0 m (pc + 1) ls rest)) : W p l e R s m args below meth c H locs cells slots Q (F0 m pc ls (.int x :: .int i :: .ref (ad k) :: rest)) := by
  obtain ⟨⟨hx, hb, hml, hown, hts⟩, hK, hN, hi, hloc⟩ := C
  unfold stI at e1
  split at e1
  · next hin =>
    cases e1
    refine va_iast (tys := (cI, .int) :: tl) hx hb hK w.1 (gw_D hi) w.2 k 0 (by rw [gw_at hA.1, hA.2]) rfl (inb_in hin) hdg (fun H1 locs1 hP hD hS => kk H1 locs1 ⟨?_, hS⟩)
    rw [gw_set (M' := mset M k i.toNatClampNeg x) hA.1 (by rw [hA.2, mset_same]) (fun a ha => hloc ad _ _ a (mset_ne M _ _ ha))] at hP
    exact hP
  · cases e1
theorem g_zast {cZ : ClassId} (C : gC p s m args c own cc nL D ((cI, .int) :: (cZ, .boolean) :: tl) N z ad) (w : gWd D N z ad M s H locs) {k n : Nat} {i x : Int32} (hA : gAr N z ad cZ k n) (e1 : stZ M k n i x = some M1) (hdg : decode cc pc = .ok (.bastore, 1))
    (kk : ∀ (H1 : Heap) (locs1 : List Loc), gWd D N z ad M1 s H1 locs1 → W p l e R s m args below meth c H1 locs1 cells slots Q (F0 m (pc + 1) ls rest)) : W p l e R s m args below meth c H locs cells slots Q (F0 m pc ls (.int x :: .int i :: .ref (ad k) :: rest)) := by
  obtain ⟨⟨hx, hb, hml, hown, hts⟩, hK, hN, hi, hloc⟩ := C
  unfold stZ at e1
  split at e1
  · next hin =>
    cases e1
    simp only [Bool.and_eq_true] at hin
    refine va_zast (tys := (cI, .int) :: (cZ, .boolean) :: tl) hx hb hK w.1 (gw_D hi) w.2 k 1 (by rw [gw_at hA.1, hA.2]) rfl (inb_in hin.1) hdg (fun H1 locs1 hP hD hS => kk H1 locs1 ⟨?_, hS⟩)
    rw [isb_vp hin.2, gw_set (M' := mset M k i.toNatClampNeg x) hA.1 (by rw [hA.2, mset_same]) (fun a ha => hloc ad _ _ a (mset_ne M _ _ ha))] at hP
    exact hP
  · cases e1
theorem g_alen (C : gC p s m args c own cc nL D ((cI, .int) :: tl) N z ad) (w : gWd D N z ad M s H locs) {k n : Nat} {v : Int32} (hA : gAr N z ad cI k n) (hv : Int32.ofNat n = v) (hdg : decode cc pc = .ok (.arraylength, 1))
    (kk : W p l e R s m args below meth c H locs cells slots Q (F0 m (pc + 1) ls (.int v :: rest))) : W p l e R s m args below meth c H locs cells slots Q (F0 m pc ls (.ref (ad k) :: rest)) := by
  obtain ⟨⟨hx, hb, hml, hown, hts⟩, hK, hN, hi, hloc⟩ := C
  exact va_alen (tys := (cI, .int) :: tl) (x := (n, .inl (M k))) hx hb hK w.1 k 0 (by rw [gw_at hA.1, hA.2]) (ty := .int) rfl hv hdg kk
theorem g_aald {tys : List (ClassId × FieldType)} (C : gC p s m args c own cc nL D tys N z ad) (w : gWd D N z ad M s H locs) {cA : ClassId} {k n t0 : Nat} {i : Int32} {t : Nat} {f : Nat → Nat} {CN : String} (hA : gRf N z ad cA k n f) (ht : tys[t0]? = some (cA, .object CN)) (e1 : ixQ n i = some t) (hdg : decode cc pc = .ok (.aaload, 1))
    (kk : W p l e R s m args below meth c H locs cells slots Q (F0 m (pc + 1) ls (.ref (ad (f t)) :: rest))) : W p l e R s m args below meth c H locs cells slots Q (F0 m pc ls (.int i :: .ref (ad k) :: rest)) := by
  obtain ⟨⟨hx, hb, hml, hown, hts⟩, hK, hN, hi, hloc⟩ := C
  unfold ixQ at e1
  split at e1
  · next hin =>
    cases e1
    exact va_aldq (C := CN) (f := fun j => some (ad (f j))) hx hb hK w.1 k t0 (by rw [gw_at hA.1, hA.2]) ht (inb_in hin) hdg kk
  · cases e1
theorem g_get {tys : List (ClassId × FieldType)} (C : gC p s m args c own cc nL D tys N z ad) (w : gWd D N z ad M s H locs) {k ci NF index : Nat} {fs : Mem → List Value} {CN : String} {T : u_T} (hO : gOb N z ad ci k fs) (hc : vwCl[ci]? = some (CN, T, NF)) (hin : ∀ w ∈ u_ws CN T NF, w ∈ gW) (j : Nat) (hj : j < NF) (hl : Cond.fieldLink own index (T j).1 (T j).2.1 (T j).2.2.1 ∈ gW) {v : Value} (hv : (fs M)[j]? = some v) (hdg : decode cc pc = .ok (.getfield index, 3))
    (kk : W p l e R s m args below meth c H locs cells slots Q (F0 m (pc + 3) ls (v :: rest))) : W p l e R s m args below meth c H locs cells slots Q (F0 m pc ls (.ref (ad k) :: rest)) := by
  obtain ⟨⟨hx, hb, hml, hown, hts⟩, hK, hN, hi, hloc⟩ := C
  exact va_get hx hb hts hin hown hK w.1 k (by rw [gw_at hO.1, hO.2]) hc j hj (hts _ hl) (fun _ q => q) hv hdg kk
theorem g_put {tys : List (ClassId × FieldType)} (C : gC p s m args c own cc nL D tys N z ad) (w : gWd D N z ad M s H locs) {k ci NF index : Nat} {fs : Mem → List Value} {CN : String} {T : u_T} {x : Int32} (hO : gOb N z ad ci k fs) (hc : vwCl[ci]? = some (CN, T, NF)) (hin : ∀ w ∈ u_ws CN T NF, w ∈ gW) (ty0 : Nat → FieldType) (hty : ∀ k, k < NF → parseFieldDescriptor (T k).2.2.1 = some (ty0 k)) (hnm : ∀ a, a < NF → ∀ b, b < NF → a ≠ b → (T a).2.1 ≠ (T b).2.1) (j : Nat) (hj : j < NF) (hl : Cond.fieldLink own index (T j).1 (T j).2.1 (T j).2.2.1 ∈ gW) (hfin : (T j).2.2.2 = false)
    (hn : narrow (ty0 j) (.int x) = .int x) (hf : fits (ty0 j) (.int x) = true) (hlen : j < (fs M).length) (hset : (fs M).set j (.int x) = fs (mset M k j x)) (hdg : decode cc pc = .ok (.putfield index, 3))
    (kk : ∀ (H1 : Heap) (locs1 : List Loc), gWd D N z ad (mset M k j x) s H1 locs1 → W p l e R s m args below meth c H1 locs1 cells slots Q (F0 m (pc + 3) ls rest)) : W p l e R s m args below meth c H locs cells slots Q (F0 m pc ls (.int x :: .ref (ad k) :: rest)) := by
  obtain ⟨⟨hx, hb, hml, hown, hts⟩, hK, hN, hi, hloc⟩ := C
  refine va_put hx hb hts hin ty0 hty hnm hown hK w.1 (gw_D hi) w.2 k (by rw [gw_at hO.1, hO.2]) hc j hj (hts _ hl) (fun _ q => q) hfin (hty j hj) hn hf hlen hdg (fun H1 locs1 hP hD hS => kk H1 locs1 ⟨?_, hS⟩)
  rw [gw_set (M' := mset M k j x) hO.1 (by rw [hO.2, hset]) (fun a ha => hloc ad _ _ a (mset_ne M _ _ ha))] at hP
  exact hP
end GR
end
section
/-! Ends, beginnings and calls of methods over a world of N cells -/
def qI (D : va_G) (N : Nat) (z : Lay) (ad : Nat → Nat) (R : Int32 × Mem) : Array Value → State → Outcome → State → Prop := va_Qi (fun r u => (r, u) = R) (fun u t => va_P D vwCl (gw N z ad u) t.heap) (gA N ad)
def qV (D : va_G) (N : Nat) (z : Lay) (ad : Nat → Nat) (R : Int32 × Mem) : Array Value → State → Outcome → State → Prop := va_Qv (fun u : Mem => u = R.2) (fun u t => va_P D vwCl (gw N z ad u) t.heap) (gA N ad)
def qR (D : va_G) (N : Nat) (z : Lay) (ad : Nat → Nat) (R : Nat × Mem) : Array Value → State → Outcome → State → Prop := va_Qr (fun u : Nat × Mem => u = R) (fun u a t => a = ad u.1 ∧ va_P D vwCl (gw N z ad u.2) t.heap) (gA N ad)
abbrev gMet (l : Launch) (y : MethodName) (cc : ByteArray) (nL : Nat) (ret : Option FieldType) (h : Nat) (D : va_G) (tys : List (ClassId × FieldType)) (N : Nat) (z : Lay) (ad : Nat → Nat) (As : List Value) (M : Mem) (Qc : Array Value → State → Outcome → State → Prop) : Prop :=
  Met l y (Cond.code y cc nL ret :: gW) (rmH h) (va_Pc As (gPre D tys N z ad M)) Qc 0 0 (gA N ad)
def gWv (own : String) (index : Nat) (y : MethodName) (bytes : ByteArray) (maxL : Nat) (ret : Option FieldType) : Prop :=
  Cond.methodLink own index y ∈ gW ∧ Cond.instanceMethod y ∈ gW ∧ Cond.selects y.cls y y ∈ gW ∧ Cond.initialized y.cls ∈ gW ∧ Cond.code y bytes maxL ret ∈ gW
def gWs (own : String) (index : Nat) (y : MethodName) (bytes : ByteArray) (maxL : Nat) (ret : Option FieldType) : Prop :=
  Cond.methodLink own index y ∈ gW ∧ Cond.static y ∈ gW ∧ Cond.initialized y.cls ∈ gW ∧ Cond.code y bytes maxL ret ∈ gW
def gMd (y : MethodName) (n : Nat) : Prop := y.cls ≠ "java/lang/invoke/MethodHandle" ∧ y.cls ≠ "java/lang/invoke/VarHandle" ∧ (parseMethodDescriptor y.desc).map (fun d => d.parameters.length) = some n
theorem g_ret0 {D : va_G} {N : Nat} {z : Lay} {ad : Nat → Nat} {M : Mem} {s : State} {H : Heap} {locs : List Loc} (w : gWd D N z ad M s H locs) : ∀ q ∈ locs, gA N ad q.base := w.2.2.2
section GS
variable {p : Program} {l : Launch} {e : Env} {h : Nat} {Rm : Room} {s : State} {m : MethodId} {args : Array Value} {below : List Frame} {meth : Method} {c : Code} {H : Heap} {locs : List Loc} {Q : State → Prop} {cc : ByteArray} {nL pc : Nat} {own : String} {ls : Array Slot} {rest : List Value} {D : va_G} {tys : List (ClassId × FieldType)} {N : Nat} {z : Lay} {ad : Nat → Nat} {M : Mem}
theorem g_iret (C : gC p s m args c own cc nL D tys N z ad) (w : gWd D N z ad M s H locs) {R : Int32 × Mem} (hr : meth.sig.returnType = some .int) (hlocks : meth.locks = false) {v : Int32} (hf : some (v, M) = some R) (hdg : decode cc pc = .ok (.ireturn, 1)) :
    W p l e Rm s m args below meth c H locs 0 0 (MQ below (qI D N z ad R) args s 0 0 (gA N ad)) (F0 m pc ls [.int v]) := by
  obtain ⟨⟨hx, hb, -⟩, -⟩ := C
  exact W.iret hx hb hr (fun t ht hW => ⟨⟨v, M, rfl, Option.some.inj hf, by show va_P D vwCl _ t.heap; rw [ht]; exact w.1⟩, w.2.F ht⟩) w.2.2.2 hdg
theorem g_zret (C : gC p s m args c own cc nL D tys N z ad) (w : gWd D N z ad M s H locs) {R : Int32 × Mem} (hr : meth.sig.returnType = some .boolean) (hlocks : meth.locks = false) {v : Int32} (hf : rtZ v M = some R) (hdg : decode cc pc = .ok (.ireturn, 1)) :
    W p l e Rm s m args below meth c H locs 0 0 (MQ below (qI D N z ad R) args s 0 0 (gA N ad)) (F0 m pc ls [.int v]) := by
  obtain ⟨⟨hx, hb, -⟩, -⟩ := C
  unfold rtZ at hf
  split at hf
  · next hv => exact W.zret hx hb hr (isb_nar hv) (fun t ht hW => ⟨⟨v, M, rfl, Option.some.inj hf, by show va_P D vwCl _ t.heap; rw [ht]; exact w.1⟩, w.2.F ht⟩) w.2.2.2 hdg
  · cases hf
theorem g_vret (C : gC p s m args c own cc nL D tys N z ad) (w : gWd D N z ad M s H locs) {R : Int32 × Mem} (hr : meth.sig.returnType = none) (hlocks : meth.locks = false) (hf : some ((0 : Int32), M) = some R) (hdg : decode cc pc = .ok (.return_, 1)) :
    W p l e Rm s m args below meth c H locs 0 0 (MQ below (qV D N z ad R) args s 0 0 (gA N ad)) (F0 m pc ls []) := by
  obtain ⟨⟨hx, hb, -⟩, -⟩ := C
  cases hf
  exact W.vret hx hb hr (fun t ht hW => ⟨⟨M, rfl, rfl, by show va_P D vwCl _ t.heap; rw [ht]; exact w.1⟩, w.2.F ht⟩) w.2.2.2 hdg
theorem g_aret (C : gC p s m args c own cc nL D tys N z ad) (w : gWd D N z ad M s H locs) {R : Nat × Mem} {CN : String} (hr : meth.sig.returnType = some (.object CN)) (hlocks : meth.locks = false) {k : Nat} (hf : some (k, M) = some R) (hdg : decode cc pc = .ok (.areturn, 1)) :
    W p l e Rm s m args below meth c H locs 0 0 (MQ below (qR D N z ad R) args s 0 0 (gA N ad)) (F0 m pc ls [.ref (ad k)]) := by
  obtain ⟨⟨hx, hb, -⟩, -⟩ := C
  cases hf
  exact W.aret hx hb hr (Or.inl ⟨_, rfl⟩) (Or.inr ⟨_, rfl⟩) (fun t ht hW => ⟨⟨(k, M), ad k, rfl, rfl, rfl, by show va_P D vwCl _ t.heap; rw [ht]; exact w.1⟩, w.2.F ht⟩) w.2.2.2 hdg
theorem gMet_of {y : MethodName} {ret : Option FieldType} {As : List Value} {Qc : Array Value → State → Outcome → State → Prop} (hy : plainName y.cls = true) (hi : gInj N ad) (hz : gLoc z) (hn : (lg_sl As).length ≤ nL)
    (body : ∀ (p : Program) (e : Env) (s : State) (m : MethodId) (args : Array Value) (below : List Frame) (meth : Method) (c : Code) (ls : Array Slot), gC p s m args c y.cls cc nL D tys N z ad → meth.sig.returnType = ret → meth.locks = false → gWd D N z ad M s s.heap [] → lv_has ls nL (lv_args 0 As) →
      W p l e (rmH h) s m args below meth c s.heap [] 0 0 (MQ below Qc args s 0 0 (gA N ad)) (F0 m 0 ls [])) : gMet l y cc nL ret h D tys N z ad As M Qc := by
  refine Met.ofW (cc := cc) (maxL := nL) (ret := ret) hy rfl ?_
  intro p e s m args below meth c s₁ B hml hv
  obtain ⟨rfl, hP, hK, hN⟩ := hv
  have hts := atoms_spec (ws := Cond.code y cc nL ret :: gW) B.pre
  have hown : s.vm.findClass y.cls = some m.cls := findClass_of_methodNamed B.named
  rw [lg_entry_eq]
  exact body p e s m As.toArray below meth c _ ⟨⟨B.exec, B.bytes, hml, hown, fun w hw => hts w (List.mem_cons_of_mem _ hw)⟩, hK, hN, hi, hz⟩ B.returns B.notSynchronized ⟨hP, va_S.rf⟩ (lv_entry As hn)
theorem g_runV (C : gC p s m args c own cc nL D tys N z ad) (w : gWd D N z ad M s H locs) {y : MethodName} {bytes : ByteArray} {maxL h' n index : Nat} {ret : Option FieldType} {As st0 : List Value} {k ci NF : Nat} {fs : Mem → List Value} {T : u_T} {Qc : Array Value → State → Outcome → State → Prop}
    (hM : gMet l y bytes maxL ret h' D tys N z ad (.ref (ad k) :: As) M Qc) (hO : gOb N z ad ci k fs) (hc : vwCl[ci]? = some (y.cls, T, NF)) (hw : gWv own index y bytes maxL ret) (hd : gMd y n) (hn : As.length = n) (hh : h' + 1 ≤ h) (hL : maxL ≤ 20) (hsz : ls.size = nL) (hst : st0 = As.reverse ++ .ref (ad k) :: rest) (hr8 : (rest.map fun v => v.category).sum ≤ 8) (hdg : decode cc pc = .ok (.invokevirtual index, 3)) :
    va_Run p l e (rmH h) s m args below meth c H locs 0 0 0 0 (F0 m pc ls st0) rest (Qc (Value.ref (ad k) :: As).toArray) (gA N ad) := by
  obtain ⟨⟨hx, hb, hml, hown, hts⟩, hK, hN, hi, hloc⟩ := C
  obtain ⟨w1, w2, w3, w4, w5⟩ := hw
  have hG : GoodIn gW (wsV own index y.cls y (Cond.code y bytes maxL ret :: gW)) := by
    intro q hq
    have hm : q ∈ gW := by
      simp only [wsV, List.mem_append, List.mem_cons, List.not_mem_nil, or_false] at hq
      rcases hq with (rfl | rfl | rfl | rfl) | rfl | hq
      · exact w1
      · exact w2
      · exact w3
      · exact w4
      · exact w5
      · exact hq
    exact ⟨hm, gw_good q hm⟩
  refine va_runV (C := y.cls) (Ts := gW) ⟨hx, hb, hml, hown, hts⟩ hM (cwV n hts hG rfl rfl rfl ⟨rfl, hd⟩ ⟨hh, by show 8 + (maxL + 11) + 40 * h' ≤ 40 * h; omega⟩) ⟨gPre_blind, va_recv hK w.1 hc (by rw [gw_at hO.1, hO.2]), fun U hU hW => ⟨rfl, by rw [hU]; exact w.1, va_K.moved hW.alike hK, va_Nw.warmM hW hN⟩⟩ rfl hn hsz hst (lv_room hr8) hdg ⟨Nat.le_refl _, Nat.le_refl _⟩
theorem g_runS (C : gC p s m args c own cc nL D tys N z ad) (w : gWd D N z ad M s H locs) {y : MethodName} {bytes : ByteArray} {maxL h' n index : Nat} {ret : Option FieldType} {As st0 : List Value} {Qc : Array Value → State → Outcome → State → Prop}
    (hM : gMet l y bytes maxL ret h' D tys N z ad As M Qc) (hw : gWs own index y bytes maxL ret) (hd : gMd y n) (hn : As.length = n) (hh : h' + 1 ≤ h) (hL : maxL ≤ 20) (hsz : ls.size = nL) (hst : st0 = As.reverse ++ rest) (hr8 : (rest.map fun v => v.category).sum ≤ 8) (hdg : decode cc pc = .ok (.invokestatic index, 3)) :
    va_Run p l e (rmH h) s m args below meth c H locs 0 0 0 0 (F0 m pc ls st0) rest (Qc As.toArray) (gA N ad) := by
  obtain ⟨⟨hx, hb, hml, hown, hts⟩, hK, hN, hi, hloc⟩ := C
  obtain ⟨w1, w2, w4, w5⟩ := hw
  have hG : GoodIn gW (va_wsS own index y (Cond.code y bytes maxL ret :: gW)) := by
    intro q hq
    have hm : q ∈ gW := by
      simp only [va_wsS, List.mem_append, List.mem_cons, List.not_mem_nil, or_false] at hq
      rcases hq with (rfl | rfl | rfl) | rfl | hq
      · exact w1
      · exact w2
      · exact w4
      · exact w5
      · exact hq
    exact ⟨hm, gw_good q hm⟩
  refine va_runS (Ts := gW) ⟨hx, hb, hml, hown, hts⟩ hM (va_cwS n hts hG rfl rfl rfl hd ⟨hh, by show 8 + (maxL + 11) + 40 * h' ≤ 40 * h; omega⟩) ⟨gPre_blind, fun U hU hW => ⟨rfl, by rw [hU]; exact w.1, va_K.moved hW.alike hK, va_Nw.warmM hW hN⟩⟩ rfl hn hsz hst (lv_room hr8) hdg ⟨Nat.le_refl _, Nat.le_refl _⟩
/-- the one call of a nest mate's private static method: Uses.close asks within -/
theorem g_runN (C : gC p s m args c RX5 cc nL D tys N z ad) (w : gWd D N z ad M s H locs) {bytes : ByteArray} {maxL h' n : Nat} {ret : Option FieldType} {As st0 : List Value} {Qc : Array Value → State → Outcome → State → Prop}
    (hM : gMet l yX6_within bytes maxL ret h' D tys N z ad As M Qc) (hw : Cond.static yX6_within ∈ gW ∧ Cond.initialized RX6 ∈ gW ∧ Cond.code yX6_within bytes maxL ret ∈ gW) (hd : gMd yX6_within n) (hn : As.length = n) (hh : h' + 1 ≤ h) (hL : maxL ≤ 20) (hsz : ls.size = nL) (hst : st0 = As.reverse ++ rest) (hr8 : (rest.map fun v => v.category).sum ≤ 8) (hdg : decode cc pc = .ok (.invokestatic 25, 3)) :
    va_Run p l e (rmH h) s m args below meth c H locs 0 0 0 0 (F0 m pc ls st0) rest (Qc As.toArray) (gA N ad) := by
  obtain ⟨⟨hx, hb, hml, hown, hts⟩, hK, hN, hi, hloc⟩ := C
  obtain ⟨w2, w4, w5⟩ := hw
  have hG : GoodIn gW (Cond.code yX6_within bytes maxL ret :: gW) := by
    intro q hq
    have hm : q ∈ gW := by
      rcases List.mem_cons.mp hq with rfl | hq
      · exact w5
      · exact hq
    exact ⟨hm, gw_good q hm⟩
  exact va_runSN (Ts := gW) ⟨hx, hb, hml, hown, hts⟩ hM ⟨va_cnB n hts hG rfl rfl rfl hN (hts _ w4) hd ⟨hh, by show 8 + (maxL + 11) + 40 * h' ≤ 40 * h; omega⟩, hts _ w2, trivial⟩ ⟨gPre_blind, fun U hU hW => ⟨rfl, by rw [hU]; exact w.1, va_K.moved hW.alike hK, va_Nw.warmM hW hN⟩⟩ rfl hn hsz hst (lv_room hr8) hdg ⟨Nat.le_refl _, Nat.le_refl _⟩
theorem g_backI (w : gWd D N z ad M s H locs) {a : Array Value} {R' : Int32 × Mem} {st0 : List Value} (hr : va_Run p l e Rm s m args below meth c H locs 0 0 0 0 (F0 m pc ls st0) rest (qI D N z ad R' a) (gA N ad))
    (kk : ∀ (H1 : Heap) (locs1 : List Loc), gWd D N z ad R'.2 s H1 locs1 → W p l e Rm s m args below meth c H1 locs1 0 0 Q (F0 m (pc + 3) ls (.int R'.1 :: rest))) : W p l e Rm s m args below meth c H locs 0 0 Q (F0 m pc ls st0) := by
  refine va_calli hr w.2 (fun q _ hq => hq) (fun q hq => hq) (fun r u t H1 locs1 ht hvm hp hB hz1 hk1 hS => ?_)
  subst hp
  exact kk H1 locs1 ⟨by rw [← ht]; exact hB, hS⟩
theorem g_backV (w : gWd D N z ad M s H locs) {a : Array Value} {R' : Int32 × Mem} {st0 : List Value} (hr : va_Run p l e Rm s m args below meth c H locs 0 0 0 0 (F0 m pc ls st0) rest (qV D N z ad R' a) (gA N ad))
    (kk : ∀ (H1 : Heap) (locs1 : List Loc), gWd D N z ad R'.2 s H1 locs1 → W p l e Rm s m args below meth c H1 locs1 0 0 Q (F0 m (pc + 3) ls rest)) : W p l e Rm s m args below meth c H locs 0 0 Q (F0 m pc ls st0) := by
  refine va_callv hr w.2 (fun q _ hq => hq) (fun q hq => hq) (fun u t H1 locs1 ht hvm hp hB hz1 hk1 hS => ?_)
  subst hp
  exact kk H1 locs1 ⟨by rw [← ht]; exact hB, hS⟩
theorem g_backR (w : gWd D N z ad M s H locs) {a : Array Value} {R' : Nat × Mem} {st0 : List Value} (hr : va_Run p l e Rm s m args below meth c H locs 0 0 0 0 (F0 m pc ls st0) rest (qR D N z ad R' a) (gA N ad))
    (kk : ∀ (H1 : Heap) (locs1 : List Loc), gWd D N z ad R'.2 s H1 locs1 → W p l e Rm s m args below meth c H1 locs1 0 0 Q (F0 m (pc + 3) ls (.ref (ad R'.1) :: rest))) : W p l e Rm s m args below meth c H locs 0 0 Q (F0 m pc ls st0) := by
  refine va_callr hr w.2 (fun q _ hq => hq) (fun q hq => hq) (fun u ra t H1 locs1 ht hvm hp hB hz1 hk1 hS => ?_)
  subst hp
  obtain ⟨rfl, hB⟩ := hB
  exact kk H1 locs1 ⟨by rw [← ht]; exact hB, hS⟩
end GS
/-- a switch's place, by its number -/
theorem sw_in {x : Int32} {k lo hi : Int} (hx : x.toInt = k) (h1 : lo ≤ k) (h2 : k ≤ hi) : ¬ x.toInt < lo ∧ ¬ hi < x.toInt := by omega
end
