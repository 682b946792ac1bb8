section
-- ===== PART A: goes FIRST, ahead of the names: the tables' words, and 'selects' of the private methods out of them =====
/-- a private method of a class that the tables say can be made, by its rows of tables_1 -/
def lw_okq (q : MethodName × Nat) : Prop := (q.1.cls ≠ "java/lang/invoke/MethodHandle" ∧ q.1.cls ≠ "java/lang/invoke/VarHandle") ∧ Cond.instantiable q.1.cls q.2 ∈ tables_1 ∧ Cond.privateMethod q.1 ∈ tables_1 ∧ Cond.instanceMethod q.1 ∈ tables_1
theorem lw_p0 : lw_okq (⟨"LoadPress", "note", "(II)I"⟩, 6) := ⟨⟨by decide +kernel, by decide +kernel⟩, List.mem_of_getElem? (i := 12) (by decide +kernel), List.mem_of_getElem? (i := 206) (by decide +kernel), List.mem_of_getElem? (i := 207) (by decide +kernel)⟩
theorem lw_p1 : lw_okq (⟨"LoadPress$Contexts", "gatherFrom", "(LLoadPress$Visits;II)V"⟩, 5) := ⟨⟨by decide +kernel, by decide +kernel⟩, List.mem_of_getElem? (i := 61) (by decide +kernel), List.mem_of_getElem? (i := 295) (by decide +kernel), List.mem_of_getElem? (i := 296) (by decide +kernel)⟩
theorem lw_p2 : lw_okq (⟨"LoadPress$Contexts", "sort", "()V"⟩, 5) := ⟨⟨by decide +kernel, by decide +kernel⟩, List.mem_of_getElem? (i := 61) (by decide +kernel), List.mem_of_getElem? (i := 312) (by decide +kernel), List.mem_of_getElem? (i := 313) (by decide +kernel)⟩
theorem lw_p3 : lw_okq (⟨"LoadPress$Contexts", "isFirstOfContext", "(I)Z"⟩, 5) := ⟨⟨by decide +kernel, by decide +kernel⟩, List.mem_of_getElem? (i := 61) (by decide +kernel), List.mem_of_getElem? (i := 320) (by decide +kernel), List.mem_of_getElem? (i := 321) (by decide +kernel)⟩
theorem lw_p4 : lw_okq (⟨"LoadPress$Contexts", "isAlikeToOneOf", "(II)Z"⟩, 5) := ⟨⟨by decide +kernel, by decide +kernel⟩, List.mem_of_getElem? (i := 61) (by decide +kernel), List.mem_of_getElem? (i := 332) (by decide +kernel), List.mem_of_getElem? (i := 333) (by decide +kernel)⟩
theorem lw_p5 : lw_okq (⟨"LoadPress$Contexts", "countNext", "(I[I)I"⟩, 5) := ⟨⟨by decide +kernel, by decide +kernel⟩, List.mem_of_getElem? (i := 61) (by decide +kernel), List.mem_of_getElem? (i := 336) (by decide +kernel), List.mem_of_getElem? (i := 337) (by decide +kernel)⟩
theorem lw_p6 : lw_okq (⟨"LoadPress$Contexts", "areInProportion", "(II)Z"⟩, 5) := ⟨⟨by decide +kernel, by decide +kernel⟩, List.mem_of_getElem? (i := 61) (by decide +kernel), List.mem_of_getElem? (i := 341) (by decide +kernel), List.mem_of_getElem? (i := 342) (by decide +kernel)⟩
theorem lw_p7 : lw_okq (⟨"LoadPress$Walker", "dealWalk", "(LLoadPress$Machine;LLoadPress$Visits;)V"⟩, 1) := ⟨⟨by decide +kernel, by decide +kernel⟩, List.mem_of_getElem? (i := 86) (by decide +kernel), List.mem_of_getElem? (i := 367) (by decide +kernel), List.mem_of_getElem? (i := 368) (by decide +kernel)⟩
theorem lw_p8 : lw_okq (⟨"LoadPress$Press", "begin", "(II)V"⟩, 13) := ⟨⟨by decide +kernel, by decide +kernel⟩, List.mem_of_getElem? (i := 115) (by decide +kernel), List.mem_of_getElem? (i := 389) (by decide +kernel), List.mem_of_getElem? (i := 390) (by decide +kernel)⟩
theorem lw_p9 : lw_okq (⟨"LoadPress$Press", "visitDueFirst", "()I"⟩, 13) := ⟨⟨by decide +kernel, by decide +kernel⟩, List.mem_of_getElem? (i := 115) (by decide +kernel), List.mem_of_getElem? (i := 403) (by decide +kernel), List.mem_of_getElem? (i := 404) (by decide +kernel)⟩
theorem lw_p10 : lw_okq (⟨"LoadPress$Press", "serve", "(II)V"⟩, 13) := ⟨⟨by decide +kernel, by decide +kernel⟩, List.mem_of_getElem? (i := 115) (by decide +kernel), List.mem_of_getElem? (i := 410) (by decide +kernel), List.mem_of_getElem? (i := 411) (by decide +kernel)⟩
theorem lw_p11 : lw_okq (⟨"LoadPress$Press", "serverFreeFirst", "()I"⟩, 13) := ⟨⟨by decide +kernel, by decide +kernel⟩, List.mem_of_getElem? (i := 115) (by decide +kernel), List.mem_of_getElem? (i := 414) (by decide +kernel), List.mem_of_getElem? (i := 415) (by decide +kernel)⟩
theorem lw_p12 : lw_okq (⟨"LoadPress$Press", "noteBehind", "(II)V"⟩, 13) := ⟨⟨by decide +kernel, by decide +kernel⟩, List.mem_of_getElem? (i := 115) (by decide +kernel), List.mem_of_getElem? (i := 419) (by decide +kernel), List.mem_of_getElem? (i := 420) (by decide +kernel)⟩
theorem lw_p13 : lw_okq (⟨"LoadPress", "noteAsks", "(LLoadPress$Visits;I)V"⟩, 6) := ⟨⟨by decide +kernel, by decide +kernel⟩, List.mem_of_getElem? (i := 12) (by decide +kernel), List.mem_of_getElem? (i := 490) (by decide +kernel), List.mem_of_getElem? (i := 491) (by decide +kernel)⟩
theorem lw_p14 : lw_okq (⟨"LoadPressModel", "countOf", "(II)I"⟩, 26) := ⟨⟨by decide +kernel, by decide +kernel⟩, List.mem_of_getElem? (i := 506) (by decide +kernel), List.mem_of_getElem? (i := 613) (by decide +kernel), List.mem_of_getElem? (i := 614) (by decide +kernel)⟩
theorem lw_p15 : lw_okq (⟨"LoadPressModel", "inLog", "(II)I"⟩, 26) := ⟨⟨by decide +kernel, by decide +kernel⟩, List.mem_of_getElem? (i := 506) (by decide +kernel), List.mem_of_getElem? (i := 617) (by decide +kernel), List.mem_of_getElem? (i := 618) (by decide +kernel)⟩
def lw_privs_1 : List (MethodName × Nat) := [(⟨"LoadPress", "note", "(II)I"⟩, 6), (⟨"LoadPress$Contexts", "gatherFrom", "(LLoadPress$Visits;II)V"⟩, 5), (⟨"LoadPress$Contexts", "sort", "()V"⟩, 5), (⟨"LoadPress$Contexts", "isFirstOfContext", "(I)Z"⟩, 5), (⟨"LoadPress$Contexts", "isAlikeToOneOf", "(II)Z"⟩, 5), (⟨"LoadPress$Contexts", "countNext", "(I[I)I"⟩, 5), (⟨"LoadPress$Contexts", "areInProportion", "(II)Z"⟩, 5), (⟨"LoadPress$Walker", "dealWalk", "(LLoadPress$Machine;LLoadPress$Visits;)V"⟩, 1), (⟨"LoadPress$Press", "begin", "(II)V"⟩, 13), (⟨"LoadPress$Press", "visitDueFirst", "()I"⟩, 13), (⟨"LoadPress$Press", "serve", "(II)V"⟩, 13), (⟨"LoadPress$Press", "serverFreeFirst", "()I"⟩, 13), (⟨"LoadPress$Press", "noteBehind", "(II)V"⟩, 13), (⟨"LoadPress", "noteAsks", "(LLoadPress$Visits;I)V"⟩, 6), (⟨"LoadPressModel", "countOf", "(II)I"⟩, 26), (⟨"LoadPressModel", "inLog", "(II)I"⟩, 26)]
theorem lw_r1 : ∀ q ∈ lw_privs_1, lw_okq q := List.forall_mem_cons.mpr ⟨lw_p0, List.forall_mem_cons.mpr ⟨lw_p1, List.forall_mem_cons.mpr ⟨lw_p2, List.forall_mem_cons.mpr ⟨lw_p3, List.forall_mem_cons.mpr ⟨lw_p4, List.forall_mem_cons.mpr ⟨lw_p5, List.forall_mem_cons.mpr ⟨lw_p6, List.forall_mem_cons.mpr ⟨lw_p7, List.forall_mem_cons.mpr ⟨lw_p8, List.forall_mem_cons.mpr ⟨lw_p9, List.forall_mem_cons.mpr ⟨lw_p10, List.forall_mem_cons.mpr ⟨lw_p11, List.forall_mem_cons.mpr ⟨lw_p12, List.forall_mem_cons.mpr ⟨lw_p13, List.forall_mem_cons.mpr ⟨lw_p14, List.forall_mem_cons.mpr ⟨lw_p15, fun _ h => absurd h List.not_mem_nil⟩⟩⟩⟩⟩⟩⟩⟩⟩⟩⟩⟩⟩⟩⟩⟩
theorem lw_p16 : lw_okq (⟨"LoadPressModel", "next", "(II)I"⟩, 26) := ⟨⟨by decide +kernel, by decide +kernel⟩, List.mem_of_getElem? (i := 506) (by decide +kernel), List.mem_of_getElem? (i := 621) (by decide +kernel), List.mem_of_getElem? (i := 622) (by decide +kernel)⟩
theorem lw_p17 : lw_okq (⟨"LoadPressModel", "waitsOf", "(III)I"⟩, 26) := ⟨⟨by decide +kernel, by decide +kernel⟩, List.mem_of_getElem? (i := 506) (by decide +kernel), List.mem_of_getElem? (i := 630) (by decide +kernel), List.mem_of_getElem? (i := 631) (by decide +kernel)⟩
theorem lw_p18 : lw_okq (⟨"LoadPressModel", "findContexts", "(I)V"⟩, 26) := ⟨⟨by decide +kernel, by decide +kernel⟩, List.mem_of_getElem? (i := 506) (by decide +kernel), List.mem_of_getElem? (i := 646) (by decide +kernel), List.mem_of_getElem? (i := 647) (by decide +kernel)⟩
theorem lw_p19 : lw_okq (⟨"LoadPressModel", "areAlike", "(II)Z"⟩, 26) := ⟨⟨by decide +kernel, by decide +kernel⟩, List.mem_of_getElem? (i := 506) (by decide +kernel), List.mem_of_getElem? (i := 654) (by decide +kernel), List.mem_of_getElem? (i := 655) (by decide +kernel)⟩
theorem lw_p20 : lw_okq (⟨"LoadPressModel", "all", "(I)I"⟩, 26) := ⟨⟨by decide +kernel, by decide +kernel⟩, List.mem_of_getElem? (i := 506) (by decide +kernel), List.mem_of_getElem? (i := 658) (by decide +kernel), List.mem_of_getElem? (i := 659) (by decide +kernel)⟩
theorem lw_p21 : lw_okq (⟨"LoadPressModel", "walk", "(I)V"⟩, 26) := ⟨⟨by decide +kernel, by decide +kernel⟩, List.mem_of_getElem? (i := 506) (by decide +kernel), List.mem_of_getElem? (i := 666) (by decide +kernel), List.mem_of_getElem? (i := 667) (by decide +kernel)⟩
theorem lw_p22 : lw_okq (⟨"LoadPressModel", "serve", "(II)V"⟩, 26) := ⟨⟨by decide +kernel, by decide +kernel⟩, List.mem_of_getElem? (i := 506) (by decide +kernel), List.mem_of_getElem? (i := 673) (by decide +kernel), List.mem_of_getElem? (i := 674) (by decide +kernel)⟩
theorem lw_p23 : lw_okq (⟨"LoadPressModel", "isWalk", "(I)Z"⟩, 26) := ⟨⟨by decide +kernel, by decide +kernel⟩, List.mem_of_getElem? (i := 506) (by decide +kernel), List.mem_of_getElem? (i := 681) (by decide +kernel), List.mem_of_getElem? (i := 682) (by decide +kernel)⟩
theorem lw_p24 : lw_okq (⟨"LoadPressModel", "from", "(I)I"⟩, 26) := ⟨⟨by decide +kernel, by decide +kernel⟩, List.mem_of_getElem? (i := 506) (by decide +kernel), List.mem_of_getElem? (i := 697) (by decide +kernel), List.mem_of_getElem? (i := 698) (by decide +kernel)⟩
theorem lw_p25 : lw_okq (⟨"LoadPressModel", "taking", "(II)I"⟩, 26) := ⟨⟨by decide +kernel, by decide +kernel⟩, List.mem_of_getElem? (i := 506) (by decide +kernel), List.mem_of_getElem? (i := 701) (by decide +kernel), List.mem_of_getElem? (i := 702) (by decide +kernel)⟩
theorem lw_p26 : lw_okq (⟨"LoadPressModel", "waitingAt", "(I)I"⟩, 26) := ⟨⟨by decide +kernel, by decide +kernel⟩, List.mem_of_getElem? (i := 506) (by decide +kernel), List.mem_of_getElem? (i := 718) (by decide +kernel), List.mem_of_getElem? (i := 719) (by decide +kernel)⟩
def lw_privs_2 : List (MethodName × Nat) := [(⟨"LoadPressModel", "next", "(II)I"⟩, 26), (⟨"LoadPressModel", "waitsOf", "(III)I"⟩, 26), (⟨"LoadPressModel", "findContexts", "(I)V"⟩, 26), (⟨"LoadPressModel", "areAlike", "(II)Z"⟩, 26), (⟨"LoadPressModel", "all", "(I)I"⟩, 26), (⟨"LoadPressModel", "walk", "(I)V"⟩, 26), (⟨"LoadPressModel", "serve", "(II)V"⟩, 26), (⟨"LoadPressModel", "isWalk", "(I)Z"⟩, 26), (⟨"LoadPressModel", "from", "(I)I"⟩, 26), (⟨"LoadPressModel", "taking", "(II)I"⟩, 26), (⟨"LoadPressModel", "waitingAt", "(I)I"⟩, 26)]
theorem lw_r2 : ∀ q ∈ lw_privs_2, lw_okq q := List.forall_mem_cons.mpr ⟨lw_p16, List.forall_mem_cons.mpr ⟨lw_p17, List.forall_mem_cons.mpr ⟨lw_p18, List.forall_mem_cons.mpr ⟨lw_p19, List.forall_mem_cons.mpr ⟨lw_p20, List.forall_mem_cons.mpr ⟨lw_p21, List.forall_mem_cons.mpr ⟨lw_p22, List.forall_mem_cons.mpr ⟨lw_p23, List.forall_mem_cons.mpr ⟨lw_p24, List.forall_mem_cons.mpr ⟨lw_p25, List.forall_mem_cons.mpr ⟨lw_p26, fun _ h => absurd h List.not_mem_nil⟩⟩⟩⟩⟩⟩⟩⟩⟩⟩⟩
def lw_privs : List (MethodName × Nat) := lw_privs_1 ++ (lw_privs_2)
def lw_tbl : List Cond := k2_sels lw_privs ++ tables_1
theorem lw_privs_ok : ∀ q ∈ lw_privs, lw_okq q := by
  show ∀ q ∈ lw_privs_1 ++ (lw_privs_2), lw_okq q
  exact List.forall_mem_append.mpr ⟨lw_r1, lw_r2⟩
end
section
def RX0 : String := "LoadPress$Contexts"
def TX0 : u_T := fun k => match k with
  | 0 => ("LoadPress$Contexts", "comings", "[I", true)
  | 1 => ("LoadPress$Contexts", "unlike", "[I", true)
  | 2 => ("LoadPress$Contexts", "nextOfOne", "[I", true)
  | 3 => ("LoadPress$Contexts", "nextOfOther", "[I", true)
  | _ => ("LoadPress$Contexts", "size", "I", false)
def tyX0 : Nat → FieldType := fun k => match k with
  | 0 => .array .int
  | 1 => .array .int
  | 2 => .array .int
  | 3 => .array .int
  | _ => .int
abbrev wsX00 : List Cond := u_ws RX0 TX0 5
theorem nmX0 : ∀ a, a < 5 → ∀ b, b < 5 → a ≠ b → (TX0 a).2.1 ≠ (TX0 b).2.1 := by decide +kernel
theorem tyX0_ok : ∀ k, k < 5 → parseFieldDescriptor (TX0 k).2.2.1 = some (tyX0 k) := by decide +kernel
abbrev cX0_init : ByteArray := prog_2_method_1_code
def yX0_init : MethodName := ⟨RX0, "<init>", "()V"⟩
abbrev cX0_gather : ByteArray := prog_2_method_2_code
def yX0_gather : MethodName := ⟨RX0, "gather", "(LLoadPress$Visits;I)V"⟩
abbrev cX0_gatherFrom : ByteArray := prog_2_method_3_code
def yX0_gatherFrom : MethodName := ⟨RX0, "gatherFrom", "(LLoadPress$Visits;II)V"⟩
abbrev cX0_sort : ByteArray := prog_2_method_4_code
def yX0_sort : MethodName := ⟨RX0, "sort", "()V"⟩
abbrev cX0_isFirstOfContext : ByteArray := prog_2_method_5_code
def yX0_isFirstOfContext : MethodName := ⟨RX0, "isFirstOfContext", "(I)Z"⟩
abbrev cX0_number : ByteArray := prog_2_method_6_code
def yX0_number : MethodName := ⟨RX0, "number", "()I"⟩
abbrev cX0_numberOfUnlike : ByteArray := prog_2_method_7_code
def yX0_numberOfUnlike : MethodName := ⟨RX0, "numberOfUnlike", "()I"⟩
abbrev cX0_isAlikeToOneOf : ByteArray := prog_2_method_8_code
def yX0_isAlikeToOneOf : MethodName := ⟨RX0, "isAlikeToOneOf", "(II)Z"⟩
abbrev cX0_countNext : ByteArray := prog_2_method_9_code
def yX0_countNext : MethodName := ⟨RX0, "countNext", "(I[I)I"⟩
abbrev cX0_areInProportion : ByteArray := prog_2_method_10_code
def yX0_areInProportion : MethodName := ⟨RX0, "areInProportion", "(II)Z"⟩
def RX1 : String := "LoadPress$Dealing"
def TX1 : u_T := fun k => match k with
  | 0 => ("LoadPress$Dealing", "counts", "[I", true)
  | _ => ("LoadPress$Dealing", "came", "[I", true)
def tyX1 : Nat → FieldType := fun k => match k with
  | 0 => .array .int
  | _ => .array .int
abbrev wsX10 : List Cond := u_ws RX1 TX1 2
theorem nmX1 : ∀ a, a < 2 → ∀ b, b < 2 → a ≠ b → (TX1 a).2.1 ≠ (TX1 b).2.1 := by decide +kernel
theorem tyX1_ok : ∀ k, k < 2 → parseFieldDescriptor (TX1 k).2.2.1 = some (tyX1 k) := by decide +kernel
abbrev cX1_init : ByteArray := prog_3_method_1_code
def yX1_init : MethodName := ⟨RX1, "<init>", "(I)V"⟩
abbrev cX1_beginAnew : ByteArray := prog_3_method_2_code
def yX1_beginAnew : MethodName := ⟨RX1, "beginAnew", "()V"⟩
abbrev cX1_deal : ByteArray := prog_3_method_3_code
def yX1_deal : MethodName := ⟨RX1, "deal", "()I"⟩
abbrev cX1_sumOf : ByteArray := prog_3_method_4_code
def yX1_sumOf : MethodName := ⟨RX1, "sumOf", "([I)I"⟩
def RX2 : String := "LoadPress$Machine"
def TX2 : u_T := fun k => match k with
  | 0 => ("LoadPress$Machine", "times", "[I", true)
  | 1 => ("LoadPress$Machine", "rares", "[I", true)
  | _ => ("LoadPress$Machine", "waits", "[LLoadPress$Dealing;", true)
def tyX2 : Nat → FieldType := fun k => match k with
  | 0 => .array .int
  | 1 => .array .int
  | _ => .array (.object "LoadPress$Dealing")
abbrev wsX20 : List Cond := u_ws RX2 TX2 3
theorem nmX2 : ∀ a, a < 3 → ∀ b, b < 3 → a ≠ b → (TX2 a).2.1 ≠ (TX2 b).2.1 := by decide +kernel
theorem tyX2_ok : ∀ k, k < 3 → parseFieldDescriptor (TX2 k).2.2.1 = some (tyX2 k) := by decide +kernel
abbrev cX2_init : ByteArray := prog_4_method_1_code
def yX2_init : MethodName := ⟨RX2, "<init>", "()V"⟩
abbrev cX2_forget : ByteArray := prog_4_method_2_code
def yX2_forget : MethodName := ⟨RX2, "forget", "()V"⟩
abbrev cX2_lengthen : ByteArray := prog_4_method_3_code
def yX2_lengthen : MethodName := ⟨RX2, "lengthen", "(III)V"⟩
abbrev cX2_tellRare : ByteArray := prog_4_method_4_code
def yX2_tellRare : MethodName := ⟨RX2, "tellRare", "(III)Z"⟩
abbrev cX2_countOf : ByteArray := prog_4_method_5_code
def yX2_countOf : MethodName := ⟨RX2, "countOf", "(II)I"⟩
abbrev cX2_timesOfWait : ByteArray := prog_4_method_6_code
def yX2_timesOfWait : MethodName := ⟨RX2, "timesOfWait", "(III)I"⟩
abbrev cX2_beginWaitsAnew : ByteArray := prog_4_method_7_code
def yX2_beginWaitsAnew : MethodName := ⟨RX2, "beginWaitsAnew", "()V"⟩
abbrev cX2_dealWait : ByteArray := prog_4_method_8_code
def yX2_dealWait : MethodName := ⟨RX2, "dealWait", "(II)I"⟩
abbrev cX2_unlikeSteps : ByteArray := prog_4_method_9_code
def yX2_unlikeSteps : MethodName := ⟨RX2, "unlikeSteps", "()I"⟩
def RX3 : String := "LoadPress$Press"
def TX3 : u_T := fun k => match k with
  | 0 => ("LoadPress$Press", "walks", "LLoadPress$Visits;", true)
  | 1 => ("LoadPress$Press", "due", "[I", true)
  | 2 => ("LoadPress$Press", "begun", "[I", true)
  | 3 => ("LoadPress$Press", "ended", "[I", true)
  | 4 => ("LoadPress$Press", "server", "[I", true)
  | 5 => ("LoadPress$Press", "nextSlot", "[I", true)
  | 6 => ("LoadPress$Press", "nextDue", "[I", true)
  | 7 => ("LoadPress$Press", "freeAt", "[I", true)
  | 8 => ("LoadPress$Press", "servers", "I", false)
  | 9 => ("LoadPress$Press", "lastBegun", "I", false)
  | 10 => ("LoadPress$Press", "behindSince", "I", false)
  | 11 => ("LoadPress$Press", "lastEnd", "I", false)
  | _ => ("LoadPress$Press", "worked", "I", false)
def tyX3 : Nat → FieldType := fun k => match k with
  | 0 => .object "LoadPress$Visits"
  | 1 => .array .int
  | 2 => .array .int
  | 3 => .array .int
  | 4 => .array .int
  | 5 => .array .int
  | 6 => .array .int
  | 7 => .array .int
  | 8 => .int
  | 9 => .int
  | 10 => .int
  | 11 => .int
  | _ => .int
abbrev wsX30 : List Cond := u_ws RX3 TX3 13
theorem nmX3 : ∀ a, a < 13 → ∀ b, b < 13 → a ≠ b → (TX3 a).2.1 ≠ (TX3 b).2.1 := by decide +kernel
theorem tyX3_ok : ∀ k, k < 13 → parseFieldDescriptor (TX3 k).2.2.1 = some (tyX3 k) := by decide +kernel
abbrev cX3_init : ByteArray := prog_5_method_1_code
def yX3_init : MethodName := ⟨RX3, "<init>", "()V"⟩
abbrev cX3_run : ByteArray := prog_5_method_2_code
def yX3_run : MethodName := ⟨RX3, "run", "(II[I)V"⟩
abbrev cX3_begin : ByteArray := prog_5_method_3_code
def yX3_begin : MethodName := ⟨RX3, "begin", "(II)V"⟩
abbrev cX3_visitDueFirst : ByteArray := prog_5_method_4_code
def yX3_visitDueFirst : MethodName := ⟨RX3, "visitDueFirst", "()I"⟩
abbrev cX3_serverFreeFirst : ByteArray := prog_5_method_5_code
def yX3_serverFreeFirst : MethodName := ⟨RX3, "serverFreeFirst", "()I"⟩
abbrev cX3_serve : ByteArray := prog_5_method_6_code
def yX3_serve : MethodName := ⟨RX3, "serve", "(II)V"⟩
abbrev cX3_noteBehind : ByteArray := prog_5_method_7_code
def yX3_noteBehind : MethodName := ⟨RX3, "noteBehind", "(II)V"⟩
abbrev cX3_fallsBehind : ByteArray := prog_5_method_8_code
def yX3_fallsBehind : MethodName := ⟨RX3, "fallsBehind", "()I"⟩
abbrev cX3_tell : ByteArray := prog_5_method_9_code
def yX3_tell : MethodName := ⟨RX3, "tell", "(II)I"⟩
abbrev cX3_longerThan : ByteArray := prog_5_method_10_code
def yX3_longerThan : MethodName := ⟨RX3, "longerThan", "(II)I"⟩
abbrev cX3_leastTicks : ByteArray := prog_5_method_11_code
def yX3_leastTicks : MethodName := ⟨RX3, "leastTicks", "(II)I"⟩
abbrev cX3_notBegunAt : ByteArray := prog_5_method_12_code
def yX3_notBegunAt : MethodName := ⟨RX3, "notBegunAt", "(I)I"⟩
def RX4 : String := "LoadPress$Visits"
def TX4 : u_T := fun k => match k with
  | 0 => ("LoadPress$Visits", "pages", "[I", true)
  | 1 => ("LoadPress$Visits", "waits", "[I", true)
  | 2 => ("LoadPress$Visits", "starts", "[I", true)
  | _ => ("LoadPress$Visits", "size", "I", false)
def tyX4 : Nat → FieldType := fun k => match k with
  | 0 => .array .int
  | 1 => .array .int
  | 2 => .array .int
  | _ => .int
abbrev wsX40 : List Cond := u_ws RX4 TX4 4
theorem nmX4 : ∀ a, a < 4 → ∀ b, b < 4 → a ≠ b → (TX4 a).2.1 ≠ (TX4 b).2.1 := by decide +kernel
theorem tyX4_ok : ∀ k, k < 4 → parseFieldDescriptor (TX4 k).2.2.1 = some (tyX4 k) := by decide +kernel
abbrev cX4_init : ByteArray := prog_6_method_1_code
def yX4_init : MethodName := ⟨RX4, "<init>", "()V"⟩
abbrev cX4_empty : ByteArray := prog_6_method_2_code
def yX4_empty : MethodName := ⟨RX4, "empty", "()V"⟩
abbrev cX4_open : ByteArray := prog_6_method_3_code
def yX4_open : MethodName := ⟨RX4, "open", "()I"⟩
abbrev cX4_add : ByteArray := prog_6_method_4_code
def yX4_add : MethodName := ⟨RX4, "add", "(II)I"⟩
abbrev cX4_asks : ByteArray := prog_6_method_5_code
def yX4_asks : MethodName := ⟨RX4, "asks", "()I"⟩
abbrev cX4_has : ByteArray := prog_6_method_6_code
def yX4_has : MethodName := ⟨RX4, "has", "(I)Z"⟩
abbrev cX4_startOf : ByteArray := prog_6_method_7_code
def yX4_startOf : MethodName := ⟨RX4, "startOf", "(I)I"⟩
abbrev cX4_endOf : ByteArray := prog_6_method_8_code
def yX4_endOf : MethodName := ⟨RX4, "endOf", "(I)I"⟩
abbrev cX4_lengthOf : ByteArray := prog_6_method_9_code
def yX4_lengthOf : MethodName := ⟨RX4, "lengthOf", "(I)I"⟩
abbrev cX4_slotOf : ByteArray := prog_6_method_10_code
def yX4_slotOf : MethodName := ⟨RX4, "slotOf", "(II)I"⟩
abbrev cX4_pageAt : ByteArray := prog_6_method_11_code
def yX4_pageAt : MethodName := ⟨RX4, "pageAt", "(I)I"⟩
abbrev cX4_waitAt : ByteArray := prog_6_method_12_code
def yX4_waitAt : MethodName := ⟨RX4, "waitAt", "(I)I"⟩
abbrev cX4_lastPlace : ByteArray := prog_6_method_13_code
def yX4_lastPlace : MethodName := ⟨RX4, "lastPlace", "()I"⟩
def RX5 : String := "LoadPress$Walker"
def TX5 : u_T := fun k => match k with
  | _ => ("LoadPress$Walker", "places", "[LLoadPress$Dealing;", true)
def tyX5 : Nat → FieldType := fun k => match k with
  | _ => .array (.object "LoadPress$Dealing")
abbrev wsX50 : List Cond := u_ws RX5 TX5 1
theorem nmX5 : ∀ a, a < 1 → ∀ b, b < 1 → a ≠ b → (TX5 a).2.1 ≠ (TX5 b).2.1 := by decide +kernel
theorem tyX5_ok : ∀ k, k < 1 → parseFieldDescriptor (TX5 k).2.2.1 = some (tyX5 k) := by decide +kernel
abbrev cX5_init : ByteArray := prog_7_method_1_code
def yX5_init : MethodName := ⟨RX5, "<init>", "()V"⟩
abbrev cX5_dealWalks : ByteArray := prog_7_method_2_code
def yX5_dealWalks : MethodName := ⟨RX5, "dealWalks", "(LLoadPress$Machine;LLoadPress$Visits;I)V"⟩
abbrev cX5_dealWalk : ByteArray := prog_7_method_3_code
def yX5_dealWalk : MethodName := ⟨RX5, "dealWalk", "(LLoadPress$Machine;LLoadPress$Visits;)V"⟩
abbrev cX5_timesOf : ByteArray := prog_7_method_4_code
def yX5_timesOf : MethodName := ⟨RX5, "timesOf", "(II)I"⟩
def RX6 : String := "LoadPress"
def TX6 : u_T := fun k => match k with
  | 0 => ("LoadPress", "log", "LLoadPress$Visits;", true)
  | 1 => ("LoadPress", "machine", "LLoadPress$Machine;", true)
  | 2 => ("LoadPress", "rows", "LLoadPress$Contexts;", true)
  | 3 => ("LoadPress", "costs", "[I", true)
  | 4 => ("LoadPress", "walker", "LLoadPress$Walker;", true)
  | _ => ("LoadPress", "latest", "LLoadPress$Press;", true)
def tyX6 : Nat → FieldType := fun k => match k with
  | 0 => .object "LoadPress$Visits"
  | 1 => .object "LoadPress$Machine"
  | 2 => .object "LoadPress$Contexts"
  | 3 => .array .int
  | 4 => .object "LoadPress$Walker"
  | _ => .object "LoadPress$Press"
abbrev wsX60 : List Cond := u_ws RX6 TX6 6
theorem nmX6 : ∀ a, a < 6 → ∀ b, b < 6 → a ≠ b → (TX6 a).2.1 ≠ (TX6 b).2.1 := by decide +kernel
theorem tyX6_ok : ∀ k, k < 6 → parseFieldDescriptor (TX6 k).2.2.1 = some (tyX6 k) := by decide +kernel
abbrev cX6_init : ByteArray := prog_1_method_1_code
def yX6_init : MethodName := ⟨RX6, "<init>", "()V"⟩
abbrev cX6_visit : ByteArray := prog_1_method_2_code
def yX6_visit : MethodName := ⟨RX6, "visit", "()I"⟩
abbrev cX6_ask : ByteArray := prog_1_method_3_code
def yX6_ask : MethodName := ⟨RX6, "ask", "(II)I"⟩
abbrev cX6_clear : ByteArray := prog_1_method_4_code
def yX6_clear : MethodName := ⟨RX6, "clear", "()V"⟩
abbrev cX6_steps : ByteArray := prog_1_method_5_code
def yX6_steps : MethodName := ⟨RX6, "steps", "(II)I"⟩
abbrev cX6_waits : ByteArray := prog_1_method_6_code
def yX6_waits : MethodName := ⟨RX6, "waits", "(III)I"⟩
abbrev cX6_rare : ByteArray := prog_1_method_7_code
def yX6_rare : MethodName := ⟨RX6, "rare", "(III)Z"⟩
abbrev cX6_cost : ByteArray := prog_1_method_8_code
def yX6_cost : MethodName := ⟨RX6, "cost", "(II)Z"⟩
abbrev cX6_contexts : ByteArray := prog_1_method_9_code
def yX6_contexts : MethodName := ⟨RX6, "contexts", "(I)I"⟩
abbrev cX6_states : ByteArray := prog_1_method_10_code
def yX6_states : MethodName := ⟨RX6, "states", "(I)I"⟩
abbrev cX6_press : ByteArray := prog_1_method_11_code
def yX6_press : MethodName := ⟨RX6, "press", "(III)I"⟩
abbrev cX6_walked : ByteArray := prog_1_method_12_code
def yX6_walked : MethodName := ⟨RX6, "walked", "(I)I"⟩
abbrev cX6_told : ByteArray := prog_1_method_13_code
def yX6_told : MethodName := ⟨RX6, "told", "(III)I"⟩
abbrev cX6_dealt : ByteArray := prog_1_method_14_code
def yX6_dealt : MethodName := ⟨RX6, "dealt", "(II)I"⟩
abbrev cX6_part : ByteArray := prog_1_method_15_code
def yX6_part : MethodName := ⟨RX6, "part", "(II)I"⟩
abbrev cX6_late : ByteArray := prog_1_method_16_code
def yX6_late : MethodName := ⟨RX6, "late", "(II)I"⟩
abbrev cX6_behind : ByteArray := prog_1_method_17_code
def yX6_behind : MethodName := ⟨RX6, "behind", "()I"⟩
abbrev cX6_waiting : ByteArray := prog_1_method_18_code
def yX6_waiting : MethodName := ⟨RX6, "waiting", "(I)I"⟩
abbrev cX6_learn : ByteArray := prog_1_method_19_code
def yX6_learn : MethodName := ⟨RX6, "learn", "()I"⟩
abbrev cX6_count : ByteArray := prog_1_method_20_code
def yX6_count : MethodName := ⟨RX6, "count", "(I)I"⟩
abbrev cX6_note : ByteArray := prog_1_method_21_code
def yX6_note : MethodName := ⟨RX6, "note", "(II)I"⟩
abbrev cX6_noteAsks : ByteArray := prog_1_method_22_code
def yX6_noteAsks : MethodName := ⟨RX6, "noteAsks", "(LLoadPress$Visits;I)V"⟩
abbrev cX6_isWithin : ByteArray := prog_1_method_23_code
def yX6_isWithin : MethodName := ⟨RX6, "isWithin", "(III)Z"⟩
abbrev cX6_isPage : ByteArray := prog_1_method_24_code
def yX6_isPage : MethodName := ⟨RX6, "isPage", "(I)Z"⟩
abbrev cX6_isPlace : ByteArray := prog_1_method_25_code
def yX6_isPlace : MethodName := ⟨RX6, "isPlace", "(I)Z"⟩
abbrev cX6_isWait : ByteArray := prog_1_method_26_code
def yX6_isWait : MethodName := ⟨RX6, "isWait", "(I)Z"⟩
abbrev cX6_stepOf : ByteArray := prog_1_method_27_code
def yX6_stepOf : MethodName := ⟨RX6, "stepOf", "(II)I"⟩
def RX7 : String := "LoadPressModel"
def TX7 : u_T := fun k => match k with
  | 0 => ("LoadPressModel", "visits", "I", false)
  | 1 => ("LoadPressModel", "many", "[I", true)
  | 2 => ("LoadPressModel", "page", "[I", true)
  | 3 => ("LoadPressModel", "wait", "[I", true)
  | 4 => ("LoadPressModel", "rare", "[I", true)
  | 5 => ("LoadPressModel", "cost", "[I", true)
  | 6 => ("LoadPressModel", "rowKey", "[I", true)
  | 7 => ("LoadPressModel", "rowNext", "[I", true)
  | 8 => ("LoadPressModel", "rows", "I", false)
  | 9 => ("LoadPressModel", "walks", "I", false)
  | 10 => ("LoadPressModel", "asks", "I", false)
  | 11 => ("LoadPressModel", "lastEnd", "I", false)
  | 12 => ("LoadPressModel", "worked", "I", false)
  | 13 => ("LoadPressModel", "walked", "[I", true)
  | 14 => ("LoadPressModel", "wPage", "[I", true)
  | 15 => ("LoadPressModel", "wWait", "[I", true)
  | 16 => ("LoadPressModel", "due", "[I", true)
  | 17 => ("LoadPressModel", "begun", "[I", true)
  | 18 => ("LoadPressModel", "ended", "[I", true)
  | 19 => ("LoadPressModel", "server", "[I", true)
  | 20 => ("LoadPressModel", "came", "[I", true)
  | 21 => ("LoadPressModel", "cameWait", "[I", true)
  | 22 => ("LoadPressModel", "count", "[I", true)
  | 23 => ("LoadPressModel", "countWait", "[I", true)
  | 24 => ("LoadPressModel", "free", "[I", true)
  | _ => ("LoadPressModel", "done", "[I", true)
def tyX7 : Nat → FieldType := fun k => match k with
  | 0 => .int
  | 1 => .array .int
  | 2 => .array .int
  | 3 => .array .int
  | 4 => .array .int
  | 5 => .array .int
  | 6 => .array .int
  | 7 => .array .int
  | 8 => .int
  | 9 => .int
  | 10 => .int
  | 11 => .int
  | 12 => .int
  | 13 => .array .int
  | 14 => .array .int
  | 15 => .array .int
  | 16 => .array .int
  | 17 => .array .int
  | 18 => .array .int
  | 19 => .array .int
  | 20 => .array .int
  | 21 => .array .int
  | 22 => .array .int
  | 23 => .array .int
  | 24 => .array .int
  | _ => .array .int
abbrev wsX70 : List Cond := u_ws RX7 TX7 26
theorem nmX7 : ∀ a, a < 26 → ∀ b, b < 26 → a ≠ b → (TX7 a).2.1 ≠ (TX7 b).2.1 := by decide +kernel
theorem tyX7_ok : ∀ k, k < 26 → parseFieldDescriptor (TX7 k).2.2.1 = some (tyX7 k) := by decide +kernel
abbrev cX7_init : ByteArray := prog_9_method_1_code
def yX7_init : MethodName := ⟨RX7, "<init>", "()V"⟩
abbrev cX7_in : ByteArray := prog_9_method_2_code
def yX7_in : MethodName := ⟨RX7, "in", "(III)Z"⟩
abbrev cX7_visit : ByteArray := prog_9_method_3_code
def yX7_visit : MethodName := ⟨RX7, "visit", "()I"⟩
abbrev cX7_ask : ByteArray := prog_9_method_4_code
def yX7_ask : MethodName := ⟨RX7, "ask", "(II)I"⟩
abbrev cX7_clear : ByteArray := prog_9_method_5_code
def yX7_clear : MethodName := ⟨RX7, "clear", "()V"⟩
abbrev cX7_next : ByteArray := prog_9_method_6_code
def yX7_next : MethodName := ⟨RX7, "next", "(II)I"⟩
abbrev cX7_inLog : ByteArray := prog_9_method_7_code
def yX7_inLog : MethodName := ⟨RX7, "inLog", "(II)I"⟩
abbrev cX7_arePlaces : ByteArray := prog_9_method_8_code
def yX7_arePlaces : MethodName := ⟨RX7, "arePlaces", "(II)Z"⟩
abbrev cX7_countOf : ByteArray := prog_9_method_9_code
def yX7_countOf : MethodName := ⟨RX7, "countOf", "(II)I"⟩
abbrev cX7_steps : ByteArray := prog_9_method_10_code
def yX7_steps : MethodName := ⟨RX7, "steps", "(II)I"⟩
abbrev cX7_waitsOf : ByteArray := prog_9_method_11_code
def yX7_waitsOf : MethodName := ⟨RX7, "waitsOf", "(III)I"⟩
abbrev cX7_waits : ByteArray := prog_9_method_12_code
def yX7_waits : MethodName := ⟨RX7, "waits", "(III)I"⟩
abbrev cX7_rare : ByteArray := prog_9_method_13_code
def yX7_rare : MethodName := ⟨RX7, "rare", "(III)Z"⟩
abbrev cX7_cost : ByteArray := prog_9_method_14_code
def yX7_cost : MethodName := ⟨RX7, "cost", "(II)Z"⟩
abbrev cX7_findContexts : ByteArray := prog_9_method_15_code
def yX7_findContexts : MethodName := ⟨RX7, "findContexts", "(I)V"⟩
abbrev cX7_contexts : ByteArray := prog_9_method_16_code
def yX7_contexts : MethodName := ⟨RX7, "contexts", "(I)I"⟩
abbrev cX7_all : ByteArray := prog_9_method_17_code
def yX7_all : MethodName := ⟨RX7, "all", "(I)I"⟩
abbrev cX7_areAlike : ByteArray := prog_9_method_18_code
def yX7_areAlike : MethodName := ⟨RX7, "areAlike", "(II)Z"⟩
abbrev cX7_states : ByteArray := prog_9_method_19_code
def yX7_states : MethodName := ⟨RX7, "states", "(I)I"⟩
abbrev cX7_deal : ByteArray := prog_9_method_20_code
def yX7_deal : MethodName := ⟨RX7, "deal", "([I[III)I"⟩
abbrev cX7_walk : ByteArray := prog_9_method_21_code
def yX7_walk : MethodName := ⟨RX7, "walk", "(I)V"⟩
abbrev cX7_serve : ByteArray := prog_9_method_22_code
def yX7_serve : MethodName := ⟨RX7, "serve", "(II)V"⟩
abbrev cX7_press : ByteArray := prog_9_method_23_code
def yX7_press : MethodName := ⟨RX7, "press", "(III)I"⟩
abbrev cX7_isWalk : ByteArray := prog_9_method_24_code
def yX7_isWalk : MethodName := ⟨RX7, "isWalk", "(I)Z"⟩
abbrev cX7_walked : ByteArray := prog_9_method_25_code
def yX7_walked : MethodName := ⟨RX7, "walked", "(I)I"⟩
abbrev cX7_told : ByteArray := prog_9_method_26_code
def yX7_told : MethodName := ⟨RX7, "told", "(III)I"⟩
abbrev cX7_dealt : ByteArray := prog_9_method_27_code
def yX7_dealt : MethodName := ⟨RX7, "dealt", "(II)I"⟩
abbrev cX7_taking : ByteArray := prog_9_method_28_code
def yX7_taking : MethodName := ⟨RX7, "taking", "(II)I"⟩
abbrev cX7_from : ByteArray := prog_9_method_29_code
def yX7_from : MethodName := ⟨RX7, "from", "(I)I"⟩
abbrev cX7_part : ByteArray := prog_9_method_30_code
def yX7_part : MethodName := ⟨RX7, "part", "(II)I"⟩
abbrev cX7_late : ByteArray := prog_9_method_31_code
def yX7_late : MethodName := ⟨RX7, "late", "(II)I"⟩
abbrev cX7_waitingAt : ByteArray := prog_9_method_32_code
def yX7_waitingAt : MethodName := ⟨RX7, "waitingAt", "(I)I"⟩
abbrev cX7_behind : ByteArray := prog_9_method_33_code
def yX7_behind : MethodName := ⟨RX7, "behind", "()I"⟩
abbrev cX7_waiting : ByteArray := prog_9_method_34_code
def yX7_waiting : MethodName := ⟨RX7, "waiting", "(I)I"⟩
abbrev cX7_learn : ByteArray := prog_9_method_35_code
def yX7_learn : MethodName := ⟨RX7, "learn", "()I"⟩
abbrev cX7_count : ByteArray := prog_9_method_36_code
def yX7_count : MethodName := ⟨RX7, "count", "(I)I"⟩
def RJ9 : String := "java/lang/Math"
def TJ9 : u_T := fun k => match k with
  | _ => ("", "", "", false)
def tyJ9 : Nat → FieldType := fun k => match k with
  | _ => .int
abbrev wsJ90 : List Cond := u_ws RJ9 TJ9 0
theorem nmJ9 : ∀ a, a < 0 → ∀ b, b < 0 → a ≠ b → (TJ9 a).2.1 ≠ (TJ9 b).2.1 := by decide +kernel
theorem tyJ9_ok : ∀ k, k < 0 → parseFieldDescriptor (TJ9 k).2.2.1 = some (tyJ9 k) := by decide +kernel
abbrev cJ9_max_7cf53 : ByteArray := prog_10_method_65_code
def yJ9_max_7cf53 : MethodName := ⟨RJ9, "max", "(II)I"⟩
abbrev cJ9_min_7cf53 : ByteArray := prog_10_method_69_code
def yJ9_min_7cf53 : MethodName := ⟨RJ9, "min", "(II)I"⟩
def RJ7 : String := "java/util/Arrays"
def TJ7 : u_T := fun k => match k with
  | _ => ("", "", "", false)
def tyJ7 : Nat → FieldType := fun k => match k with
  | _ => .int
abbrev wsJ70 : List Cond := u_ws RJ7 TJ7 0
theorem nmJ7 : ∀ a, a < 0 → ∀ b, b < 0 → a ≠ b → (TJ7 a).2.1 ≠ (TJ7 b).2.1 := by decide +kernel
theorem tyJ7_ok : ∀ k, k < 0 → parseFieldDescriptor (TJ7 k).2.2.1 = some (tyJ7 k) := by decide +kernel
abbrev cJ7_fill_53178 : ByteArray := prog_11_method_103_code
def yJ7_fill_53178 : MethodName := ⟨RJ7, "fill", "([II)V"⟩
def RL : String := "LoadPressLaw"
abbrev cL_law : ByteArray := code
def yL_law : MethodName := ⟨RL, "law", "([I)Z"⟩
abbrev vwCl : List vw_C := [(RX0, TX0, 5), (RX1, TX1, 2), (RX2, TX2, 3), (RX3, TX3, 13), (RX4, TX4, 4), (RX5, TX5, 1), (RX6, TX6, 6), (RX7, TX7, 26)]
end
section
/-! ===== the abstract memory: regions, their layout, what of it lives ===== -/
abbrev lpV : Type := Int32 ⊕ Option (Nat × Nat)
abbrev lpM : Type := Nat → Nat → Nat → Int32
abbrev lpK : Type := (Nat × List (Option (Nat × (Nat → Nat)))) ⊕ ((Nat → Nat) ⊕ ((Nat → Nat) × Nat × (Nat → Nat)))
abbrev lpL : Type := List (Option lpV)
abbrev lpC : Type := List (Nat × Instr × Nat)
abbrev lpS : Type := List lpV → lpM → (Option Int32 → lpM → Prop) → Prop
def lp_nth {α : Type} : List α → Nat → Option α
  | [], _ => none
  | a :: _, 0 => some a
  | _ :: l, n + 1 => lp_nth l n
def lp_set {α : Type} : List α → Nat → α → List α
  | [], _, _ => []
  | _ :: l, 0, x => x :: l
  | a :: l, n + 1, x => a :: lp_set l n x
def lp_len {α : Type} : List α → Nat
  | [] => 0
  | _ :: l => lp_len l + 1
def lp_o (r : Nat) : Option (Nat × (Nat → Nat)) := some (r, fun _ => 0)
def lp_k (r : Nat) : Option (Nat × (Nat → Nat)) := some (r, fun k => k)
def lp_a (n : Nat) : Option lpK := some (.inr (.inl (fun _ => n)))
def lp_dl (k : Nat) : Nat := if k < 121 then 61 else 11
def lp_lays : List (Option lpK) := [none,
  some (.inl (6, [lp_o 2, lp_o 6, lp_o 10, lp_o 15, lp_o 16, lp_o 18])),
  some (.inl (4, [lp_k 3, lp_k 4, lp_k 5, none])), lp_a 1200, lp_a 1200, lp_a 61,
  some (.inl (2, [lp_o 7, lp_o 8, lp_o 9])), lp_a 121, lp_a 121, some (.inr (.inr (fun _ => 121, 26, fun j => j))),
  some (.inl (0, [lp_o 11, lp_o 12, lp_o 13, lp_o 14, none])), lp_a 1200, lp_a 1200, lp_a 11, lp_a 11,
  lp_a 10,
  some (.inl (5, [lp_o 17])), some (.inr (.inr (fun _ => 11, 26, fun j => 121 + j))),
  some (.inl (3, [some (2, fun _ => 1), lp_o 19, lp_o 20, lp_o 21, lp_o 22, lp_o 23, lp_o 24, lp_o 25, none, none, none, none, none])),
  lp_a 1200, lp_a 1200, lp_a 1200, lp_a 1200, lp_a 60, lp_a 60, lp_a 8,
  some (.inl (1, [lp_k 27, lp_k 28])), some (.inr (.inl lp_dl)), some (.inr (.inl lp_dl)),
  none,
  some (.inl (7, [none, lp_o 31, lp_o 32, lp_o 33, lp_o 34, lp_o 35, lp_o 36, lp_o 37, none, none, none, none, none, lp_o 38, lp_o 39, lp_o 40, lp_o 41, lp_o 42, lp_o 43, lp_o 44, lp_o 45, lp_o 46, lp_o 47, lp_o 48, lp_o 49, lp_o 50])),
  lp_a 60, lp_a 1200, lp_a 1200, lp_a 121, lp_a 11, lp_a 1200, lp_a 13200,
  lp_a 60, lp_a 1200, lp_a 1200, lp_a 1200, lp_a 1200, lp_a 1200, lp_a 1200, lp_a 121, lp_a 7381, lp_a 121, lp_a 7381, lp_a 8, lp_a 60]
def lp_lay (r : Nat) : Option lpK := match lp_nth lp_lays r with
  | some (some k) => some k
  | _ => none
def lp_cnts : List Nat := [0, 1, 2, 2, 2, 2, 1, 1, 1, 1, 1, 1, 1, 1, 1, 1, 1, 1, 1, 1, 1, 1, 1, 1, 1, 1, 132, 132, 132, 0, 1, 1, 1, 1, 1, 1, 1, 1, 1, 1, 1, 1, 1, 1, 1, 1, 1, 1, 1, 1, 1]
def lp_cnt (r : Nat) : Nat := match lp_nth lp_cnts r with
  | some n => n
  | none => 0
def lp_isD (r : Nat) : Bool := Nat.ble 26 r && Nat.ble r 28
/-- a cell of the memory that is made: all, but those Dealings of the Machine that have no flag yet -/
def lp_live (σ : lpM) (r k : Nat) : Prop := k < lp_cnt r ∧ (lp_isD r = true → k < 121 → σ 9 0 k ≠ 0)
def lp_dead (σ : lpM) : Nat := (List.range 121).countP (fun k => decide (σ 9 0 k = 0))
def lp_cv (ad : Nat → Nat → Nat) (v : lpV) : Value := match v with
  | .inl x => .int x
  | .inr none => .null
  | .inr (some q) => .ref (ad q.1 q.2)
def lp_fv (ad : Nat → Nat → Nat) (σ : lpM) (r k : Nat) : Nat → List (Option (Nat × (Nat → Nat))) → List Value
  | _, [] => []
  | j, none :: fs => .int (σ r k j) :: lp_fv ad σ r k (j + 1) fs
  | j, some q :: fs => .ref (ad q.1 (q.2 k)) :: lp_fv ad σ r k (j + 1) fs
def lp_rf (ad : Nat → Nat → Nat) (σ : lpM) (r k r' : Nat) (ix : Nat → Nat) (j : Nat) : Option Nat := if σ r k j = 0 then none else some (ad r' (ix j))
def lp_cell (cI cD : ClassId) (ad : Nat → Nat → Nat) (σ : lpM) (r k : Nat) : va_E := match lp_lay r with
  | some (.inl (ci, fs)) => .inr (ci, lp_fv ad σ r k 0 fs)
  | some (.inr (.inl len)) => .inl (cI, len k, .inl (σ r k))
  | some (.inr (.inr (len, r', ix))) => .inl (cD, len k, .inr (.inr (.inr (.inr (lp_rf ad σ r k r' ix)))))
  | none => .inr (0, [])
def lp_Rep (D : va_G) (cI cD : ClassId) (ad : Nat → Nat → Nat) (σ : lpM) (H : Heap) : Prop :=
  (∀ r k, lp_live σ r k → va_at D vwCl (ad r k, lp_cell cI cD ad σ r k) H) ∧ ∀ r k r' k', lp_live σ r k → lp_live σ r' k' → ad r k = ad r' k' → r = r' ∧ k = k'
def lp_isNest : Cond → Bool
  | .fieldLinkNest _ _ _ _ _ _ => true
  | .methodLinkNest _ _ _ _ => true
  | _ => false
def lp_nest : List Cond := lw_tbl.filter lp_isNest
def lp_tbl : List Cond := lw_tbl.filter goodWord
def lp_Wd (D : va_G) (cI cD : ClassId) (U : State) : Prop := va_K D vwCl [(cI, .int), (cD, .object RX1)] U ∧ ∀ w ∈ lp_nest, va_Nw w U
def lp_TS (H : Heap) : Nat := (H.toList.map (fun c => c.slots.size)).sum
def lp_Dom (ad : Nat → Nat → Nat) (σ : lpM) (sz : Nat) : Nat → Prop := fun q => (∃ r k, lp_live σ r k ∧ ad r k = q) ∨ sz ≤ q
def lp_ok (σ : lpM) (v : lpV) : Prop := match v with
  | .inr (some q) => lp_live σ q.1 q.2
  | _ => True
def lp_Pc (D : va_G) (cI cD : ClassId) (ad : Nat → Nat → Nat) (σ : lpM) (as : List lpV) (sz : Nat) : Array Value → State → Prop := fun v U =>
  v = (as.map (lp_cv ad)).toArray ∧ U.heap.size = sz ∧ lp_Rep D cI cD ad σ U.heap ∧ lp_Wd D cI cD U
/-- what a call leaves: an answer and a memory, as Q has them; nothing else changed; no more made than Dealings came to life -/
def lp_Qc (D : va_G) (cI cD : ClassId) (ad : Nat → Nat → Nat) (σ : lpM) (sz : Nat) (Q : Option Int32 → lpM → Prop) : Array Value → State → Outcome → State → Prop := fun _ st oc t =>
  ∃ (r : Option Int32) (σ' : lpM) (ad' : Nat → Nat → Nat), oc = .returned (r.map Value.int) ∧ Q r σ' ∧ lp_Rep D cI cD ad' σ' t.heap ∧ lp_Wd D cI cD t ∧ (∀ r k, lp_live σ r k → lp_live σ' r k ∧ ad' r k = ad r k) ∧ (∀ r k, lp_live σ' r k → lp_Dom ad σ sz (ad' r k)) ∧
    (t.heap.size + 3 * lp_dead σ' ≤ st.heap.size + 3 * lp_dead σ ∧ lp_TS t.heap + 124 * lp_dead σ' ≤ lp_TS st.heap + 124 * lp_dead σ) ∧ va_F (lp_Dom ad σ sz) st t
def lp_Ct (l : Launch) (D : va_G) (cI cD : ClassId) (y : MethodName) (bytes : ByteArray) (nL : Nat) (ret : Option FieldType) (h : Nat) (spec : lpS) : Prop :=
  ∀ (ad : Nat → Nat → Nat) (σ : lpM) (as : List lpV) (Q : Option Int32 → lpM → Prop) (sz : Nat), (∀ v ∈ as, lp_ok σ v) → spec as σ Q →
    Met l y (.code y bytes nL ret :: lp_tbl) { frames := h, cells := 3 * lp_dead σ, slots := 124 * lp_dead σ, locals := 36 * h } (lp_Pc D cI cD ad σ as sz) (lp_Qc D cI cD ad σ sz Q) (3 * lp_dead σ) (124 * lp_dead σ) (lp_Dom ad σ sz)
def lp_w3 (σ : lpM) (r k j : Nat) (x : Int32) : lpM := va_up σ r (va_up (σ r) k (upd (σ r k) j x))
/-! ===== the walk of a method as a proposition over the memory ===== -/
def lp_dec (k : lpC) (cc : ByteArray) : Bool := k.all (fun x => decide (decode cc x.1 = .ok (x.2.1, x.2.2)))
def lp_fl : List (Nat × Nat × Nat) → Nat → Option (Nat × Nat)
  | [], _ => none
  | x :: l, i => bif Nat.beq x.1 i then some x.2 else lp_fl l i
def lp_kc : List (Nat × Int32) → Nat → Option Int32
  | [], _ => none
  | x :: l, i => bif Nat.beq x.1 i then some x.2 else lp_kc l i
def lp_cs : List (Nat × Option Nat × Nat × lpS) → Nat → Option (Option Nat × Nat × lpS)
  | [], _ => none
  | x :: l, i => bif Nat.beq x.1 i then some x.2 else lp_cs l i
def lp_pop : Nat → List lpV → List lpV → Option (List lpV × List lpV)
  | 0, st, acc => some (acc, st)
  | n + 1, v :: st, acc => lp_pop n st (v :: acc)
  | _ + 1, [], _ => none
def lp_mem (a : Nat) : List Nat → Bool
  | [] => false
  | b :: l => bif Nat.beq a b then true else lp_mem a l
def lp_to (t : Nat) : lpC → lpC
  | [] => []
  | x :: l => bif Nat.beq x.1 t then x :: l else lp_to t l
def lp_sw (x : Int32) (jp : Int → Prop) : Int → List Int → Prop
  | _, [] => True
  | lo, o :: os => (x.toInt = lo → jp o) ∧ lp_sw x jp (lo + 1) os
def lp_I (fl pf : List (Nat × Nat × Nat)) (kc : List (Nat × Int32)) (cs : List (Nat × Option Nat × Nat × lpS)) (bl : Bool) (I : Instr) (L : lpL) (st : List lpV) (σ : lpM)
    (nx : lpL → List lpV → lpM → Prop) (jp : Int → lpL → List lpV → lpM → Prop) (qr : Option Int32 → lpM → Prop) : Prop := match I with
  | .iconst n => nx L (.inl (Int32.ofInt n) :: st) σ
  | .bipush n => nx L (.inl (Int8.ofInt n).toInt32 :: st) σ
  | .sipush n => nx L (.inl (Int16.ofInt n).toInt32 :: st) σ
  | .ldc i => match lp_kc kc i with
    | some v => nx L (.inl v :: st) σ
    | none => False
  | .iload_n i => match lp_nth L i.val with
    | some (some (.inl x)) => nx L (.inl x :: st) σ
    | _ => False
  | .iload i => match lp_nth L i with
    | some (some (.inl x)) => nx L (.inl x :: st) σ
    | _ => False
  | .aload_n i => match lp_nth L i.val with
    | some (some (.inr x)) => nx L (.inr x :: st) σ
    | _ => False
  | .aload i => match lp_nth L i with
    | some (some (.inr x)) => nx L (.inr x :: st) σ
    | _ => False
  | .istore_n i => match st with
    | .inl x :: st => bif Nat.blt i.val (lp_len L) then nx (lp_set L i.val (some (.inl x))) st σ else False
    | _ => False
  | .istore i => match st with
    | .inl x :: st => bif Nat.blt i (lp_len L) then nx (lp_set L i (some (.inl x))) st σ else False
    | _ => False
  | .astore_n i => match st with
    | .inr x :: st => bif Nat.blt i.val (lp_len L) then nx (lp_set L i.val (some (.inr x))) st σ else False
    | _ => False
  | .astore i => match st with
    | .inr x :: st => bif Nat.blt i (lp_len L) then nx (lp_set L i (some (.inr x))) st σ else False
    | _ => False
  | .iinc i n => match lp_nth L i with
    | some (some (.inl x)) => nx (lp_set L i (some (.inl (x + Int32.ofInt n)))) st σ
    | _ => False
  | .iadd => match st with
    | .inl y :: .inl x :: st => nx L (.inl (x + y) :: st) σ
    | _ => False
  | .isub => match st with
    | .inl y :: .inl x :: st => nx L (.inl (x - y) :: st) σ
    | _ => False
  | .imul => match st with
    | .inl y :: .inl x :: st => nx L (.inl (x * y) :: st) σ
    | _ => False
  | .idiv => match st with
    | .inl y :: .inl x :: st => ¬ y = 0 ∧ nx L (.inl (x / y) :: st) σ
    | _ => False
  | .irem => match st with
    | .inl y :: .inl x :: st => ¬ y = 0 ∧ nx L (.inl (x - x / y * y) :: st) σ
    | _ => False
  | .dup => match st with
    | v :: st => nx L (v :: v :: st) σ
    | _ => False
  | .dup2 => match st with
    | v :: w :: st => nx L (v :: w :: v :: w :: st) σ
    | _ => False
  | .pop => match st with
    | _ :: st => nx L st σ
    | _ => False
  | .goto o => jp o L st σ
  | .if_icmp c o => match st with
    | .inl y :: .inl x :: st => (match c with
      | .eq => (x = y → jp o L st σ) ∧ (¬ x = y → nx L st σ)
      | .ne => (¬ x = y → jp o L st σ) ∧ (x = y → nx L st σ)
      | .lt => (x < y → jp o L st σ) ∧ (¬ x < y → nx L st σ)
      | .ge => (y ≤ x → jp o L st σ) ∧ (¬ y ≤ x → nx L st σ)
      | .gt => (y < x → jp o L st σ) ∧ (¬ y < x → nx L st σ)
      | .le => (x ≤ y → jp o L st σ) ∧ (¬ x ≤ y → nx L st σ))
    | _ => False
  | .ifCond c o => match st with
    | .inl x :: st => (match c with
      | .eq => (x = 0 → jp o L st σ) ∧ (¬ x = 0 → nx L st σ)
      | .ne => (¬ x = 0 → jp o L st σ) ∧ (x = 0 → nx L st σ)
      | .lt => (x < 0 → jp o L st σ) ∧ (¬ x < 0 → nx L st σ)
      | .ge => (0 ≤ x → jp o L st σ) ∧ (¬ 0 ≤ x → nx L st σ)
      | .gt => (0 < x → jp o L st σ) ∧ (¬ 0 < x → nx L st σ)
      | .le => (x ≤ 0 → jp o L st σ) ∧ (¬ x ≤ 0 → nx L st σ))
    | _ => False
  | .ifnull o => match st with
    | .inr none :: st => jp o L st σ
    | .inr (some _) :: st => nx L st σ
    | _ => False
  | .ifnonnull o => match st with
    | .inr none :: st => nx L st σ
    | .inr (some _) :: st => jp o L st σ
    | _ => False
  | .tableswitch d lo hi offs => match st with
    | .inl x :: st => (x.toInt < lo ∨ hi < x.toInt → jp d L st σ) ∧ lp_sw x (fun o => jp o L st σ) lo offs.toList
    | _ => False
  | .arraylength => match st with
    | .inr (some (r, k)) :: st => (match lp_lay r with
      | some (.inr (.inl len)) => nx L (.inl (nI (len k)) :: st) σ
      | some (.inr (.inr (len, _, _))) => nx L (.inl (nI (len k)) :: st) σ
      | _ => False)
    | _ => False
  | .iaload => match st with
    | .inl i :: .inr (some (r, k)) :: st => (match lp_lay r with
      | some (.inr (.inl len)) => vp_in i (len k) ∧ nx L (.inl (σ r k i.toNatClampNeg) :: st) σ
      | _ => False)
    | _ => False
  | .iastore => match st with
    | .inl x :: .inl i :: .inr (some (r, k)) :: st => (match lp_lay r with
      | some (.inr (.inl len)) => vp_in i (len k) ∧ nx L st (lp_w3 σ r k i.toNatClampNeg x)
      | _ => False)
    | _ => False
  | .aaload => match st with
    | .inl i :: .inr (some (r, k)) :: st => (match lp_lay r with
      | some (.inr (.inr (len, r', ix))) => vp_in i (len k) ∧ (σ r k i.toNatClampNeg = 0 → nx L (.inr none :: st) σ) ∧ (¬ σ r k i.toNatClampNeg = 0 → nx L (.inr (some (r', ix i.toNatClampNeg)) :: st) σ)
      | _ => False)
    | _ => False
  | .getfield i => match st with
    | .inr (some (r, k)) :: st => (match lp_fl fl i, lp_lay r with
      | some (ci, j), some (.inl (cj, fs)) => bif Nat.beq ci cj then (match lp_nth fs j with
        | some none => nx L (.inl (σ r k j) :: st) σ
        | some (some (r', g)) => nx L (.inr (some (r', g k)) :: st) σ
        | none => False) else False
      | _, _ => False)
    | _ => False
  | .putfield i => match st with
    | .inl x :: .inr (some (r, k)) :: st => (match lp_fl pf i, lp_lay r with
      | some (ci, j), some (.inl (cj, fs)) => bif Nat.beq ci cj then (match lp_nth fs j with
        | some none => nx L st (lp_w3 σ r k j x)
        | _ => False) else False
      | _, _ => False)
    | _ => False
  | .invokevirtual i => match lp_cs cs i with
    | some (some ci, n, spec) => (match lp_pop n st [] with
      | some (as, .inr (some (r, k)) :: st) => (match lp_lay r with
        | some (.inl (cj, _)) => bif Nat.beq ci cj && Nat.ble (lp_len st) 8 then spec (.inr (some (r, k)) :: as) σ (fun ro σ => match ro with
          | some x => nx L (.inl x :: st) σ
          | none => nx L st σ) else False
        | _ => False)
      | _ => False)
    | _ => False
  | .invokestatic i => match lp_cs cs i with
    | some (none, n, spec) => (match lp_pop n st [] with
      | some (as, st) => bif Nat.ble (lp_len st) 8 then spec as σ (fun ro σ => match ro with
          | some x => nx L (.inl x :: st) σ
          | none => nx L st σ) else False
      | _ => False)
    | _ => False
  | .ireturn => match st with
    | [.inl x] => bif bl then (x = 0 ∨ x = 1) ∧ qr (some x) σ else qr (some x) σ
    | _ => False
  | .return_ => match st with
    | [] => qr none σ
    | _ => False
  | _ => False
def lp_go (labs : List Nat) (lab : Nat → lpL → lpM → Prop) (w : lpC → lpL → List lpV → lpM → Prop) (k : lpC) (L : lpL) (st : List lpV) (σ : lpM) : Prop := match k with
  | [] => False
  | x :: _ => bif lp_mem x.1 labs then (match st with
    | [] => lab x.1 L σ
    | _ => False) else w k L st σ
def lp_wp (fl pf : List (Nat × Nat × Nat)) (kc : List (Nat × Int32)) (cs : List (Nat × Option Nat × Nat × lpS)) (bl : Bool) (code : lpC) (labs : List Nat) (lab : Nat → lpL → lpM → Prop) (qr : Option Int32 → lpM → Prop) : Nat → lpC → lpL → List lpV → lpM → Prop
  | 0, _, _, _, _ => False
  | _ + 1, [], _, _, _ => False
  | n + 1, x :: k, L, st, σ => lp_I fl pf kc cs bl x.2.1 L st σ (lp_go labs lab (lp_wp fl pf kc cs bl code labs lab qr n) k) (fun o L st σ => match (x.1 : Int) + o with
    | .ofNat t => lp_go labs lab (lp_wp fl pf kc cs bl code labs lab qr n) (lp_to t code) L st σ
    | .negSucc _ => False) qr
end
section
/-! ===== laws of the abstract memory ===== -/
theorem lp_len_eq {α : Type} : ∀ l : List α, lp_len l = l.length
  | [] => rfl
  | _ :: l => by simp [lp_len, lp_len_eq l]
theorem lp_nth_eq {α : Type} : ∀ (l : List α) (n : Nat), lp_nth l n = l[n]?
  | [], n => by simp [lp_nth]
  | a :: l, 0 => by simp [lp_nth]
  | a :: l, n + 1 => by simp [lp_nth, lp_nth_eq l n]
theorem lp_set_eq {α : Type} : ∀ (l : List α) (n : Nat) (x : α), lp_set l n x = l.set n x
  | [], n, x => by simp [lp_set]
  | a :: l, 0, x => by simp [lp_set]
  | a :: l, n + 1, x => by simp [lp_set, lp_set_eq l n x]
theorem lp_set_len {α : Type} (l : List α) (n : Nat) (x : α) : (lp_set l n x).length = l.length := by rw [lp_set_eq]; simp
def lp_fok (r k : Nat) (q : Option (Nat × (Nat → Nat))) : Bool := match q with
  | none => true
  | some (r', g) => Nat.blt (g k) (lp_cnt r') && (!lp_isD r' || (lp_isD r && Nat.beq (g k) k))
theorem lp_closed : ((List.range 60).all fun r => match lp_lay r with
  | some (.inl (_, fs)) => (List.range (lp_cnt r)).all fun k => fs.all (lp_fok r k)
  | _ => true) = true := by decide +kernel
theorem lp_cnt_lt {r k : Nat} (h : k < lp_cnt r) : r < 60 := by
  rcases Nat.lt_or_ge r 60 with q | q
  · exact q
  · exfalso
    have e : lp_nth lp_cnts r = none := by
      rw [lp_nth_eq, List.getElem?_eq_none_iff]
      have : lp_cnts.length = 51 := rfl
      omega
    simp [lp_cnt, e] at h
theorem lp_live_field {σ : lpM} {r k ci j r' : Nat} {fs : List (Option (Nat × (Nat → Nat)))} {g : Nat → Nat} (h : lp_live σ r k) (hl : lp_lay r = some (.inl (ci, fs))) (hf : lp_nth fs j = some (some (r', g))) : lp_live σ r' (g k) := by
  have hr := lp_cnt_lt h.1
  have h1 := List.all_eq_true.mp lp_closed r (List.mem_range.mpr hr)
  rw [hl] at h1
  have h2 := List.all_eq_true.mp h1 k (List.mem_range.mpr h.1)
  rw [lp_nth_eq] at hf
  have h3 := List.all_eq_true.mp h2 _ (List.mem_of_getElem? hf)
  simp only [lp_fok, Bool.and_eq_true, Bool.or_eq_true, Bool.not_eq_true', Nat.blt_eq] at h3
  refine ⟨h3.1, fun hd hk => ?_⟩
  rcases h3.2 with q | q
  · rw [q] at hd; cases hd
  · rw [Nat.eq_of_beq_eq_true q.2] at hk ⊢
    exact h.2 q.1 hk
theorem lp_rfs : ((List.range 60).all fun r => match lp_lay r with
  | some (.inr (.inr (len, r', ix))) => Nat.beq r' 26 && (Nat.beq (lp_cnt r) 1) && (List.range (len 0)).all fun j => (Nat.beq r 9 && Nat.beq (ix j) j && Nat.blt j 121) || (Nat.ble 121 (ix j) && Nat.blt (ix j) 132)
  | _ => true) = true := by decide +kernel
theorem lp_live_ref {σ : lpM} {r k r' j : Nat} {len ix : Nat → Nat} (h : lp_live σ r k) (hl : lp_lay r = some (.inr (.inr (len, r', ix)))) (hj : j < len k) (hz : σ r k j ≠ 0) : lp_live σ r' (ix j) := by
  have hr := lp_cnt_lt h.1
  have h1 := List.all_eq_true.mp lp_rfs r (List.mem_range.mpr hr)
  rw [hl] at h1
  simp only [Bool.and_eq_true] at h1
  obtain ⟨⟨e1, e2⟩, h2⟩ := h1
  have e1 := Nat.eq_of_beq_eq_true e1
  have e2 := Nat.eq_of_beq_eq_true e2
  have hk : k = 0 := by have := h.1; omega
  subst hk
  subst e1
  have h3 := List.all_eq_true.mp h2 j (List.mem_range.mpr hj)
  simp only [Bool.or_eq_true, Bool.and_eq_true, Nat.blt_eq] at h3
  have hc : lp_cnt 26 = 132 := rfl
  rcases h3 with ⟨⟨a, b⟩, c⟩ | ⟨a, b⟩
  · have a := Nat.eq_of_beq_eq_true a
    have b := Nat.eq_of_beq_eq_true b
    subst a
    rw [b]
    exact ⟨by omega, fun _ _ => hz⟩
  · have a := Nat.le_of_ble_eq_true a
    exact ⟨by omega, fun _ q => absurd q (by omega)⟩
theorem lp_w3_same (σ : lpM) (r k j : Nat) (x : Int32) : lp_w3 σ r k j x r k = upd (σ r k) j x := by simp [lp_w3, va_up]
theorem lp_w3_ne {σ : lpM} {r k j r' k' : Nat} {x : Int32} (h : ¬ (r' = r ∧ k' = k)) : lp_w3 σ r k j x r' k' = σ r' k' := by
  by_cases hr : r' = r
  · subst hr
    have hk : k' ≠ k := fun q => h ⟨rfl, q⟩
    simp [lp_w3, va_up, hk]
  · simp [lp_w3, va_up, hr]
theorem lp_w3_9 {σ : lpM} {r k j : Nat} {x : Int32} (h : r ≠ 9) : lp_w3 σ r k j x 9 = σ 9 := by
  simp [lp_w3, va_up, Ne.symm h]
theorem lp_live_w3 {σ : lpM} {r k j : Nat} {x : Int32} (h : r ≠ 9) (r' k' : Nat) : lp_live (lp_w3 σ r k j x) r' k' ↔ lp_live σ r' k' := by
  simp [lp_live, lp_w3_9 h]
theorem lp_dead_w3 {σ : lpM} {r k j : Nat} {x : Int32} (h : r ≠ 9) : lp_dead (lp_w3 σ r k j x) = lp_dead σ := by
  simp [lp_dead, lp_w3_9 h]
theorem lp_ok_w3 {σ : lpM} {r k j : Nat} {x : Int32} (h : r ≠ 9) (v : lpV) : lp_ok (lp_w3 σ r k j x) v ↔ lp_ok σ v := by
  rcases v with y | _ | q
  · exact Iff.rfl
  · exact Iff.rfl
  · exact lp_live_w3 h _ _
theorem lp_fv_congr {ad : Nat → Nat → Nat} {σ σ' : lpM} {r k : Nat} (h : σ' r k = σ r k) : ∀ (j : Nat) (fs : List (Option (Nat × (Nat → Nat)))), lp_fv ad σ' r k j fs = lp_fv ad σ r k j fs
  | _, [] => rfl
  | j, none :: fs => by simp [lp_fv, h, lp_fv_congr h (j + 1) fs]
  | j, some q :: fs => by simp [lp_fv, lp_fv_congr h (j + 1) fs]
theorem lp_cell_congr {cI cD : ClassId} {ad : Nat → Nat → Nat} {σ σ' : lpM} {r k : Nat} (h : σ' r k = σ r k) : lp_cell cI cD ad σ' r k = lp_cell cI cD ad σ r k := by
  unfold lp_cell
  split
  · rw [lp_fv_congr h]
  · rw [h]
  · have e : ∀ (r' : Nat) (ix : Nat → Nat), lp_rf ad σ' r k r' ix = lp_rf ad σ r k r' ix := fun r' ix => by
      funext j
      simp [lp_rf, h]
    rw [e]
  · rfl
/-- a cell of the memory is written: the others stay -/
theorem lp_Rep_w3 {D : va_G} {cI cD : ClassId} {ad : Nat → Nat → Nat} {σ : lpM} {H H' : Heap} {r k j : Nat} {x : Int32} (hR : lp_Rep D cI cD ad σ H) (h9 : r ≠ 9) (hl : lp_live σ r k) (ha : va_at D vwCl (ad r k, lp_cell cI cD ad (lp_w3 σ r k j x) r k) H') (ho : ∀ q : Nat, q ≠ ad r k → H'[q]? = H[q]?) : lp_Rep D cI cD ad (lp_w3 σ r k j x) H' := by
  refine ⟨fun r' k' h' => ?_, fun r1 k1 r2 k2 h1 h2 => hR.2 r1 k1 r2 k2 ((lp_live_w3 h9 _ _).mp h1) ((lp_live_w3 h9 _ _).mp h2)⟩
  have h' := (lp_live_w3 h9 _ _).mp h'
  by_cases e : r' = r ∧ k' = k
  · obtain ⟨rfl, rfl⟩ := e
    exact ha
  · rw [lp_cell_congr (lp_w3_ne e)]
    exact (hR.1 r' k' h').kept (ho _ (fun q => e (hR.2 r' k' r k h' hl q)))
theorem lp_fv_len (ad : Nat → Nat → Nat) (σ : lpM) (r k : Nat) : ∀ (j : Nat) (fs : List (Option (Nat × (Nat → Nat)))), (lp_fv ad σ r k j fs).length = fs.length
  | _, [] => rfl
  | j, none :: fs => by simp [lp_fv, lp_fv_len ad σ r k (j + 1) fs]
  | j, some q :: fs => by simp [lp_fv, lp_fv_len ad σ r k (j + 1) fs]
theorem lp_fv_int {ad : Nat → Nat → Nat} {σ : lpM} {r k : Nat} : ∀ {i j : Nat} {fs : List (Option (Nat × (Nat → Nat)))}, lp_nth fs i = some none → (lp_fv ad σ r k j fs)[i]? = some (.int (σ r k (j + i)))
  | _, _, [], h => by simp [lp_nth] at h
  | 0, j, none :: fs, _ => by simp [lp_fv]
  | 0, j, some q :: fs, h => by simp [lp_nth] at h
  | i + 1, j, none :: fs, h => by
    have := lp_fv_int (ad := ad) (σ := σ) (r := r) (k := k) (i := i) (j := j + 1) (fs := fs) h
    simp [lp_fv, this]
    congr 1
    omega
  | i + 1, j, some q :: fs, h => by
    have := lp_fv_int (ad := ad) (σ := σ) (r := r) (k := k) (i := i) (j := j + 1) (fs := fs) h
    simp [lp_fv, this]
    congr 1
    omega
theorem lp_fv_ref {ad : Nat → Nat → Nat} {σ : lpM} {r k : Nat} {q : Nat × (Nat → Nat)} : ∀ {i j : Nat} {fs : List (Option (Nat × (Nat → Nat)))}, lp_nth fs i = some (some q) → (lp_fv ad σ r k j fs)[i]? = some (.ref (ad q.1 (q.2 k)))
  | _, _, [], h => by simp [lp_nth] at h
  | 0, j, none :: fs, h => by simp [lp_nth] at h
  | 0, j, some q' :: fs, h => by
    simp [lp_nth] at h
    subst h
    simp [lp_fv]
  | i + 1, j, none :: fs, h => by
    have := lp_fv_ref (ad := ad) (σ := σ) (r := r) (k := k) (i := i) (j := j + 1) (fs := fs) h
    simp [lp_fv, this]
  | i + 1, j, some q' :: fs, h => by
    have := lp_fv_ref (ad := ad) (σ := σ) (r := r) (k := k) (i := i) (j := j + 1) (fs := fs) h
    simp [lp_fv, this]
theorem lp_fv_w3 {ad : Nat → Nat → Nat} {σ : lpM} {r k : Nat} {x : Int32} : ∀ {i j : Nat} {fs : List (Option (Nat × (Nat → Nat)))}, lp_nth fs i = some none → lp_fv ad (lp_w3 σ r k (j + i) x) r k j fs = (lp_fv ad σ r k j fs).set i (.int x)
  | _, _, [], h => by simp [lp_nth] at h
  | 0, j, none :: fs, _ => by
    have e : ∀ (j' : Nat) (fs : List (Option (Nat × (Nat → Nat)))), j < j' → lp_fv ad (lp_w3 σ r k j x) r k j' fs = lp_fv ad σ r k j' fs := by
      intro j' fs
      induction fs generalizing j' with
      | nil => intro _; rfl
      | cons a fs ih =>
        intro hj
        cases a with
        | none => simp [lp_fv, ih (j' + 1) (by omega), lp_w3_same, upd, show ¬ j' = j by omega]
        | some q => simp [lp_fv, ih (j' + 1) (by omega)]
    simp [lp_fv, lp_w3_same, upd, e (j + 1) fs (by omega)]
  | 0, j, some q :: fs, h => by simp [lp_nth] at h
  | i + 1, j, none :: fs, h => by
    have := lp_fv_w3 (ad := ad) (σ := σ) (r := r) (k := k) (x := x) (i := i) (j := j + 1) (fs := fs) h
    rw [show j + 1 + i = j + (i + 1) by omega] at this
    simp [lp_fv, this, lp_w3_same, upd]
  | i + 1, j, some q' :: fs, h => by
    have := lp_fv_w3 (ad := ad) (σ := σ) (r := r) (k := k) (x := x) (i := i) (j := j + 1) (fs := fs) h
    rw [show j + 1 + i = j + (i + 1) by omega] at this
    simp [lp_fv, this]
/-! locals -/
def lp_kl (ad : Nat → Nat → Nat) : Nat → lpL → List (Nat × Value)
  | _, [] => []
  | j, none :: L => lp_kl ad (j + 1) L
  | j, some v :: L => (j, lp_cv ad v) :: lp_kl ad (j + 1) L
def lp_loc (ad : Nat → Nat → Nat) (ls : Array Slot) (L : lpL) : Prop := lv_has ls L.length (lp_kl ad 0 L)
theorem lp_cat (ad : Nat → Nat → Nat) (v : lpV) : (lp_cv ad v).category = 1 := by
  rcases v with x | _ | q <;> rfl
theorem lp_kl_mem {ad : Nat → Nat → Nat} {v : lpV} : ∀ {i j : Nat} {L : lpL}, lp_nth L i = some (some v) → (j + i, lp_cv ad v) ∈ lp_kl ad j L
  | _, _, [], h => by simp [lp_nth] at h
  | 0, j, none :: L, h => by simp [lp_nth] at h
  | 0, j, some w :: L, h => by
    simp [lp_nth] at h
    subst h
    simp [lp_kl]
  | i + 1, j, none :: L, h => by
    have := lp_kl_mem (ad := ad) (v := v) (i := i) (j := j + 1) (L := L) h
    rw [show j + 1 + i = j + (i + 1) by omega] at this
    simpa [lp_kl] using this
  | i + 1, j, some w :: L, h => by
    have := lp_kl_mem (ad := ad) (v := v) (i := i) (j := j + 1) (L := L) h
    rw [show j + 1 + i = j + (i + 1) by omega] at this
    simp [lp_kl, this]
theorem lp_kl_ge {ad : Nat → Nat → Nat} {q : Nat × Value} : ∀ {j : Nat} {L : lpL}, q ∈ lp_kl ad j L → j ≤ q.1 ∧ q.2.category = 1
  | _, [], h => by simp [lp_kl] at h
  | j, none :: L, h => by
    have := lp_kl_ge (j := j + 1) (L := L) (by simpa [lp_kl] using h)
    exact ⟨by omega, this.2⟩
  | j, some w :: L, h => by
    rcases List.mem_cons.mp (show q ∈ (j, lp_cv ad w) :: lp_kl ad (j + 1) L from h) with rfl | h
    · exact ⟨Nat.le_refl _, lp_cat ad w⟩
    · have := lp_kl_ge (j := j + 1) (L := L) h
      exact ⟨by omega, this.2⟩
theorem lp_kl_set {ad : Nat → Nat → Nat} {v : lpV} {q : Nat × Value} : ∀ {i j : Nat} {L : lpL}, q ∈ lp_kl ad j (lp_set L i (some v)) → q = (j + i, lp_cv ad v) ∨ (q ∈ lp_kl ad j L ∧ q.1 ≠ j + i)
  | _, _, [], h => by simp [lp_set, lp_kl] at h
  | 0, j, a :: L, h => by
    rcases List.mem_cons.mp (show q ∈ (j, lp_cv ad v) :: lp_kl ad (j + 1) L from h) with h2 | h2
    · exact Or.inl h2
    · have := (lp_kl_ge h2).1
      refine Or.inr ⟨?_, by omega⟩
      cases a with
      | none => exact h2
      | some w => exact List.mem_cons_of_mem _ h2
  | i + 1, j, none :: L, h => by
    have := lp_kl_set (ad := ad) (v := v) (q := q) (i := i) (j := j + 1) (L := L) (by simpa [lp_set, lp_kl] using h)
    rw [show j + 1 + i = j + (i + 1) by omega] at this
    simpa [lp_kl] using this
  | i + 1, j, some w :: L, h => by
    rcases List.mem_cons.mp (show q ∈ (j, lp_cv ad w) :: lp_kl ad (j + 1) (lp_set L i (some v)) from h) with h | h
    · subst h
      exact Or.inr ⟨by simp [lp_kl], by show j ≠ _; omega⟩
    · have := lp_kl_set (ad := ad) (v := v) (q := q) (i := i) (j := j + 1) (L := L) h
      rw [show j + 1 + i = j + (i + 1) by omega] at this
      rcases this with h | h
      · exact Or.inl h
      · exact Or.inr ⟨by simp [lp_kl, h.1], h.2⟩
theorem lp_loc_at {ad : Nat → Nat → Nat} {ls : Array Slot} {L : lpL} {i : Nat} {v : lpV} (h : lp_loc ad ls L) (hi : lp_nth L i = some (some v)) : ls[i]? = some (.val (lp_cv ad v)) := by
  have := h.2.2 (0 + i, lp_cv ad v) (lp_kl_mem hi)
  simpa using this
theorem lp_loc_put {ad : Nat → Nat → Nat} {ls : Array Slot} {L : lpL} {i : Nat} {v : lpV} (h : lv_has ls L.length ((i, lp_cv ad v) :: (lp_kl ad 0 L).filter (fun q => !(q.1 == i) && !(q.1 + 1 == i && q.2.category == 2)))) : lp_loc ad ls (lp_set L i (some v)) := by
  refine ⟨by rw [lp_set_len]; exact h.1, h.2.1, fun q hq => h.2.2 q ?_⟩
  rcases lp_kl_set hq with e | ⟨h1, h2⟩
  · rw [e]
    simp
  · have h3 := (lp_kl_ge h1).2
    refine List.mem_cons_of_mem _ (List.mem_filter.mpr ⟨h1, ?_⟩)
    simp [h3]
    omega
theorem lp_kl_congr {ad ad' : Nat → Nat → Nat} : ∀ {L : lpL} {j : Nat}, (∀ v, some v ∈ L → lp_cv ad' v = lp_cv ad v) → lp_kl ad' j L = lp_kl ad j L
  | [], _, _ => rfl
  | none :: L, j, h => lp_kl_congr (L := L) (j := j + 1) (fun v hv => h v (List.mem_cons_of_mem _ hv))
  | some w :: L, j, h => by
    simp [lp_kl, h w List.mem_cons_self, lp_kl_congr (L := L) (j := j + 1) (fun v hv => h v (List.mem_cons_of_mem _ hv))]
theorem lp_pop_eq : ∀ {n : Nat} {st acc as st' : List lpV}, lp_pop n st acc = some (as, st') → as.reverse ++ st' = acc.reverse ++ st ∧ as.length = n + acc.length
  | 0, st, acc, as, st', h => by
    simp [lp_pop] at h
    obtain ⟨rfl, rfl⟩ := h
    simp
  | n + 1, [], acc, as, st', h => by simp [lp_pop] at h
  | n + 1, v :: st, acc, as, st', h => by
    have := lp_pop_eq (n := n) (st := st) (acc := v :: acc) h
    refine ⟨by rw [this.1]; simp, by rw [this.2]; simp; omega⟩
/-! how many slots a heap has -/
theorem lp_TS_set {H H' : Heap} (z : H'.size = H.size) (h : ∀ q : Nat, (H'[q]?).map (fun c => c.slots.size) = (H[q]?).map (fun c => c.slots.size)) : lp_TS H' = lp_TS H := by
  unfold lp_TS
  congr 1
  apply List.ext_getElem?
  intro i
  simp only [List.getElem?_map, Array.getElem?_toList]
  exact h i
theorem lp_TS_push (H : Heap) (c : Cell) : lp_TS (H.push c) = lp_TS H + c.slots.size := by
  simp [lp_TS]
theorem lp_TS_split {H0 H : Heap} (hle : H0.size ≤ H.size) (h : ∀ (a : Nat) (c : Cell), H0[a]? = some c → ∃ c', H[a]? = some c' ∧ c'.slots.size = c.slots.size) : lp_TS H = lp_TS H0 + ((H.toList.drop H0.size).map (fun c => c.slots.size)).sum := by
  have e : (H.toList.take H0.size).map (fun c => c.slots.size) = H0.toList.map (fun c => c.slots.size) := by
    apply List.ext_getElem?
    intro i
    simp only [List.getElem?_map, List.getElem?_take, Array.getElem?_toList]
    by_cases hi : i < H0.size
    · rw [if_pos hi]
      have hc : H0[i]? = some H0[i] := Array.getElem?_eq_getElem hi
      obtain ⟨c', h1, h2⟩ := h i _ hc
      rw [h1, hc]
      simp [h2]
    · rw [if_neg hi, Array.getElem?_eq_none (by omega)]
  unfold lp_TS
  rw [← e, ← List.sum_append, ← List.map_append, List.take_append_drop]
end
section
/-! ===== the walk is sound: what lp_wp says, the machine does ===== -/
def lp_ln (I : Instr) : Nat := match I with
  | .bipush _ | .iload _ | .aload _ | .istore _ | .astore _ | .ldc _ => 2
  | .sipush _ | .iinc _ _ | .goto _ | .if_icmp _ _ | .ifCond _ _ | .ifnull _ | .ifnonnull _ | .getfield _ | .putfield _ | .invokevirtual _ | .invokestatic _ => 3
  | _ => 1
def lp_lenb (I : Instr) (n : Nat) : Bool := match I with
  | .tableswitch _ _ _ _ => true
  | I => Nat.beq (lp_ln I) n
def lp_seq : lpC → Bool
  | [] => true
  | [_] => true
  | x :: y :: l => Nat.beq (x.1 + x.2.2) y.1 && lp_seq (y :: l)
def lp_okc (k : lpC) (cc : ByteArray) : Bool := lp_dec k cc && k.all (fun x => lp_lenb x.2.1 x.2.2) && lp_seq k
def lp_flb (own : String) (x : Nat × Nat × Nat) : Bool := match vwCl[x.2.1]? with
  | some (_, T, N) => decide (x.2.2 < N) && (decide (Cond.fieldLink own x.1 (T x.2.2).1 (T x.2.2).2.1 (T x.2.2).2.2.1 ∈ lp_tbl) || lp_nest.any (fun w => match w with
    | .fieldLinkNest a i b n d _ => decide (a = own) && decide (i = x.1) && decide (b = (T x.2.2).1) && decide (n = (T x.2.2).2.1) && decide (d = (T x.2.2).2.2.1)
    | _ => false))
  | none => false
def lp_pfb (own : String) (x : Nat × Nat × Nat) : Bool := match vwCl[x.2.1]? with
  | some (_, T, N) => decide (x.2.2 < N) && decide (Cond.fieldLink own x.1 (T x.2.2).1 (T x.2.2).2.1 (T x.2.2).2.2.1 ∈ lp_tbl) && decide ((T x.2.2).2.2.2 = false) && decide (parseFieldDescriptor (T x.2.2).2.2.1 = some .int)
  | none => false
def lp_kcb (own : String) (x : Nat × Int32) : Bool := decide (Cond.constant own x.1 x.2 ∈ lp_tbl)
def lp_lnk (own : String) (i : Nat) (y : MethodName) : Prop := Cond.methodLink own i y ∈ lp_tbl ∨ ∃ host, Cond.methodLinkNest own i y host ∈ lp_nest
def lp_CallOK (l : Launch) (D : va_G) (cI cD : ClassId) (own : String) (h : Nat) (x : Nat × Option Nat × Nat × lpS) : Prop :=
  ∃ (y : MethodName) (bytes : ByteArray) (nL : Nat) (ret : Option FieldType) (h' : Nat), lp_Ct l D cI cD y bytes nL ret h' x.2.2.2 ∧ h' + 1 ≤ h ∧ nL ≤ 17 ∧ Cond.code y bytes nL ret ∈ lp_tbl ∧ Cond.initialized y.cls ∈ lp_tbl ∧
    (y.cls ≠ "java/lang/invoke/MethodHandle" ∧ y.cls ≠ "java/lang/invoke/VarHandle" ∧ (parseMethodDescriptor y.desc).map (fun d => d.parameters.length) = some x.2.2.1) ∧ lp_lnk own x.1 y ∧
    (match x.2.1 with
      | some ci => Cond.instanceMethod y ∈ lp_tbl ∧ Cond.selects y.cls y y ∈ lp_tbl ∧ ∃ q : vw_C, vwCl[ci]? = some q ∧ q.1 = y.cls
      | none => Cond.static y ∈ lp_tbl)
theorem lp_fl_mem : ∀ {t : List (Nat × Nat × Nat)} {i : Nat} {x : Nat × Nat}, lp_fl t i = some x → (i, x) ∈ t
  | [], _, _, h => by simp [lp_fl] at h
  | a :: t, i, x, h => by
    unfold lp_fl at h
    cases hb : Nat.beq a.1 i with
    | true =>
      rw [hb] at h
      have e : a.2 = x := Option.some.inj h
      rw [← e, ← Nat.eq_of_beq_eq_true hb]
      exact List.mem_cons_self
    | false =>
      rw [hb] at h
      exact List.mem_cons_of_mem _ (lp_fl_mem h)
theorem lp_kc_mem : ∀ {t : List (Nat × Int32)} {i : Nat} {x : Int32}, lp_kc t i = some x → (i, x) ∈ t
  | [], _, _, h => by simp [lp_kc] at h
  | a :: t, i, x, h => by
    unfold lp_kc at h
    cases hb : Nat.beq a.1 i with
    | true =>
      rw [hb] at h
      have e : a.2 = x := Option.some.inj h
      rw [← e, ← Nat.eq_of_beq_eq_true hb]
      exact List.mem_cons_self
    | false =>
      rw [hb] at h
      exact List.mem_cons_of_mem _ (lp_kc_mem h)
theorem lp_cs_mem : ∀ {t : List (Nat × Option Nat × Nat × lpS)} {i : Nat} {x : Option Nat × Nat × lpS}, lp_cs t i = some x → (i, x) ∈ t
  | [], _, _, h => by simp [lp_cs] at h
  | a :: t, i, x, h => by
    unfold lp_cs at h
    cases hb : Nat.beq a.1 i with
    | true =>
      rw [hb] at h
      have e : a.2 = x := Option.some.inj h
      rw [← e, ← Nat.eq_of_beq_eq_true hb]
      exact List.mem_cons_self
    | false =>
      rw [hb] at h
      exact List.mem_cons_of_mem _ (lp_cs_mem h)
theorem lp_u0 : ∀ w ∈ wsX00, w ∈ lp_tbl := by decide +kernel
theorem lp_u1 : ∀ w ∈ wsX10, w ∈ lp_tbl := by decide +kernel
theorem lp_u2 : ∀ w ∈ wsX20, w ∈ lp_tbl := by decide +kernel
theorem lp_u3 : ∀ w ∈ wsX30, w ∈ lp_tbl := by decide +kernel
theorem lp_u4 : ∀ w ∈ wsX40, w ∈ lp_tbl := by decide +kernel
theorem lp_u5 : ∀ w ∈ wsX50, w ∈ lp_tbl := by decide +kernel
theorem lp_u6 : ∀ w ∈ wsX60, w ∈ lp_tbl := by decide +kernel
theorem lp_u7 : ∀ w ∈ wsX70, w ∈ lp_tbl := by decide +kernel
theorem lp_cls {ci : Nat} {C : String} {T : u_T} {N : Nat} (h : vwCl[ci]? = some (C, T, N)) : (∀ w ∈ u_ws C T N, w ∈ lp_tbl) ∧ (∃ ty0 : Nat → FieldType, ∀ k, k < N → parseFieldDescriptor (T k).2.2.1 = some (ty0 k)) ∧ (∀ a, a < N → ∀ b, b < N → a ≠ b → (T a).2.1 ≠ (T b).2.1) := by
  match ci, h with
  | 0, h => cases h; exact ⟨lp_u0, ⟨_, tyX0_ok⟩, nmX0⟩
  | 1, h => cases h; exact ⟨lp_u1, ⟨_, tyX1_ok⟩, nmX1⟩
  | 2, h => cases h; exact ⟨lp_u2, ⟨_, tyX2_ok⟩, nmX2⟩
  | 3, h => cases h; exact ⟨lp_u3, ⟨_, tyX3_ok⟩, nmX3⟩
  | 4, h => cases h; exact ⟨lp_u4, ⟨_, tyX4_ok⟩, nmX4⟩
  | 5, h => cases h; exact ⟨lp_u5, ⟨_, tyX5_ok⟩, nmX5⟩
  | 6, h => cases h; exact ⟨lp_u6, ⟨_, tyX6_ok⟩, nmX6⟩
  | 7, h => cases h; exact ⟨lp_u7, ⟨_, tyX7_ok⟩, nmX7⟩
  | n + 8, h => simp [vwCl] at h
theorem lp_nest_move {w : Cond} (hw : lp_isNest w = true) {s U : State} (hW : s.WarmedH U.vm) (h : va_Nw w s) : va_Nw w U := by
  cases w with
  | fieldLinkNest a i b n d hh => exact va_Nw.warmF hW h
  | methodLinkNest a i x hh => exact va_Nw.warmM hW h
  | _ => cases hw
theorem lp_nest_on {w : Cond} (hw : lp_isNest w = true) : w.onTables = true := by
  cases w with
  | fieldLinkNest a i b n d hh => rfl
  | methodLinkNest a i x hh => rfl
  | _ => cases hw
theorem lp_Wd_move {D : va_G} {cI cD : ClassId} {s U : State} (hW : s.WarmedH U.vm) (h : lp_Wd D cI cD s) : lp_Wd D cI cD U :=
  ⟨va_K.moved hW.alike h.1, fun w hw => lp_nest_move (List.mem_filter.mp hw).2 hW (h.2 w hw)⟩
theorem lp_blind {D : va_G} {cI cD : ClassId} {ad : Nat → Nat → Nat} {σ : lpM} {as : List lpV} {sz : Nat} : FrameBlind (lp_Pc D cI cD ad σ as sz) := by
  intro a U g mk h
  obtain ⟨h1, h2, h3, h4, h5⟩ := h
  exact ⟨h1, h2, h3, va_K.moved (u := U) (U := U.calling g mk a) (Vm.Alike.refl U.vm) h4, fun w hw => va_Nw.same (u := U) (lp_nest_on (List.mem_filter.mp hw).2) rfl (h5 w hw)⟩
theorem lp_good {w0 : Cond} {y : MethodName} {bytes : ByteArray} {nL : Nat} {ret : Option FieldType} (h : Cond.code y bytes nL ret ∈ lp_tbl) : GoodIn (w0 :: lp_tbl) (Cond.code y bytes nL ret :: lp_tbl) := by
  intro w hw
  have hm : w ∈ lp_tbl := by
    rcases List.mem_cons.mp hw with rfl | hw
    · exact h
    · exact hw
  exact ⟨List.mem_cons_of_mem _ hm, good_of_word (List.mem_filter.mp hm).2⟩
section LPW
variable {p : Program} {l : Launch} {e : Env} {R : Room} {s : State} {m : MethodId} {args : Array Value} {below : List Frame} {meth : Method} {c : Code} {H : Heap} {locs : List Loc} {cells slots : Nat} {Q : State → Prop}
/-- the heap itself says how much was made -/
theorem lp_tight {g : JFrame} {k n : Nat} (h1 : H.size ≤ s.heap.size + k) (h2 : lp_TS H ≤ lp_TS s.heap + n) (kk : W p l e R s m args below meth c H locs k n Q g) : W p l e R s m args below meth c H locs cells slots Q g := by
  intro T hT X
  refine kk T hT { X with same := ?_ }
  obtain ⟨a1, a2, a3, a4, a5, a6⟩ := X.same
  have hh : (T.setVm s.vm).heap = H := hT
  refine ⟨a1, a2, by rw [hh]; exact h1, a4, ?_, a6⟩
  have hs := lp_TS_split a2 (fun a c hc => by
    obtain ⟨c', h1, -, h3, -⟩ := a6 a c hc
    exact ⟨c', h1, h3⟩)
  rw [hh] at hs ⊢
  have : (List.map (fun x => x.slots.size) (List.drop s.heap.size H.toList)).sum = (List.map (fun c => c.slots.size) (List.drop s.heap.size H.toList)).sum := rfl
  omega
theorem lp_call {mc ms : Nat} {g : JFrame} {rest : List Value} {Qa : State → Outcome → State → Prop} {free : Addr → Prop} (hr : va_Run p l e R s m args below meth c H locs cells slots mc ms g rest Qa free)
    (kk : ∀ (v : Option Value) (st₀ t : State) (L : List Loc), st₀.heap = H → s.WarmedH t.vm → Qa st₀ (.returned v) t → (∀ q ∈ L, free q.base) → W p l e R s m args below meth c t.heap (locs ++ L) (cells + mc) (slots + ms) Q { g with pc := g.pc + 3, stack := v.toList ++ rest }) : W p l e R s m args below meth c H locs cells slots Q g := by
  intro T hT X
  obtain ⟨v, st₀, t, T', L, h0, X', hL, e1, e2, hq, st⟩ := hr T hT X
  obtain ⟨t2, a1, b1⟩ := kk v st₀ t L h0 (by rw [← e2]; exact X'.warmed) hq hL T' e1 X'
  exact ⟨t2, st t2 a1, b1⟩
variable {cc : ByteArray} {pc : Nat} {ls : Array Slot} {rest : List Value} {D : va_G} {cl : List vw_C} {a : Nat} {tys : List (ClassId × FieldType)}
/-- putfield, with the whole heap behind it -/
theorem lp_put (hexec : p.tables.exec = Jvm.exec) (hb : c.code = cc) {own ref C : String} {T : u_T} {N ci index : Nat} {Ts : List Cond} (hts : ∀ w ∈ Ts, w.before args s = true) (hin : ∀ w ∈ u_ws C T N, w ∈ Ts) (ty0 : Nat → FieldType) (hty : ∀ k, k < N → parseFieldDescriptor (T k).2.2.1 = some (ty0 k)) (hnm : ∀ a, a < N → ∀ b, b < N → a ≠ b → (T a).2.1 ≠ (T b).2.1) (hown : s.vm.findClass own = some m.cls) (hK : va_K D cl tys s) {fs : List Value} (hP : va_at D cl (a, .inr (ci, fs)) H) (hc : cl[ci]? = some (C, T, N)) (k : Nat) (hk : k < N) (hlink : (Cond.fieldLink own index ref (T k).2.1 (T k).2.2.1).before args s = true) (hsame : ∀ x, s.fieldFound? (T k).1 (T k).2.1 (T k).2.2.1 = some x → s.fieldFound? ref (T k).2.1 (T k).2.2.1 = some x) (hfin : (T k).2.2.2 = false) {ty : FieldType} {v : Value} (hd : parseFieldDescriptor (T k).2.2.1 = some ty) (hn : narrow ty v = v) (hfit : fits ty v = true) (hl : k < fs.length)
    (hdg : decode cc pc = .ok (.putfield index, 3)) (kk : ∀ (H1 : Heap) (j : Nat), va_at D cl (a, .inr (ci, fs.set k v)) H1 → H1.size = H.size → (∀ q : Nat, q ≠ a → H1[q]? = H[q]?) → (∀ q : Nat, (H1[q]?).map (fun c => c.slots.size) = (H[q]?).map (fun c => c.slots.size)) → W p l e R s m args below meth c H1 (locs ++ [⟨a, j⟩]) cells slots Q (F0 m (pc + 3) ls rest)) : W p l e R s m args below meth c H locs cells slots Q (F0 m pc ls (v :: .ref a :: rest)) := by
  have hap := va_apart (own := own) hts hin ty0 hty hnm hK hc
  obtain ⟨r, h1, cell, q1, q2, q3, q4⟩ := hP
  have hr : r = (C, T, N) := Option.some.inj (h1.symm.trans hc)
  subst hr
  obtain ⟨hS, hfc, kC, hkC, hkind⟩ := hK.1 ci _ hc
  obtain ⟨cf, kf, fi, f, hi, hsl⟩ := hS k hk
  have hlay := hts _ (hin _ (u_in_lay hk))
  unfold u_lay at hlay
  rw [if_neg (by rw [hfin]; decide)] at hlay
  have hst := (u_facts hfc hkC (u_lays hts hin hk) hi).1
  have h6 := u_store hfc hkC hkind hlay hi hd hn hfit
  refine W.putK hexec hb (f := f) ⟨hown, hlink, ⟨_, _, _, hsame _ hi⟩, hst⟩ (by rw [q2]; exact h6) q1 q3 (by rw [hsl]; exact k2_hasslot (q4 k hk)) rfl rfl hdg fun H' e1 e2 e3 => ?_
  rw [hsl] at e1 ⊢
  refine kk H' _ ⟨_, hc, t_OB.to (V := updV (vp_V fs) k v) ⟨_, e1, q2, q3, t_set q4 hap hk v⟩ (fun j _ => vp_updV_set hl v j)⟩ e2 e3 (fun q => ?_)
  by_cases hq : q = a
  · subst hq
    rw [e1, q1]
    simp [Cell.setSlot]
  · rw [e3 q hq]
/-- iastore, with the whole heap behind it -/
theorem lp_iast (hexec : p.tables.exec = Jvm.exec) (hb : c.code = cc) {cA : ClassId} (hK : ∀ (n : Nat) (z : Nat → Value), s.isArrayOf (arrV cA n z) .int) {n : Nat} {f : Nat → Int32} (ha : H[a]? = some (vp_cell cA (n, .inl f))) {i : Int32} {x : Int32} (hin : vp_in i n) (hdg : decode cc pc = .ok (.iastore, 1))
    (kk : ∀ (H1 : Heap) (j : Nat), H1[a]? = some (vp_cell cA (n, .inl (upd f i.toNatClampNeg x))) → H1.size = H.size → (∀ q : Nat, q ≠ a → H1[q]? = H[q]?) → (∀ q : Nat, (H1[q]?).map (fun c => c.slots.size) = (H[q]?).map (fun c => c.slots.size)) → W p l e R s m args below meth c H1 (locs ++ [⟨a, j⟩]) cells slots Q (F0 m (pc + 1) ls rest)) : W p l e R s m args below meth c H locs cells slots Q (F0 m pc ls (.int x :: .int i :: .ref a :: rest)) := by
  refine W.iast hexec hb ha (hK n (fun j => .int (f j))) (fun q => by cases q) (by show ¬ (i < 0 ∨ (arrV _ _ _).slots.size ≤ _); rw [arrV_size]; exact hin) rfl rfl hdg fun H1 e z oq => ?_
  refine kk H1 _ ?_ z oq (fun q => ?_)
  · rw [e]
    rw [vp_cell_i, vp_cell_i, arrV_store]
    congr 2
    funext q
    by_cases hq : q = i.toNatClampNeg
    · subst hq
      simp [updV, upd]
    · simp [updV, upd, hq]
  · by_cases hq : q = a
    · subst hq
      rw [e, ha]
      simp [Cell.setSlot]
    · rw [oq q hq]
end LPW
end
