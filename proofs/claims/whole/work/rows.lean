section
-- ===== PART A: goes FIRST, ahead of the names: the tables' words, and 'selects' of the private methods out of them =====
/-- a private method of a class that the tables say can be made, by its rows of tables_1 -/
def lw_okq (q : MethodName × Nat) : Prop := (q.1.cls ≠ "java/lang/invoke/MethodHandle" ∧ q.1.cls ≠ "java/lang/invoke/VarHandle") ∧ Cond.instantiable q.1.cls q.2 ∈ tables_1 ∧ Cond.privateMethod q.1 ∈ tables_1 ∧ Cond.instanceMethod q.1 ∈ tables_1
theorem lw_p0 : lw_okq (⟨"LoadPress", "note", "(II)I"⟩, 6) := ⟨⟨by decide +kernel, by decide +kernel⟩, List.mem_of_getElem? (i := 12) (by decide +kernel), List.mem_of_getElem? (i := 206) (by decide +kernel), List.mem_of_getElem? (i := 207) (by decide +kernel)⟩
theorem lw_p1 : lw_okq (⟨"LoadPress$Contexts", "gatherFrom", "(LLoadPress$Visits;II)V"⟩, 5) := ⟨⟨by decide +kernel, by decide +kernel⟩, List.mem_of_getElem? (i := 61) (by decide +kernel), List.mem_of_getElem? (i := 295) (by decide +kernel), List.mem_of_getElem? (i := 296) (by decide +kernel)⟩
theorem lw_p2 : lw_okq (⟨"LoadPress$Contexts", "sort", "()V"⟩, 5) := ⟨⟨by decide +kernel, by decide +kernel⟩, List.mem_of_getElem? (i := 61) (by decide +kernel), List.mem_of_getElem? (i := 312) (by decide +kernel), List.mem_of_getElem? (i := 313) (by decide +kernel)⟩
theorem lw_p3 : lw_okq (⟨"LoadPress$Contexts", "isFirstOfContext", "(I)Z"⟩, 5) := ⟨⟨by decide +kernel, by decide +kernel⟩, List.mem_of_getElem? (i := 61) (by decide +kernel), List.mem_of_getElem? (i := 320) (by decide +kernel), List.mem_of_getElem? (i := 321) (by decide +kernel)⟩
theorem lw_p4 : lw_okq (⟨"LoadPress$Contexts", "isAlikeToOneOf", "(II)Z"⟩, 5) := ⟨⟨by decide +kernel, by decide +kernel⟩, List.mem_of_getElem? (i := 61) (by decide +kernel), List.mem_of_getElem? (i := 332) (by decide +kernel), List.mem_of_getElem? (i := 333) (by decide +kernel)⟩
theorem lw_p5 : lw_okq (⟨"LoadPress$Contexts", "countNext", "(I[I)I"⟩, 5) := ⟨⟨by decide +kernel, by decide +kernel⟩, List.mem_of_getElem? (i := 61) (by decide +kernel), List.mem_of_getElem? (i := 336) (by decide +kernel), List.mem_of_getElem? (i := 337) (by decide +kernel)⟩
theorem lw_p6 : lw_okq (⟨"LoadPress$Contexts", "areInProportion", "(II)Z"⟩, 5) := ⟨⟨by decide +kernel, by decide +kernel⟩, List.mem_of_getElem? (i := 61) (by decide +kernel), List.mem_of_getElem? (i := 341) (by decide +kernel), List.mem_of_getElem? (i := 342) (by decide +kernel)⟩
theorem lw_p7 : lw_okq (⟨"LoadPress$Walker", "dealWalk", "(LLoadPress$Machine;LLoadPress$Visits;)V"⟩, 1) := ⟨⟨by decide +kernel, by decide +kernel⟩, List.mem_of_getElem? (i := 86) (by decide +kernel), List.mem_of_getElem? (i := 367) (by decide +kernel), List.mem_of_getElem? (i := 368) (by decide +kernel)⟩
theorem lw_p8 : lw_okq (⟨"LoadPress$Press", "begin", "(II)V"⟩, 13) := ⟨⟨by decide +kernel, by decide +kernel⟩, List.mem_of_getElem? (i := 115) (by decide +kernel), List.mem_of_getElem? (i := 389) (by decide +kernel), List.mem_of_getElem? (i := 390) (by decide +kernel)⟩
theorem lw_p9 : lw_okq (⟨"LoadPress$Press", "visitDueFirst", "()I"⟩, 13) := ⟨⟨by decide +kernel, by decide +kernel⟩, List.mem_of_getElem? (i := 115) (by decide +kernel), List.mem_of_getElem? (i := 403) (by decide +kernel), List.mem_of_getElem? (i := 404) (by decide +kernel)⟩
theorem lw_p10 : lw_okq (⟨"LoadPress$Press", "serve", "(II)V"⟩, 13) := ⟨⟨by decide +kernel, by decide +kernel⟩, List.mem_of_getElem? (i := 115) (by decide +kernel), List.mem_of_getElem? (i := 410) (by decide +kernel), List.mem_of_getElem? (i := 411) (by decide +kernel)⟩
theorem lw_p11 : lw_okq (⟨"LoadPress$Press", "serverFreeFirst", "()I"⟩, 13) := ⟨⟨by decide +kernel, by decide +kernel⟩, List.mem_of_getElem? (i := 115) (by decide +kernel), List.mem_of_getElem? (i := 414) (by decide +kernel), List.mem_of_getElem? (i := 415) (by decide +kernel)⟩
theorem lw_p12 : lw_okq (⟨"LoadPress$Press", "noteBehind", "(II)V"⟩, 13) := ⟨⟨by decide +kernel, by decide +kernel⟩, List.mem_of_getElem? (i := 115) (by decide +kernel), List.mem_of_getElem? (i := 419) (by decide +kernel), List.mem_of_getElem? (i := 420) (by decide +kernel)⟩
theorem lw_p13 : lw_okq (⟨"LoadPress", "noteAsks", "(LLoadPress$Visits;I)V"⟩, 6) := ⟨⟨by decide +kernel, by decide +kernel⟩, List.mem_of_getElem? (i := 12) (by decide +kernel), List.mem_of_getElem? (i := 490) (by decide +kernel), List.mem_of_getElem? (i := 491) (by decide +kernel)⟩
theorem lw_p14 : lw_okq (⟨"LoadPressModel", "countOf", "(II)I"⟩, 26) := ⟨⟨by decide +kernel, by decide +kernel⟩, List.mem_of_getElem? (i := 506) (by decide +kernel), List.mem_of_getElem? (i := 613) (by decide +kernel), List.mem_of_getElem? (i := 614) (by decide +kernel)⟩
theorem lw_p15 : lw_okq (⟨"LoadPressModel", "inLog", "(II)I"⟩, 26) := ⟨⟨by decide +kernel, by decide +kernel⟩, List.mem_of_getElem? (i := 506) (by decide +kernel), List.mem_of_getElem? (i := 617) (by decide +kernel), List.mem_of_getElem? (i := 618) (by decide +kernel)⟩
def lw_privs_1 : List (MethodName × Nat) := [(⟨"LoadPress", "note", "(II)I"⟩, 6), (⟨"LoadPress$Contexts", "gatherFrom", "(LLoadPress$Visits;II)V"⟩, 5), (⟨"LoadPress$Contexts", "sort", "()V"⟩, 5), (⟨"LoadPress$Contexts", "isFirstOfContext", "(I)Z"⟩, 5), (⟨"LoadPress$Contexts", "isAlikeToOneOf", "(II)Z"⟩, 5), (⟨"LoadPress$Contexts", "countNext", "(I[I)I"⟩, 5), (⟨"LoadPress$Contexts", "areInProportion", "(II)Z"⟩, 5), (⟨"LoadPress$Walker", "dealWalk", "(LLoadPress$Machine;LLoadPress$Visits;)V"⟩, 1), (⟨"LoadPress$Press", "begin", "(II)V"⟩, 13), (⟨"LoadPress$Press", "visitDueFirst", "()I"⟩, 13), (⟨"LoadPress$Press", "serve", "(II)V"⟩, 13), (⟨"LoadPress$Press", "serverFreeFirst", "()I"⟩, 13), (⟨"LoadPress$Press", "noteBehind", "(II)V"⟩, 13), (⟨"LoadPress", "noteAsks", "(LLoadPress$Visits;I)V"⟩, 6), (⟨"LoadPressModel", "countOf", "(II)I"⟩, 26), (⟨"LoadPressModel", "inLog", "(II)I"⟩, 26)]
theorem lw_r1 : ∀ q ∈ lw_privs_1, lw_okq q := List.forall_mem_cons.mpr ⟨lw_p0, List.forall_mem_cons.mpr ⟨lw_p1, List.forall_mem_cons.mpr ⟨lw_p2, List.forall_mem_cons.mpr ⟨lw_p3, List.forall_mem_cons.mpr ⟨lw_p4, List.forall_mem_cons.mpr ⟨lw_p5, List.forall_mem_cons.mpr ⟨lw_p6, List.forall_mem_cons.mpr ⟨lw_p7, List.forall_mem_cons.mpr ⟨lw_p8, List.forall_mem_cons.mpr ⟨lw_p9, List.forall_mem_cons.mpr ⟨lw_p10, List.forall_mem_cons.mpr ⟨lw_p11, List.forall_mem_cons.mpr ⟨lw_p12, List.forall_mem_cons.mpr ⟨lw_p13, List.forall_mem_cons.mpr ⟨lw_p14, List.forall_mem_cons.mpr ⟨lw_p15, fun _ h => absurd h List.not_mem_nil⟩⟩⟩⟩⟩⟩⟩⟩⟩⟩⟩⟩⟩⟩⟩⟩
theorem lw_p16 : lw_okq (⟨"LoadPressModel", "next", "(II)I"⟩, 26) := ⟨⟨by decide +kernel, by decide +kernel⟩, List.mem_of_getElem? (i := 506) (by decide +kernel), List.mem_of_getElem? (i := 621) (by decide +kernel), List.mem_of_getElem? (i := 622) (by decide +kernel)⟩
theorem lw_p17 : lw_okq (⟨"LoadPressModel", "waitsOf", "(III)I"⟩, 26) := ⟨⟨by decide +kernel, by decide +kernel⟩, List.mem_of_getElem? (i := 506) (by decide +kernel), List.mem_of_getElem? (i := 630) (by decide +kernel), List.mem_of_getElem? (i := 631) (by decide +kernel)⟩
theorem lw_p18 : lw_okq (⟨"LoadPressModel", "findContexts", "(I)V"⟩, 26) := ⟨⟨by decide +kernel, by decide +kernel⟩, List.mem_of_getElem? (i := 506) (by decide +kernel), List.mem_of_getElem? (i := 646) (by decide +kernel), List.mem_of_getElem? (i := 647) (by decide +kernel)⟩
theorem lw_p19 : lw_okq (⟨"LoadPressModel", "areAlike", "(II)Z"⟩, 26) := ⟨⟨by decide +kernel, by decide +kernel⟩, List.mem_of_getElem? (i := 506) (by decide +kernel), List.mem_of_getElem? (i := 654) (by decide +kernel), List.mem_of_getElem? (i := 655) (by decide +kernel)⟩
theorem lw_p20 : lw_okq (⟨"LoadPressModel", "all", "(I)I"⟩, 26) := ⟨⟨by decide +kernel, by decide +kernel⟩, List.mem_of_getElem? (i := 506) (by decide +kernel), List.mem_of_getElem? (i := 658) (by decide +kernel), List.mem_of_getElem? (i := 659) (by decide +kernel)⟩
theorem lw_p21 : lw_okq (⟨"LoadPressModel", "walk", "(I)V"⟩, 26) := ⟨⟨by decide +kernel, by decide +kernel⟩, List.mem_of_getElem? (i := 506) (by decide +kernel), List.mem_of_getElem? (i := 666) (by decide +kernel), List.mem_of_getElem? (i := 667) (by decide +kernel)⟩
theorem lw_p22 : lw_okq (⟨"LoadPressModel", "serve", "(II)V"⟩, 26) := ⟨⟨by decide +kernel, by decide +kernel⟩, List.mem_of_getElem? (i := 506) (by decide +kernel), List.mem_of_getElem? (i := 673) (by decide +kernel), List.mem_of_getElem? (i := 674) (by decide +kernel)⟩
theorem lw_p23 : lw_okq (⟨"LoadPressModel", "isWalk", "(I)Z"⟩, 26) := ⟨⟨by decide +kernel, by decide +kernel⟩, List.mem_of_getElem? (i := 506) (by decide +kernel), List.mem_of_getElem? (i := 681) (by decide +kernel), List.mem_of_getElem? (i := 682) (by decide +kernel)⟩
theorem lw_p24 : lw_okq (⟨"LoadPressModel", "from", "(I)I"⟩, 26) := ⟨⟨by decide +kernel, by decide +kernel⟩, List.mem_of_getElem? (i := 506) (by decide +kernel), List.mem_of_getElem? (i := 697) (by decide +kernel), List.mem_of_getElem? (i := 698) (by decide +kernel)⟩
theorem lw_p25 : lw_okq (⟨"LoadPressModel", "taking", "(II)I"⟩, 26) := ⟨⟨by decide +kernel, by decide +kernel⟩, List.mem_of_getElem? (i := 506) (by decide +kernel), List.mem_of_getElem? (i := 701) (by decide +kernel), List.mem_of_getElem? (i := 702) (by decide +kernel)⟩
theorem lw_p26 : lw_okq (⟨"LoadPressModel", "waitingAt", "(I)I"⟩, 26) := ⟨⟨by decide +kernel, by decide +kernel⟩, List.mem_of_getElem? (i := 506) (by decide +kernel), List.mem_of_getElem? (i := 718) (by decide +kernel), List.mem_of_getElem? (i := 719) (by decide +kernel)⟩
def lw_privs_2 : List (MethodName × Nat) := [(⟨"LoadPressModel", "next", "(II)I"⟩, 26), (⟨"LoadPressModel", "waitsOf", "(III)I"⟩, 26), (⟨"LoadPressModel", "findContexts", "(I)V"⟩, 26), (⟨"LoadPressModel", "areAlike", "(II)Z"⟩, 26), (⟨"LoadPressModel", "all", "(I)I"⟩, 26), (⟨"LoadPressModel", "walk", "(I)V"⟩, 26), (⟨"LoadPressModel", "serve", "(II)V"⟩, 26), (⟨"LoadPressModel", "isWalk", "(I)Z"⟩, 26), (⟨"LoadPressModel", "from", "(I)I"⟩, 26), (⟨"LoadPressModel", "taking", "(II)I"⟩, 26), (⟨"LoadPressModel", "waitingAt", "(I)I"⟩, 26)]
theorem lw_r2 : ∀ q ∈ lw_privs_2, lw_okq q := List.forall_mem_cons.mpr ⟨lw_p16, List.forall_mem_cons.mpr ⟨lw_p17, List.forall_mem_cons.mpr ⟨lw_p18, List.forall_mem_cons.mpr ⟨lw_p19, List.forall_mem_cons.mpr ⟨lw_p20, List.forall_mem_cons.mpr ⟨lw_p21, List.forall_mem_cons.mpr ⟨lw_p22, List.forall_mem_cons.mpr ⟨lw_p23, List.forall_mem_cons.mpr ⟨lw_p24, List.forall_mem_cons.mpr ⟨lw_p25, List.forall_mem_cons.mpr ⟨lw_p26, fun _ h => absurd h List.not_mem_nil⟩⟩⟩⟩⟩⟩⟩⟩⟩⟩⟩
def lw_privs : List (MethodName × Nat) := lw_privs_1 ++ (lw_privs_2)
def lw_tbl : List Cond := k2_sels lw_privs ++ tables_1
theorem lw_privs_ok : ∀ q ∈ lw_privs, lw_okq q := by
  show ∀ q ∈ lw_privs_1 ++ (lw_privs_2), lw_okq q
  exact List.forall_mem_append.mpr ⟨lw_r1, lw_r2⟩
end
section
def RX0 : String := "LoadPress$Contexts"
def TX0 : u_T := fun k => match k with
  | 0 => ("LoadPress$Contexts", "comings", "[I", true)
  | 1 => ("LoadPress$Contexts", "unlike", "[I", true)
  | 2 => ("LoadPress$Contexts", "nextOfOne", "[I", true)
  | 3 => ("LoadPress$Contexts", "nextOfOther", "[I", true)
  | _ => ("LoadPress$Contexts", "size", "I", false)
def tyX0 : Nat → FieldType := fun k => match k with
  | 0 => .array .int
  | 1 => .array .int
  | 2 => .array .int
  | 3 => .array .int
  | _ => .int
abbrev wsX00 : List Cond := u_ws RX0 TX0 5
theorem nmX0 : ∀ a, a < 5 → ∀ b, b < 5 → a ≠ b → (TX0 a).2.1 ≠ (TX0 b).2.1 := by decide +kernel
theorem tyX0_ok : ∀ k, k < 5 → parseFieldDescriptor (TX0 k).2.2.1 = some (tyX0 k) := by decide +kernel
abbrev cX0_init : ByteArray := prog_2_method_1_code
def yX0_init : MethodName := ⟨RX0, "<init>", "()V"⟩
abbrev cX0_gather : ByteArray := prog_2_method_2_code
def yX0_gather : MethodName := ⟨RX0, "gather", "(LLoadPress$Visits;I)V"⟩
abbrev cX0_gatherFrom : ByteArray := prog_2_method_3_code
def yX0_gatherFrom : MethodName := ⟨RX0, "gatherFrom", "(LLoadPress$Visits;II)V"⟩
abbrev cX0_sort : ByteArray := prog_2_method_4_code
def yX0_sort : MethodName := ⟨RX0, "sort", "()V"⟩
abbrev cX0_isFirstOfContext : ByteArray := prog_2_method_5_code
def yX0_isFirstOfContext : MethodName := ⟨RX0, "isFirstOfContext", "(I)Z"⟩
abbrev cX0_number : ByteArray := prog_2_method_6_code
def yX0_number : MethodName := ⟨RX0, "number", "()I"⟩
abbrev cX0_numberOfUnlike : ByteArray := prog_2_method_7_code
def yX0_numberOfUnlike : MethodName := ⟨RX0, "numberOfUnlike", "()I"⟩
abbrev cX0_isAlikeToOneOf : ByteArray := prog_2_method_8_code
def yX0_isAlikeToOneOf : MethodName := ⟨RX0, "isAlikeToOneOf", "(II)Z"⟩
abbrev cX0_countNext : ByteArray := prog_2_method_9_code
def yX0_countNext : MethodName := ⟨RX0, "countNext", "(I[I)I"⟩
abbrev cX0_areInProportion : ByteArray := prog_2_method_10_code
def yX0_areInProportion : MethodName := ⟨RX0, "areInProportion", "(II)Z"⟩
def RX1 : String := "LoadPress$Dealing"
def TX1 : u_T := fun k => match k with
  | 0 => ("LoadPress$Dealing", "counts", "[I", true)
  | _ => ("LoadPress$Dealing", "came", "[I", true)
def tyX1 : Nat → FieldType := fun k => match k with
  | 0 => .array .int
  | _ => .array .int
abbrev wsX10 : List Cond := u_ws RX1 TX1 2
theorem nmX1 : ∀ a, a < 2 → ∀ b, b < 2 → a ≠ b → (TX1 a).2.1 ≠ (TX1 b).2.1 := by decide +kernel
theorem tyX1_ok : ∀ k, k < 2 → parseFieldDescriptor (TX1 k).2.2.1 = some (tyX1 k) := by decide +kernel
abbrev cX1_init : ByteArray := prog_3_method_1_code
def yX1_init : MethodName := ⟨RX1, "<init>", "(I)V"⟩
abbrev cX1_beginAnew : ByteArray := prog_3_method_2_code
def yX1_beginAnew : MethodName := ⟨RX1, "beginAnew", "()V"⟩
abbrev cX1_deal : ByteArray := prog_3_method_3_code
def yX1_deal : MethodName := ⟨RX1, "deal", "()I"⟩
abbrev cX1_sumOf : ByteArray := prog_3_method_4_code
def yX1_sumOf : MethodName := ⟨RX1, "sumOf", "([I)I"⟩
def RX2 : String := "LoadPress$Machine"
def TX2 : u_T := fun k => match k with
  | 0 => ("LoadPress$Machine", "times", "[I", true)
  | 1 => ("LoadPress$Machine", "rares", "[I", true)
  | _ => ("LoadPress$Machine", "waits", "[LLoadPress$Dealing;", true)
def tyX2 : Nat → FieldType := fun k => match k with
  | 0 => .array .int
  | 1 => .array .int
  | _ => .array (.object "LoadPress$Dealing")
abbrev wsX20 : List Cond := u_ws RX2 TX2 3
theorem nmX2 : ∀ a, a < 3 → ∀ b, b < 3 → a ≠ b → (TX2 a).2.1 ≠ (TX2 b).2.1 := by decide +kernel
theorem tyX2_ok : ∀ k, k < 3 → parseFieldDescriptor (TX2 k).2.2.1 = some (tyX2 k) := by decide +kernel
abbrev cX2_init : ByteArray := prog_4_method_1_code
def yX2_init : MethodName := ⟨RX2, "<init>", "()V"⟩
abbrev cX2_forget : ByteArray := prog_4_method_2_code
def yX2_forget : MethodName := ⟨RX2, "forget", "()V"⟩
abbrev cX2_lengthen : ByteArray := prog_4_method_3_code
def yX2_lengthen : MethodName := ⟨RX2, "lengthen", "(III)V"⟩
abbrev cX2_tellRare : ByteArray := prog_4_method_4_code
def yX2_tellRare : MethodName := ⟨RX2, "tellRare", "(III)Z"⟩
abbrev cX2_countOf : ByteArray := prog_4_method_5_code
def yX2_countOf : MethodName := ⟨RX2, "countOf", "(II)I"⟩
abbrev cX2_timesOfWait : ByteArray := prog_4_method_6_code
def yX2_timesOfWait : MethodName := ⟨RX2, "timesOfWait", "(III)I"⟩
abbrev cX2_beginWaitsAnew : ByteArray := prog_4_method_7_code
def yX2_beginWaitsAnew : MethodName := ⟨RX2, "beginWaitsAnew", "()V"⟩
abbrev cX2_dealWait : ByteArray := prog_4_method_8_code
def yX2_dealWait : MethodName := ⟨RX2, "dealWait", "(II)I"⟩
abbrev cX2_unlikeSteps : ByteArray := prog_4_method_9_code
def yX2_unlikeSteps : MethodName := ⟨RX2, "unlikeSteps", "()I"⟩
def RX3 : String := "LoadPress$Press"
def TX3 : u_T := fun k => match k with
  | 0 => ("LoadPress$Press", "walks", "LLoadPress$Visits;", true)
  | 1 => ("LoadPress$Press", "due", "[I", true)
  | 2 => ("LoadPress$Press", "begun", "[I", true)
  | 3 => ("LoadPress$Press", "ended", "[I", true)
  | 4 => ("LoadPress$Press", "server", "[I", true)
  | 5 => ("LoadPress$Press", "nextSlot", "[I", true)
  | 6 => ("LoadPress$Press", "nextDue", "[I", true)
  | 7 => ("LoadPress$Press", "freeAt", "[I", true)
  | 8 => ("LoadPress$Press", "servers", "I", false)
  | 9 => ("LoadPress$Press", "lastBegun", "I", false)
  | 10 => ("LoadPress$Press", "behindSince", "I", false)
  | 11 => ("LoadPress$Press", "lastEnd", "I", false)
  | _ => ("LoadPress$Press", "worked", "I", false)
def tyX3 : Nat → FieldType := fun k => match k with
  | 0 => .object "LoadPress$Visits"
  | 1 => .array .int
  | 2 => .array .int
  | 3 => .array .int
  | 4 => .array .int
  | 5 => .array .int
  | 6 => .array .int
  | 7 => .array .int
  | 8 => .int
  | 9 => .int
  | 10 => .int
  | 11 => .int
  | _ => .int
abbrev wsX30 : List Cond := u_ws RX3 TX3 13
theorem nmX3 : ∀ a, a < 13 → ∀ b, b < 13 → a ≠ b → (TX3 a).2.1 ≠ (TX3 b).2.1 := by decide +kernel
theorem tyX3_ok : ∀ k, k < 13 → parseFieldDescriptor (TX3 k).2.2.1 = some (tyX3 k) := by decide +kernel
abbrev cX3_init : ByteArray := prog_5_method_1_code
def yX3_init : MethodName := ⟨RX3, "<init>", "()V"⟩
abbrev cX3_run : ByteArray := prog_5_method_2_code
def yX3_run : MethodName := ⟨RX3, "run", "(II[I)V"⟩
abbrev cX3_begin : ByteArray := prog_5_method_3_code
def yX3_begin : MethodName := ⟨RX3, "begin", "(II)V"⟩
abbrev cX3_visitDueFirst : ByteArray := prog_5_method_4_code
def yX3_visitDueFirst : MethodName := ⟨RX3, "visitDueFirst", "()I"⟩
abbrev cX3_serverFreeFirst : ByteArray := prog_5_method_5_code
def yX3_serverFreeFirst : MethodName := ⟨RX3, "serverFreeFirst", "()I"⟩
abbrev cX3_serve : ByteArray := prog_5_method_6_code
def yX3_serve : MethodName := ⟨RX3, "serve", "(II)V"⟩
abbrev cX3_noteBehind : ByteArray := prog_5_method_7_code
def yX3_noteBehind : MethodName := ⟨RX3, "noteBehind", "(II)V"⟩
abbrev cX3_fallsBehind : ByteArray := prog_5_method_8_code
def yX3_fallsBehind : MethodName := ⟨RX3, "fallsBehind", "()I"⟩
abbrev cX3_tell : ByteArray := prog_5_method_9_code
def yX3_tell : MethodName := ⟨RX3, "tell", "(II)I"⟩
abbrev cX3_longerThan : ByteArray := prog_5_method_10_code
def yX3_longerThan : MethodName := ⟨RX3, "longerThan", "(II)I"⟩
abbrev cX3_leastTicks : ByteArray := prog_5_method_11_code
def yX3_leastTicks : MethodName := ⟨RX3, "leastTicks", "(II)I"⟩
abbrev cX3_notBegunAt : ByteArray := prog_5_method_12_code
def yX3_notBegunAt : MethodName := ⟨RX3, "notBegunAt", "(I)I"⟩
def RX4 : String := "LoadPress$Visits"
def TX4 : u_T := fun k => match k with
  | 0 => ("LoadPress$Visits", "pages", "[I", true)
  | 1 => ("LoadPress$Visits", "waits", "[I", true)
  | 2 => ("LoadPress$Visits", "starts", "[I", true)
  | _ => ("LoadPress$Visits", "size", "I", false)
def tyX4 : Nat → FieldType := fun k => match k with
  | 0 => .array .int
  | 1 => .array .int
  | 2 => .array .int
  | _ => .int
abbrev wsX40 : List Cond := u_ws RX4 TX4 4
theorem nmX4 : ∀ a, a < 4 → ∀ b, b < 4 → a ≠ b → (TX4 a).2.1 ≠ (TX4 b).2.1 := by decide +kernel
theorem tyX4_ok : ∀ k, k < 4 → parseFieldDescriptor (TX4 k).2.2.1 = some (tyX4 k) := by decide +kernel
abbrev cX4_init : ByteArray := prog_6_method_1_code
def yX4_init : MethodName := ⟨RX4, "<init>", "()V"⟩
abbrev cX4_empty : ByteArray := prog_6_method_2_code
def yX4_empty : MethodName := ⟨RX4, "empty", "()V"⟩
abbrev cX4_open : ByteArray := prog_6_method_3_code
def yX4_open : MethodName := ⟨RX4, "open", "()I"⟩
abbrev cX4_add : ByteArray := prog_6_method_4_code
def yX4_add : MethodName := ⟨RX4, "add", "(II)I"⟩
abbrev cX4_asks : ByteArray := prog_6_method_5_code
def yX4_asks : MethodName := ⟨RX4, "asks", "()I"⟩
abbrev cX4_has : ByteArray := prog_6_method_6_code
def yX4_has : MethodName := ⟨RX4, "has", "(I)Z"⟩
abbrev cX4_startOf : ByteArray := prog_6_method_7_code
def yX4_startOf : MethodName := ⟨RX4, "startOf", "(I)I"⟩
abbrev cX4_endOf : ByteArray := prog_6_method_8_code
def yX4_endOf : MethodName := ⟨RX4, "endOf", "(I)I"⟩
abbrev cX4_lengthOf : ByteArray := prog_6_method_9_code
def yX4_lengthOf : MethodName := ⟨RX4, "lengthOf", "(I)I"⟩
abbrev cX4_slotOf : ByteArray := prog_6_method_10_code
def yX4_slotOf : MethodName := ⟨RX4, "slotOf", "(II)I"⟩
abbrev cX4_pageAt : ByteArray := prog_6_method_11_code
def yX4_pageAt : MethodName := ⟨RX4, "pageAt", "(I)I"⟩
abbrev cX4_waitAt : ByteArray := prog_6_method_12_code
def yX4_waitAt : MethodName := ⟨RX4, "waitAt", "(I)I"⟩
abbrev cX4_lastPlace : ByteArray := prog_6_method_13_code
def yX4_lastPlace : MethodName := ⟨RX4, "lastPlace", "()I"⟩
def RX5 : String := "LoadPress$Walker"
def TX5 : u_T := fun k => match k with
  | _ => ("LoadPress$Walker", "places", "[LLoadPress$Dealing;", true)
def tyX5 : Nat → FieldType := fun k => match k with
  | _ => .array (.object "LoadPress$Dealing")
abbrev wsX50 : List Cond := u_ws RX5 TX5 1
theorem nmX5 : ∀ a, a < 1 → ∀ b, b < 1 → a ≠ b → (TX5 a).2.1 ≠ (TX5 b).2.1 := by decide +kernel
theorem tyX5_ok : ∀ k, k < 1 → parseFieldDescriptor (TX5 k).2.2.1 = some (tyX5 k) := by decide +kernel
abbrev cX5_init : ByteArray := prog_7_method_1_code
def yX5_init : MethodName := ⟨RX5, "<init>", "()V"⟩
abbrev cX5_dealWalks : ByteArray := prog_7_method_2_code
def yX5_dealWalks : MethodName := ⟨RX5, "dealWalks", "(LLoadPress$Machine;LLoadPress$Visits;I)V"⟩
abbrev cX5_dealWalk : ByteArray := prog_7_method_3_code
def yX5_dealWalk : MethodName := ⟨RX5, "dealWalk", "(LLoadPress$Machine;LLoadPress$Visits;)V"⟩
abbrev cX5_timesOf : ByteArray := prog_7_method_4_code
def yX5_timesOf : MethodName := ⟨RX5, "timesOf", "(II)I"⟩
def RX6 : String := "LoadPress"
def TX6 : u_T := fun k => match k with
  | 0 => ("LoadPress", "log", "LLoadPress$Visits;", true)
  | 1 => ("LoadPress", "machine", "LLoadPress$Machine;", true)
  | 2 => ("LoadPress", "rows", "LLoadPress$Contexts;", true)
  | 3 => ("LoadPress", "costs", "[I", true)
  | 4 => ("LoadPress", "walker", "LLoadPress$Walker;", true)
  | _ => ("LoadPress", "latest", "LLoadPress$Press;", true)
def tyX6 : Nat → FieldType := fun k => match k with
  | 0 => .object "LoadPress$Visits"
  | 1 => .object "LoadPress$Machine"
  | 2 => .object "LoadPress$Contexts"
  | 3 => .array .int
  | 4 => .object "LoadPress$Walker"
  | _ => .object "LoadPress$Press"
abbrev wsX60 : List Cond := u_ws RX6 TX6 6
theorem nmX6 : ∀ a, a < 6 → ∀ b, b < 6 → a ≠ b → (TX6 a).2.1 ≠ (TX6 b).2.1 := by decide +kernel
theorem tyX6_ok : ∀ k, k < 6 → parseFieldDescriptor (TX6 k).2.2.1 = some (tyX6 k) := by decide +kernel
abbrev cX6_init : ByteArray := prog_1_method_1_code
def yX6_init : MethodName := ⟨RX6, "<init>", "()V"⟩
abbrev cX6_visit : ByteArray := prog_1_method_2_code
def yX6_visit : MethodName := ⟨RX6, "visit", "()I"⟩
abbrev cX6_ask : ByteArray := prog_1_method_3_code
def yX6_ask : MethodName := ⟨RX6, "ask", "(II)I"⟩
abbrev cX6_clear : ByteArray := prog_1_method_4_code
def yX6_clear : MethodName := ⟨RX6, "clear", "()V"⟩
abbrev cX6_steps : ByteArray := prog_1_method_5_code
def yX6_steps : MethodName := ⟨RX6, "steps", "(II)I"⟩
abbrev cX6_waits : ByteArray := prog_1_method_6_code
def yX6_waits : MethodName := ⟨RX6, "waits", "(III)I"⟩
abbrev cX6_rare : ByteArray := prog_1_method_7_code
def yX6_rare : MethodName := ⟨RX6, "rare", "(III)Z"⟩
abbrev cX6_cost : ByteArray := prog_1_method_8_code
def yX6_cost : MethodName := ⟨RX6, "cost", "(II)Z"⟩
abbrev cX6_contexts : ByteArray := prog_1_method_9_code
def yX6_contexts : MethodName := ⟨RX6, "contexts", "(I)I"⟩
abbrev cX6_states : ByteArray := prog_1_method_10_code
def yX6_states : MethodName := ⟨RX6, "states", "(I)I"⟩
abbrev cX6_press : ByteArray := prog_1_method_11_code
def yX6_press : MethodName := ⟨RX6, "press", "(III)I"⟩
abbrev cX6_walked : ByteArray := prog_1_method_12_code
def yX6_walked : MethodName := ⟨RX6, "walked", "(I)I"⟩
abbrev cX6_told : ByteArray := prog_1_method_13_code
def yX6_told : MethodName := ⟨RX6, "told", "(III)I"⟩
abbrev cX6_dealt : ByteArray := prog_1_method_14_code
def yX6_dealt : MethodName := ⟨RX6, "dealt", "(II)I"⟩
abbrev cX6_part : ByteArray := prog_1_method_15_code
def yX6_part : MethodName := ⟨RX6, "part", "(II)I"⟩
abbrev cX6_late : ByteArray := prog_1_method_16_code
def yX6_late : MethodName := ⟨RX6, "late", "(II)I"⟩
abbrev cX6_behind : ByteArray := prog_1_method_17_code
def yX6_behind : MethodName := ⟨RX6, "behind", "()I"⟩
abbrev cX6_waiting : ByteArray := prog_1_method_18_code
def yX6_waiting : MethodName := ⟨RX6, "waiting", "(I)I"⟩
abbrev cX6_learn : ByteArray := prog_1_method_19_code
def yX6_learn : MethodName := ⟨RX6, "learn", "()I"⟩
abbrev cX6_count : ByteArray := prog_1_method_20_code
def yX6_count : MethodName := ⟨RX6, "count", "(I)I"⟩
abbrev cX6_note : ByteArray := prog_1_method_21_code
def yX6_note : MethodName := ⟨RX6, "note", "(II)I"⟩
abbrev cX6_noteAsks : ByteArray := prog_1_method_22_code
def yX6_noteAsks : MethodName := ⟨RX6, "noteAsks", "(LLoadPress$Visits;I)V"⟩
abbrev cX6_isWithin : ByteArray := prog_1_method_23_code
def yX6_isWithin : MethodName := ⟨RX6, "isWithin", "(III)Z"⟩
abbrev cX6_isPage : ByteArray := prog_1_method_24_code
def yX6_isPage : MethodName := ⟨RX6, "isPage", "(I)Z"⟩
abbrev cX6_isPlace : ByteArray := prog_1_method_25_code
def yX6_isPlace : MethodName := ⟨RX6, "isPlace", "(I)Z"⟩
abbrev cX6_isWait : ByteArray := prog_1_method_26_code
def yX6_isWait : MethodName := ⟨RX6, "isWait", "(I)Z"⟩
abbrev cX6_stepOf : ByteArray := prog_1_method_27_code
def yX6_stepOf : MethodName := ⟨RX6, "stepOf", "(II)I"⟩
def RX7 : String := "LoadPressModel"
def TX7 : u_T := fun k => match k with
  | 0 => ("LoadPressModel", "visits", "I", false)
  | 1 => ("LoadPressModel", "many", "[I", true)
  | 2 => ("LoadPressModel", "page", "[I", true)
  | 3 => ("LoadPressModel", "wait", "[I", true)
  | 4 => ("LoadPressModel", "rare", "[I", true)
  | 5 => ("LoadPressModel", "cost", "[I", true)
  | 6 => ("LoadPressModel", "rowKey", "[I", true)
  | 7 => ("LoadPressModel", "rowNext", "[I", true)
  | 8 => ("LoadPressModel", "rows", "I", false)
  | 9 => ("LoadPressModel", "walks", "I", false)
  | 10 => ("LoadPressModel", "asks", "I", false)
  | 11 => ("LoadPressModel", "lastEnd", "I", false)
  | 12 => ("LoadPressModel", "worked", "I", false)
  | 13 => ("LoadPressModel", "walked", "[I", true)
  | 14 => ("LoadPressModel", "wPage", "[I", true)
  | 15 => ("LoadPressModel", "wWait", "[I", true)
  | 16 => ("LoadPressModel", "due", "[I", true)
  | 17 => ("LoadPressModel", "begun", "[I", true)
  | 18 => ("LoadPressModel", "ended", "[I", true)
  | 19 => ("LoadPressModel", "server", "[I", true)
  | 20 => ("LoadPressModel", "came", "[I", true)
  | 21 => ("LoadPressModel", "cameWait", "[I", true)
  | 22 => ("LoadPressModel", "count", "[I", true)
  | 23 => ("LoadPressModel", "countWait", "[I", true)
  | 24 => ("LoadPressModel", "free", "[I", true)
  | _ => ("LoadPressModel", "done", "[I", true)
def tyX7 : Nat → FieldType := fun k => match k with
  | 0 => .int
  | 1 => .array .int
  | 2 => .array .int
  | 3 => .array .int
  | 4 => .array .int
  | 5 => .array .int
  | 6 => .array .int
  | 7 => .array .int
  | 8 => .int
  | 9 => .int
  | 10 => .int
  | 11 => .int
  | 12 => .int
  | 13 => .array .int
  | 14 => .array .int
  | 15 => .array .int
  | 16 => .array .int
  | 17 => .array .int
  | 18 => .array .int
  | 19 => .array .int
  | 20 => .array .int
  | 21 => .array .int
  | 22 => .array .int
  | 23 => .array .int
  | 24 => .array .int
  | _ => .array .int
abbrev wsX70 : List Cond := u_ws RX7 TX7 26
theorem nmX7 : ∀ a, a < 26 → ∀ b, b < 26 → a ≠ b → (TX7 a).2.1 ≠ (TX7 b).2.1 := by decide +kernel
theorem tyX7_ok : ∀ k, k < 26 → parseFieldDescriptor (TX7 k).2.2.1 = some (tyX7 k) := by decide +kernel
abbrev cX7_init : ByteArray := prog_9_method_1_code
def yX7_init : MethodName := ⟨RX7, "<init>", "()V"⟩
abbrev cX7_in : ByteArray := prog_9_method_2_code
def yX7_in : MethodName := ⟨RX7, "in", "(III)Z"⟩
abbrev cX7_visit : ByteArray := prog_9_method_3_code
def yX7_visit : MethodName := ⟨RX7, "visit", "()I"⟩
abbrev cX7_ask : ByteArray := prog_9_method_4_code
def yX7_ask : MethodName := ⟨RX7, "ask", "(II)I"⟩
abbrev cX7_clear : ByteArray := prog_9_method_5_code
def yX7_clear : MethodName := ⟨RX7, "clear", "()V"⟩
abbrev cX7_next : ByteArray := prog_9_method_6_code
def yX7_next : MethodName := ⟨RX7, "next", "(II)I"⟩
abbrev cX7_inLog : ByteArray := prog_9_method_7_code
def yX7_inLog : MethodName := ⟨RX7, "inLog", "(II)I"⟩
abbrev cX7_arePlaces : ByteArray := prog_9_method_8_code
def yX7_arePlaces : MethodName := ⟨RX7, "arePlaces", "(II)Z"⟩
abbrev cX7_countOf : ByteArray := prog_9_method_9_code
def yX7_countOf : MethodName := ⟨RX7, "countOf", "(II)I"⟩
abbrev cX7_steps : ByteArray := prog_9_method_10_code
def yX7_steps : MethodName := ⟨RX7, "steps", "(II)I"⟩
abbrev cX7_waitsOf : ByteArray := prog_9_method_11_code
def yX7_waitsOf : MethodName := ⟨RX7, "waitsOf", "(III)I"⟩
abbrev cX7_waits : ByteArray := prog_9_method_12_code
def yX7_waits : MethodName := ⟨RX7, "waits", "(III)I"⟩
abbrev cX7_rare : ByteArray := prog_9_method_13_code
def yX7_rare : MethodName := ⟨RX7, "rare", "(III)Z"⟩
abbrev cX7_cost : ByteArray := prog_9_method_14_code
def yX7_cost : MethodName := ⟨RX7, "cost", "(II)Z"⟩
abbrev cX7_findContexts : ByteArray := prog_9_method_15_code
def yX7_findContexts : MethodName := ⟨RX7, "findContexts", "(I)V"⟩
abbrev cX7_contexts : ByteArray := prog_9_method_16_code
def yX7_contexts : MethodName := ⟨RX7, "contexts", "(I)I"⟩
abbrev cX7_all : ByteArray := prog_9_method_17_code
def yX7_all : MethodName := ⟨RX7, "all", "(I)I"⟩
abbrev cX7_areAlike : ByteArray := prog_9_method_18_code
def yX7_areAlike : MethodName := ⟨RX7, "areAlike", "(II)Z"⟩
abbrev cX7_states : ByteArray := prog_9_method_19_code
def yX7_states : MethodName := ⟨RX7, "states", "(I)I"⟩
abbrev cX7_deal : ByteArray := prog_9_method_20_code
def yX7_deal : MethodName := ⟨RX7, "deal", "([I[III)I"⟩
abbrev cX7_walk : ByteArray := prog_9_method_21_code
def yX7_walk : MethodName := ⟨RX7, "walk", "(I)V"⟩
abbrev cX7_serve : ByteArray := prog_9_method_22_code
def yX7_serve : MethodName := ⟨RX7, "serve", "(II)V"⟩
abbrev cX7_press : ByteArray := prog_9_method_23_code
def yX7_press : MethodName := ⟨RX7, "press", "(III)I"⟩
abbrev cX7_isWalk : ByteArray := prog_9_method_24_code
def yX7_isWalk : MethodName := ⟨RX7, "isWalk", "(I)Z"⟩
abbrev cX7_walked : ByteArray := prog_9_method_25_code
def yX7_walked : MethodName := ⟨RX7, "walked", "(I)I"⟩
abbrev cX7_told : ByteArray := prog_9_method_26_code
def yX7_told : MethodName := ⟨RX7, "told", "(III)I"⟩
abbrev cX7_dealt : ByteArray := prog_9_method_27_code
def yX7_dealt : MethodName := ⟨RX7, "dealt", "(II)I"⟩
abbrev cX7_taking : ByteArray := prog_9_method_28_code
def yX7_taking : MethodName := ⟨RX7, "taking", "(II)I"⟩
abbrev cX7_from : ByteArray := prog_9_method_29_code
def yX7_from : MethodName := ⟨RX7, "from", "(I)I"⟩
abbrev cX7_part : ByteArray := prog_9_method_30_code
def yX7_part : MethodName := ⟨RX7, "part", "(II)I"⟩
abbrev cX7_late : ByteArray := prog_9_method_31_code
def yX7_late : MethodName := ⟨RX7, "late", "(II)I"⟩
abbrev cX7_waitingAt : ByteArray := prog_9_method_32_code
def yX7_waitingAt : MethodName := ⟨RX7, "waitingAt", "(I)I"⟩
abbrev cX7_behind : ByteArray := prog_9_method_33_code
def yX7_behind : MethodName := ⟨RX7, "behind", "()I"⟩
abbrev cX7_waiting : ByteArray := prog_9_method_34_code
def yX7_waiting : MethodName := ⟨RX7, "waiting", "(I)I"⟩
abbrev cX7_learn : ByteArray := prog_9_method_35_code
def yX7_learn : MethodName := ⟨RX7, "learn", "()I"⟩
abbrev cX7_count : ByteArray := prog_9_method_36_code
def yX7_count : MethodName := ⟨RX7, "count", "(I)I"⟩
def RJ9 : String := "java/lang/Math"
def TJ9 : u_T := fun k => match k with
  | _ => ("", "", "", false)
def tyJ9 : Nat → FieldType := fun k => match k with
  | _ => .int
abbrev wsJ90 : List Cond := u_ws RJ9 TJ9 0
theorem nmJ9 : ∀ a, a < 0 → ∀ b, b < 0 → a ≠ b → (TJ9 a).2.1 ≠ (TJ9 b).2.1 := by decide +kernel
theorem tyJ9_ok : ∀ k, k < 0 → parseFieldDescriptor (TJ9 k).2.2.1 = some (tyJ9 k) := by decide +kernel
abbrev cJ9_max_7cf53 : ByteArray := prog_10_method_65_code
def yJ9_max_7cf53 : MethodName := ⟨RJ9, "max", "(II)I"⟩
abbrev cJ9_min_7cf53 : ByteArray := prog_10_method_69_code
def yJ9_min_7cf53 : MethodName := ⟨RJ9, "min", "(II)I"⟩
def RJ7 : String := "java/util/Arrays"
def TJ7 : u_T := fun k => match k with
  | _ => ("", "", "", false)
def tyJ7 : Nat → FieldType := fun k => match k with
  | _ => .int
abbrev wsJ70 : List Cond := u_ws RJ7 TJ7 0
theorem nmJ7 : ∀ a, a < 0 → ∀ b, b < 0 → a ≠ b → (TJ7 a).2.1 ≠ (TJ7 b).2.1 := by decide +kernel
theorem tyJ7_ok : ∀ k, k < 0 → parseFieldDescriptor (TJ7 k).2.2.1 = some (tyJ7 k) := by decide +kernel
abbrev cJ7_fill_53178 : ByteArray := prog_11_method_103_code
def yJ7_fill_53178 : MethodName := ⟨RJ7, "fill", "([II)V"⟩
def RL : String := "LoadPressLaw"
abbrev cL_law : ByteArray := code
def yL_law : MethodName := ⟨RL, "law", "([I)Z"⟩
abbrev vwCl : List vw_C := [(RX0, TX0, 5), (RX1, TX1, 2), (RX2, TX2, 3), (RX3, TX3, 13), (RX4, TX4, 4), (RX5, TX5, 1), (RX6, TX6, 6), (RX7, TX7, 26)]
end
section
/-! ===== the abstract memory: regions, their layout, what of it lives ===== -/
abbrev lpV : Type := Int32 ⊕ Option (Nat × Nat)
abbrev lpM : Type := Nat → Nat → Nat → Int32
abbrev lpK : Type := (Nat × List (Option (Nat × (Nat → Nat)))) ⊕ ((Nat → Nat) ⊕ ((Nat → Nat) × Nat × (Nat → Nat)))
abbrev lpL : Type := List (Option lpV)
abbrev lpC : Type := List (Nat × Instr × Nat)
abbrev lpS : Type := List lpV → lpM → (Option Int32 → lpM → Prop) → Prop
def lp_nth {α : Type} : List α → Nat → Option α
  | [], _ => none
  | a :: _, 0 => some a
  | _ :: l, n + 1 => lp_nth l n
def lp_set {α : Type} : List α → Nat → α → List α
  | [], _, _ => []
  | _ :: l, 0, x => x :: l
  | a :: l, n + 1, x => a :: lp_set l n x
def lp_len {α : Type} : List α → Nat
  | [] => 0
  | _ :: l => lp_len l + 1
def lp_o (r : Nat) : Option (Nat × (Nat → Nat)) := some (r, fun _ => 0)
def lp_k (r : Nat) : Option (Nat × (Nat → Nat)) := some (r, fun k => k)
def lp_a (n : Nat) : Option lpK := some (.inr (.inl (fun _ => n)))
def lp_dl (k : Nat) : Nat := if k < 121 then 61 else 11
def lp_lays : List (Option lpK) := [none,
  some (.inl (6, [lp_o 2, lp_o 6, lp_o 10, lp_o 15, lp_o 16, lp_o 18])),
  some (.inl (4, [lp_k 3, lp_k 4, lp_k 5, none])), lp_a 1200, lp_a 1200, lp_a 61,
  some (.inl (2, [lp_o 7, lp_o 8, lp_o 9])), lp_a 121, lp_a 121, some (.inr (.inr (fun _ => 121, 26, fun j => j))),
  some (.inl (0, [lp_o 11, lp_o 12, lp_o 13, lp_o 14, none])), lp_a 1200, lp_a 1200, lp_a 11, lp_a 11,
  lp_a 10,
  some (.inl (5, [lp_o 17])), some (.inr (.inr (fun _ => 11, 26, fun j => 121 + j))),
  some (.inl (3, [some (2, fun _ => 1), lp_o 19, lp_o 20, lp_o 21, lp_o 22, lp_o 23, lp_o 24, lp_o 25, none, none, none, none, none])),
  lp_a 1200, lp_a 1200, lp_a 1200, lp_a 1200, lp_a 60, lp_a 60, lp_a 8,
  some (.inl (1, [lp_k 27, lp_k 28])), some (.inr (.inl lp_dl)), some (.inr (.inl lp_dl)),
  none,
  some (.inl (7, [none, lp_o 31, lp_o 32, lp_o 33, lp_o 34, lp_o 35, lp_o 36, lp_o 37, none, none, none, none, none, lp_o 38, lp_o 39, lp_o 40, lp_o 41, lp_o 42, lp_o 43, lp_o 44, lp_o 45, lp_o 46, lp_o 47, lp_o 48, lp_o 49, lp_o 50])),
  lp_a 60, lp_a 1200, lp_a 1200, lp_a 121, lp_a 11, lp_a 1200, lp_a 13200,
  lp_a 60, lp_a 1200, lp_a 1200, lp_a 1200, lp_a 1200, lp_a 1200, lp_a 1200, lp_a 121, lp_a 7381, lp_a 121, lp_a 7381, lp_a 8, lp_a 60]
def lp_lay (r : Nat) : Option lpK := match lp_nth lp_lays r with
  | some (some k) => some k
  | _ => none
def lp_cnts : List Nat := [0, 1, 2, 2, 2, 2, 1, 1, 1, 1, 1, 1, 1, 1, 1, 1, 1, 1, 1, 1, 1, 1, 1, 1, 1, 1, 132, 132, 132, 0, 1, 1, 1, 1, 1, 1, 1, 1, 1, 1, 1, 1, 1, 1, 1, 1, 1, 1, 1, 1, 1]
def lp_cnt (r : Nat) : Nat := match lp_nth lp_cnts r with
  | some n => n
  | none => 0
def lp_isD (r : Nat) : Bool := Nat.ble 26 r && Nat.ble r 28
/-- a cell of the memory that is made: all, but those Dealings of the Machine that have no flag yet -/
def lp_live (σ : lpM) (r k : Nat) : Prop := k < lp_cnt r ∧ (lp_isD r = true → k < 121 → σ 9 0 k ≠ 0)
def lp_dead (σ : lpM) : Nat := (List.range 121).countP (fun k => decide (σ 9 0 k = 0))
def lp_cv (ad : Nat → Nat → Nat) (v : lpV) : Value := match v with
  | .inl x => .int x
  | .inr none => .null
  | .inr (some q) => .ref (ad q.1 q.2)
def lp_fv (ad : Nat → Nat → Nat) (σ : lpM) (r k : Nat) : Nat → List (Option (Nat × (Nat → Nat))) → List Value
  | _, [] => []
  | j, none :: fs => .int (σ r k j) :: lp_fv ad σ r k (j + 1) fs
  | j, some q :: fs => .ref (ad q.1 (q.2 k)) :: lp_fv ad σ r k (j + 1) fs
def lp_rf (ad : Nat → Nat → Nat) (σ : lpM) (r k r' : Nat) (ix : Nat → Nat) (j : Nat) : Option Nat := if σ r k j = 0 then none else some (ad r' (ix j))
def lp_cell (cI cD : ClassId) (ad : Nat → Nat → Nat) (σ : lpM) (r k : Nat) : va_E := match lp_lay r with
  | some (.inl (ci, fs)) => .inr (ci, lp_fv ad σ r k 0 fs)
  | some (.inr (.inl len)) => .inl (cI, len k, .inl (σ r k))
  | some (.inr (.inr (len, r', ix))) => .inl (cD, len k, .inr (.inr (.inr (.inr (lp_rf ad σ r k r' ix)))))
  | none => .inr (0, [])
def lp_Rep (D : va_G) (cI cD : ClassId) (ad : Nat → Nat → Nat) (σ : lpM) (H : Heap) : Prop :=
  (∀ r k, lp_live σ r k → va_at D vwCl (ad r k, lp_cell cI cD ad σ r k) H) ∧ ∀ r k r' k', lp_live σ r k → lp_live σ r' k' → ad r k = ad r' k' → r = r' ∧ k = k'
def lp_isNest : Cond → Bool
  | .fieldLinkNest _ _ _ _ _ _ => true
  | .methodLinkNest _ _ _ _ => true
  | _ => false
def lp_nest : List Cond := lw_tbl.filter lp_isNest
def lp_tbl : List Cond := lw_tbl.filter goodWord
def lp_Wd (D : va_G) (cI cD : ClassId) (U : State) : Prop := va_K D vwCl [(cI, .int), (cD, .object RX1)] U ∧ ∀ w ∈ lp_nest, va_Nw w U
def lp_TS (H : Heap) : Nat := (H.toList.map (fun c => c.slots.size)).sum
def lp_Dom (ad : Nat → Nat → Nat) (σ : lpM) (sz : Nat) : Nat → Prop := fun q => (∃ r k, lp_live σ r k ∧ ad r k = q) ∨ sz ≤ q
def lp_ok (σ : lpM) (v : lpV) : Prop := match v with
  | .inr (some q) => lp_live σ q.1 q.2
  | _ => True
def lp_Pc (D : va_G) (cI cD : ClassId) (ad : Nat → Nat → Nat) (σ : lpM) (as : List lpV) (sz : Nat) : Array Value → State → Prop := fun v U =>
  v = (as.map (lp_cv ad)).toArray ∧ U.heap.size = sz ∧ lp_Rep D cI cD ad σ U.heap ∧ lp_Wd D cI cD U
/-- what a call leaves: an answer and a memory, as Q has them; nothing else changed; no more made than Dealings came to life -/
def lp_Qc (D : va_G) (cI cD : ClassId) (ad : Nat → Nat → Nat) (σ : lpM) (sz : Nat) (Q : Option Int32 → lpM → Prop) : Array Value → State → Outcome → State → Prop := fun _ st oc t =>
  ∃ (r : Option Int32) (σ' : lpM) (ad' : Nat → Nat → Nat), oc = .returned (r.map Value.int) ∧ Q r σ' ∧ lp_Rep D cI cD ad' σ' t.heap ∧ lp_Wd D cI cD t ∧ (∀ r k, lp_live σ r k → lp_live σ' r k ∧ ad' r k = ad r k) ∧ (∀ r k, lp_live σ' r k → lp_Dom ad σ sz (ad' r k)) ∧
    (t.heap.size + 3 * lp_dead σ' ≤ st.heap.size + 3 * lp_dead σ ∧ lp_TS t.heap + 124 * lp_dead σ' ≤ lp_TS st.heap + 124 * lp_dead σ) ∧ va_F (lp_Dom ad σ sz) st t
def lp_Ct (l : Launch) (D : va_G) (cI cD : ClassId) (y : MethodName) (bytes : ByteArray) (nL : Nat) (ret : Option FieldType) (h : Nat) (spec : lpS) : Prop :=
  ∀ (ad : Nat → Nat → Nat) (σ : lpM) (as : List lpV) (Q : Option Int32 → lpM → Prop) (sz : Nat), (∀ v ∈ as, lp_ok σ v) → spec as σ Q →
    Met l y (.code y bytes nL ret :: lp_tbl) { frames := h, cells := 3 * lp_dead σ, slots := 124 * lp_dead σ, locals := 36 * h } (lp_Pc D cI cD ad σ as sz) (lp_Qc D cI cD ad σ sz Q) (3 * lp_dead σ) (124 * lp_dead σ) (lp_Dom ad σ sz)
def lp_w3 (σ : lpM) (r k j : Nat) (x : Int32) : lpM := va_up σ r (va_up (σ r) k (upd (σ r k) j x))
/-! ===== the walk of a method as a proposition over the memory ===== -/
def lp_dec (k : lpC) (cc : ByteArray) : Bool := k.all (fun x => decide (decode cc x.1 = .ok (x.2.1, x.2.2)))
def lp_fl : List (Nat × Nat × Nat) → Nat → Option (Nat × Nat)
  | [], _ => none
  | x :: l, i => bif Nat.beq x.1 i then some x.2 else lp_fl l i
def lp_kc : List (Nat × Int32) → Nat → Option Int32
  | [], _ => none
  | x :: l, i => bif Nat.beq x.1 i then some x.2 else lp_kc l i
def lp_cs : List (Nat × Option Nat × Nat × lpS) → Nat → Option (Option Nat × Nat × lpS)
  | [], _ => none
  | x :: l, i => bif Nat.beq x.1 i then some x.2 else lp_cs l i
def lp_pop : Nat → List lpV → List lpV → Option (List lpV × List lpV)
  | 0, st, acc => some (acc, st)
  | n + 1, v :: st, acc => lp_pop n st (v :: acc)
  | _ + 1, [], _ => none
def lp_mem (a : Nat) : List Nat → Bool
  | [] => false
  | b :: l => bif Nat.beq a b then true else lp_mem a l
def lp_to (t : Nat) : lpC → lpC
  | [] => []
  | x :: l => bif Nat.beq x.1 t then x :: l else lp_to t l
def lp_sw (x : Int32) (jp : Int → Prop) : Int → List Int → Prop
  | _, [] => True
  | lo, o :: os => (x.toInt = lo → jp o) ∧ lp_sw x jp (lo + 1) os
def lp_I (fl pf : List (Nat × Nat × Nat)) (kc : List (Nat × Int32)) (cs : List (Nat × Option Nat × Nat × lpS)) (bl : Bool) (I : Instr) (L : lpL) (st : List lpV) (σ : lpM)
    (nx : lpL → List lpV → lpM → Prop) (jp : Int → lpL → List lpV → lpM → Prop) (qr : Option Int32 → lpM → Prop) : Prop := match I with
  | .iconst n => nx L (.inl (Int32.ofInt n) :: st) σ
  | .bipush n => nx L (.inl (Int8.ofInt n).toInt32 :: st) σ
  | .sipush n => nx L (.inl (Int16.ofInt n).toInt32 :: st) σ
  | .ldc i => match lp_kc kc i with
    | some v => nx L (.inl v :: st) σ
    | none => False
  | .iload_n i => match lp_nth L i.val with
    | some (some (.inl x)) => nx L (.inl x :: st) σ
    | _ => False
  | .iload i => match lp_nth L i with
    | some (some (.inl x)) => nx L (.inl x :: st) σ
    | _ => False
  | .aload_n i => match lp_nth L i.val with
    | some (some (.inr x)) => nx L (.inr x :: st) σ
    | _ => False
  | .aload i => match lp_nth L i with
    | some (some (.inr x)) => nx L (.inr x :: st) σ
    | _ => False
  | .istore_n i => match st with
    | .inl x :: st => bif Nat.blt i.val (lp_len L) then nx (lp_set L i.val (some (.inl x))) st σ else False
    | _ => False
  | .istore i => match st with
    | .inl x :: st => bif Nat.blt i (lp_len L) then nx (lp_set L i (some (.inl x))) st σ else False
    | _ => False
  | .astore_n i => match st with
    | .inr x :: st => bif Nat.blt i.val (lp_len L) then nx (lp_set L i.val (some (.inr x))) st σ else False
    | _ => False
  | .astore i => match st with
    | .inr x :: st => bif Nat.blt i (lp_len L) then nx (lp_set L i (some (.inr x))) st σ else False
    | _ => False
  | .iinc i n => match lp_nth L i with
    | some (some (.inl x)) => nx (lp_set L i (some (.inl (x + Int32.ofInt n)))) st σ
    | _ => False
  | .iadd => match st with
    | .inl y :: .inl x :: st => nx L (.inl (x + y) :: st) σ
    | _ => False
  | .isub => match st with
    | .inl y :: .inl x :: st => nx L (.inl (x - y) :: st) σ
    | _ => False
  | .imul => match st with
    | .inl y :: .inl x :: st => nx L (.inl (x * y) :: st) σ
    | _ => False
  | .idiv => match st with
    | .inl y :: .inl x :: st => ¬ y = 0 ∧ nx L (.inl (x / y) :: st) σ
    | _ => False
  | .irem => match st with
    | .inl y :: .inl x :: st => ¬ y = 0 ∧ nx L (.inl (x - x / y * y) :: st) σ
    | _ => False
  | .dup => match st with
    | v :: st => nx L (v :: v :: st) σ
    | _ => False
  | .dup2 => match st with
    | v :: w :: st => nx L (v :: w :: v :: w :: st) σ
    | _ => False
  | .pop => match st with
    | _ :: st => nx L st σ
    | _ => False
  | .goto o => jp o L st σ
  | .if_icmp c o => match st with
    | .inl y :: .inl x :: st => (match c with
      | .eq => (x = y → jp o L st σ) ∧ (¬ x = y → nx L st σ)
      | .ne => (¬ x = y → jp o L st σ) ∧ (x = y → nx L st σ)
      | .lt => (x < y → jp o L st σ) ∧ (¬ x < y → nx L st σ)
      | .ge => (y ≤ x → jp o L st σ) ∧ (¬ y ≤ x → nx L st σ)
      | .gt => (y < x → jp o L st σ) ∧ (¬ y < x → nx L st σ)
      | .le => (x ≤ y → jp o L st σ) ∧ (¬ x ≤ y → nx L st σ))
    | _ => False
  | .ifCond c o => match st with
    | .inl x :: st => (match c with
      | .eq => (x = 0 → jp o L st σ) ∧ (¬ x = 0 → nx L st σ)
      | .ne => (¬ x = 0 → jp o L st σ) ∧ (x = 0 → nx L st σ)
      | .lt => (x < 0 → jp o L st σ) ∧ (¬ x < 0 → nx L st σ)
      | .ge => (0 ≤ x → jp o L st σ) ∧ (¬ 0 ≤ x → nx L st σ)
      | .gt => (0 < x → jp o L st σ) ∧ (¬ 0 < x → nx L st σ)
      | .le => (x ≤ 0 → jp o L st σ) ∧ (¬ x ≤ 0 → nx L st σ))
    | _ => False
  | .ifnull o => match st with
    | .inr none :: st => jp o L st σ
    | .inr (some _) :: st => nx L st σ
    | _ => False
  | .ifnonnull o => match st with
    | .inr none :: st => nx L st σ
    | .inr (some _) :: st => jp o L st σ
    | _ => False
  | .tableswitch d lo hi offs => match st with
    | .inl x :: st => (x.toInt < lo ∨ hi < x.toInt → jp d L st σ) ∧ lp_sw x (fun o => jp o L st σ) lo offs.toList
    | _ => False
  | .arraylength => match st with
    | .inr (some (r, k)) :: st => (match lp_lay r with
      | some (.inr (.inl len)) => nx L (.inl (nI (len k)) :: st) σ
      | some (.inr (.inr (len, _, _))) => nx L (.inl (nI (len k)) :: st) σ
      | _ => False)
    | _ => False
  | .iaload => match st with
    | .inl i :: .inr (some (r, k)) :: st => (match lp_lay r with
      | some (.inr (.inl len)) => vp_in i (len k) ∧ nx L (.inl (σ r k i.toNatClampNeg) :: st) σ
      | _ => False)
    | _ => False
  | .iastore => match st with
    | .inl x :: .inl i :: .inr (some (r, k)) :: st => (match lp_lay r with
      | some (.inr (.inl len)) => vp_in i (len k) ∧ nx L st (lp_w3 σ r k i.toNatClampNeg x)
      | _ => False)
    | _ => False
  | .aaload => match st with
    | .inl i :: .inr (some (r, k)) :: st => (match lp_lay r with
      | some (.inr (.inr (len, r', ix))) => vp_in i (len k) ∧ (σ r k i.toNatClampNeg = 0 → nx L (.inr none :: st) σ) ∧ (¬ σ r k i.toNatClampNeg = 0 → nx L (.inr (some (r', ix i.toNatClampNeg)) :: st) σ)
      | _ => False)
    | _ => False
  | .getfield i => match st with
    | .inr (some (r, k)) :: st => (match lp_fl fl i, lp_lay r with
      | some (ci, j), some (.inl (cj, fs)) => bif Nat.beq ci cj then (match lp_nth fs j with
        | some none => nx L (.inl (σ r k j) :: st) σ
        | some (some (r', g)) => nx L (.inr (some (r', g k)) :: st) σ
        | none => False) else False
      | _, _ => False)
    | _ => False
  | .putfield i => match st with
    | .inl x :: .inr (some (r, k)) :: st => (match lp_fl pf i, lp_lay r with
      | some (ci, j), some (.inl (cj, fs)) => bif Nat.beq ci cj then (match lp_nth fs j with
        | some none => nx L st (lp_w3 σ r k j x)
        | _ => False) else False
      | _, _ => False)
    | _ => False
  | .invokevirtual i => match lp_cs cs i with
    | some (some ci, n, spec) => (match lp_pop n st [] with
      | some (as, .inr (some (r, k)) :: st) => (match lp_lay r with
        | some (.inl (cj, _)) => bif Nat.beq ci cj && Nat.ble (lp_len st) 8 then spec (.inr (some (r, k)) :: as) σ (fun ro σ => match ro with
          | some x => nx L (.inl x :: st) σ
          | none => nx L st σ) else False
        | _ => False)
      | _ => False)
    | _ => False
  | .invokestatic i => match lp_cs cs i with
    | some (none, n, spec) => (match lp_pop n st [] with
      | some (as, st) => bif Nat.ble (lp_len st) 8 then spec as σ (fun ro σ => match ro with
          | some x => nx L (.inl x :: st) σ
          | none => nx L st σ) else False
      | _ => False)
    | _ => False
  | .ireturn => match st with
    | [.inl x] => bif bl then (x = 0 ∨ x = 1) ∧ qr (some x) σ else qr (some x) σ
    | _ => False
  | .return_ => match st with
    | [] => qr none σ
    | _ => False
  | _ => False
def lp_go (labs : List Nat) (lab : Nat → lpL → lpM → Prop) (w : lpC → lpL → List lpV → lpM → Prop) (k : lpC) (L : lpL) (st : List lpV) (σ : lpM) : Prop := match k with
  | [] => False
  | x :: _ => bif lp_mem x.1 labs then (match st with
    | [] => lab x.1 L σ
    | _ => False) else w k L st σ
def lp_wp (fl pf : List (Nat × Nat × Nat)) (kc : List (Nat × Int32)) (cs : List (Nat × Option Nat × Nat × lpS)) (bl : Bool) (code : lpC) (labs : List Nat) (lab : Nat → lpL → lpM → Prop) (qr : Option Int32 → lpM → Prop) : Nat → lpC → lpL → List lpV → lpM → Prop
  | 0, _, _, _, _ => False
  | _ + 1, [], _, _, _ => False
  | n + 1, x :: k, L, st, σ => lp_I fl pf kc cs bl x.2.1 L st σ (lp_go labs lab (lp_wp fl pf kc cs bl code labs lab qr n) k) (fun o L st σ => match (x.1 : Int) + o with
    | .ofNat t => lp_go labs lab (lp_wp fl pf kc cs bl code labs lab qr n) (lp_to t code) L st σ
    | .negSucc _ => False) qr
end
section
/-! ===== laws of the abstract memory ===== -/
theorem lp_len_eq {α : Type} : ∀ l : List α, lp_len l = l.length
  | [] => rfl
  | _ :: l => by simp [lp_len, lp_len_eq l]
theorem lp_nth_eq {α : Type} : ∀ (l : List α) (n : Nat), lp_nth l n = l[n]?
  | [], n => by simp [lp_nth]
  | a :: l, 0 => by simp [lp_nth]
  | a :: l, n + 1 => by simp [lp_nth, lp_nth_eq l n]
theorem lp_set_eq {α : Type} : ∀ (l : List α) (n : Nat) (x : α), lp_set l n x = l.set n x
  | [], n, x => by simp [lp_set]
  | a :: l, 0, x => by simp [lp_set]
  | a :: l, n + 1, x => by simp [lp_set, lp_set_eq l n x]
theorem lp_set_len {α : Type} (l : List α) (n : Nat) (x : α) : (lp_set l n x).length = l.length := by rw [lp_set_eq]; simp
def lp_fok (r k : Nat) (q : Option (Nat × (Nat → Nat))) : Bool := match q with
  | none => true
  | some (r', g) => Nat.blt (g k) (lp_cnt r') && (!lp_isD r' || (lp_isD r && Nat.beq (g k) k))
theorem lp_closed : ((List.range 60).all fun r => match lp_lay r with
  | some (.inl (_, fs)) => (List.range (lp_cnt r)).all fun k => fs.all (lp_fok r k)
  | _ => true) = true := by decide +kernel
theorem lp_cnt_lt {r k : Nat} (h : k < lp_cnt r) : r < 60 := by
  rcases Nat.lt_or_ge r 60 with q | q
  · exact q
  · exfalso
    have e : lp_nth lp_cnts r = none := by
      rw [lp_nth_eq, List.getElem?_eq_none_iff]
      have : lp_cnts.length = 51 := rfl
      omega
    simp [lp_cnt, e] at h
theorem lp_live_field {σ : lpM} {r k ci j r' : Nat} {fs : List (Option (Nat × (Nat → Nat)))} {g : Nat → Nat} (h : lp_live σ r k) (hl : lp_lay r = some (.inl (ci, fs))) (hf : lp_nth fs j = some (some (r', g))) : lp_live σ r' (g k) := by
  have hr := lp_cnt_lt h.1
  have h1 := List.all_eq_true.mp lp_closed r (List.mem_range.mpr hr)
  rw [hl] at h1
  have h2 := List.all_eq_true.mp h1 k (List.mem_range.mpr h.1)
  rw [lp_nth_eq] at hf
  have h3 := List.all_eq_true.mp h2 _ (List.mem_of_getElem? hf)
  simp only [lp_fok, Bool.and_eq_true, Bool.or_eq_true, Bool.not_eq_true', Nat.blt_eq] at h3
  refine ⟨h3.1, fun hd hk => ?_⟩
  rcases h3.2 with q | q
  · rw [q] at hd; cases hd
  · rw [Nat.eq_of_beq_eq_true q.2] at hk ⊢
    exact h.2 q.1 hk
theorem lp_rfs : ((List.range 60).all fun r => match lp_lay r with
  | some (.inr (.inr (len, r', ix))) => Nat.beq r' 26 && (Nat.beq (lp_cnt r) 1) && (List.range (len 0)).all fun j => (Nat.beq r 9 && Nat.beq (ix j) j && Nat.blt j 121) || (Nat.ble 121 (ix j) && Nat.blt (ix j) 132)
  | _ => true) = true := by decide +kernel
theorem lp_live_ref {σ : lpM} {r k r' j : Nat} {len ix : Nat → Nat} (h : lp_live σ r k) (hl : lp_lay r = some (.inr (.inr (len, r', ix)))) (hj : j < len k) (hz : σ r k j ≠ 0) : lp_live σ r' (ix j) := by
  have hr := lp_cnt_lt h.1
  have h1 := List.all_eq_true.mp lp_rfs r (List.mem_range.mpr hr)
  rw [hl] at h1
  simp only [Bool.and_eq_true] at h1
  obtain ⟨⟨e1, e2⟩, h2⟩ := h1
  have e1 := Nat.eq_of_beq_eq_true e1
  have e2 := Nat.eq_of_beq_eq_true e2
  have hk : k = 0 := by have := h.1; omega
  subst hk
  subst e1
  have h3 := List.all_eq_true.mp h2 j (List.mem_range.mpr hj)
  simp only [Bool.or_eq_true, Bool.and_eq_true, Nat.blt_eq] at h3
  have hc : lp_cnt 26 = 132 := rfl
  rcases h3 with ⟨⟨a, b⟩, c⟩ | ⟨a, b⟩
  · have a := Nat.eq_of_beq_eq_true a
    have b := Nat.eq_of_beq_eq_true b
    subst a
    rw [b]
    exact ⟨by omega, fun _ _ => hz⟩
  · have a := Nat.le_of_ble_eq_true a
    exact ⟨by omega, fun _ q => absurd q (by omega)⟩
theorem lp_w3_same (σ : lpM) (r k j : Nat) (x : Int32) : lp_w3 σ r k j x r k = upd (σ r k) j x := by simp [lp_w3, va_up]
theorem lp_w3_ne {σ : lpM} {r k j r' k' : Nat} {x : Int32} (h : ¬ (r' = r ∧ k' = k)) : lp_w3 σ r k j x r' k' = σ r' k' := by
  by_cases hr : r' = r
  · subst hr
    have hk : k' ≠ k := fun q => h ⟨rfl, q⟩
    simp [lp_w3, va_up, hk]
  · simp [lp_w3, va_up, hr]
theorem lp_w3_9 {σ : lpM} {r k j : Nat} {x : Int32} (h : r ≠ 9) : lp_w3 σ r k j x 9 = σ 9 := by
  simp [lp_w3, va_up, Ne.symm h]
theorem lp_live_w3 {σ : lpM} {r k j : Nat} {x : Int32} (h : r ≠ 9) (r' k' : Nat) : lp_live (lp_w3 σ r k j x) r' k' ↔ lp_live σ r' k' := by
  simp [lp_live, lp_w3_9 h]
theorem lp_dead_w3 {σ : lpM} {r k j : Nat} {x : Int32} (h : r ≠ 9) : lp_dead (lp_w3 σ r k j x) = lp_dead σ := by
  simp [lp_dead, lp_w3_9 h]
theorem lp_ok_w3 {σ : lpM} {r k j : Nat} {x : Int32} (h : r ≠ 9) (v : lpV) : lp_ok (lp_w3 σ r k j x) v ↔ lp_ok σ v := by
  rcases v with y | _ | q
  · exact Iff.rfl
  · exact Iff.rfl
  · exact lp_live_w3 h _ _
theorem lp_fv_congr {ad : Nat → Nat → Nat} {σ σ' : lpM} {r k : Nat} (h : σ' r k = σ r k) : ∀ (j : Nat) (fs : List (Option (Nat × (Nat → Nat)))), lp_fv ad σ' r k j fs = lp_fv ad σ r k j fs
  | _, [] => rfl
  | j, none :: fs => by simp [lp_fv, h, lp_fv_congr h (j + 1) fs]
  | j, some q :: fs => by simp [lp_fv, lp_fv_congr h (j + 1) fs]
theorem lp_cell_congr {cI cD : ClassId} {ad : Nat → Nat → Nat} {σ σ' : lpM} {r k : Nat} (h : σ' r k = σ r k) : lp_cell cI cD ad σ' r k = lp_cell cI cD ad σ r k := by
  unfold lp_cell
  split
  · rw [lp_fv_congr h]
  · rw [h]
  · have e : ∀ (r' : Nat) (ix : Nat → Nat), lp_rf ad σ' r k r' ix = lp_rf ad σ r k r' ix := fun r' ix => by
      funext j
      simp [lp_rf, h]
    rw [e]
  · rfl
/-- a cell of the memory is written: the others stay -/
theorem lp_Rep_w3 {D : va_G} {cI cD : ClassId} {ad : Nat → Nat → Nat} {σ : lpM} {H H' : Heap} {r k j : Nat} {x : Int32} (hR : lp_Rep D cI cD ad σ H) (h9 : r ≠ 9) (hl : lp_live σ r k) (ha : va_at D vwCl (ad r k, lp_cell cI cD ad (lp_w3 σ r k j x) r k) H') (ho : ∀ q : Nat, q ≠ ad r k → H'[q]? = H[q]?) : lp_Rep D cI cD ad (lp_w3 σ r k j x) H' := by
  refine ⟨fun r' k' h' => ?_, fun r1 k1 r2 k2 h1 h2 => hR.2 r1 k1 r2 k2 ((lp_live_w3 h9 _ _).mp h1) ((lp_live_w3 h9 _ _).mp h2)⟩
  have h' := (lp_live_w3 h9 _ _).mp h'
  by_cases e : r' = r ∧ k' = k
  · obtain ⟨rfl, rfl⟩ := e
    exact ha
  · rw [lp_cell_congr (lp_w3_ne e)]
    exact (hR.1 r' k' h').kept (ho _ (fun q => e (hR.2 r' k' r k h' hl q)))
theorem lp_fv_len (ad : Nat → Nat → Nat) (σ : lpM) (r k : Nat) : ∀ (j : Nat) (fs : List (Option (Nat × (Nat → Nat)))), (lp_fv ad σ r k j fs).length = fs.length
  | _, [] => rfl
  | j, none :: fs => by simp [lp_fv, lp_fv_len ad σ r k (j + 1) fs]
  | j, some q :: fs => by simp [lp_fv, lp_fv_len ad σ r k (j + 1) fs]
theorem lp_fv_int {ad : Nat → Nat → Nat} {σ : lpM} {r k : Nat} : ∀ {i j : Nat} {fs : List (Option (Nat × (Nat → Nat)))}, lp_nth fs i = some none → (lp_fv ad σ r k j fs)[i]? = some (.int (σ r k (j + i)))
  | _, _, [], h => by simp [lp_nth] at h
  | 0, j, none :: fs, _ => by simp [lp_fv]
  | 0, j, some q :: fs, h => by simp [lp_nth] at h
  | i + 1, j, none :: fs, h => by
    have := lp_fv_int (ad := ad) (σ := σ) (r := r) (k := k) (i := i) (j := j + 1) (fs := fs) h
    simp [lp_fv, this]
    congr 1
    omega
  | i + 1, j, some q :: fs, h => by
    have := lp_fv_int (ad := ad) (σ := σ) (r := r) (k := k) (i := i) (j := j + 1) (fs := fs) h
    simp [lp_fv, this]
    congr 1
    omega
theorem lp_fv_ref {ad : Nat → Nat → Nat} {σ : lpM} {r k : Nat} {q : Nat × (Nat → Nat)} : ∀ {i j : Nat} {fs : List (Option (Nat × (Nat → Nat)))}, lp_nth fs i = some (some q) → (lp_fv ad σ r k j fs)[i]? = some (.ref (ad q.1 (q.2 k)))
  | _, _, [], h => by simp [lp_nth] at h
  | 0, j, none :: fs, h => by simp [lp_nth] at h
  | 0, j, some q' :: fs, h => by
    simp [lp_nth] at h
    subst h
    simp [lp_fv]
  | i + 1, j, none :: fs, h => by
    have := lp_fv_ref (ad := ad) (σ := σ) (r := r) (k := k) (i := i) (j := j + 1) (fs := fs) h
    simp [lp_fv, this]
  | i + 1, j, some q' :: fs, h => by
    have := lp_fv_ref (ad := ad) (σ := σ) (r := r) (k := k) (i := i) (j := j + 1) (fs := fs) h
    simp [lp_fv, this]
theorem lp_fv_w3 {ad : Nat → Nat → Nat} {σ : lpM} {r k : Nat} {x : Int32} : ∀ {i j : Nat} {fs : List (Option (Nat × (Nat → Nat)))}, lp_nth fs i = some none → lp_fv ad (lp_w3 σ r k (j + i) x) r k j fs = (lp_fv ad σ r k j fs).set i (.int x)
  | _, _, [], h => by simp [lp_nth] at h
  | 0, j, none :: fs, _ => by
    have e : ∀ (j' : Nat) (fs : List (Option (Nat × (Nat → Nat)))), j < j' → lp_fv ad (lp_w3 σ r k j x) r k j' fs = lp_fv ad σ r k j' fs := by
      intro j' fs
      induction fs generalizing j' with
      | nil => intro _; rfl
      | cons a fs ih =>
        intro hj
        cases a with
        | none => simp [lp_fv, ih (j' + 1) (by omega), lp_w3_same, upd, show ¬ j' = j by omega]
        | some q => simp [lp_fv, ih (j' + 1) (by omega)]
    simp [lp_fv, lp_w3_same, upd, e (j + 1) fs (by omega)]
  | 0, j, some q :: fs, h => by simp [lp_nth] at h
  | i + 1, j, none :: fs, h => by
    have := lp_fv_w3 (ad := ad) (σ := σ) (r := r) (k := k) (x := x) (i := i) (j := j + 1) (fs := fs) h
    rw [show j + 1 + i = j + (i + 1) by omega] at this
    simp [lp_fv, this, lp_w3_same, upd]
  | i + 1, j, some q' :: fs, h => by
    have := lp_fv_w3 (ad := ad) (σ := σ) (r := r) (k := k) (x := x) (i := i) (j := j + 1) (fs := fs) h
    rw [show j + 1 + i = j + (i + 1) by omega] at this
    simp [lp_fv, this]
/-! locals -/
def lp_kl (ad : Nat → Nat → Nat) : Nat → lpL → List (Nat × Value)
  | _, [] => []
  | j, none :: L => lp_kl ad (j + 1) L
  | j, some v :: L => (j, lp_cv ad v) :: lp_kl ad (j + 1) L
def lp_loc (ad : Nat → Nat → Nat) (ls : Array Slot) (L : lpL) : Prop := lv_has ls L.length (lp_kl ad 0 L)
theorem lp_cat (ad : Nat → Nat → Nat) (v : lpV) : (lp_cv ad v).category = 1 := by
  rcases v with x | _ | q <;> rfl
theorem lp_kl_mem {ad : Nat → Nat → Nat} {v : lpV} : ∀ {i j : Nat} {L : lpL}, lp_nth L i = some (some v) → (j + i, lp_cv ad v) ∈ lp_kl ad j L
  | _, _, [], h => by simp [lp_nth] at h
  | 0, j, none :: L, h => by simp [lp_nth] at h
  | 0, j, some w :: L, h => by
    simp [lp_nth] at h
    subst h
    simp [lp_kl]
  | i + 1, j, none :: L, h => by
    have := lp_kl_mem (ad := ad) (v := v) (i := i) (j := j + 1) (L := L) h
    rw [show j + 1 + i = j + (i + 1) by omega] at this
    simpa [lp_kl] using this
  | i + 1, j, some w :: L, h => by
    have := lp_kl_mem (ad := ad) (v := v) (i := i) (j := j + 1) (L := L) h
    rw [show j + 1 + i = j + (i + 1) by omega] at this
    simp [lp_kl, this]
theorem lp_kl_ge {ad : Nat → Nat → Nat} {q : Nat × Value} : ∀ {j : Nat} {L : lpL}, q ∈ lp_kl ad j L → j ≤ q.1 ∧ q.2.category = 1
  | _, [], h => by simp [lp_kl] at h
  | j, none :: L, h => by
    have := lp_kl_ge (j := j + 1) (L := L) (by simpa [lp_kl] using h)
    exact ⟨by omega, this.2⟩
  | j, some w :: L, h => by
    rcases List.mem_cons.mp (show q ∈ (j, lp_cv ad w) :: lp_kl ad (j + 1) L from h) with rfl | h
    · exact ⟨Nat.le_refl _, lp_cat ad w⟩
    · have := lp_kl_ge (j := j + 1) (L := L) h
      exact ⟨by omega, this.2⟩
theorem lp_kl_set {ad : Nat → Nat → Nat} {v : lpV} {q : Nat × Value} : ∀ {i j : Nat} {L : lpL}, q ∈ lp_kl ad j (lp_set L i (some v)) → q = (j + i, lp_cv ad v) ∨ (q ∈ lp_kl ad j L ∧ q.1 ≠ j + i)
  | _, _, [], h => by simp [lp_set, lp_kl] at h
  | 0, j, a :: L, h => by
    rcases List.mem_cons.mp (show q ∈ (j, lp_cv ad v) :: lp_kl ad (j + 1) L from h) with h2 | h2
    · exact Or.inl h2
    · have := (lp_kl_ge h2).1
      refine Or.inr ⟨?_, by omega⟩
      cases a with
      | none => exact h2
      | some w => exact List.mem_cons_of_mem _ h2
  | i + 1, j, none :: L, h => by
    have := lp_kl_set (ad := ad) (v := v) (q := q) (i := i) (j := j + 1) (L := L) (by simpa [lp_set, lp_kl] using h)
    rw [show j + 1 + i = j + (i + 1) by omega] at this
    simpa [lp_kl] using this
  | i + 1, j, some w :: L, h => by
    rcases List.mem_cons.mp (show q ∈ (j, lp_cv ad w) :: lp_kl ad (j + 1) (lp_set L i (some v)) from h) with h | h
    · subst h
      exact Or.inr ⟨by simp [lp_kl], by show j ≠ _; omega⟩
    · have := lp_kl_set (ad := ad) (v := v) (q := q) (i := i) (j := j + 1) (L := L) h
      rw [show j + 1 + i = j + (i + 1) by omega] at this
      rcases this with h | h
      · exact Or.inl h
      · exact Or.inr ⟨by simp [lp_kl, h.1], h.2⟩
theorem lp_loc_at {ad : Nat → Nat → Nat} {ls : Array Slot} {L : lpL} {i : Nat} {v : lpV} (h : lp_loc ad ls L) (hi : lp_nth L i = some (some v)) : ls[i]? = some (.val (lp_cv ad v)) := by
  have := h.2.2 (0 + i, lp_cv ad v) (lp_kl_mem hi)
  simpa using this
theorem lp_loc_put {ad : Nat → Nat → Nat} {ls : Array Slot} {L : lpL} {i : Nat} {v : lpV} (h : lv_has ls L.length ((i, lp_cv ad v) :: (lp_kl ad 0 L).filter (fun q => !(q.1 == i) && !(q.1 + 1 == i && q.2.category == 2)))) : lp_loc ad ls (lp_set L i (some v)) := by
  refine ⟨by rw [lp_set_len]; exact h.1, h.2.1, fun q hq => h.2.2 q ?_⟩
  rcases lp_kl_set hq with e | ⟨h1, h2⟩
  · rw [e]
    simp
  · have h3 := (lp_kl_ge h1).2
    refine List.mem_cons_of_mem _ (List.mem_filter.mpr ⟨h1, ?_⟩)
    simp [h3]
    omega
theorem lp_kl_congr {ad ad' : Nat → Nat → Nat} : ∀ {L : lpL} {j : Nat}, (∀ v, some v ∈ L → lp_cv ad' v = lp_cv ad v) → lp_kl ad' j L = lp_kl ad j L
  | [], _, _ => rfl
  | none :: L, j, h => lp_kl_congr (L := L) (j := j + 1) (fun v hv => h v (List.mem_cons_of_mem _ hv))
  | some w :: L, j, h => by
    simp [lp_kl, h w List.mem_cons_self, lp_kl_congr (L := L) (j := j + 1) (fun v hv => h v (List.mem_cons_of_mem _ hv))]
theorem lp_pop_eq : ∀ {n : Nat} {st acc as st' : List lpV}, lp_pop n st acc = some (as, st') → as.reverse ++ st' = acc.reverse ++ st ∧ as.length = n + acc.length
  | 0, st, acc, as, st', h => by
    simp [lp_pop] at h
    obtain ⟨rfl, rfl⟩ := h
    simp
  | n + 1, [], acc, as, st', h => by simp [lp_pop] at h
  | n + 1, v :: st, acc, as, st', h => by
    have := lp_pop_eq (n := n) (st := st) (acc := v :: acc) h
    refine ⟨by rw [this.1]; simp, by rw [this.2]; simp; omega⟩
/-! how many slots a heap has -/
theorem lp_TS_set {H H' : Heap} (z : H'.size = H.size) (h : ∀ q : Nat, (H'[q]?).map (fun c => c.slots.size) = (H[q]?).map (fun c => c.slots.size)) : lp_TS H' = lp_TS H := by
  unfold lp_TS
  congr 1
  apply List.ext_getElem?
  intro i
  simp only [List.getElem?_map, Array.getElem?_toList]
  exact h i
theorem lp_TS_push (H : Heap) (c : Cell) : lp_TS (H.push c) = lp_TS H + c.slots.size := by
  simp [lp_TS]
theorem lp_TS_split {H0 H : Heap} (hle : H0.size ≤ H.size) (h : ∀ (a : Nat) (c : Cell), H0[a]? = some c → ∃ c', H[a]? = some c' ∧ c'.slots.size = c.slots.size) : lp_TS H = lp_TS H0 + ((H.toList.drop H0.size).map (fun c => c.slots.size)).sum := by
  have e : (H.toList.take H0.size).map (fun c => c.slots.size) = H0.toList.map (fun c => c.slots.size) := by
    apply List.ext_getElem?
    intro i
    simp only [List.getElem?_map, List.getElem?_take, Array.getElem?_toList]
    by_cases hi : i < H0.size
    · rw [if_pos hi]
      have hc : H0[i]? = some H0[i] := Array.getElem?_eq_getElem hi
      obtain ⟨c', h1, h2⟩ := h i _ hc
      rw [h1, hc]
      simp [h2]
    · rw [if_neg hi, Array.getElem?_eq_none (by omega)]
  unfold lp_TS
  rw [← e, ← List.sum_append, ← List.map_append, List.take_append_drop]
end
section
/-! ===== the walk is sound: what lp_wp says, the machine does ===== -/
def lp_ln (I : Instr) : Nat := match I with
  | .bipush _ | .iload _ | .aload _ | .istore _ | .astore _ | .ldc _ => 2
  | .sipush _ | .iinc _ _ | .goto _ | .if_icmp _ _ | .ifCond _ _ | .ifnull _ | .ifnonnull _ | .getfield _ | .putfield _ | .invokevirtual _ | .invokestatic _ => 3
  | _ => 1
def lp_lenb (I : Instr) (n : Nat) : Bool := match I with
  | .tableswitch _ _ _ _ => true
  | I => Nat.beq (lp_ln I) n
def lp_seq : lpC → Bool
  | [] => true
  | [_] => true
  | x :: y :: l => Nat.beq (x.1 + x.2.2) y.1 && lp_seq (y :: l)
def lp_nnb (pc : Nat) (I : Instr) : Bool := match I with
  | .if_icmp _ o | .ifCond _ o | .ifnull o | .ifnonnull o => decide (0 ≤ (pc : Int) + o)
  | .tableswitch _ lo hi offs => decide (hi < lo + offs.toList.length)
  | _ => true
def lp_rtb (ret : Option FieldType) (I : Instr) : Bool := match I with
  | .ireturn => ret.isSome
  | .return_ => ret.isNone
  | _ => true
def lp_okc (k : lpC) (cc : ByteArray) (ret : Option FieldType) : Bool := lp_dec k cc && k.all (fun x => lp_lenb x.2.1 x.2.2 && lp_nnb x.1 x.2.1 && lp_rtb ret x.2.1) && lp_seq k
def lp_flb (own : String) (x : Nat × Nat × Nat) : Bool := match vwCl[x.2.1]? with
  | some (_, T, N) => decide (x.2.2 < N) && (decide (Cond.fieldLink own x.1 (T x.2.2).1 (T x.2.2).2.1 (T x.2.2).2.2.1 ∈ lp_tbl) || lp_nest.any (fun w => match w with
    | .fieldLinkNest a i b n d _ => decide (a = own) && decide (i = x.1) && decide (b = (T x.2.2).1) && decide (n = (T x.2.2).2.1) && decide (d = (T x.2.2).2.2.1)
    | _ => false))
  | none => false
def lp_pfb (own : String) (x : Nat × Nat × Nat) : Bool := match vwCl[x.2.1]? with
  | some (_, T, N) => decide (x.2.2 < N) && decide (Cond.fieldLink own x.1 (T x.2.2).1 (T x.2.2).2.1 (T x.2.2).2.2.1 ∈ lp_tbl) && decide ((T x.2.2).2.2.2 = false) && decide (parseFieldDescriptor (T x.2.2).2.2.1 = some .int)
  | none => false
def lp_kcb (own : String) (x : Nat × Int32) : Bool := decide (Cond.constant own x.1 x.2 ∈ lp_tbl)
def lp_lnk (own : String) (i : Nat) (y : MethodName) : Prop := Cond.methodLink own i y ∈ lp_tbl ∨ ∃ host, Cond.methodLinkNest own i y host ∈ lp_nest
def lp_CallOK (l : Launch) (D : va_G) (cI cD : ClassId) (own : String) (h : Nat) (x : Nat × Option Nat × Nat × lpS) : Prop :=
  ∃ (y : MethodName) (bytes : ByteArray) (nL : Nat) (ret : Option FieldType) (h' : Nat), lp_Ct l D cI cD y bytes nL ret h' x.2.2.2 ∧ h' + 1 ≤ h ∧ nL ≤ 17 ∧ Cond.code y bytes nL ret ∈ lp_tbl ∧ Cond.initialized y.cls ∈ lp_tbl ∧
    (y.cls ≠ "java/lang/invoke/MethodHandle" ∧ y.cls ≠ "java/lang/invoke/VarHandle" ∧ (parseMethodDescriptor y.desc).map (fun d => d.parameters.length) = some x.2.2.1) ∧ lp_lnk own x.1 y ∧
    (match x.2.1 with
      | some ci => Cond.instanceMethod y ∈ lp_tbl ∧ Cond.selects y.cls y y ∈ lp_tbl ∧ ∃ q : vw_C, vwCl[ci]? = some q ∧ q.1 = y.cls
      | none => Cond.static y ∈ lp_tbl)
theorem lp_fl_mem : ∀ {t : List (Nat × Nat × Nat)} {i : Nat} {x : Nat × Nat}, lp_fl t i = some x → (i, x) ∈ t
  | [], _, _, h => by simp [lp_fl] at h
  | a :: t, i, x, h => by
    unfold lp_fl at h
    cases hb : Nat.beq a.1 i with
    | true =>
      rw [hb] at h
      have e : a.2 = x := Option.some.inj h
      rw [← e, ← Nat.eq_of_beq_eq_true hb]
      exact List.mem_cons_self
    | false =>
      rw [hb] at h
      exact List.mem_cons_of_mem _ (lp_fl_mem h)
theorem lp_kc_mem : ∀ {t : List (Nat × Int32)} {i : Nat} {x : Int32}, lp_kc t i = some x → (i, x) ∈ t
  | [], _, _, h => by simp [lp_kc] at h
  | a :: t, i, x, h => by
    unfold lp_kc at h
    cases hb : Nat.beq a.1 i with
    | true =>
      rw [hb] at h
      have e : a.2 = x := Option.some.inj h
      rw [← e, ← Nat.eq_of_beq_eq_true hb]
      exact List.mem_cons_self
    | false =>
      rw [hb] at h
      exact List.mem_cons_of_mem _ (lp_kc_mem h)
theorem lp_cs_mem : ∀ {t : List (Nat × Option Nat × Nat × lpS)} {i : Nat} {x : Option Nat × Nat × lpS}, lp_cs t i = some x → (i, x) ∈ t
  | [], _, _, h => by simp [lp_cs] at h
  | a :: t, i, x, h => by
    unfold lp_cs at h
    cases hb : Nat.beq a.1 i with
    | true =>
      rw [hb] at h
      have e : a.2 = x := Option.some.inj h
      rw [← e, ← Nat.eq_of_beq_eq_true hb]
      exact List.mem_cons_self
    | false =>
      rw [hb] at h
      exact List.mem_cons_of_mem _ (lp_cs_mem h)
theorem lp_u0 : ∀ w ∈ wsX00, w ∈ lp_tbl := by decide +kernel
theorem lp_u1 : ∀ w ∈ wsX10, w ∈ lp_tbl := by decide +kernel
theorem lp_u2 : ∀ w ∈ wsX20, w ∈ lp_tbl := by decide +kernel
theorem lp_u3 : ∀ w ∈ wsX30, w ∈ lp_tbl := by decide +kernel
theorem lp_u4 : ∀ w ∈ wsX40, w ∈ lp_tbl := by decide +kernel
theorem lp_u5 : ∀ w ∈ wsX50, w ∈ lp_tbl := by decide +kernel
theorem lp_u6 : ∀ w ∈ wsX60, w ∈ lp_tbl := by decide +kernel
theorem lp_u7 : ∀ w ∈ wsX70, w ∈ lp_tbl := by decide +kernel
theorem lp_cls {ci : Nat} {C : String} {T : u_T} {N : Nat} (h : vwCl[ci]? = some (C, T, N)) : (∀ w ∈ u_ws C T N, w ∈ lp_tbl) ∧ (∃ ty0 : Nat → FieldType, ∀ k, k < N → parseFieldDescriptor (T k).2.2.1 = some (ty0 k)) ∧ (∀ a, a < N → ∀ b, b < N → a ≠ b → (T a).2.1 ≠ (T b).2.1) := by
  match ci, h with
  | 0, h => cases h; exact ⟨lp_u0, ⟨_, tyX0_ok⟩, nmX0⟩
  | 1, h => cases h; exact ⟨lp_u1, ⟨_, tyX1_ok⟩, nmX1⟩
  | 2, h => cases h; exact ⟨lp_u2, ⟨_, tyX2_ok⟩, nmX2⟩
  | 3, h => cases h; exact ⟨lp_u3, ⟨_, tyX3_ok⟩, nmX3⟩
  | 4, h => cases h; exact ⟨lp_u4, ⟨_, tyX4_ok⟩, nmX4⟩
  | 5, h => cases h; exact ⟨lp_u5, ⟨_, tyX5_ok⟩, nmX5⟩
  | 6, h => cases h; exact ⟨lp_u6, ⟨_, tyX6_ok⟩, nmX6⟩
  | 7, h => cases h; exact ⟨lp_u7, ⟨_, tyX7_ok⟩, nmX7⟩
  | n + 8, h => simp [vwCl] at h
theorem lp_nest_move {w : Cond} (hw : lp_isNest w = true) {s U : State} (hW : s.WarmedH U.vm) (h : va_Nw w s) : va_Nw w U := by
  cases w with
  | fieldLinkNest a i b n d hh => exact va_Nw.warmF hW h
  | methodLinkNest a i x hh => exact va_Nw.warmM hW h
  | _ => cases hw
theorem lp_nest_on {w : Cond} (hw : lp_isNest w = true) : w.onTables = true := by
  cases w with
  | fieldLinkNest a i b n d hh => rfl
  | methodLinkNest a i x hh => rfl
  | _ => cases hw
theorem lp_Wd_move {D : va_G} {cI cD : ClassId} {s U : State} (hW : s.WarmedH U.vm) (h : lp_Wd D cI cD s) : lp_Wd D cI cD U :=
  ⟨va_K.moved hW.alike h.1, fun w hw => lp_nest_move (List.mem_filter.mp hw).2 hW (h.2 w hw)⟩
theorem lp_blind {D : va_G} {cI cD : ClassId} {ad : Nat → Nat → Nat} {σ : lpM} {as : List lpV} {sz : Nat} : FrameBlind (lp_Pc D cI cD ad σ as sz) := by
  intro a U g mk h
  obtain ⟨h1, h2, h3, h4, h5⟩ := h
  exact ⟨h1, h2, h3, va_K.moved (u := U) (U := U.calling g mk a) (Vm.Alike.refl U.vm) h4, fun w hw => va_Nw.same (u := U) (lp_nest_on (List.mem_filter.mp hw).2) rfl (h5 w hw)⟩
theorem lp_good {w0 : Cond} {y : MethodName} {bytes : ByteArray} {nL : Nat} {ret : Option FieldType} (h : Cond.code y bytes nL ret ∈ lp_tbl) : GoodIn (w0 :: lp_tbl) (Cond.code y bytes nL ret :: lp_tbl) := by
  intro w hw
  have hm : w ∈ lp_tbl := by
    rcases List.mem_cons.mp hw with rfl | hw
    · exact h
    · exact hw
  exact ⟨List.mem_cons_of_mem _ hm, good_of_word (List.mem_filter.mp hm).2⟩
section LPW
variable {p : Program} {l : Launch} {e : Env} {R : Room} {s : State} {m : MethodId} {args : Array Value} {below : List Frame} {meth : Method} {c : Code} {H : Heap} {locs : List Loc} {cells slots : Nat} {Q : State → Prop}
/-- the heap itself says how much was made -/
theorem lp_tight {g : JFrame} {k n : Nat} (h1 : H.size ≤ s.heap.size + k) (h2 : lp_TS H ≤ lp_TS s.heap + n) (kk : W p l e R s m args below meth c H locs k n Q g) : W p l e R s m args below meth c H locs cells slots Q g := by
  intro T hT X
  refine kk T hT { X with same := ?_ }
  obtain ⟨a1, a2, a3, a4, a5, a6⟩ := X.same
  have hh : (T.setVm s.vm).heap = H := hT
  refine ⟨a1, a2, by rw [hh]; exact h1, a4, ?_, a6⟩
  have hs := lp_TS_split a2 (fun a c hc => by
    obtain ⟨c', h1, -, h3, -⟩ := a6 a c hc
    exact ⟨c', h1, h3⟩)
  rw [hh] at hs ⊢
  have : (List.map (fun x => x.slots.size) (List.drop s.heap.size H.toList)).sum = (List.map (fun c => c.slots.size) (List.drop s.heap.size H.toList)).sum := rfl
  omega
theorem lp_call {mc ms : Nat} {g : JFrame} {rest : List Value} {Qa : State → Outcome → State → Prop} {free : Addr → Prop} (hr : va_Run p l e R s m args below meth c H locs cells slots mc ms g rest Qa free)
    (kk : ∀ (v : Option Value) (st₀ t : State) (L : List Loc), st₀.heap = H → s.WarmedH t.vm → Qa st₀ (.returned v) t → (∀ q ∈ L, free q.base) → W p l e R s m args below meth c t.heap (locs ++ L) (cells + mc) (slots + ms) Q { g with pc := g.pc + 3, stack := v.toList ++ rest }) : W p l e R s m args below meth c H locs cells slots Q g := by
  intro T hT X
  obtain ⟨v, st₀, t, T', L, h0, X', hL, e1, e2, hq, st⟩ := hr T hT X
  obtain ⟨t2, a1, b1⟩ := kk v st₀ t L h0 (by rw [← e2]; exact X'.warmed) hq hL T' e1 X'
  exact ⟨t2, st t2 a1, b1⟩
variable {cc : ByteArray} {pc : Nat} {ls : Array Slot} {rest : List Value} {D : va_G} {cl : List vw_C} {a : Nat} {tys : List (ClassId × FieldType)}
/-- putfield, with the whole heap behind it -/
theorem lp_put (hexec : p.tables.exec = Jvm.exec) (hb : c.code = cc) {own ref C : String} {T : u_T} {N ci index : Nat} {Ts : List Cond} (hts : ∀ w ∈ Ts, w.before args s = true) (hin : ∀ w ∈ u_ws C T N, w ∈ Ts) (ty0 : Nat → FieldType) (hty : ∀ k, k < N → parseFieldDescriptor (T k).2.2.1 = some (ty0 k)) (hnm : ∀ a, a < N → ∀ b, b < N → a ≠ b → (T a).2.1 ≠ (T b).2.1) (hown : s.vm.findClass own = some m.cls) (hK : va_K D cl tys s) {fs : List Value} (hP : va_at D cl (a, .inr (ci, fs)) H) (hc : cl[ci]? = some (C, T, N)) (k : Nat) (hk : k < N) (hlink : (Cond.fieldLink own index ref (T k).2.1 (T k).2.2.1).before args s = true) (hsame : ∀ x, s.fieldFound? (T k).1 (T k).2.1 (T k).2.2.1 = some x → s.fieldFound? ref (T k).2.1 (T k).2.2.1 = some x) (hfin : (T k).2.2.2 = false) {ty : FieldType} {v : Value} (hd : parseFieldDescriptor (T k).2.2.1 = some ty) (hn : narrow ty v = v) (hfit : fits ty v = true) (hl : k < fs.length)
    (hdg : decode cc pc = .ok (.putfield index, 3)) (kk : ∀ (H1 : Heap) (j : Nat), va_at D cl (a, .inr (ci, fs.set k v)) H1 → H1.size = H.size → (∀ q : Nat, q ≠ a → H1[q]? = H[q]?) → (∀ q : Nat, (H1[q]?).map (fun c => c.slots.size) = (H[q]?).map (fun c => c.slots.size)) → W p l e R s m args below meth c H1 (locs ++ [⟨a, j⟩]) cells slots Q (F0 m (pc + 3) ls rest)) : W p l e R s m args below meth c H locs cells slots Q (F0 m pc ls (v :: .ref a :: rest)) := by
  have hap := va_apart (own := own) hts hin ty0 hty hnm hK hc
  obtain ⟨r, h1, cell, q1, q2, q3, q4⟩ := hP
  have hr : r = (C, T, N) := Option.some.inj (h1.symm.trans hc)
  subst hr
  obtain ⟨hS, hfc, kC, hkC, hkind⟩ := hK.1 ci _ hc
  obtain ⟨cf, kf, fi, f, hi, hsl⟩ := hS k hk
  have hlay := hts _ (hin _ (u_in_lay hk))
  unfold u_lay at hlay
  rw [if_neg (by rw [hfin]; decide)] at hlay
  have hst := (u_facts hfc hkC (u_lays hts hin hk) hi).1
  have h6 := u_store hfc hkC hkind hlay hi hd hn hfit
  refine W.putK hexec hb (f := f) ⟨hown, hlink, ⟨_, _, _, hsame _ hi⟩, hst⟩ (by rw [q2]; exact h6) q1 q3 (by rw [hsl]; exact k2_hasslot (q4 k hk)) rfl rfl hdg fun H' e1 e2 e3 => ?_
  rw [hsl] at e1 ⊢
  refine kk H' _ ⟨_, hc, t_OB.to (V := updV (vp_V fs) k v) ⟨_, e1, q2, q3, t_set q4 hap hk v⟩ (fun j _ => vp_updV_set hl v j)⟩ e2 e3 (fun q => ?_)
  by_cases hq : q = a
  · subst hq
    rw [e1, q1]
    simp [Cell.setSlot]
  · rw [e3 q hq]
/-- iastore, with the whole heap behind it -/
theorem lp_iast (hexec : p.tables.exec = Jvm.exec) (hb : c.code = cc) {cA : ClassId} (hK : ∀ (n : Nat) (z : Nat → Value), s.isArrayOf (arrV cA n z) .int) {n : Nat} {f : Nat → Int32} (ha : H[a]? = some (vp_cell cA (n, .inl f))) {i : Int32} {x : Int32} (hin : vp_in i n) (hdg : decode cc pc = .ok (.iastore, 1))
    (kk : ∀ (H1 : Heap) (j : Nat), H1[a]? = some (vp_cell cA (n, .inl (upd f i.toNatClampNeg x))) → H1.size = H.size → (∀ q : Nat, q ≠ a → H1[q]? = H[q]?) → (∀ q : Nat, (H1[q]?).map (fun c => c.slots.size) = (H[q]?).map (fun c => c.slots.size)) → W p l e R s m args below meth c H1 (locs ++ [⟨a, j⟩]) cells slots Q (F0 m (pc + 1) ls rest)) : W p l e R s m args below meth c H locs cells slots Q (F0 m pc ls (.int x :: .int i :: .ref a :: rest)) := by
  refine W.iast hexec hb ha (hK n (fun j => .int (f j))) (fun q => by cases q) (by show ¬ (i < 0 ∨ (arrV _ _ _).slots.size ≤ _); rw [arrV_size]; exact hin) rfl rfl hdg fun H1 e z oq => ?_
  refine kk H1 _ ?_ z oq (fun q => ?_)
  · rw [e]
    rw [vp_cell_i, vp_cell_i, arrV_store]
    congr 2
    funext q
    by_cases hq : q = i.toNatClampNeg
    · subst hq
      simp [updV, upd]
    · simp [updV, upd, hq]
  · by_cases hq : q = a
    · subst hq
      rw [e, ha]
      simp [Cell.setSlot]
    · rw [oq q hq]
end LPW
end
section
/-! ===== one instruction ===== -/
def lp_At (D : va_G) (cI cD : ClassId) (R : Room) (s : State) (ad0 : Nat → Nat → Nat) (σ0 : lpM) (sz nL : Nat) (ad : Nat → Nat → Nat) (σ : lpM) (H : Heap) (locs : List Loc) (cells slots : Nat) (ls : Array Slot) (L : lpL) : Prop :=
  lp_Rep D cI cD ad σ H ∧ (∀ r k, lp_live σ0 r k → lp_live σ r k ∧ ad r k = ad0 r k) ∧ (∀ r k, lp_live σ r k → lp_Dom ad0 σ0 sz (ad r k)) ∧ va_S (lp_Dom ad0 σ0 sz) s.heap H locs ∧ (lp_loc ad ls L ∧ (∀ v, some v ∈ L → lp_ok σ v) ∧ L.length = nL) ∧
  (cells + 3 * lp_dead σ ≤ R.cells ∧ slots + 124 * lp_dead σ ≤ R.slots) ∧ (H.size + 3 * lp_dead σ ≤ s.heap.size + R.cells ∧ lp_TS H + 124 * lp_dead σ ≤ lp_TS s.heap + R.slots)
def lp_ret (ro : Option Int32) (st : List lpV) : List lpV := match ro with
  | some x => .inl x :: st
  | none => st
theorem lp_ok_set {σ : lpM} : ∀ {L : lpL} {i : Nat} {v : lpV}, (∀ v, some v ∈ L → lp_ok σ v) → lp_ok σ v → ∀ w, some w ∈ lp_set L i (some v) → lp_ok σ w := by
  intro L i v h hv w hw
  rw [lp_set_eq] at hw
  rcases List.mem_or_eq_of_mem_set hw with h1 | h1
  · exact h w h1
  · cases h1
    exact hv
theorem lp_dead_mono {σ σ' : lpM} (h : ∀ r k, lp_live σ r k → lp_live σ' r k) : lp_dead σ' ≤ lp_dead σ := by
  unfold lp_dead
  refine List.countP_mono_left (fun k hk hz => ?_)
  have hk := List.mem_range.mp hk
  have hz : σ' 9 0 k = 0 := of_decide_eq_true hz
  refine decide_eq_true ?_
  rcases Classical.em (σ 9 0 k = 0) with q | q
  · exact q
  · have hc : lp_cnt 26 = 132 := rfl
    exact absurd hz ((h 26 k ⟨by omega, fun _ _ => q⟩).2 rfl hk)
theorem lp_narrow_b {x : Int32} (h : x = 0 ∨ x = 1) : narrow .boolean (.int x) = .int x := by
  rcases h with rfl | rfl <;> decide
theorem lp_At_put {D : va_G} {cI cD : ClassId} {R : Room} {s : State} {ad0 : Nat → Nat → Nat} {σ0 : lpM} {sz nL : Nat} {ad : Nat → Nat → Nat} {σ : lpM} {H H1 : Heap} {locs : List Loc} {cells slots : Nat} {ls : Array Slot} {L : lpL} {r k j j' : Nat} {x : Int32}
    (A : lp_At D cI cD R s ad0 σ0 sz nL ad σ H locs cells slots ls L) (h9 : r ≠ 9) (hl : lp_live σ r k) (ha : va_at D vwCl (ad r k, lp_cell cI cD ad (lp_w3 σ r k j x) r k) H1) (z : H1.size = H.size) (ho : ∀ q : Nat, q ≠ ad r k → H1[q]? = H[q]?) (ht : ∀ q : Nat, (H1[q]?).map (fun c => c.slots.size) = (H[q]?).map (fun c => c.slots.size)) : lp_At D cI cD R s ad0 σ0 sz nL ad (lp_w3 σ r k j x) H1 (locs ++ [⟨ad r k, j'⟩]) cells slots ls L := by
  obtain ⟨a1, a2, a3, a4, ⟨b1, b2, b3⟩, c1, c2⟩ := A
  refine ⟨lp_Rep_w3 a1 h9 hl ha ho, fun r k h => ?_, fun r k h => ?_, a4.put z ho (a3 r k hl), ⟨b1, fun v hv => (lp_ok_w3 h9 v).mpr (b2 v hv), b3⟩, ?_, ?_⟩
  · exact ⟨(lp_live_w3 h9 _ _).mpr (a2 r k h).1, (a2 r k h).2⟩
  · exact a3 r k ((lp_live_w3 h9 _ _).mp h)
  · rw [lp_dead_w3 h9]; exact c1
  · rw [lp_dead_w3 h9, z, lp_TS_set z ht]; exact c2
theorem lp_lay9 {r : Nat} {len : Nat → Nat} (h : lp_lay r = some (.inr (.inl len))) : r ≠ 9 := by
  rintro rfl
  cases h
theorem lp_lay9o {r : Nat} {q : Nat × List (Option (Nat × (Nat → Nat)))} (h : lp_lay r = some (.inl q)) : r ≠ 9 := by
  rintro rfl
  cases h
section LPI
variable {p : Program} {l : Launch} {e : Env} {R : Room} {s : State} {m : MethodId} {args : Array Value} {below : List Frame} {meth : Method} {c : Code}
variable {D : va_G} {cI cD : ClassId} {cc : ByteArray} {nL h : Nat} {own : String} {y0 : MethodName} {ret0 : Option FieldType} {ad0 : Nat → Nat → Nat} {σ0 : lpM} {sz : Nat} {Q0 : Option Int32 → lpM → Prop}
variable {fl pf : List (Nat × Nat × Nat)} {kc : List (Nat × Int32)} {cs : List (Nat × Option Nat × Nat × lpS)} {bl : Bool}
set_option maxHeartbeats 4000000 in
/-- a call out of a method -/
theorem lp_callS (hx : p.tables.exec = Jvm.exec) (hb : c.code = cc) (hml : c.maxLocals = nL) (hown : s.vm.findClass own = some m.cls) (hts : ∀ w ∈ (Cond.code y0 cc nL ret0 :: lp_tbl), w.before args s = true) (hWd : lp_Wd D cI cD s)
    (hR : R.frames = h ∧ R.locals = 36 * h) (hsz0 : s.heap.size = sz)
    {Q : State → Prop} {x : Nat × Option Nat × Nat × lpS} (hC : lp_CallOK l D cI cD own h x) {ad : Nat → Nat → Nat} {σ : lpM} {H : Heap} {locs : List Loc} {cells slots : Nat} {ls : Array Slot} {L : lpL} {pc : Nat}
    (A : lp_At D cI cD R s ad0 σ0 sz nL ad σ H locs cells slots ls L) {as : List lpV} {st : List lpV} {I : Instr} (hn : as.length = (match x.2.1 with | some _ => x.2.2.1 + 1 | none => x.2.2.1)) (hoka : ∀ v ∈ as, lp_ok σ v) (hok : ∀ v ∈ st, lp_ok σ v) (hlen : st.length ≤ 8)
    (hI : I = (match x.2.1 with | some _ => .invokevirtual x.1 | none => .invokestatic x.1)) (hd : decode cc pc = .ok (I, 3))
    (hrecv : ∀ ci, x.2.1 = some ci → ∃ r k fs, as.head? = some (.inr (some (r, k))) ∧ lp_lay r = some (.inl (ci, fs)))
    {Qk : Option Int32 → lpM → Prop} (hspec : x.2.2.2 as σ Qk)
    (kk : ∀ (ro : Option Int32) (σ' : lpM) (ad' : Nat → Nat → Nat) (H' : Heap) (locs' : List Loc) (cells' slots' : Nat), Qk ro σ' → lp_At D cI cD R s ad0 σ0 sz nL ad' σ' H' locs' cells' slots' ls L → (∀ v ∈ st, lp_ok σ' v) →
      W p l e R s m args below meth c H' locs' cells' slots' Q (F0 m (pc + 3) ls ((lp_ret ro st).map (lp_cv ad')))) :
    W p l e R s m args below meth c H locs cells slots Q (F0 m pc ls ((as.reverse ++ st).map (lp_cv ad))) := by
  obtain ⟨y, bytes, nL', ret, h', hCt, hh, hnL, hcode, hini, ⟨hd1, hd2, hd3⟩, hlnk, hk⟩ := hC
  obtain ⟨a1, a2, a3, a4, ⟨b1, b2, b3⟩, ⟨c1, c2⟩, c3, c4⟩ := id A
  have hM := hCt ad σ as Qk H.size hoka hspec
  have hG := lp_good (w0 := Cond.code y0 cc nL ret0) hcode
  have T : ∀ w ∈ lp_tbl, w.before args s = true := fun w hw => hts w (List.mem_cons_of_mem _ hw)
  have hpre : ∀ U : State, U.heap = H → s.WarmedH U.vm → lp_Pc D cI cD ad σ as H.size (as.map (lp_cv ad)).toArray U := fun U hU hW => ⟨rfl, by rw [hU], by rw [hU]; exact a1, lp_Wd_move hW hWd⟩
  have hRm : ({ frames := h', cells := 3 * lp_dead σ, slots := 124 * lp_dead σ, locals := 36 * h' } : Room).frames + 1 ≤ R.frames ∧ 8 + (nL' + 11) + ({ frames := h', cells := 3 * lp_dead σ, slots := 124 * lp_dead σ, locals := 36 * h' } : Room).locals ≤ R.locals := by
    rw [hR.1, hR.2]
    exact ⟨hh, by show 8 + (nL' + 11) + 36 * h' ≤ 36 * h; omega⟩
  have hf : cells + 3 * lp_dead σ ≤ R.cells ∧ slots + 124 * lp_dead σ ≤ R.slots := ⟨c1, c2⟩
  have hroom : 2 * (F0 m pc ls ((as.reverse ++ st).map (lp_cv ad))).monitorRoom + ((st.map (lp_cv ad)).map fun v => v.category).sum ≤ 8 := by
    refine lv_room ?_
    have e : ((st.map (lp_cv ad)).map fun v => v.category) = List.replicate st.length 1 := by
      apply List.ext_getElem?
      intro i
      simp only [List.getElem?_map, List.getElem?_replicate]
      by_cases hi : i < st.length
      · rw [List.getElem?_eq_getElem hi]
        simp [hi, lp_cat]
      · rw [List.getElem?_eq_none (by omega)]
        simp [hi]
    rw [e]
    simp
    omega
  have hsz : ls.size = nL := b1.1.trans b3
  -- the run
  have hrun : va_Run p l e R s m args below meth c H locs cells slots (3 * lp_dead σ) (124 * lp_dead σ) (F0 m pc ls ((as.reverse ++ st).map (lp_cv ad))) (st.map (lp_cv ad)) (lp_Qc D cI cD ad σ H.size Qk (as.map (lp_cv ad)).toArray) (lp_Dom ad σ H.size) := by
    cases hx1 : x.2.1 with
    | none =>
      rw [hx1] at hn hI hk
      subst hI
      have hsta := T _ hk
      have hn' : (as.map (lp_cv ad)).length = x.2.2.1 := by simpa using hn
      have hst : (F0 m pc ls ((as.reverse ++ st).map (lp_cv ad))).stack = (as.map (lp_cv ad)).reverse ++ st.map (lp_cv ad) := by simp
      rcases hlnk with hl | ⟨host, hl⟩
      · exact va_runS (As := as.map (lp_cv ad)) ⟨hx, hb, hml, hown, hts⟩ hM ⟨callB_of x.2.2.1 hts hG rfl rfl rfl (T _ hini) (T _ hl) ⟨hd1, hd2, hd3⟩ hRm, hsta⟩ ⟨lp_blind, hpre⟩ rfl hn' hsz hst hroom hd hf
      · exact va_runSN (As := as.map (lp_cv ad)) ⟨hx, hb, hml, hown, hts⟩ hM ⟨va_cnB x.2.2.1 hts hG rfl rfl rfl (hWd.2 _ hl) (T _ hini) ⟨hd1, hd2, hd3⟩ hRm, hsta, trivial⟩ ⟨lp_blind, hpre⟩ rfl hn' hsz hst hroom hd hf
    | some ci =>
      rw [hx1] at hn hI hk
      subst hI
      obtain ⟨r, k, fs, hhd, hlay⟩ := hrecv ci hx1
      obtain ⟨hin, hsel, q, hq, hqy⟩ := hk
      rcases as with _ | ⟨v0, as⟩
      · cases hhd
      obtain rfl : v0 = .inr (some (r, k)) := by simpa using hhd
      have hlive : lp_live σ r k := hoka _ List.mem_cons_self
      have hn' : (as.map (lp_cv ad)).length = x.2.2.1 := by simpa using hn
      have hst : (F0 m pc ls (((.inr (some (r, k)) :: as).reverse ++ st).map (lp_cv ad))).stack = (as.map (lp_cv ad)).reverse ++ .ref (ad r k) :: st.map (lp_cv ad) := by simp [lp_cv]
      have hat := a1.1 r k hlive
      have hcell : lp_cell cI cD ad σ r k = .inr (ci, lp_fv ad σ r k 0 fs) := by simp [lp_cell, hlay]
      rw [hcell] at hat
      have hrc : ∃ cellB : Cell, H[ad r k]? = some cellB ∧ cellB.vm.isStatics = false ∧ s.vm.findClass y.cls = some cellB.cls := by
        have := va_recv (ws := [(ad r k, .inr (ci, lp_fv ad σ r k 0 fs))]) (q0 := 0) (a := ad r k) hWd.1 (fun k' q' hk' => by
          rcases k' with _ | k'
          · cases hk'; exact hat
          · simp at hk') hq rfl
        rw [hqy] at this
        exact this
      rcases hlnk with hl | ⟨host, hl⟩
      · exact va_runV (As := as.map (lp_cv ad)) (b := ad r k) (C := y.cls) ⟨hx, hb, hml, hown, hts⟩ hM ⟨callB_of x.2.2.1 hts hG rfl rfl rfl (T _ hini) (T _ hl) ⟨hd1, hd2, hd3⟩ hRm, T _ hin, T _ hsel⟩ ⟨lp_blind, hrc, hpre⟩ rfl hn' hsz hst hroom hd hf
      · exact va_runVN (As := as.map (lp_cv ad)) (b := ad r k) (C := y.cls) ⟨hx, hb, hml, hown, hts⟩ hM ⟨va_cnB x.2.2.1 hts hG rfl rfl rfl (hWd.2 _ hl) (T _ hini) ⟨hd1, hd2, hd3⟩ hRm, T _ hin, T _ hsel⟩ ⟨lp_blind, hrc, hpre⟩ rfl hn' hsz hst hroom hd hf
  refine lp_call hrun (fun v st₀ t LL h0 hW hq hL => ?_)
  obtain ⟨ro, σ', ad', e1, hQ, hRep, -, hlv, hdm, ⟨t1, t2⟩, hF⟩ := hq
  cases e1
  rw [h0] at t1 t2
  have hdom : ∀ q, lp_Dom ad σ H.size q → lp_Dom ad0 σ0 sz q := by
    rintro q (⟨r, k, hl, rfl⟩ | hq)
    · exact a3 r k hl
    · exact Or.inr (by rw [← hsz0]; exact Nat.le_trans a4.1 hq)
  have cvs : ∀ v, lp_ok σ v → lp_cv ad' v = lp_cv ad v ∧ lp_ok σ' v := by
    intro v hv
    rcases v with y | _ | q
    · exact ⟨rfl, trivial⟩
    · exact ⟨rfl, trivial⟩
    · have := hlv q.1 q.2 hv
      exact ⟨by simp [lp_cv, this.2], this.1⟩
  have est : st.map (lp_cv ad) = st.map (lp_cv ad') := List.map_congr_left (fun v hv => (cvs v (hok v hv)).1.symm)
  have eret : (Option.map Value.int ro).toList ++ st.map (lp_cv ad) = (lp_ret ro st).map (lp_cv ad') := by
    rw [est]
    cases ro <;> simp [lp_cv, lp_ret]
  have hdd := lp_dead_mono (fun r k h => (hlv r k h).1)
  refine lp_tight (k := R.cells - 3 * lp_dead σ') (n := R.slots - 124 * lp_dead σ') (by omega) (by omega) ?_
  refine W.eq (g2 := F0 m (pc + 3) ls ((lp_ret ro st).map (lp_cv ad'))) (by rw [← eret]) ?_
  refine kk ro σ' ad' t.heap (locs ++ LL) _ _ hQ ⟨hRep, fun r k h => ?_, fun r k h => hdom _ (hdm r k h), ⟨?_, fun q h1 h2 => ?_, fun q hq => ?_⟩, ⟨?_, fun v hv => (cvs v (b2 v hv)).2, b3⟩, ?_, ?_⟩ (fun v hv => (cvs v (hok v hv)).2)
  · have := a2 r k h
    have h2 := hlv r k this.1
    exact ⟨h2.1, h2.2.trans this.2⟩
  · exact Nat.le_trans a4.1 (by rw [← h0]; exact hF.1)
  · rw [hF.2 q (by rw [h0]; exact Nat.lt_of_lt_of_le h1 a4.1) (fun z => h2 (hdom q z)), h0]
    exact a4.2.1 q h1 h2
  · rcases List.mem_append.mp hq with h | h
    · exact a4.2.2 q h
    · exact hdom _ (hL q h)
  · show lv_has ls L.length (lp_kl ad' 0 L)
    rw [lp_kl_congr (ad := ad) (fun v hv => (cvs v (b2 v hv)).1)]
    exact b1
  · constructor <;> omega
  · constructor <;> omega
end LPI
end
section
/-! ===== every instruction ===== -/
section LPI2
variable {p : Program} {l : Launch} {e : Env} {R : Room} {s : State} {m : MethodId} {args : Array Value} {below : List Frame} {meth : Method} {c : Code}
variable {D : va_G} {cI cD : ClassId} {cc : ByteArray} {nL h : Nat} {own : String} {y0 : MethodName} {ret0 : Option FieldType} {ad0 : Nat → Nat → Nat} {σ0 : lpM} {sz : Nat} {Q0 : Option Int32 → lpM → Prop}
variable {fl pf : List (Nat × Nat × Nat)} {kc : List (Nat × Int32)} {cs : List (Nat × Option Nat × Nat × lpS)} {bl : Bool}
theorem lp_one {D : va_G} {cl : List vw_C} {q : Nat × va_E} {H : Heap} (h : va_at D cl q H) : va_P D cl [q] H := fun k q' hk => by
  rcases k with _ | k
  · cases hk; exact h
  · simp at hk
theorem lp_At_set {R : Room} {s : State} {nL : Nat} {ad : Nat → Nat → Nat} {σ : lpM} {H : Heap} {locs : List Loc} {cells slots : Nat} {ls ls' : Array Slot} {L : lpL} {i : Nat} {v : lpV} (A : lp_At D cI cD R s ad0 σ0 sz nL ad σ H locs cells slots ls L) (hv : lp_ok σ v)
    (hl : lv_has ls' L.length ((i, lp_cv ad v) :: (lp_kl ad 0 L).filter (fun q => !(q.1 == i) && !(q.1 + 1 == i && q.2.category == 2)))) : lp_At D cI cD R s ad0 σ0 sz nL ad σ H locs cells slots ls' (lp_set L i (some v)) := by
  obtain ⟨a1, a2, a3, a4, ⟨b1, b2, b3⟩, c1, c2⟩ := A
  exact ⟨a1, a2, a3, a4, ⟨lp_loc_put hl, lp_ok_set b2 hv, by rw [lp_set_len]; exact b3⟩, c1, c2⟩
set_option maxHeartbeats 8000000 in
set_option maxRecDepth 10000 in
theorem lp_instr (hx : p.tables.exec = Jvm.exec) (hb : c.code = cc) (hml : c.maxLocals = nL) (hown : s.vm.findClass own = some m.cls) (hts : ∀ w ∈ (Cond.code y0 cc nL ret0 :: lp_tbl), w.before args s = true) (hWd : lp_Wd D cI cD s)
    (hR : R.frames = h ∧ R.locals = 36 * h) (hRc : R.cells = 3 * lp_dead σ0 ∧ R.slots = 124 * lp_dead σ0) (hsz0 : s.heap.size = sz) (hr : meth.sig.returnType = ret0) (hlocks : meth.locks = false) (hret : ret0 = none ∨ ret0 = some .int ∨ (ret0 = some .boolean ∧ bl = true))
    (hfl : fl.all (lp_flb own) = true) (hpf : pf.all (lp_pfb own) = true) (hkc : kc.all (lp_kcb own) = true) (hcs : ∀ x ∈ cs, lp_CallOK l D cI cD own h x)
    {ad : Nat → Nat → Nat} {σ : lpM} {H : Heap} {locs : List Loc} {cells slots : Nat} {ls : Array Slot} {L : lpL} {st : List lpV} {pc len : Nat} {I : Instr}
    (A : lp_At D cI cD R s ad0 σ0 sz nL ad σ H locs cells slots ls L) (hok : ∀ v ∈ st, lp_ok σ v) (hd : decode cc pc = .ok (I, len)) (hlen : lp_lenb I len = true) (hnn : lp_nnb pc I = true) (hrt : lp_rtb ret0 I = true)
    {nx : lpL → List lpV → lpM → Prop} {jp : Int → lpL → List lpV → lpM → Prop} (hI : lp_I fl pf kc cs bl I L st σ nx jp Q0)
    (hnx : ∀ (L' : lpL) (st' : List lpV) (σ' : lpM) (ad' : Nat → Nat → Nat) (H' : Heap) (locs' : List Loc) (cells' slots' : Nat) (ls' : Array Slot), nx L' st' σ' → lp_At D cI cD R s ad0 σ0 sz nL ad' σ' H' locs' cells' slots' ls' L' → (∀ v ∈ st', lp_ok σ' v) → W p l e R s m args below meth c H' locs' cells' slots' (MQ below (lp_Qc D cI cD ad0 σ0 sz Q0) args s R.cells R.slots (lp_Dom ad0 σ0 sz)) (F0 m (pc + len) ls' (st'.map (lp_cv ad'))))
    (hjp : ∀ (o : Int) (L' : lpL) (st' : List lpV) (σ' : lpM) (ad' : Nat → Nat → Nat) (H' : Heap) (locs' : List Loc) (cells' slots' : Nat) (ls' : Array Slot), jp o L' st' σ' → lp_At D cI cD R s ad0 σ0 sz nL ad' σ' H' locs' cells' slots' ls' L' → (∀ v ∈ st', lp_ok σ' v) → ∃ tgt : Nat, (pc : Int) + o = (tgt : Int) ∧ W p l e R s m args below meth c H' locs' cells' slots' (MQ below (lp_Qc D cI cD ad0 σ0 sz Q0) args s R.cells R.slots (lp_Dom ad0 σ0 sz)) (F0 m tgt ls' (st'.map (lp_cv ad')))) :
    W p l e R s m args below meth c H locs cells slots (MQ below (lp_Qc D cI cD ad0 σ0 sz Q0) args s R.cells R.slots (lp_Dom ad0 σ0 sz)) (F0 m pc ls (st.map (lp_cv ad))) := by
  have T : ∀ w ∈ lp_tbl, w.before args s = true := fun w hw => hts w (List.mem_cons_of_mem _ hw)
  obtain ⟨a1, a2, a3, a4, ⟨b1, b2, b3⟩, ⟨c1, c2⟩, c3, c4⟩ := id A
  have okc : ∀ {v : lpV} {st : List lpV}, lp_ok σ v → (∀ w ∈ st, lp_ok σ w) → ∀ w ∈ v :: st, lp_ok σ w := fun h1 h2 w hw => by
    rcases List.mem_cons.mp hw with rfl | h
    · exact h1
    · exact h2 w h
  cases I
  case iconst n =>
    obtain rfl := Nat.eq_of_beq_eq_true hlen
    exact lv_iconst hx hb hd rfl (hnx _ _ _ _ _ _ _ _ _ hI A (okc trivial hok))
  case bipush n =>
    obtain rfl := Nat.eq_of_beq_eq_true hlen
    exact lv_bipush hx hb hd rfl (hnx _ _ _ _ _ _ _ _ _ hI A (okc trivial hok))
  case sipush n =>
    obtain rfl := Nat.eq_of_beq_eq_true hlen
    exact lv_sipush hx hb hd rfl (hnx _ _ _ _ _ _ _ _ _ hI A (okc trivial hok))
  case ldc i =>
    obtain rfl := Nat.eq_of_beq_eq_true hlen
    simp only [lp_I] at hI
    cases hk : lp_kc kc i with
    | none => rw [hk] at hI; exact hI.elim
    | some v =>
      rw [hk] at hI
      have := List.all_eq_true.mp hkc _ (lp_kc_mem hk)
      exact lv_ldc hx hb hown (T _ (of_decide_eq_true this)) hd (hnx _ _ _ _ _ _ _ _ _ hI A (okc trivial hok))
  case iload_n i =>
    obtain rfl := Nat.eq_of_beq_eq_true hlen
    simp only [lp_I] at hI
    rcases hk : lp_nth L i.val with _ | _ | x | x <;> rw [hk] at hI <;> try exact hI.elim
    exact lv_iload_n hx hb hd rfl (lp_loc_at b1 hk) (hnx _ _ _ _ _ _ _ _ _ hI A (okc trivial hok))
  case iload i =>
    obtain rfl := Nat.eq_of_beq_eq_true hlen
    simp only [lp_I] at hI
    rcases hk : lp_nth L i with _ | _ | x | x <;> rw [hk] at hI <;> try exact hI.elim
    exact lv_iload hx hb hd (lp_loc_at b1 hk) (hnx _ _ _ _ _ _ _ _ _ hI A (okc trivial hok))
  case aload_n i =>
    obtain rfl := Nat.eq_of_beq_eq_true hlen
    simp only [lp_I] at hI
    rcases hk : lp_nth L i.val with _ | _ | x | _ | x <;> rw [hk] at hI <;> try exact hI.elim
    · exact lv_aload_nN hx hb hd rfl (lp_loc_at b1 hk) (hnx _ _ _ _ _ _ _ _ _ hI A (okc trivial hok))
    · exact lv_aload_n hx hb hd rfl (lp_loc_at b1 hk) (hnx _ _ _ _ _ _ _ _ _ hI A (okc (b2 _ (by rw [lp_nth_eq] at hk; exact List.mem_of_getElem? hk)) hok))
  case aload i =>
    obtain rfl := Nat.eq_of_beq_eq_true hlen
    simp only [lp_I] at hI
    rcases hk : lp_nth L i with _ | _ | x | _ | x <;> rw [hk] at hI <;> try exact hI.elim
    · exact lv_aloadN hx hb hd (lp_loc_at b1 hk) (hnx _ _ _ _ _ _ _ _ _ hI A (okc trivial hok))
    · exact lv_aload hx hb hd (lp_loc_at b1 hk) (hnx _ _ _ _ _ _ _ _ _ hI A (okc (b2 _ (by rw [lp_nth_eq] at hk; exact List.mem_of_getElem? hk)) hok))
  case istore_n i =>
    obtain rfl := Nat.eq_of_beq_eq_true hlen
    rcases st with _ | ⟨x | x, st⟩ <;> try exact (hI : False).elim
    simp only [lp_I] at hI
    cases hlt : Nat.blt i.val (lp_len L) with
    | false => rw [hlt] at hI; exact hI.elim
    | true =>
      rw [hlt] at hI
      rw [Nat.blt_eq, lp_len_eq] at hlt
      exact lv_istore_n hx hb hd rfl b1 hlt rfl (fun ls' hl => hnx _ _ _ _ _ _ _ _ _ hI (lp_At_set A trivial hl) (fun v hv => hok v (List.mem_cons_of_mem _ hv)))
  case istore i =>
    obtain rfl := Nat.eq_of_beq_eq_true hlen
    rcases st with _ | ⟨x | x, st⟩ <;> try exact (hI : False).elim
    simp only [lp_I] at hI
    cases hlt : Nat.blt i (lp_len L) with
    | false => rw [hlt] at hI; exact hI.elim
    | true =>
      rw [hlt] at hI
      rw [Nat.blt_eq, lp_len_eq] at hlt
      exact lv_istore hx hb hd b1 hlt rfl (fun ls' hl => hnx _ _ _ _ _ _ _ _ _ hI (lp_At_set A trivial hl) (fun v hv => hok v (List.mem_cons_of_mem _ hv)))
  case astore_n i =>
    obtain rfl := Nat.eq_of_beq_eq_true hlen
    rcases st with _ | ⟨x | x, st⟩ <;> try exact (hI : False).elim
    simp only [lp_I] at hI
    cases hlt : Nat.blt i.val (lp_len L) with
    | false => rw [hlt] at hI; exact hI.elim
    | true =>
      rw [hlt] at hI
      rw [Nat.blt_eq, lp_len_eq] at hlt
      rcases x with _ | x
      · exact lv_astore_nN hx hb hd rfl b1 hlt rfl (fun ls' hl => hnx _ _ _ _ _ _ _ _ _ hI (lp_At_set A trivial hl) (fun v hv => hok v (List.mem_cons_of_mem _ hv)))
      · exact lv_astore_n hx hb hd rfl b1 hlt rfl (fun ls' hl => hnx _ _ _ _ _ _ _ _ _ hI (lp_At_set A (hok _ List.mem_cons_self) hl) (fun v hv => hok v (List.mem_cons_of_mem _ hv)))
  case astore i =>
    obtain rfl := Nat.eq_of_beq_eq_true hlen
    rcases st with _ | ⟨x | x, st⟩ <;> try exact (hI : False).elim
    simp only [lp_I] at hI
    cases hlt : Nat.blt i (lp_len L) with
    | false => rw [hlt] at hI; exact hI.elim
    | true =>
      rw [hlt] at hI
      rw [Nat.blt_eq, lp_len_eq] at hlt
      rcases x with _ | x
      · exact lv_astoreN hx hb hd b1 hlt rfl (fun ls' hl => hnx _ _ _ _ _ _ _ _ _ hI (lp_At_set A trivial hl) (fun v hv => hok v (List.mem_cons_of_mem _ hv)))
      · exact lv_astore hx hb hd b1 hlt rfl (fun ls' hl => hnx _ _ _ _ _ _ _ _ _ hI (lp_At_set A (hok _ List.mem_cons_self) hl) (fun v hv => hok v (List.mem_cons_of_mem _ hv)))
  case iinc i n =>
    obtain rfl := Nat.eq_of_beq_eq_true hlen
    simp only [lp_I] at hI
    rcases hk : lp_nth L i with _ | _ | x | x <;> rw [hk] at hI <;> try exact hI.elim
    have hm := lp_kl_mem (ad := ad) (j := 0) hk
    rw [Nat.zero_add] at hm
    obtain ⟨k, hk2⟩ := List.getElem?_of_mem hm
    have hlt : i < L.length := by rw [lp_nth_eq] at hk; exact (List.getElem?_eq_some_iff.mp hk).1
    exact lv_iinc hx hb hd b1 hk2 rfl hlt rfl (fun ls' hl => hnx _ _ _ _ _ _ _ _ _ hI (lp_At_set A trivial hl) hok)
  case iadd =>
    obtain rfl := Nat.eq_of_beq_eq_true hlen
    rcases st with _ | ⟨y | y, _ | ⟨x | x, st⟩⟩ <;> try exact (hI : False).elim
    exact lv_iadd hx hb hd (hnx _ _ _ _ _ _ _ _ _ hI A (okc trivial (fun v hv => hok v (List.mem_cons_of_mem _ (List.mem_cons_of_mem _ hv)))))
  case isub =>
    obtain rfl := Nat.eq_of_beq_eq_true hlen
    rcases st with _ | ⟨y | y, _ | ⟨x | x, st⟩⟩ <;> try exact (hI : False).elim
    exact lv_isub hx hb hd (hnx _ _ _ _ _ _ _ _ _ hI A (okc trivial (fun v hv => hok v (List.mem_cons_of_mem _ (List.mem_cons_of_mem _ hv)))))
  case imul =>
    obtain rfl := Nat.eq_of_beq_eq_true hlen
    rcases st with _ | ⟨y | y, _ | ⟨x | x, st⟩⟩ <;> try exact (hI : False).elim
    exact lv_imul hx hb hd (hnx _ _ _ _ _ _ _ _ _ hI A (okc trivial (fun v hv => hok v (List.mem_cons_of_mem _ (List.mem_cons_of_mem _ hv)))))
  case idiv =>
    obtain rfl := Nat.eq_of_beq_eq_true hlen
    rcases st with _ | ⟨y | y, _ | ⟨x | x, st⟩⟩ <;> try exact (hI : False).elim
    obtain ⟨hz, hI⟩ := hI
    exact lv_idiv hx hb hd hz (hnx _ _ _ _ _ _ _ _ _ hI A (okc trivial (fun v hv => hok v (List.mem_cons_of_mem _ (List.mem_cons_of_mem _ hv)))))
  case irem =>
    obtain rfl := Nat.eq_of_beq_eq_true hlen
    rcases st with _ | ⟨y | y, _ | ⟨x | x, st⟩⟩ <;> try exact (hI : False).elim
    obtain ⟨hz, hI⟩ := hI
    exact lv_irem hx hb hd hz (hnx _ _ _ _ _ _ _ _ _ hI A (okc trivial (fun v hv => hok v (List.mem_cons_of_mem _ (List.mem_cons_of_mem _ hv)))))
  case dup =>
    obtain rfl := Nat.eq_of_beq_eq_true hlen
    rcases st with _ | ⟨v, st⟩ <;> try exact (hI : False).elim
    exact lv_dup hx hb hd (lp_cat ad v) (hnx _ _ _ _ _ _ _ _ _ hI A (okc (hok _ List.mem_cons_self) hok))
  case dup2 =>
    obtain rfl := Nat.eq_of_beq_eq_true hlen
    rcases st with _ | ⟨v, _ | ⟨w, st⟩⟩ <;> try exact (hI : False).elim
    exact lv_dup2_11 hx hb hd (lp_cat ad v) (lp_cat ad w) (hnx _ _ _ _ _ _ _ _ _ hI A (okc (hok _ List.mem_cons_self) (okc (hok _ (List.mem_cons_of_mem _ List.mem_cons_self)) hok)))
  case pop =>
    obtain rfl := Nat.eq_of_beq_eq_true hlen
    rcases st with _ | ⟨v, st⟩ <;> try exact (hI : False).elim
    exact lv_pop hx hb hd (lp_cat ad v) (hnx _ _ _ _ _ _ _ _ _ hI A (fun v hv => hok v (List.mem_cons_of_mem _ hv)))
  case goto o =>
    obtain rfl := Nat.eq_of_beq_eq_true hlen
    obtain ⟨t, ht, w⟩ := hjp _ _ _ _ _ _ _ _ _ _ hI A hok
    exact lv_goto hx hb hd ht w
  case if_icmp cnd o =>
    obtain rfl := Nat.eq_of_beq_eq_true hlen
    rcases st with _ | ⟨y | y, _ | ⟨x | x, st⟩⟩ <;> try exact (hI : False).elim
    have hok2 : ∀ v ∈ st, lp_ok σ v := fun v hv => hok v (List.mem_cons_of_mem _ (List.mem_cons_of_mem _ hv))
    obtain ⟨t0, ht0⟩ : ∃ t : Nat, (pc : Int) + o = (t : Int) := ⟨((pc : Int) + o).toNat, (Int.toNat_of_nonneg (of_decide_eq_true hnn)).symm⟩
    have J : jp o L st σ → W p l e R s m args below meth c H locs cells slots (MQ below (lp_Qc D cI cD ad0 σ0 sz Q0) args s R.cells R.slots (lp_Dom ad0 σ0 sz)) (F0 m t0 ls (st.map (lp_cv ad))) := fun hj => by
      obtain ⟨t, ht, w⟩ := hjp _ _ _ _ _ _ _ _ _ _ hj A hok2
      obtain rfl : t = t0 := by omega
      exact w
    cases cnd
    case eq => exact lv_icmp_eq hx hb hd ht0 (fun q => J (hI.1 q)) (fun q => hnx _ _ _ _ _ _ _ _ _ (hI.2 q) A hok2)
    case ne => exact lv_icmp_ne hx hb hd ht0 (fun q => J (hI.1 q)) (fun q => hnx _ _ _ _ _ _ _ _ _ (hI.2 q) A hok2)
    case lt => exact lv_icmp_lt hx hb hd ht0 (fun q => J (hI.1 q)) (fun q => hnx _ _ _ _ _ _ _ _ _ (hI.2 q) A hok2)
    case ge => exact lv_icmp_ge hx hb hd ht0 (fun q => J (hI.1 q)) (fun q => hnx _ _ _ _ _ _ _ _ _ (hI.2 q) A hok2)
    case gt => exact lv_icmp_gt hx hb hd ht0 (fun q => J (hI.1 q)) (fun q => hnx _ _ _ _ _ _ _ _ _ (hI.2 q) A hok2)
    case le => exact lv_icmp_le hx hb hd ht0 (fun q => J (hI.1 q)) (fun q => hnx _ _ _ _ _ _ _ _ _ (hI.2 q) A hok2)
  case ifCond cnd o =>
    obtain rfl := Nat.eq_of_beq_eq_true hlen
    rcases st with _ | ⟨x | x, st⟩ <;> try exact (hI : False).elim
    have hok2 : ∀ v ∈ st, lp_ok σ v := fun v hv => hok v (List.mem_cons_of_mem _ hv)
    obtain ⟨t0, ht0⟩ : ∃ t : Nat, (pc : Int) + o = (t : Int) := ⟨((pc : Int) + o).toNat, (Int.toNat_of_nonneg (of_decide_eq_true hnn)).symm⟩
    have J : jp o L st σ → W p l e R s m args below meth c H locs cells slots (MQ below (lp_Qc D cI cD ad0 σ0 sz Q0) args s R.cells R.slots (lp_Dom ad0 σ0 sz)) (F0 m t0 ls (st.map (lp_cv ad))) := fun hj => by
      obtain ⟨t, ht, w⟩ := hjp _ _ _ _ _ _ _ _ _ _ hj A hok2
      obtain rfl : t = t0 := by omega
      exact w
    cases cnd
    case eq => exact lv_if_eq hx hb hd ht0 (fun q => J (hI.1 q)) (fun q => hnx _ _ _ _ _ _ _ _ _ (hI.2 q) A hok2)
    case ne => exact lv_if_ne hx hb hd ht0 (fun q => J (hI.1 q)) (fun q => hnx _ _ _ _ _ _ _ _ _ (hI.2 q) A hok2)
    case lt => exact lv_if_lt hx hb hd ht0 (fun q => J (hI.1 q)) (fun q => hnx _ _ _ _ _ _ _ _ _ (hI.2 q) A hok2)
    case ge => exact lv_if_ge hx hb hd ht0 (fun q => J (hI.1 q)) (fun q => hnx _ _ _ _ _ _ _ _ _ (hI.2 q) A hok2)
    case gt => exact lv_if_gt hx hb hd ht0 (fun q => J (hI.1 q)) (fun q => hnx _ _ _ _ _ _ _ _ _ (hI.2 q) A hok2)
    case le => exact lv_if_le hx hb hd ht0 (fun q => J (hI.1 q)) (fun q => hnx _ _ _ _ _ _ _ _ _ (hI.2 q) A hok2)
  case ifnull o =>
    obtain rfl := Nat.eq_of_beq_eq_true hlen
    rcases st with _ | ⟨x | _ | x, st⟩ <;> try exact (hI : False).elim
    all_goals have hok2 : ∀ v ∈ st, lp_ok σ v := fun v hv => hok v (List.mem_cons_of_mem _ hv)
    · obtain ⟨t, ht, w⟩ := hjp _ _ _ _ _ _ _ _ _ _ hI A hok2
      exact lv_ifnullN hx hb hd ht w
    · exact lv_ifnull hx hb hd (hnx _ _ _ _ _ _ _ _ _ hI A hok2)
  case ifnonnull o =>
    obtain rfl := Nat.eq_of_beq_eq_true hlen
    rcases st with _ | ⟨x | _ | x, st⟩ <;> try exact (hI : False).elim
    all_goals have hok2 : ∀ v ∈ st, lp_ok σ v := fun v hv => hok v (List.mem_cons_of_mem _ hv)
    · exact lv_ifnonnullN hx hb hd (hnx _ _ _ _ _ _ _ _ _ hI A hok2)
    · obtain ⟨t, ht, w⟩ := hjp _ _ _ _ _ _ _ _ _ _ hI A hok2
      exact lv_ifnonnull hx hb hd ht w
  case tableswitch dflt lo hi offs =>
    rcases st with _ | ⟨x | x, st⟩ <;> try exact (hI : False).elim
    have hok2 : ∀ v ∈ st, lp_ok σ v := fun v hv => hok v (List.mem_cons_of_mem _ hv)
    obtain ⟨h1, h2⟩ := hI
    by_cases hq : x.toInt < lo ∨ hi < x.toInt
    · obtain ⟨t, ht, w⟩ := hjp _ _ _ _ _ _ _ _ _ _ (h1 hq) A hok2
      exact lv_tableOut hx hb hd hq ht w
    · have key : ∀ (os : List Int) (b : Int), lp_sw x (fun o => jp o L st σ) b os → b ≤ x.toInt → x.toInt < b + os.length → ∃ o, os[(x.toInt - b).toNat]? = some o ∧ jp o L st σ := by
        intro os
        induction os with
        | nil => intro b _ q1 q2; simp at q2; omega
        | cons o os ih =>
          intro b hs q1 q2
          by_cases e : x.toInt = b
          · exact ⟨o, by rw [e]; simp, hs.1 e⟩
          · obtain ⟨o', g1, g2⟩ := ih (b + 1) hs.2 (by omega) (by simp at q2; omega)
            refine ⟨o', ?_, g2⟩
            rw [show (x.toInt - b).toNat = (x.toInt - (b + 1)).toNat + 1 by omega]
            simpa using g1
      obtain ⟨o, g1, g2⟩ := key offs.toList lo h2 (by omega) (by have := of_decide_eq_true hnn; omega)
      obtain ⟨t, ht, w⟩ := hjp _ _ _ _ _ _ _ _ _ _ g2 A hok2
      exact lv_tableIn hx hb hd (by omega) (by omega) (by rw [← Array.getElem?_toList]; exact g1) ht w
  case arraylength =>
    obtain rfl := Nat.eq_of_beq_eq_true hlen
    rcases st with _ | ⟨x | _ | ⟨r, k⟩, st⟩ <;> try exact (hI : False).elim
    have hok2 : ∀ v ∈ st, lp_ok σ v := fun v hv => hok v (List.mem_cons_of_mem _ hv)
    have hlive : lp_live σ r k := hok _ List.mem_cons_self
    have hat := a1.1 r k hlive
    simp only [lp_I] at hI
    rcases hl : lp_lay r with _ | ⟨ci, fs⟩ | len | ⟨len, r', ix⟩ <;> rw [hl] at hI <;> try exact hI.elim
    · have hcell : lp_cell cI cD ad σ r k = .inl (cI, len k, .inl (σ r k)) := by simp [lp_cell, hl]
      rw [hcell] at hat
      exact va_alen hx hb hWd.1 (lp_one hat) 0 0 rfl rfl rfl hd (hnx _ _ _ _ _ _ _ _ _ hI A (okc trivial hok2))
    · have hcell : lp_cell cI cD ad σ r k = .inl (cD, len k, .inr (.inr (.inr (.inr (lp_rf ad σ r k r' ix))))) := by simp [lp_cell, hl]
      rw [hcell] at hat
      exact va_alen hx hb hWd.1 (lp_one hat) 0 1 rfl rfl rfl hd (hnx _ _ _ _ _ _ _ _ _ hI A (okc trivial hok2))
  case iaload =>
    obtain rfl := Nat.eq_of_beq_eq_true hlen
    rcases st with _ | ⟨i | i, _ | ⟨x | _ | ⟨r, k⟩, st⟩⟩ <;> try exact (hI : False).elim
    have hok2 : ∀ v ∈ st, lp_ok σ v := fun v hv => hok v (List.mem_cons_of_mem _ (List.mem_cons_of_mem _ hv))
    have hlive : lp_live σ r k := hok _ (List.mem_cons_of_mem _ List.mem_cons_self)
    have hat := a1.1 r k hlive
    simp only [lp_I] at hI
    rcases hl : lp_lay r with _ | ⟨ci, fs⟩ | len | ⟨len, r', ix⟩ <;> rw [hl] at hI <;> try exact hI.elim
    have hcell : lp_cell cI cD ad σ r k = .inl (cI, len k, .inl (σ r k)) := by simp [lp_cell, hl]
    rw [hcell] at hat
    exact va_iald hx hb hWd.1 (lp_one hat) 0 0 rfl rfl hI.1 hd (hnx _ _ _ _ _ _ _ _ _ hI.2 A (okc trivial hok2))
  case iastore =>
    obtain rfl := Nat.eq_of_beq_eq_true hlen
    rcases st with _ | ⟨y | y, _ | ⟨i | i, _ | ⟨x | _ | ⟨r, k⟩, st⟩⟩⟩ <;> try exact (hI : False).elim
    have hok2 : ∀ v ∈ st, lp_ok σ v := fun v hv => hok v (List.mem_cons_of_mem _ (List.mem_cons_of_mem _ (List.mem_cons_of_mem _ hv)))
    have hlive : lp_live σ r k := hok _ (List.mem_cons_of_mem _ (List.mem_cons_of_mem _ List.mem_cons_self))
    have hat := a1.1 r k hlive
    simp only [lp_I] at hI
    rcases hl : lp_lay r with _ | ⟨ci, fs⟩ | len | ⟨len, r', ix⟩ <;> rw [hl] at hI <;> try exact hI.elim
    have hcell : lp_cell cI cD ad σ r k = .inl (cI, len k, .inl (σ r k)) := by simp [lp_cell, hl]
    rw [hcell] at hat
    have h9 := lp_lay9 hl
    refine lp_iast hx hb (hWd.1.2 0 _ rfl).1 hat hI.1 hd (fun H1 j e1 z ho ht => ?_)
    have hc2 : lp_cell cI cD ad (lp_w3 σ r k i.toNatClampNeg y) r k = .inl (cI, len k, .inl (upd (σ r k) i.toNatClampNeg y)) := by simp [lp_cell, hl, lp_w3_same]
    exact hnx _ _ _ _ _ _ _ _ _ hI.2 (lp_At_put A h9 hlive (by rw [hc2]; exact e1) z ho ht) (fun v hv => (lp_ok_w3 h9 v).mpr (hok2 v hv))
  case aaload =>
    obtain rfl := Nat.eq_of_beq_eq_true hlen
    rcases st with _ | ⟨i | i, _ | ⟨x | _ | ⟨r, k⟩, st⟩⟩ <;> try exact (hI : False).elim
    have hok2 : ∀ v ∈ st, lp_ok σ v := fun v hv => hok v (List.mem_cons_of_mem _ (List.mem_cons_of_mem _ hv))
    have hlive : lp_live σ r k := hok _ (List.mem_cons_of_mem _ List.mem_cons_self)
    have hat := a1.1 r k hlive
    simp only [lp_I] at hI
    rcases hl : lp_lay r with _ | ⟨ci, fs⟩ | len | ⟨len, r', ix⟩ <;> rw [hl] at hI <;> try exact hI.elim
    have hcell : lp_cell cI cD ad σ r k = .inl (cD, len k, .inr (.inr (.inr (.inr (lp_rf ad σ r k r' ix))))) := by simp [lp_cell, hl]
    rw [hcell] at hat
    obtain ⟨hin, hz, hnz⟩ := hI
    have hlt : i.toNatClampNeg < len k := Nat.not_le.mp fun q => hin (Or.inr q)
    refine va_aldq hx hb hWd.1 (lp_one hat) 0 1 rfl rfl hin hd ?_
    by_cases q : σ r k i.toNatClampNeg = 0
    · have e : va_rf (lp_rf ad σ r k r' ix i.toNatClampNeg) = lp_cv ad (.inr none) := by simp [lp_rf, q, va_rf, lp_cv]
      rw [e]
      exact hnx _ _ _ _ _ _ _ _ _ (hz q) A (okc trivial hok2)
    · have e : va_rf (lp_rf ad σ r k r' ix i.toNatClampNeg) = lp_cv ad (.inr (some (r', ix i.toNatClampNeg))) := by simp [lp_rf, q, va_rf, lp_cv]
      rw [e]
      exact hnx _ _ _ _ _ _ _ _ _ (hnz q) A (okc (lp_live_ref hlive hl hlt q) hok2)
  case getfield i =>
    obtain rfl := Nat.eq_of_beq_eq_true hlen
    rcases st with _ | ⟨x | _ | ⟨r, k⟩, st⟩ <;> try exact (hI : False).elim
    have hok2 : ∀ v ∈ st, lp_ok σ v := fun v hv => hok v (List.mem_cons_of_mem _ hv)
    have hlive : lp_live σ r k := hok _ List.mem_cons_self
    have hat := a1.1 r k hlive
    simp only [lp_I] at hI
    rcases hf : lp_fl fl i with _ | ⟨ci, j⟩ <;> rw [hf] at hI <;> try exact hI.elim
    rcases hl : lp_lay r with _ | ⟨cj, fs⟩ | len | ⟨len, r', ix⟩ <;> rw [hl] at hI <;> try exact hI.elim
    replace hI : (bif Nat.beq ci cj then (match lp_nth fs j with
        | some none => nx L (.inl (σ r k j) :: st) σ
        | some (some (r', g)) => nx L (.inr (some (r', g k)) :: st) σ
        | none => False) else False) := hI
    cases hcj : Nat.beq ci cj with
    | false => rw [hcj] at hI; exact hI.elim
    | true =>
    rw [hcj, cond_true] at hI
    obtain rfl := Nat.eq_of_beq_eq_true hcj
    have hcell : lp_cell cI cD ad σ r k = .inr (ci, lp_fv ad σ r k 0 fs) := by simp [lp_cell, hl]
    rw [hcell] at hat
    have hb1 := List.all_eq_true.mp hfl _ (lp_fl_mem hf)
    unfold lp_flb at hb1
    rcases hv : vwCl[ci]? with _ | ⟨C, TT, N⟩ <;> simp only [hv] at hb1
    · cases hb1
    simp only [Bool.and_eq_true, Bool.or_eq_true, decide_eq_true_eq] at hb1
    obtain ⟨hjN, hlnk⟩ := hb1
    obtain ⟨hu, -, -⟩ := lp_cls hv
    have G : ∀ v : lpV, lp_ok σ v → (lp_fv ad σ r k 0 fs)[j]? = some (lp_cv ad v) → nx L (v :: st) σ → W p l e R s m args below meth c H locs cells slots (MQ below (lp_Qc D cI cD ad0 σ0 sz Q0) args s R.cells R.slots (lp_Dom ad0 σ0 sz)) (F0 m pc ls (.ref (ad r k) :: st.map (lp_cv ad))) := by
      intro v hvok hfv hn
      have w := hnx _ _ _ _ _ _ _ _ _ hn A (okc hvok hok2)
      rcases hlnk with q | q
      · exact va_get hx hb T hu hown hWd.1 (lp_one hat) 0 rfl hv j hjN (T _ q) (fun _ h9 => h9) hfv hd w
      · obtain ⟨w0, hw0, hw1⟩ := List.any_eq_true.mp q
        cases w0 <;> simp only [Bool.false_eq_true] at hw1
        rename_i e1 e2 e3 e4 e5 e6
        simp only [Bool.and_eq_true, decide_eq_true_eq] at hw1
        obtain ⟨⟨⟨⟨rfl, rfl⟩, rfl⟩, rfl⟩, rfl⟩ := hw1
        exact va_getN hx hb T hu hown hWd.1 (lp_one hat) 0 rfl hv j hjN (va_Nw.use rfl (hWd.2 _ hw0)) (fun _ h9 => h9) hfv hd w
    rcases hn : lp_nth fs j with _ | _ | ⟨r', g⟩ <;> rw [hn] at hI <;> try exact hI.elim
    · exact G (.inl (σ r k j)) trivial (by have := lp_fv_int (ad := ad) (σ := σ) (r := r) (k := k) (j := 0) hn; rw [Nat.zero_add] at this; exact this) hI
    · exact G (.inr (some (r', g k))) (lp_live_field hlive hl hn) (lp_fv_ref hn) hI
  case putfield i =>
    obtain rfl := Nat.eq_of_beq_eq_true hlen
    rcases st with _ | ⟨y | y, _ | ⟨x | _ | ⟨r, k⟩, st⟩⟩ <;> try exact (hI : False).elim
    have hok2 : ∀ v ∈ st, lp_ok σ v := fun v hv => hok v (List.mem_cons_of_mem _ (List.mem_cons_of_mem _ hv))
    have hlive : lp_live σ r k := hok _ (List.mem_cons_of_mem _ List.mem_cons_self)
    have hat := a1.1 r k hlive
    simp only [lp_I] at hI
    rcases hf : lp_fl pf i with _ | ⟨ci, j⟩ <;> rw [hf] at hI <;> try exact hI.elim
    rcases hl : lp_lay r with _ | ⟨cj, fs⟩ | len | ⟨len, r', ix⟩ <;> rw [hl] at hI <;> try exact hI.elim
    replace hI : (bif Nat.beq ci cj then (match lp_nth fs j with
        | some none => nx L st (lp_w3 σ r k j y)
        | _ => False) else False) := hI
    cases hcj : Nat.beq ci cj with
    | false => rw [hcj] at hI; exact hI.elim
    | true =>
    rw [hcj, cond_true] at hI
    obtain rfl := Nat.eq_of_beq_eq_true hcj
    rcases hn : lp_nth fs j with _ | _ | ⟨r', g⟩ <;> rw [hn] at hI <;> try exact hI.elim
    have hcell : lp_cell cI cD ad σ r k = .inr (ci, lp_fv ad σ r k 0 fs) := by simp [lp_cell, hl]
    rw [hcell] at hat
    have hb1 := List.all_eq_true.mp hpf _ (lp_fl_mem hf)
    unfold lp_pfb at hb1
    rcases hv : vwCl[ci]? with _ | ⟨C, TT, N⟩ <;> simp only [hv] at hb1
    · cases hb1
    simp only [Bool.and_eq_true, decide_eq_true_eq] at hb1
    obtain ⟨⟨⟨hjN, hlnk⟩, hfin⟩, hpd⟩ := hb1
    obtain ⟨hu, ⟨ty0, hty⟩, hnm⟩ := lp_cls hv
    have h9 := lp_lay9o hl
    have hjl : j < (lp_fv ad σ r k 0 fs).length := by
      rw [lp_fv_len]
      rw [lp_nth_eq] at hn
      exact (List.getElem?_eq_some_iff.mp hn).1
    refine lp_put hx hb T hu ty0 hty hnm hown hWd.1 hat hv j hjN (T _ hlnk) (fun _ h9 => h9) hfin hpd (vp_nar_int y) rfl hjl hd (fun H1 j' e1 z ho ht => ?_)
    have hc2 : lp_cell cI cD ad (lp_w3 σ r k j y) r k = .inr (ci, (lp_fv ad σ r k 0 fs).set j (.int y)) := by
      have := lp_fv_w3 (ad := ad) (σ := σ) (r := r) (k := k) (x := y) (j := 0) hn
      rw [Nat.zero_add] at this
      simp [lp_cell, hl, this]
    exact hnx _ _ _ _ _ _ _ _ _ hI (lp_At_put A h9 hlive (by rw [hc2]; exact e1) z ho ht) (fun v hv => (lp_ok_w3 h9 v).mpr (hok2 v hv))
  case invokevirtual i =>
    obtain rfl := Nat.eq_of_beq_eq_true hlen
    simp only [lp_I] at hI
    rcases hc : lp_cs cs i with _ | ⟨_ | ci, n, spec⟩ <;> rw [hc] at hI <;> try exact hI.elim
    replace hI : (match lp_pop n st [] with
      | some (as, .inr (some (r, k)) :: st) => (match lp_lay r with
        | some (.inl (cj, _)) => bif Nat.beq ci cj && Nat.ble (lp_len st) 8 then spec (.inr (some (r, k)) :: as) σ (fun ro σ => match ro with
          | some x => nx L (.inl x :: st) σ
          | none => nx L st σ) else False
        | _ => False)
      | _ => False) := hI
    rcases hp : lp_pop n st [] with _ | ⟨as, _ | ⟨x | _ | ⟨r, k⟩, st'⟩⟩ <;> rw [hp] at hI <;> try exact hI.elim
    replace hI : (match lp_lay r with
        | some (.inl (cj, _)) => bif Nat.beq ci cj && Nat.ble (lp_len st') 8 then spec (.inr (some (r, k)) :: as) σ (fun ro σ => match ro with
          | some x => nx L (.inl x :: st') σ
          | none => nx L st' σ) else False
        | _ => False) := hI
    obtain ⟨hp1, hp2⟩ := lp_pop_eq hp
    simp at hp1 hp2
    subst hp1
    rcases hl : lp_lay r with _ | ⟨cj, fs⟩ | len | ⟨len, r', ix⟩ <;> rw [hl] at hI <;> try exact hI.elim
    replace hI : (bif Nat.beq ci cj && Nat.ble (lp_len st') 8 then spec (.inr (some (r, k)) :: as) σ (fun ro σ => match ro with
          | some x => nx L (.inl x :: st') σ
          | none => nx L st' σ) else False) := hI
    cases hcj : (Nat.beq ci cj && Nat.ble (lp_len st') 8) with
    | false => rw [hcj] at hI; exact hI.elim
    | true =>
    rw [hcj, cond_true] at hI
    simp only [Bool.and_eq_true] at hcj
    obtain rfl := Nat.eq_of_beq_eq_true hcj.1
    have h8 : st'.length ≤ 8 := by rw [← lp_len_eq]; exact Nat.le_of_ble_eq_true hcj.2
    have key := lp_callS (ad0 := ad0) (σ0 := σ0) (Q := MQ below (lp_Qc D cI cD ad0 σ0 sz Q0) args s R.cells R.slots (lp_Dom ad0 σ0 sz)) (below := below) (meth := meth) (e := e) hx hb hml hown hts hWd hR hsz0 (hcs _ (lp_cs_mem hc)) A (as := .inr (some (r, k)) :: as) (st := st') (by simp [hp2]) (fun v hv => by
        rcases List.mem_cons.mp hv with rfl | hv
        · exact hok _ (by simp)
        · exact hok _ (by simp [hv])) (fun v hv => hok v (by simp [hv])) h8 rfl hd (fun ci' hci => by cases hci; exact ⟨r, k, fs, rfl, hl⟩) hI
      (fun ro σ' ad' H' locs' cells' slots' hq hA hok' => by
        cases ro with
        | none => exact hnx _ _ _ _ _ _ _ _ _ hq hA hok'
        | some v => exact hnx _ _ _ _ _ _ _ _ _ hq hA (fun w hw => by
            rcases List.mem_cons.mp hw with rfl | hw
            · exact trivial
            · exact hok' w hw))
    simpa using key
  case invokestatic i =>
    obtain rfl := Nat.eq_of_beq_eq_true hlen
    simp only [lp_I] at hI
    rcases hc : lp_cs cs i with _ | ⟨_ | ci, n, spec⟩ <;> rw [hc] at hI <;> try exact hI.elim
    replace hI : (match lp_pop n st [] with
      | some (as, st) => bif Nat.ble (lp_len st) 8 then spec as σ (fun ro σ => match ro with
          | some x => nx L (.inl x :: st) σ
          | none => nx L st σ) else False
      | _ => False) := hI
    rcases hp : lp_pop n st [] with _ | ⟨as, st'⟩ <;> rw [hp] at hI <;> try exact hI.elim
    replace hI : (bif Nat.ble (lp_len st') 8 then spec as σ (fun ro σ => match ro with
          | some x => nx L (.inl x :: st') σ
          | none => nx L st' σ) else False) := hI
    obtain ⟨hp1, hp2⟩ := lp_pop_eq hp
    simp at hp1 hp2
    subst hp1
    cases hcj : (Nat.ble (lp_len st') 8) with
    | false => rw [hcj] at hI; exact hI.elim
    | true =>
    rw [hcj, cond_true] at hI
    have h8 : st'.length ≤ 8 := by rw [← lp_len_eq]; exact Nat.le_of_ble_eq_true hcj
    have key := lp_callS (ad0 := ad0) (σ0 := σ0) (Q := MQ below (lp_Qc D cI cD ad0 σ0 sz Q0) args s R.cells R.slots (lp_Dom ad0 σ0 sz)) (below := below) (meth := meth) (e := e) hx hb hml hown hts hWd hR hsz0 (hcs _ (lp_cs_mem hc)) A (as := as) (st := st') (by simp [hp2]) (fun v hv => hok _ (by simp [hv])) (fun v hv => hok v (by simp [hv])) h8 rfl hd (fun ci' hci => by cases hci) hI
      (fun ro σ' ad' H' locs' cells' slots' hq hA hok' => by
        cases ro with
        | none => exact hnx _ _ _ _ _ _ _ _ _ hq hA hok'
        | some v => exact hnx _ _ _ _ _ _ _ _ _ hq hA (fun w hw => by
            rcases List.mem_cons.mp hw with rfl | hw
            · exact trivial
            · exact hok' w hw))
    simpa using key
  case ireturn =>
    obtain rfl := Nat.eq_of_beq_eq_true hlen
    rcases st with _ | ⟨x | x, _ | ⟨z, st⟩⟩ <;> try exact (hI : False).elim
    replace hI : (bif bl then (x = 0 ∨ x = 1) ∧ Q0 (some x) σ else Q0 (some x) σ) := hI
    have hQ : Q0 (some x) σ := by
      cases bl with
      | true => exact hI.2
      | false => exact hI
    have fin : ∀ t : State, t.heap = H → s.WarmedH t.vm → lp_Qc D cI cD ad0 σ0 sz Q0 args s (.returned (some (.int x))) t := fun t ht hW =>
      ⟨some x, σ, ad, rfl, hQ, by rw [ht]; exact a1, lp_Wd_move hW hWd, a2, a3, by rw [ht]; omega, a4.F ht⟩
    refine W.widen (k := R.cells) (n := R.slots) (by omega) (by omega) ?_
    rcases hret with q | q | ⟨q, q2⟩
    · rw [q] at hrt
      cases hrt
    · exact W.iret hx hb (hr.trans q) fin a4.2.2 hd hlocks
    · rw [q2] at hI
      exact W.zret hx hb (hr.trans q) (lp_narrow_b hI.1) fin a4.2.2 hd hlocks
  case return_ =>
    obtain rfl := Nat.eq_of_beq_eq_true hlen
    rcases st with _ | ⟨x, st⟩ <;> try exact (hI : False).elim
    have fin : ∀ t : State, t.heap = H → s.WarmedH t.vm → lp_Qc D cI cD ad0 σ0 sz Q0 args s (.returned none) t := fun t ht hW =>
      ⟨none, σ, ad, rfl, hI, by rw [ht]; exact a1, lp_Wd_move hW hWd, a2, a3, by rw [ht]; omega, a4.F ht⟩
    refine W.widen (k := R.cells) (n := R.slots) (by omega) (by omega) ?_
    have hn : ret0 = none := by
      cases ret0 with
      | none => rfl
      | some q => cases hrt
    exact W.vret hx hb (hr.trans hn) fin a4.2.2 hd hlocks
  all_goals exact (hI : False).elim
end LPI2
end
section
/-! ===== a method's contract out of its walk ===== -/
theorem lp_to_suf (t : Nat) : ∀ k : lpC, lp_to t k <:+ k
  | [] => List.suffix_refl _
  | x :: k => by
    unfold lp_to
    cases Nat.beq x.1 t with
    | true => exact List.suffix_refl _
    | false => exact (lp_to_suf t k).trans (List.suffix_cons x k)
theorem lp_to_hd {t : Nat} {x : Nat × Instr × Nat} {k' : lpC} : ∀ {k : lpC}, lp_to t k = x :: k' → x.1 = t
  | [], h => by simp [lp_to] at h
  | a :: k, h => by
    unfold lp_to at h
    cases hb : Nat.beq a.1 t with
    | true =>
      rw [hb] at h
      have := Nat.eq_of_beq_eq_true hb
      cases h
      exact this
    | false =>
      rw [hb] at h
      exact lp_to_hd h
theorem lp_seq_suf {k' : lpC} : ∀ {k : lpC}, lp_seq k = true → k' <:+ k → lp_seq k' = true
  | [], _, h => by
    rw [List.suffix_nil.mp h]; rfl
  | [x], hs, h => by
    rcases List.suffix_cons_iff.mp h with rfl | h
    · exact hs
    · rw [List.suffix_nil.mp h]; rfl
  | x :: y :: k, hs, h => by
    rcases List.suffix_cons_iff.mp h with rfl | h
    · exact hs
    · simp only [lp_seq, Bool.and_eq_true] at hs
      exact lp_seq_suf hs.2 h
section LPM
variable {p : Program} {l : Launch} {e : Env} {R : Room} {s : State} {m : MethodId} {args : Array Value} {below : List Frame} {meth : Method} {c : Code}
variable {D : va_G} {cI cD : ClassId} {cc : ByteArray} {nL h : Nat} {own : String} {y0 : MethodName} {ret0 : Option FieldType} {ad0 : Nat → Nat → Nat} {σ0 : lpM} {sz : Nat} {Q0 : Option Int32 → lpM → Prop}
variable {fl pf : List (Nat × Nat × Nat)} {kc : List (Nat × Int32)} {cs : List (Nat × Option Nat × Nat × lpS)} {bl : Bool} {code : lpC} {labs : List Nat}
set_option maxHeartbeats 4000000 in
theorem lp_sound (hx : p.tables.exec = Jvm.exec) (hb : c.code = cc) (hml : c.maxLocals = nL) (hown : s.vm.findClass own = some m.cls) (hts : ∀ w ∈ (Cond.code y0 cc nL ret0 :: lp_tbl), w.before args s = true) (hWd : lp_Wd D cI cD s)
    (hR : R.frames = h ∧ R.locals = 36 * h) (hRc : R.cells = 3 * lp_dead σ0 ∧ R.slots = 124 * lp_dead σ0) (hsz0 : s.heap.size = sz) (hr : meth.sig.returnType = ret0) (hlocks : meth.locks = false) (hret : ret0 = none ∨ ret0 = some .int ∨ (ret0 = some .boolean ∧ bl = true))
    (hfl : fl.all (lp_flb own) = true) (hpf : pf.all (lp_pfb own) = true) (hkc : kc.all (lp_kcb own) = true) (hcs : ∀ x ∈ cs, lp_CallOK l D cI cD own h x) (hcode : lp_okc code cc ret0 = true) {lab : Nat → lpL → lpM → Prop}
    (hlab : ∀ (pc : Nat) (L' : lpL) (σ' : lpM) (ad' : Nat → Nat → Nat) (H' : Heap) (locs' : List Loc) (cells' slots' : Nat) (ls' : Array Slot), lab pc L' σ' → lp_At D cI cD R s ad0 σ0 sz nL ad' σ' H' locs' cells' slots' ls' L' → W p l e R s m args below meth c H' locs' cells' slots' (MQ below (lp_Qc D cI cD ad0 σ0 sz Q0) args s R.cells R.slots (lp_Dom ad0 σ0 sz)) (F0 m pc ls' [])) :
    ∀ (n : Nat) (k : lpC) (L : lpL) (st : List lpV) (σ : lpM) (ad : Nat → Nat → Nat) (H : Heap) (locs : List Loc) (cells slots : Nat) (ls : Array Slot) (x : Nat × Instr × Nat), k.head? = some x → k <:+ code → lp_wp fl pf kc cs bl code labs lab Q0 n k L st σ → lp_At D cI cD R s ad0 σ0 sz nL ad σ H locs cells slots ls L → (∀ v ∈ st, lp_ok σ v) →
      W p l e R s m args below meth c H locs cells slots (MQ below (lp_Qc D cI cD ad0 σ0 sz Q0) args s R.cells R.slots (lp_Dom ad0 σ0 sz)) (F0 m x.1 ls (st.map (lp_cv ad))) := by
  have hcode' := hcode
  simp only [lp_okc, Bool.and_eq_true] at hcode'
  obtain ⟨⟨hdec, hall⟩, hseq⟩ := hcode'
  intro n
  induction n with
  | zero => intro k L st σ ad H locs cells slots ls x _ _ h; exact h.elim
  | succ n ih =>
    intro k L st σ ad H locs cells slots ls x hhd hsuf hw A hok
    rcases k with _ | ⟨x', k⟩
    · cases hhd
    cases hhd
    have hmem : x ∈ code := hsuf.subset List.mem_cons_self
    have hd : decode cc x.1 = .ok (x.2.1, x.2.2) := of_decide_eq_true (List.all_eq_true.mp hdec x hmem)
    have h3 := List.all_eq_true.mp hall x hmem
    simp only [Bool.and_eq_true] at h3
    have go : ∀ (k : lpC) (t : Nat) (L' : lpL) (st' : List lpV) (σ' : lpM) (ad' : Nat → Nat → Nat) (H' : Heap) (locs' : List Loc) (cells' slots' : Nat) (ls' : Array Slot), k <:+ code → (∀ y, k.head? = some y → y.1 = t) → lp_go labs lab (lp_wp fl pf kc cs bl code labs lab Q0 n) k L' st' σ' → lp_At D cI cD R s ad0 σ0 sz nL ad' σ' H' locs' cells' slots' ls' L' → (∀ v ∈ st', lp_ok σ' v) →
        W p l e R s m args below meth c H' locs' cells' slots' (MQ below (lp_Qc D cI cD ad0 σ0 sz Q0) args s R.cells R.slots (lp_Dom ad0 σ0 sz)) (F0 m t ls' (st'.map (lp_cv ad'))) := by
      intro k t L' st' σ' ad' H' locs' cells' slots' ls' hs ht hg A' hok'
      rcases k with _ | ⟨y, k⟩
      · exact hg.elim
      obtain rfl := ht y rfl
      unfold lp_go at hg
      dsimp only at hg
      cases hm : lp_mem y.1 labs with
      | true =>
        rw [hm, cond_true] at hg
        rcases st' with _ | ⟨v, st'⟩
        · exact hlab _ _ _ _ _ _ _ _ _ hg A'
        · exact hg.elim
      | false =>
        rw [hm, cond_false] at hg
        exact ih (y :: k) L' st' σ' ad' H' locs' cells' slots' ls' y rfl hs hg A' hok'
    refine lp_instr hx hb hml hown hts hWd hR hRc hsz0 hr hlocks hret hfl hpf hkc hcs A hok hd h3.1.1 h3.1.2 h3.2 hw (fun L' st' σ' ad' H' locs' cells' slots' ls' hn A' hok' => ?_) (fun o L' st' σ' ad' H' locs' cells' slots' ls' hj A' hok' => ?_)
    · refine go k _ L' st' σ' ad' H' locs' cells' slots' ls' ((List.suffix_cons x k).trans hsuf) (fun y hy => ?_) hn A' hok'
      rcases k with _ | ⟨y', k⟩
      · cases hy
      cases hy
      have := lp_seq_suf hseq hsuf
      simp only [lp_seq, Bool.and_eq_true] at this
      exact (Nat.eq_of_beq_eq_true this.1).symm
    · replace hj : (match (x.1 : Int) + o with
        | .ofNat t => lp_go labs lab (lp_wp fl pf kc cs bl code labs lab Q0 n) (lp_to t code) L' st' σ'
        | .negSucc _ => False) := hj
      rcases ho : (x.1 : Int) + o with t | t
      · rw [ho] at hj
        exact ⟨t, rfl, go (lp_to t code) t L' st' σ' ad' H' locs' cells' slots' ls' (lp_to_suf t code) (fun y hy => by
          cases hk : lp_to t code with
          | nil => rw [hk] at hy; cases hy
          | cons z k' =>
            rw [hk] at hy
            cases hy
            exact lp_to_hd hk) hj A' hok'⟩
      · rw [ho] at hj
        exact hj.elim
end LPM
/-- the locals at a method's entry -/
def lp_ent (as : List lpV) (nL : Nat) : lpL := as.map some ++ List.replicate (nL - as.length) none
theorem lp_kl_ent (ad : Nat → Nat → Nat) : ∀ (as : List lpV) (j n : Nat), ∀ q ∈ lp_kl ad j (as.map some ++ List.replicate n none), q ∈ lv_args j (as.map (lp_cv ad))
  | [], j, n, q, h => by
    exfalso
    induction n generalizing j with
    | zero => simp [lp_kl] at h
    | succ n ih => exact ih (j + 1) (by simpa [lp_kl, List.replicate_succ] using h)
  | a :: as, j, n, q, h => by
    rcases List.mem_cons.mp (show q ∈ (j, lp_cv ad a) :: lp_kl ad (j + 1) (as.map some ++ List.replicate n none) from h) with rfl | h
    · simp [lv_args]
    · have := lp_kl_ent ad as (j + 1) n q h
      simp [lv_args, lp_cat]
      exact Or.inr this
set_option maxHeartbeats 4000000 in
theorem lp_method {l : Launch} {D : va_G} {cI cD : ClassId} {y : MethodName} {bytes : ByteArray} {nL : Nat} {ret : Option FieldType} {h : Nat} {spec : lpS} {own : String} (fl pf : List (Nat × Nat × Nat)) (kc : List (Nat × Int32)) (cs : List (Nat × Option Nat × Nat × lpS)) (bl : Bool) (code : lpC) (labs : List Nat)
    (hy : plainName y.cls = true) (hown : y.cls = own) (hret : ret = none ∨ ret = some .int ∨ (ret = some .boolean ∧ bl = true)) (hfl : fl.all (lp_flb own) = true) (hpf : pf.all (lp_pfb own) = true) (hkc : kc.all (lp_kcb own) = true) (hcode : lp_okc code bytes ret = true) (hc0 : ∃ x k, code = x :: k ∧ x.1 = 0)
    (hcs : ∀ x ∈ cs, lp_CallOK l D cI cD own h x)
    (hE : ∀ (as : List lpV) (σ : lpM) (Q : Option Int32 → lpM → Prop), (∀ v ∈ as, lp_ok σ v) → spec as σ Q → as.length ≤ nL ∧ ∃ Lab : Nat → Nat → lpL → lpM → Prop, lp_wp fl pf kc cs bl code labs (fun pc L σ => ∃ m, Lab m pc L σ) Q 500 code (lp_ent as nL) [] σ ∧
      ∀ m pc L σ, Lab m pc L σ → lp_wp fl pf kc cs bl code labs (fun pc' L' σ' => ∃ m', m' < m ∧ Lab m' pc' L' σ') Q 500 (lp_to pc code) L [] σ) : lp_Ct l D cI cD y bytes nL ret h spec := by
  intro ad σ as Q sz hoka hspec
  obtain ⟨hlen, Lab, hw, hl⟩ := hE as σ Q hoka hspec
  refine Met.ofW (cc := bytes) (maxL := nL) (ret := ret) hy rfl ?_
  intro p e s m args below meth c s₁ B hml hv
  obtain ⟨rfl, hsz, hRep, hWd⟩ := hv
  have hx := B.exec
  have hb := B.bytes
  have hr := B.returns
  have hts := atoms_spec (ws := Cond.code y bytes nL ret :: lp_tbl) B.pre
  have hown' : s.vm.findClass own = some m.cls := by rw [← hown]; exact findClass_of_methodNamed B.named
  have hlocks := B.notSynchronized
  have hsl : (lg_sl (as.map (lp_cv ad))).length = as.length := by
    have : lg_sl (as.map (lp_cv ad)) = (as.map (lp_cv ad)).map Slot.val := by
      unfold lg_sl
      generalize hg : as.map (lp_cv ad) = vs
      have hcat : ∀ v ∈ vs, v.category = 1 := by
        intro v hv
        rw [← hg] at hv
        obtain ⟨w, -, rfl⟩ := List.mem_map.mp hv
        exact lp_cat ad w
      clear hg
      induction vs with
      | nil => rfl
      | cons v vs ih =>
        simp only [List.flatMap_cons, List.map_cons, hcat v List.mem_cons_self]
        rw [ih (fun w hw => hcat w (List.mem_cons_of_mem _ hw))]
        simp
    rw [this]
    simp
  have hlv := lv_entry (as.map (lp_cv ad)) (n := nL) (by rw [hsl]; exact hlen)
  rw [lg_entry_eq]
  generalize (lg_sl (as.map (lp_cv ad)) ++ List.replicate (nL - (lg_sl (as.map (lp_cv ad))).length) Slot.unset).toArray = ls at hlv ⊢
  have hLl : (lp_ent as nL).length = nL := by simp [lp_ent]; omega
  have A0 : lp_At D cI cD (headSpec (Cond.code y bytes nL ret :: lp_tbl) { frames := h, cells := 3 * lp_dead σ, slots := 124 * lp_dead σ, locals := 36 * h }).room s ad σ sz nL ad σ s.heap [] 0 0 ls (lp_ent as nL) := by
    refine ⟨hRep, fun r k h => ⟨h, rfl⟩, fun r k h => Or.inl ⟨r, k, h, rfl⟩, va_S.rf, ⟨⟨by rw [hLl]; exact hlv.1, hlv.2.1, fun q hq => hlv.2.2 q (lp_kl_ent ad as 0 _ q hq)⟩, fun v hv => ?_, hLl⟩, ?_, ?_⟩
    · rcases List.mem_append.mp hv with q | q
      · obtain ⟨w, hw, e⟩ := List.mem_map.mp q
        cases e
        exact hoka _ hw
      · have := List.eq_of_mem_replicate q
        cases this
    · exact ⟨Nat.le_of_eq (Nat.zero_add _), Nat.le_of_eq (Nat.zero_add _)⟩
    · exact ⟨Nat.le_refl _, Nat.le_refl _⟩
  have loop : ∀ (n : Nat) (mm : Nat), mm < n → ∀ (pc : Nat) (L' : lpL) (σ' : lpM) (ad' : Nat → Nat → Nat) (H' : Heap) (locs' : List Loc) (cells' slots' : Nat) (ls' : Array Slot), Lab mm pc L' σ' → lp_At D cI cD (headSpec (Cond.code y bytes nL ret :: lp_tbl) { frames := h, cells := 3 * lp_dead σ, slots := 124 * lp_dead σ, locals := 36 * h }).room s ad σ sz nL ad' σ' H' locs' cells' slots' ls' L' →
      W p l e (headSpec (Cond.code y bytes nL ret :: lp_tbl) { frames := h, cells := 3 * lp_dead σ, slots := 124 * lp_dead σ, locals := 36 * h }).room s m (as.map (lp_cv ad)).toArray below meth c H' locs' cells' slots' (MQ below (lp_Qc D cI cD ad σ sz Q) (as.map (lp_cv ad)).toArray s (3 * lp_dead σ) (124 * lp_dead σ) (lp_Dom ad σ sz)) (F0 m pc ls' []) := by
    intro n
    induction n with
    | zero => intro mm h; exact absurd h (Nat.not_lt_zero _)
    | succ n ih =>
      intro mm hmm pc L' σ' ad' H' locs' cells' slots' ls' hLab A'
      have hw' := hl mm pc L' σ' hLab
      cases hk : lp_to pc code with
      | nil => rw [hk] at hw'; exact hw'.elim
      | cons x k =>
        have hpc := lp_to_hd hk
        rw [← hpc]
        exact lp_sound (own := own) (y0 := y) (Q0 := Q) hx hb hml hown' hts hWd ⟨rfl, rfl⟩ ⟨rfl, rfl⟩ hsz hr hlocks hret hfl hpf hkc hcs hcode (lab := fun pc' L' σ' => ∃ m', m' < mm ∧ Lab m' pc' L' σ')
          (fun pc L' σ' ad' H' locs' cells' slots' ls' hlb A' => by
            obtain ⟨m', hm', hL'⟩ := hlb
            exact ih m' (by omega) pc L' σ' ad' H' locs' cells' slots' ls' hL' A') 500 (x :: k) L' [] σ' ad' H' locs' cells' slots' ls' x rfl (by rw [← hk]; exact lp_to_suf pc code) (by rw [← hk]; exact hw') A' (fun v hv => by cases hv)
  obtain ⟨x, k, hk, hx0⟩ := hc0
  have := lp_sound (own := own) (y0 := y) (Q0 := Q) hx hb hml hown' hts hWd ⟨rfl, rfl⟩ ⟨rfl, rfl⟩ hsz hr hlocks hret hfl hpf hkc hcs hcode (lab := fun pc' L' σ' => ∃ m', Lab m' pc' L' σ')
    (fun pc L' σ' ad' H' locs' cells' slots' ls' hlb A' => by
      obtain ⟨m', hL'⟩ := hlb
      exact loop (m' + 1) m' (Nat.lt_succ_self _) pc L' σ' ad' H' locs' cells' slots' ls' hL' A') 500 code (lp_ent as nL) [] σ ad s.heap [] 0 0 ls x (by rw [hk]; rfl) (List.suffix_refl _) hw A0 (fun v hv => by cases hv)
  rw [hx0] at this
  exact this
end
